set_option maxHeartbeats 4000000 in
set_option maxRecDepth 100000 in
theorem B_X12_isSame_392 (G : eG) (ca sl : Nat) (M : eM) (H : yH) (F : Bool → eM → yH → Prop) (a0 : Nat) (x4 : Int32)
    (h : Yx (yX "isSame") (yZ G 10 700 (yFZ F)) G (eR (10, 10, 700)) kX12_isSame 306 [(0, .ref a0), (1, .ref (G.1 0)), (4, .int x4)] [] M H ca sl) :
    Yx (yX "isSame") (yZ G 10 700 (yFZ F)) G (eR (10, 10, 700)) kX12_isSame 392 [(0, .ref a0), (1, .ref (G.1 0)), (4, .int x4)] [] M H ca sl := by
  refine y_goto (t := 306) dX12_isSame_392 (by decide) ?_
  exact h
set_option maxHeartbeats 4000000 in
set_option maxRecDepth 100000 in
theorem B_X12_isSame_335 (G : eG) (ca sl : Nat) (M : eM) (H : yH) (F : Bool → eM → yH → Prop) (a0 : Nat) (x4 : Int32) (x5 : Int32)
    (h : (ca + 0 ≤ 10 ∧ sl + 0 ≤ 700) ∧ Cal G 0 68 (3, 0, 0) kX10_isPlaced [.ref (G.1 0), .int x4] M (eFZ (fun (r_1 : Bool) (M_1 : eM) => ((¬ (eZi r_1) = x5) → (ca ≤ 10 ∧ sl ≤ 700) ∧ F false M_1 H) ∧ (((eZi r_1) = x5) → ((x5 = (0 : Int32)) → Yx (yX "isSame") (yZ G 10 700 (yFZ F)) G (eR (10, 10, 700)) kX12_isSame 392 [(0, .ref a0), (1, .ref (G.1 0)), (4, .int (x4 + 1))] [] M_1 H ca sl) ∧ ((¬ x5 = (0 : Int32)) → (ca + 0 ≤ 10 ∧ sl + 0 ≤ 700) ∧ Cal G 0 68 (4, 0, 0) kX10_cellOf [.ref (G.1 0), .int x4] M_1 (eFI (fun (r_2 : Int32) (M_2 : eM) => ∃ (b_3 : Nat), yG H a0 10 2 (.ref b_3) ∧ (∃ (b_4 : Nat), yER G 5 H b_3 x4 b_4 ∧ (∃ (x_5 : Int32), yEI G H b_4 3 x_5 ∧ (((¬ r_2 = x_5) → (ca ≤ 10 ∧ sl ≤ 700) ∧ F false M_2 H) ∧ ((r_2 = x_5) → (ca + 0 ≤ 10 ∧ sl + 0 ≤ 700) ∧ Cal G 0 68 (4, 0, 0) kX10_turnOf [.ref (G.1 0), .int x4] M_2 (eFI (fun (r_6 : Int32) (M_6 : eM) => ∃ (b_7 : Nat), yG H a0 10 2 (.ref b_7) ∧ (∃ (b_8 : Nat), yER G 5 H b_7 x4 b_8 ∧ (∃ (x_9 : Int32), yEI G H b_8 4 x_9 ∧ (((r_6 = x_9) → Yx (yX "isSame") (yZ G 10 700 (yFZ F)) G (eR (10, 10, 700)) kX12_isSame 392 [(0, .ref a0), (1, .ref (G.1 0)), (4, .int (x4 + 1))] [] M_6 H ca sl) ∧ ((¬ r_6 = x_9) → (ca ≤ 10 ∧ sl ≤ 700) ∧ F false M_6 H))))))))))))))))) :
    Yx (yX "isSame") (yZ G 10 700 (yFZ F)) G (eR (10, 10, 700)) kX12_isSame 335 [(0, .ref a0), (1, .ref (G.1 0)), (4, .int x4), (5, .int x5)] [] M H ca sl := by
  refine y_aload_n 1 dX12_isSame_335 rfl rfl ?_
  refine y_iload 2 dX12_isSame_336 rfl ?_
  have hb := h.1
  replace h := h.2
  refine y_callM yXn (b' := (3, 0, 0)) (K' := kX10_isPlaced) (As := [.int x4]) (S := []) dX12_isSame_338 mX10_isPlaced lMX12_121 rfl rfl ⟨(by decide), hb⟩ (Nat.le_of_ble_eq_true rfl) (yCal.cls h) (fun v_ M_ H_ q_ => ?_) rfl
  obtain ⟨⟨r_1, rfl, h⟩, rfl⟩ := q_
  revert h
  generalize M_ = M_1
  intro h
  refine y_iload 3 dX12_isSame_341 rfl ?_
  refine y_icmp_ne (t := 387) dX12_isSame_343 (by decide) (fun q => ?_) (fun q => ?_)
  · replace h := h.1 q
    refine y_iconst (v := 0) dX12_isSame_387 rfl ?_
    have hb := h.1
    replace h := h.2
    exact y_zret (v := eZi false) dX12_isSame_388 rfl (eZi_nw _) hb.1 hb.2 ⟨_, rfl, h⟩
  · replace h := h.2 q
    refine y_iload 3 dX12_isSame_346 rfl ?_
    refine y_if_eq (t := 389) dX12_isSame_348 (by decide) (fun q => ?_) (fun q => ?_)
    · replace h := h.1 q
      refine y_iinc (v := x4 + 1) (l' := [(4, .int (x4 + 1)), (0, .ref a0), (1, .ref (G.1 0)), (5, .int x5)]) 2 dX12_isSame_389 rfl rfl (by decide) rfl ?_
      exact Yx.sub (ks := [1, 2, 0]) rfl h
    · replace h := h.2 q
      refine y_aload_n 1 dX12_isSame_351 rfl rfl ?_
      refine y_iload 2 dX12_isSame_352 rfl ?_
      have hb := h.1
      replace h := h.2
      refine y_callM yXn (b' := (4, 0, 0)) (K' := kX10_cellOf) (As := [.int x4]) (S := []) dX12_isSame_354 mX10_cellOf lMX12_124 rfl rfl ⟨(by decide), hb⟩ (Nat.le_of_ble_eq_true rfl) (yCal.cls h) (fun v_ M_ H_ q_ => ?_) rfl
      obtain ⟨⟨r_2, rfl, h⟩, rfl⟩ := q_
      revert h
      generalize M_ = M_2
      intro h
      refine y_aload_n 0 dX12_isSame_357 rfl rfl ?_
      obtain ⟨b_3, ⟨fs_3, e1_3, e2_3⟩, h⟩ := h
      refine y_get (k := 2) dX12_isSame_358 clX12 lFX12_18 (by decide) e1_3 e2_3 ?_
      refine y_iload 2 dX12_isSame_361 rfl ?_
      obtain ⟨b_4, ⟨N_4, f_4, e1_4, e2_4, e3_4⟩, h⟩ := h
      refine y_aald (t := 5) (ty := .array .int) dX12_isSame_363 rfl rfl e1_4 e2_4 e3_4 ?_
      refine y_iconst (v := 3) dX12_isSame_364 rfl ?_
      obtain ⟨x_5, ⟨N_5, f_5, e1_5, e2_5, e3_5⟩, h⟩ := h
      refine y_ialdx dX12_isSame_365 e1_5 e2_5 e3_5 ?_
      refine y_icmp_ne (t := 387) dX12_isSame_366 (by decide) (fun q => ?_) (fun q => ?_)
      · replace h := h.1 q
        refine y_iconst (v := 0) dX12_isSame_387 rfl ?_
        have hb := h.1
        replace h := h.2
        exact y_zret (v := eZi false) dX12_isSame_388 rfl (eZi_nw _) hb.1 hb.2 ⟨_, rfl, h⟩
      · replace h := h.2 q
        refine y_aload_n 1 dX12_isSame_369 rfl rfl ?_
        refine y_iload 2 dX12_isSame_370 rfl ?_
        have hb := h.1
        replace h := h.2
        refine y_callM yXn (b' := (4, 0, 0)) (K' := kX10_turnOf) (As := [.int x4]) (S := []) dX12_isSame_372 mX10_turnOf lMX12_127 rfl rfl ⟨(by decide), hb⟩ (Nat.le_of_ble_eq_true rfl) (yCal.cls h) (fun v_ M_ H_ q_ => ?_) rfl
        obtain ⟨⟨r_6, rfl, h⟩, rfl⟩ := q_
        revert h
        generalize M_ = M_6
        intro h
        refine y_aload_n 0 dX12_isSame_375 rfl rfl ?_
        obtain ⟨b_7, ⟨fs_7, e1_7, e2_7⟩, h⟩ := h
        refine y_get (k := 2) dX12_isSame_376 clX12 lFX12_18 (by decide) e1_7 e2_7 ?_
        refine y_iload 2 dX12_isSame_379 rfl ?_
        obtain ⟨b_8, ⟨N_8, f_8, e1_8, e2_8, e3_8⟩, h⟩ := h
        refine y_aald (t := 5) (ty := .array .int) dX12_isSame_381 rfl rfl e1_8 e2_8 e3_8 ?_
        refine y_iconst (v := 4) dX12_isSame_382 rfl ?_
        obtain ⟨x_9, ⟨N_9, f_9, e1_9, e2_9, e3_9⟩, h⟩ := h
        refine y_ialdx dX12_isSame_383 e1_9 e2_9 e3_9 ?_
        refine y_icmp_eq (t := 389) dX12_isSame_384 (by decide) (fun q => ?_) (fun q => ?_)
        · replace h := h.1 q
          refine y_iinc (v := x4 + 1) (l' := [(4, .int (x4 + 1)), (0, .ref a0), (1, .ref (G.1 0)), (5, .int x5)]) 2 dX12_isSame_389 rfl rfl (by decide) rfl ?_
          exact Yx.sub (ks := [1, 2, 0]) rfl h
        · replace h := h.2 q
          refine y_iconst (v := 0) dX12_isSame_387 rfl ?_
          have hb := h.1
          replace h := h.2
          exact y_zret (v := eZi false) dX12_isSame_388 rfl (eZi_nw _) hb.1 hb.2 ⟨_, rfl, h⟩
set_option maxHeartbeats 4000000 in
set_option maxRecDepth 100000 in
theorem B_X12_isSame_306 (G : eG) (ca sl : Nat) (M : eM) (H : yH) (F : Bool → eM → yH → Prop) (a0 : Nat) (x4 : Int32)
    (h : ∃ (b_1 : Nat), yG H a0 10 2 (.ref b_1) ∧ (∃ (n_2 : Nat), yLn G 5 H b_1 n_2 ∧ ((((nI n_2) ≤ x4) → (ca ≤ 10 ∧ sl ≤ 700) ∧ F true M H) ∧ ((¬ (nI n_2) ≤ x4) → ∃ (b_3 : Nat), yG H a0 10 2 (.ref b_3) ∧ (∃ (b_4 : Nat), yER G 5 H b_3 x4 b_4 ∧ (∃ (x_5 : Int32), yEI G H b_4 3 x_5 ∧ (((x_5 < (0 : Int32)) → Yx (yX "isSame") (yZ G 10 700 (yFZ F)) G (eR (10, 10, 700)) kX12_isSame 335 [(0, .ref a0), (1, .ref (G.1 0)), (4, .int x4), (5, .int 0)] [] M H ca sl) ∧ ((¬ x_5 < (0 : Int32)) → Yx (yX "isSame") (yZ G 10 700 (yFZ F)) G (eR (10, 10, 700)) kX12_isSame 335 [(0, .ref a0), (1, .ref (G.1 0)), (4, .int x4), (5, .int 1)] [] M H ca sl)))))))) :
    Yx (yX "isSame") (yZ G 10 700 (yFZ F)) G (eR (10, 10, 700)) kX12_isSame 306 [(0, .ref a0), (1, .ref (G.1 0)), (4, .int x4)] [] M H ca sl := by
  refine y_iload 2 dX12_isSame_306 rfl ?_
  refine y_aload_n 0 dX12_isSame_308 rfl rfl ?_
  obtain ⟨b_1, ⟨fs_1, e1_1, e2_1⟩, h⟩ := h
  refine y_get (k := 2) dX12_isSame_309 clX12 lFX12_18 (by decide) e1_1 e2_1 ?_
  obtain ⟨n_2, ⟨v_2, e1_2, e2_2⟩, h⟩ := h
  refine y_alenx (t := 5) (ty := .array .int) dX12_isSame_312 rfl e1_2 e2_2 ?_
  refine y_icmp_ge (t := 395) dX12_isSame_313 (by decide) (fun q => ?_) (fun q => ?_)
  · replace h := h.1 q
    refine y_iconst (v := 1) dX12_isSame_395 rfl ?_
    have hb := h.1
    replace h := h.2
    exact y_zret (v := eZi true) dX12_isSame_396 rfl (eZi_nw _) hb.1 hb.2 ⟨_, rfl, h⟩
  · replace h := h.2 q
    refine y_aload_n 0 dX12_isSame_316 rfl rfl ?_
    obtain ⟨b_3, ⟨fs_3, e1_3, e2_3⟩, h⟩ := h
    refine y_get (k := 2) dX12_isSame_317 clX12 lFX12_18 (by decide) e1_3 e2_3 ?_
    refine y_iload 2 dX12_isSame_320 rfl ?_
    obtain ⟨b_4, ⟨N_4, f_4, e1_4, e2_4, e3_4⟩, h⟩ := h
    refine y_aald (t := 5) (ty := .array .int) dX12_isSame_322 rfl rfl e1_4 e2_4 e3_4 ?_
    refine y_iconst (v := 3) dX12_isSame_323 rfl ?_
    obtain ⟨x_5, ⟨N_5, f_5, e1_5, e2_5, e3_5⟩, h⟩ := h
    refine y_ialdx dX12_isSame_324 e1_5 e2_5 e3_5 ?_
    refine y_if_lt (t := 332) dX12_isSame_325 (by decide) (fun q => ?_) (fun q => ?_)
    · replace h := h.1 q
      refine y_iconst (v := 0) dX12_isSame_332 rfl ?_
      refine y_istore (i := 5) (l' := [(5, .int 0), (0, .ref a0), (1, .ref (G.1 0)), (4, .int x4)]) dX12_isSame_333 (by decide) rfl ?_
      exact Yx.sub (ks := [1, 2, 3, 0]) rfl h
    · replace h := h.2 q
      refine y_iconst (v := 1) dX12_isSame_328 rfl ?_
      refine y_goto (t := 333) dX12_isSame_329 (by decide) ?_
      refine y_istore (i := 5) (l' := [(5, .int 1), (0, .ref a0), (1, .ref (G.1 0)), (4, .int x4)]) dX12_isSame_333 (by decide) rfl ?_
      exact Yx.sub (ks := [1, 2, 3, 0]) rfl h
set_option maxHeartbeats 4000000 in
set_option maxRecDepth 100000 in
theorem B_X12_isSame_259 (G : eG) (ca sl : Nat) (M : eM) (H : yH) (F : Bool → eM → yH → Prop) (a0 : Nat) (a2 : Nat) (x4 : Int32) (a6 : Nat) (x7 : Int32)
    (h : (((6 : Int32) ≤ x7) → Yx (yX "isSame") (yZ G 10 700 (yFZ F)) G (eR (10, 10, 700)) kX12_isSame 138 [(0, .ref a0), (1, .ref (G.1 0)), (2, .ref a2), (4, .int (x4 + 1))] [] M H ca sl) ∧ ((¬ (6 : Int32) ≤ x7) → (ca + 0 ≤ 10 ∧ sl + 0 ≤ 700) ∧ Cal G 0 68 (2, 0, 0) kX10_numberAt [.ref (G.1 0), .int x4, .int x7] M (eFI (fun (r_1 : Int32) (M_1 : eM) => ∃ (x_2 : Int32), yEI G H a6 4 x_2 ∧ ((ca + 0 ≤ 10 ∧ sl + 0 ≤ 700) ∧ yIs H a0 10 ∧ ∃ r_3 : Int32, yRd G (1, 0, 0) kX12_number [.ref a0, .ref a6, .int x_2, .int x7] M_1 H (.int r_3) ∧ (((r_1 = r_3) → Yx (yX "isSame") (yZ G 10 700 (yFZ F)) G (eR (10, 10, 700)) kX12_isSame 259 [(0, .ref a0), (1, .ref (G.1 0)), (2, .ref a2), (4, .int x4), (6, .ref a6), (7, .int (x7 + 1))] [] M_1 H ca sl) ∧ ((¬ r_1 = r_3) → (ca ≤ 10 ∧ sl ≤ 700) ∧ F false M_1 H))))))) :
    Yx (yX "isSame") (yZ G 10 700 (yFZ F)) G (eR (10, 10, 700)) kX12_isSame 259 [(0, .ref a0), (1, .ref (G.1 0)), (2, .ref a2), (4, .int x4), (6, .ref a6), (7, .int x7)] [] M H ca sl := by
  refine y_iload 5 dX12_isSame_259 rfl ?_
  refine y_bipush (v := 6) dX12_isSame_261 rfl ?_
  refine y_icmp_ge (t := 297) dX12_isSame_263 (by decide) (fun q => ?_) (fun q => ?_)
  · replace h := h.1 q
    refine y_iinc (v := x4 + 1) (l' := [(4, .int (x4 + 1)), (0, .ref a0), (1, .ref (G.1 0)), (2, .ref a2), (6, .ref a6), (7, .int x7)]) 3 dX12_isSame_297 rfl rfl (by decide) rfl ?_
    refine y_goto (t := 138) dX12_isSame_300 (by decide) ?_
    exact Yx.sub (ks := [1, 2, 3, 0]) rfl h
  · replace h := h.2 q
    refine y_aload_n 1 dX12_isSame_266 rfl rfl ?_
    refine y_iload 3 dX12_isSame_267 rfl ?_
    refine y_iload 5 dX12_isSame_269 rfl ?_
    have hb := h.1
    replace h := h.2
    refine y_callM yXn (b' := (2, 0, 0)) (K' := kX10_numberAt) (As := [.int x4, .int x7]) (S := []) dX12_isSame_271 mX10_numberAt lMX12_118 rfl rfl ⟨(by decide), hb⟩ (Nat.le_of_ble_eq_true rfl) (yCal.cls h) (fun v_ M_ H_ q_ => ?_) rfl
    obtain ⟨⟨r_1, rfl, h⟩, rfl⟩ := q_
    revert h
    generalize M_ = M_1
    intro h
    refine y_aload_n 0 dX12_isSame_274 rfl rfl ?_
    refine y_aload 4 dX12_isSame_275 rfl ?_
    refine y_aload 4 dX12_isSame_277 rfl ?_
    refine y_iconst (v := 4) dX12_isSame_279 rfl ?_
    obtain ⟨x_2, ⟨N_2, f_2, e1_2, e2_2, e3_2⟩, h⟩ := h
    refine y_ialdx dX12_isSame_280 e1_2 e2_2 e3_2 ?_
    refine y_iload 5 dX12_isSame_281 rfl ?_
    have hb := h.1
    replace h := h.2
    obtain ⟨⟨fs_3, hi⟩, h⟩ := h
    obtain ⟨r_3, hc, h⟩ := h
    refine y_callV yXn (b' := (1, 0, 0)) (K' := kX12_number) (As := [.ref a6, .int x_2, .int x7]) (S := [.int r_1]) dX12_isSame_283 mX12_number lMX12_43 clX12 rfl hi rfl ⟨(by decide), hb⟩ (Nat.le_of_ble_eq_true rfl) hc (fun v_ M_ H_ q_ => ?_) rfl
    obtain ⟨rfl, rfl, rfl⟩ := q_
    refine y_icmp_eq (t := 291) dX12_isSame_286 (by decide) (fun q => ?_) (fun q => ?_)
    · replace h := h.1 q
      refine y_iinc (v := x7 + 1) (l' := [(7, .int (x7 + 1)), (0, .ref a0), (1, .ref (G.1 0)), (2, .ref a2), (4, .int x4), (6, .ref a6)]) 5 dX12_isSame_291 rfl rfl (by decide) rfl ?_
      refine y_goto (t := 259) dX12_isSame_294 (by decide) ?_
      exact Yx.sub (ks := [1, 2, 3, 4, 5, 0]) rfl h
    · replace h := h.2 q
      refine y_iconst (v := 0) dX12_isSame_289 rfl ?_
      have hb := h.1
      replace h := h.2
      exact y_zret (v := eZi false) dX12_isSame_290 rfl (eZi_nw _) hb.1 hb.2 ⟨_, rfl, h⟩
set_option maxHeartbeats 4000000 in
set_option maxRecDepth 100000 in
theorem B_X12_isSame_220 (G : eG) (ca sl : Nat) (M : eM) (H : yH) (F : Bool → eM → yH → Prop) (a0 : Nat) (a2 : Nat) (x4 : Int32)
    (h : ∃ (x_1 : Int32), yEI G H a2 x4 x_1 ∧ ((((0 : Int32) ≤ x_1) → ∃ (b_2 : Nat), yG H a0 10 2 (.ref b_2) ∧ (∃ (x_3 : Int32), yEI G H a2 x4 x_3 ∧ (∃ (b_4 : Nat), yER G 5 H b_2 x_3 b_4 ∧ ((ca + 0 ≤ 10 ∧ sl + 0 ≤ 700) ∧ Cal G 0 68 (2, 0, 0) kX10_tileAt [.ref (G.1 0), .int x4] M (eFI (fun (r_5 : Int32) (M_5 : eM) => ∃ (x_6 : Int32), yEI G H a2 x4 x_6 ∧ (((r_5 = x_6) → Yx (yX "isSame") (yZ G 10 700 (yFZ F)) G (eR (10, 10, 700)) kX12_isSame 259 [(0, .ref a0), (1, .ref (G.1 0)), (2, .ref a2), (4, .int x4), (6, .ref b_4), (7, .int 0)] [] M_5 H ca sl) ∧ ((¬ r_5 = x_6) → (ca ≤ 10 ∧ sl ≤ 700) ∧ F false M_5 H)))))))) ∧ ((¬ (0 : Int32) ≤ x_1) → Yx (yX "isSame") (yZ G 10 700 (yFZ F)) G (eR (10, 10, 700)) kX12_isSame 138 [(0, .ref a0), (1, .ref (G.1 0)), (2, .ref a2), (4, .int (x4 + 1))] [] M H ca sl))) :
    Yx (yX "isSame") (yZ G 10 700 (yFZ F)) G (eR (10, 10, 700)) kX12_isSame 220 [(0, .ref a0), (1, .ref (G.1 0)), (2, .ref a2), (4, .int x4)] [] M H ca sl := by
  refine y_aload_n 2 dX12_isSame_220 rfl rfl ?_
  refine y_iload 3 dX12_isSame_221 rfl ?_
  obtain ⟨x_1, ⟨N_1, f_1, e1_1, e2_1, e3_1⟩, h⟩ := h
  refine y_ialdx dX12_isSame_223 e1_1 e2_1 e3_1 ?_
  refine y_if_ge (t := 230) dX12_isSame_224 (by decide) (fun q => ?_) (fun q => ?_)
  · replace h := h.1 q
    refine y_aload_n 0 dX12_isSame_230 rfl rfl ?_
    obtain ⟨b_2, ⟨fs_2, e1_2, e2_2⟩, h⟩ := h
    refine y_get (k := 2) dX12_isSame_231 clX12 lFX12_18 (by decide) e1_2 e2_2 ?_
    refine y_aload_n 2 dX12_isSame_234 rfl rfl ?_
    refine y_iload 3 dX12_isSame_235 rfl ?_
    obtain ⟨x_3, ⟨N_3, f_3, e1_3, e2_3, e3_3⟩, h⟩ := h
    refine y_ialdx dX12_isSame_237 e1_3 e2_3 e3_3 ?_
    obtain ⟨b_4, ⟨N_4, f_4, e1_4, e2_4, e3_4⟩, h⟩ := h
    refine y_aald (t := 5) (ty := .array .int) dX12_isSame_238 rfl rfl e1_4 e2_4 e3_4 ?_
    refine y_astore (i := 6) (l' := [(6, .ref b_4), (0, .ref a0), (1, .ref (G.1 0)), (2, .ref a2), (4, .int x4)]) dX12_isSame_239 (by decide) rfl ?_
    refine y_aload_n 2 dX12_isSame_241 rfl rfl ?_
    refine y_iload 4 dX12_isSame_242 rfl ?_
    have hb := h.1
    replace h := h.2
    refine y_callM yXn (b' := (2, 0, 0)) (K' := kX10_tileAt) (As := [.int x4]) (S := []) dX12_isSame_244 mX10_tileAt lMX12_115 rfl rfl ⟨(by decide), hb⟩ (Nat.le_of_ble_eq_true rfl) (yCal.cls h) (fun v_ M_ H_ q_ => ?_) rfl
    obtain ⟨⟨r_5, rfl, h⟩, rfl⟩ := q_
    revert h
    generalize M_ = M_5
    intro h
    refine y_aload_n 3 dX12_isSame_247 rfl rfl ?_
    refine y_iload 4 dX12_isSame_248 rfl ?_
    obtain ⟨x_6, ⟨N_6, f_6, e1_6, e2_6, e3_6⟩, h⟩ := h
    refine y_ialdx dX12_isSame_250 e1_6 e2_6 e3_6 ?_
    refine y_icmp_eq (t := 256) dX12_isSame_251 (by decide) (fun q => ?_) (fun q => ?_)
    · replace h := h.1 q
      refine y_iconst (v := 0) dX12_isSame_256 rfl ?_
      refine y_istore (i := 7) (l' := [(7, .int 0), (6, .ref b_4), (0, .ref a0), (1, .ref (G.1 0)), (2, .ref a2), (4, .int x4)]) dX12_isSame_257 (by decide) rfl ?_
      exact Yx.sub (ks := [2, 3, 4, 5, 1, 0]) rfl h
    · replace h := h.2 q
      refine y_iconst (v := 0) dX12_isSame_254 rfl ?_
      have hb := h.1
      replace h := h.2
      exact y_zret (v := eZi false) dX12_isSame_255 rfl (eZi_nw _) hb.1 hb.2 ⟨_, rfl, h⟩
  · replace h := h.2 q
    refine y_goto (t := 297) dX12_isSame_227 (by decide) ?_
    refine y_iinc (v := x4 + 1) (l' := [(4, .int (x4 + 1)), (0, .ref a0), (1, .ref (G.1 0)), (2, .ref a2)]) 3 dX12_isSame_297 rfl rfl (by decide) rfl ?_
    refine y_goto (t := 138) dX12_isSame_300 (by decide) ?_
    exact Yx.sub (ks := [1, 2, 3, 0]) rfl h
set_option maxHeartbeats 4000000 in
set_option maxRecDepth 100000 in
theorem B_X12_isSame_196 (G : eG) (ca sl : Nat) (M : eM) (H : yH) (F : Bool → eM → yH → Prop) (a0 : Nat) (a2 : Nat) (x4 : Int32) (x5 : Int32)
    (h : (ca + 0 ≤ 10 ∧ sl + 0 ≤ 700) ∧ Cal G 0 68 (2, 0, 0) kX10_matchesOf [.ref (G.1 0), .int x4] M (eFI (fun (r_1 : Int32) (M_1 : eM) => ∃ (x_2 : Int32), yEI G H a2 x4 x_2 ∧ ((((0 : Int32) ≤ x_2) → ((r_1 = x5) → Yx (yX "isSame") (yZ G 10 700 (yFZ F)) G (eR (10, 10, 700)) kX12_isSame 220 [(0, .ref a0), (1, .ref (G.1 0)), (2, .ref a2), (4, .int x4)] [] M_1 H ca sl) ∧ ((¬ r_1 = x5) → (ca ≤ 10 ∧ sl ≤ 700) ∧ F false M_1 H)) ∧ ((¬ (0 : Int32) ≤ x_2) → ((r_1 = (0 : Int32)) → Yx (yX "isSame") (yZ G 10 700 (yFZ F)) G (eR (10, 10, 700)) kX12_isSame 220 [(0, .ref a0), (1, .ref (G.1 0)), (2, .ref a2), (4, .int x4)] [] M_1 H ca sl) ∧ ((¬ r_1 = (0 : Int32)) → (ca ≤ 10 ∧ sl ≤ 700) ∧ F false M_1 H)))))) :
    Yx (yX "isSame") (yZ G 10 700 (yFZ F)) G (eR (10, 10, 700)) kX12_isSame 196 [(0, .ref a0), (1, .ref (G.1 0)), (2, .ref a2), (4, .int x4), (5, .int x5)] [] M H ca sl := by
  refine y_aload_n 1 dX12_isSame_196 rfl rfl ?_
  refine y_iload 3 dX12_isSame_197 rfl ?_
  have hb := h.1
  replace h := h.2
  refine y_callM yXn (b' := (2, 0, 0)) (K' := kX10_matchesOf) (As := [.int x4]) (S := []) dX12_isSame_199 mX10_matchesOf lMX12_111 rfl rfl ⟨(by decide), hb⟩ (Nat.le_of_ble_eq_true rfl) (yCal.cls h) (fun v_ M_ H_ q_ => ?_) rfl
  obtain ⟨⟨r_1, rfl, h⟩, rfl⟩ := q_
  revert h
  generalize M_ = M_1
  intro h
  refine y_aload_n 2 dX12_isSame_202 rfl rfl ?_
  refine y_iload 3 dX12_isSame_203 rfl ?_
  obtain ⟨x_2, ⟨N_2, f_2, e1_2, e2_2, e3_2⟩, h⟩ := h
  refine y_ialdx dX12_isSame_205 e1_2 e2_2 e3_2 ?_
  refine y_if_ge (t := 213) dX12_isSame_206 (by decide) (fun q => ?_) (fun q => ?_)
  · replace h := h.1 q
    refine y_iload 4 dX12_isSame_213 rfl ?_
    refine y_icmp_eq (t := 220) dX12_isSame_215 (by decide) (fun q => ?_) (fun q => ?_)
    · replace h := h.1 q
      exact Yx.sub (ks := [0, 1, 2, 3]) rfl h
    · replace h := h.2 q
      refine y_iconst (v := 0) dX12_isSame_218 rfl ?_
      have hb := h.1
      replace h := h.2
      exact y_zret (v := eZi false) dX12_isSame_219 rfl (eZi_nw _) hb.1 hb.2 ⟨_, rfl, h⟩
  · replace h := h.2 q
    refine y_iconst (v := 0) dX12_isSame_209 rfl ?_
    refine y_goto (t := 215) dX12_isSame_210 (by decide) ?_
    refine y_icmp_eq (t := 220) dX12_isSame_215 (by decide) (fun q => ?_) (fun q => ?_)
    · replace h := h.1 q
      exact Yx.sub (ks := [0, 1, 2, 3]) rfl h
    · replace h := h.2 q
      refine y_iconst (v := 0) dX12_isSame_218 rfl ?_
      have hb := h.1
      replace h := h.2
      exact y_zret (v := eZi false) dX12_isSame_219 rfl (eZi_nw _) hb.1 hb.2 ⟨_, rfl, h⟩
set_option maxHeartbeats 4000000 in
set_option maxRecDepth 100000 in
theorem B_X12_isSame_175 (G : eG) (ca sl : Nat) (M : eM) (H : yH) (F : Bool → eM → yH → Prop) (a0 : Nat) (a2 : Nat) (x4 : Int32) (x5 : Int32)
    (h : (ca + 0 ≤ 10 ∧ sl + 0 ≤ 700) ∧ Cal G 0 68 (2, 0, 0) kX10_isRing [.ref (G.1 0), .int x4] M (eFZ (fun (r_1 : Bool) (M_1 : eM) => ((¬ x5 = (6 : Int32)) → ((¬ (eZi r_1) = (0 : Int32)) → (ca ≤ 10 ∧ sl ≤ 700) ∧ F false M_1 H) ∧ (((eZi r_1) = (0 : Int32)) → Yx (yX "isSame") (yZ G 10 700 (yFZ F)) G (eR (10, 10, 700)) kX12_isSame 196 [(0, .ref a0), (1, .ref (G.1 0)), (2, .ref a2), (4, .int x4), (5, .int x5)] [] M_1 H ca sl)) ∧ ((x5 = (6 : Int32)) → ((¬ (eZi r_1) = (1 : Int32)) → (ca ≤ 10 ∧ sl ≤ 700) ∧ F false M_1 H) ∧ (((eZi r_1) = (1 : Int32)) → Yx (yX "isSame") (yZ G 10 700 (yFZ F)) G (eR (10, 10, 700)) kX12_isSame 196 [(0, .ref a0), (1, .ref (G.1 0)), (2, .ref a2), (4, .int x4), (5, .int x5)] [] M_1 H ca sl))))) :
    Yx (yX "isSame") (yZ G 10 700 (yFZ F)) G (eR (10, 10, 700)) kX12_isSame 175 [(0, .ref a0), (1, .ref (G.1 0)), (2, .ref a2), (4, .int x4), (5, .int x5)] [] M H ca sl := by
  refine y_aload_n 1 dX12_isSame_175 rfl rfl ?_
  refine y_iload 3 dX12_isSame_176 rfl ?_
  have hb := h.1
  replace h := h.2
  refine y_callM yXn (b' := (2, 0, 0)) (K' := kX10_isRing) (As := [.int x4]) (S := []) dX12_isSame_178 mX10_isRing lMX12_108 rfl rfl ⟨(by decide), hb⟩ (Nat.le_of_ble_eq_true rfl) (yCal.cls h) (fun v_ M_ H_ q_ => ?_) rfl
  obtain ⟨⟨r_1, rfl, h⟩, rfl⟩ := q_
  revert h
  generalize M_ = M_1
  intro h
  refine y_iload 4 dX12_isSame_181 rfl ?_
  refine y_bipush (v := 6) dX12_isSame_183 rfl ?_
  refine y_icmp_ne (t := 192) dX12_isSame_185 (by decide) (fun q => ?_) (fun q => ?_)
  · replace h := h.1 q
    refine y_iconst (v := 0) dX12_isSame_192 rfl ?_
    refine y_icmp_ne (t := 218) dX12_isSame_193 (by decide) (fun q => ?_) (fun q => ?_)
    · replace h := h.1 q
      refine y_iconst (v := 0) dX12_isSame_218 rfl ?_
      have hb := h.1
      replace h := h.2
      exact y_zret (v := eZi false) dX12_isSame_219 rfl (eZi_nw _) hb.1 hb.2 ⟨_, rfl, h⟩
    · replace h := h.2 q
      exact h
  · replace h := h.2 q
    refine y_iconst (v := 1) dX12_isSame_188 rfl ?_
    refine y_goto (t := 193) dX12_isSame_189 (by decide) ?_
    refine y_icmp_ne (t := 218) dX12_isSame_193 (by decide) (fun q => ?_) (fun q => ?_)
    · replace h := h.1 q
      refine y_iconst (v := 0) dX12_isSame_218 rfl ?_
      have hb := h.1
      replace h := h.2
      exact y_zret (v := eZi false) dX12_isSame_219 rfl (eZi_nw _) hb.1 hb.2 ⟨_, rfl, h⟩
    · replace h := h.2 q
      exact h
set_option maxHeartbeats 4000000 in
set_option maxRecDepth 100000 in
theorem B_X12_isSame_138 (G : eG) (ca sl : Nat) (M : eM) (H : yH) (F : Bool → eM → yH → Prop) (a0 : Nat) (a2 : Nat) (x4 : Int32)
    (h : ∃ (n_1 : Nat), yLn G 0 H a2 n_1 ∧ ((((nI n_1) ≤ x4) → Yx (yX "isSame") (yZ G 10 700 (yFZ F)) G (eR (10, 10, 700)) kX12_isSame 306 [(0, .ref a0), (1, .ref (G.1 0)), (4, .int 0)] [] M H ca sl) ∧ ((¬ (nI n_1) ≤ x4) → (ca + 0 ≤ 10 ∧ sl + 0 ≤ 700) ∧ yIs H a0 10 ∧ ∃ r_2 : Int32, yRd G (2, 0, 0) kX12_many [.ref a0, .ref a2, .int x4] M H (.int r_2) ∧ ((ca + 0 ≤ 10 ∧ sl + 0 ≤ 700) ∧ Cal G 0 68 (2, 0, 0) kX10_hasTile [.ref (G.1 0), .int x4] M (eFZ (fun (r_3 : Bool) (M_3 : eM) => ∃ (x_4 : Int32), yEI G H a2 x4 x_4 ∧ (((x_4 < (0 : Int32)) → ((¬ (eZi r_3) = (0 : Int32)) → (ca ≤ 10 ∧ sl ≤ 700) ∧ F false M_3 H) ∧ (((eZi r_3) = (0 : Int32)) → Yx (yX "isSame") (yZ G 10 700 (yFZ F)) G (eR (10, 10, 700)) kX12_isSame 175 [(0, .ref a0), (1, .ref (G.1 0)), (2, .ref a2), (4, .int x4), (5, .int r_2)] [] M_3 H ca sl)) ∧ ((¬ x_4 < (0 : Int32)) → ((¬ (eZi r_3) = (1 : Int32)) → (ca ≤ 10 ∧ sl ≤ 700) ∧ F false M_3 H) ∧ (((eZi r_3) = (1 : Int32)) → Yx (yX "isSame") (yZ G 10 700 (yFZ F)) G (eR (10, 10, 700)) kX12_isSame 175 [(0, .ref a0), (1, .ref (G.1 0)), (2, .ref a2), (4, .int x4), (5, .int r_2)] [] M_3 H ca sl))))))))) :
    Yx (yX "isSame") (yZ G 10 700 (yFZ F)) G (eR (10, 10, 700)) kX12_isSame 138 [(0, .ref a0), (1, .ref (G.1 0)), (2, .ref a2), (4, .int x4)] [] M H ca sl := by
  refine y_iload 3 dX12_isSame_138 rfl ?_
  refine y_aload_n 2 dX12_isSame_140 rfl rfl ?_
  obtain ⟨n_1, ⟨v_1, e1_1, e2_1⟩, h⟩ := h
  refine y_alenx (t := 0) (ty := .int) dX12_isSame_141 rfl e1_1 e2_1 ?_
  refine y_icmp_ge (t := 303) dX12_isSame_142 (by decide) (fun q => ?_) (fun q => ?_)
  · replace h := h.1 q
    refine y_iconst (v := 0) dX12_isSame_303 rfl ?_
    refine y_istore (i := 4) (l' := [(4, .int 0), (0, .ref a0), (1, .ref (G.1 0)), (2, .ref a2)]) dX12_isSame_304 (by decide) rfl ?_
    exact Yx.sub (ks := [1, 2, 0]) rfl h
  · replace h := h.2 q
    refine y_aload_n 0 dX12_isSame_145 rfl rfl ?_
    refine y_aload_n 2 dX12_isSame_146 rfl rfl ?_
    refine y_iload 3 dX12_isSame_147 rfl ?_
    have hb := h.1
    replace h := h.2
    obtain ⟨⟨fs_2, hi⟩, h⟩ := h
    obtain ⟨r_2, hc, h⟩ := h
    refine y_callV yXn (b' := (2, 0, 0)) (K' := kX12_many) (As := [.ref a2, .int x4]) (S := []) dX12_isSame_149 mX12_many lMX12_47 clX12 rfl hi rfl ⟨(by decide), hb⟩ (Nat.le_of_ble_eq_true rfl) hc (fun v_ M_ H_ q_ => ?_) rfl
    obtain ⟨rfl, rfl, rfl⟩ := q_
    refine y_istore (i := 5) (l' := [(5, .int r_2), (0, .ref a0), (1, .ref (G.1 0)), (2, .ref a2), (4, .int x4)]) dX12_isSame_152 (by decide) rfl ?_
    refine y_aload_n 2 dX12_isSame_154 rfl rfl ?_
    refine y_iload 4 dX12_isSame_155 rfl ?_
    have hb := h.1
    replace h := h.2
    refine y_callM yXn (b' := (2, 0, 0)) (K' := kX10_hasTile) (As := [.int x4]) (S := []) dX12_isSame_157 mX10_hasTile lMX12_104 rfl rfl ⟨(by decide), hb⟩ (Nat.le_of_ble_eq_true rfl) (yCal.cls h) (fun v_ M_ H_ q_ => ?_) rfl
    obtain ⟨⟨r_3, rfl, h⟩, rfl⟩ := q_
    revert h
    generalize M_ = M_3
    intro h
    refine y_aload_n 3 dX12_isSame_160 rfl rfl ?_
    refine y_iload 4 dX12_isSame_161 rfl ?_
    obtain ⟨x_4, ⟨N_4, f_4, e1_4, e2_4, e3_4⟩, h⟩ := h
    refine y_ialdx dX12_isSame_163 e1_4 e2_4 e3_4 ?_
    refine y_if_lt (t := 171) dX12_isSame_164 (by decide) (fun q => ?_) (fun q => ?_)
    · replace h := h.1 q
      refine y_iconst (v := 0) dX12_isSame_171 rfl ?_
      refine y_icmp_ne (t := 218) dX12_isSame_172 (by decide) (fun q => ?_) (fun q => ?_)
      · replace h := h.1 q
        refine y_iconst (v := 0) dX12_isSame_218 rfl ?_
        have hb := h.1
        replace h := h.2
        exact y_zret (v := eZi false) dX12_isSame_219 rfl (eZi_nw _) hb.1 hb.2 ⟨_, rfl, h⟩
      · replace h := h.2 q
        exact Yx.sub (ks := [1, 2, 3, 4, 0]) rfl h
    · replace h := h.2 q
      refine y_iconst (v := 1) dX12_isSame_167 rfl ?_
      refine y_goto (t := 172) dX12_isSame_168 (by decide) ?_
      refine y_icmp_ne (t := 218) dX12_isSame_172 (by decide) (fun q => ?_) (fun q => ?_)
      · replace h := h.1 q
        refine y_iconst (v := 0) dX12_isSame_218 rfl ?_
        have hb := h.1
        replace h := h.2
        exact y_zret (v := eZi false) dX12_isSame_219 rfl (eZi_nw _) hb.1 hb.2 ⟨_, rfl, h⟩
      · replace h := h.2 q
        exact Yx.sub (ks := [1, 2, 3, 4, 0]) rfl h
set_option maxHeartbeats 4000000 in
set_option maxRecDepth 100000 in
theorem B_X12_isSame_135 (G : eG) (ca sl : Nat) (M : eM) (H : yH) (F : Bool → eM → yH → Prop) (a0 : Nat) (a2 : Nat)
    (h : Yx (yX "isSame") (yZ G 10 700 (yFZ F)) G (eR (10, 10, 700)) kX12_isSame 138 [(0, .ref a0), (1, .ref (G.1 0)), (2, .ref a2), (4, .int 0)] [] M H ca sl) :
    Yx (yX "isSame") (yZ G 10 700 (yFZ F)) G (eR (10, 10, 700)) kX12_isSame 135 [(0, .ref a0), (1, .ref (G.1 0)), (2, .ref a2)] [] M H ca sl := by
  refine y_iconst (v := 0) dX12_isSame_135 rfl ?_
  refine y_istore (i := 4) (l' := [(4, .int 0), (0, .ref a0), (1, .ref (G.1 0)), (2, .ref a2)]) dX12_isSame_136 (by decide) rfl ?_
  exact Yx.sub (ks := [1, 2, 3, 0]) rfl h
set_option maxHeartbeats 4000000 in
set_option maxRecDepth 100000 in
theorem B_X12_isSame_133 (G : eG) (ca sl : Nat) (M : eM) (H : yH) (F : Bool → eM → yH → Prop) 
    (h : (ca ≤ 10 ∧ sl ≤ 700) ∧ F false M H) :
    Yx (yX "isSame") (yZ G 10 700 (yFZ F)) G (eR (10, 10, 700)) kX12_isSame 133 [] [] M H ca sl := by
  refine y_iconst (v := 0) dX12_isSame_133 rfl ?_
  have hb := h.1
  replace h := h.2
  exact y_zret (v := eZi false) dX12_isSame_134 rfl (eZi_nw _) hb.1 hb.2 ⟨_, rfl, h⟩
set_option maxHeartbeats 4000000 in
set_option maxRecDepth 100000 in
theorem B_X12_isSame_65 (G : eG) (ca sl : Nat) (M : eM) (H : yH) (F : Bool → eM → yH → Prop) (a0 : Nat) (a2 : Nat) (a3 : Nat)
    (h : (ca + 0 ≤ 10 ∧ sl + 0 ≤ 700) ∧ Cal G 0 68 (4, 0, 0) kX10_points [.ref (G.1 0)] M (eFI (fun (r_1 : Int32) (M_1 : eM) => ∃ (x_2 : Int32), yEI G H a3 3 x_2 ∧ (((¬ r_1 = x_2) → Yx (yX "isSame") (yZ G 10 700 (yFZ F)) G (eR (10, 10, 700)) kX12_isSame 133 [] [] M_1 H ca sl) ∧ ((r_1 = x_2) → (ca + 0 ≤ 10 ∧ sl + 0 ≤ 700) ∧ Cal G 0 68 (3, 0, 0) kX10_rings [.ref (G.1 0)] M_1 (eFI (fun (r_3 : Int32) (M_3 : eM) => ∃ (x_4 : Int32), yEI G H a3 2 x_4 ∧ (((¬ r_3 = x_4) → Yx (yX "isSame") (yZ G 10 700 (yFZ F)) G (eR (10, 10, 700)) kX12_isSame 133 [] [] M_3 H ca sl) ∧ ((r_3 = x_4) → (ca + 0 ≤ 10 ∧ sl + 0 ≤ 700) ∧ Cal G 0 68 (1, 0, 0) kX10_placedTiles [.ref (G.1 0)] M_3 (eFI (fun (r_5 : Int32) (M_5 : eM) => ∃ (x_6 : Int32), yEI G H a3 4 x_6 ∧ (((¬ r_5 = x_6) → Yx (yX "isSame") (yZ G 10 700 (yFZ F)) G (eR (10, 10, 700)) kX12_isSame 133 [] [] M_5 H ca sl) ∧ ((r_5 = x_6) → (ca + 0 ≤ 10 ∧ sl + 0 ≤ 700) ∧ Cal G 0 68 (3, 0, 0) kX10_groups [.ref (G.1 0)] M_5 (eFI (fun (r_7 : Int32) (M_7 : eM) => (ca + 2 ≤ 10 ∧ sl + 98 ≤ 700) ∧ yIs H a0 10 ∧ yCal G (2, 2, 98) kX12_groups [.ref a0] M_7 H (yFI (fun (r_8 : Int32) (M_8 : eM) (H_8 : yH) => ((¬ r_7 = r_8) → Yx (yX "isSame") (yZ G 10 700 (yFZ F)) G (eR (10, 10, 700)) kX12_isSame 133 [] [] M_8 H_8 (ca + 2) (sl + 98)) ∧ ((r_7 = r_8) → ((ca + 2) + 0 ≤ 10 ∧ (sl + 98) + 0 ≤ 700) ∧ Cal G 0 68 (3, 0, 0) kX10_meanMatch [.ref (G.1 0)] M_8 (eFD (fun (r_9 : UInt64) (M_9 : eM) => ∃ (x_10 : Int32), yEI G H_8 a3 0 x_10 ∧ (((¬ x_10 = (0 : Int32)) → ∃ (x_11 : Int32), yEI G H_8 a3 1 x_11 ∧ (∃ (x_12 : Int32), yEI G H_8 a3 0 x_12 ∧ (vf_n64 (FP.ddiv (FP.i2d x_11) (FP.i2d x_12)) ∧ ((((Op.cmpValue (FP.dcmp r_9 (FP.ddiv (FP.i2d x_11) (FP.i2d x_12))) .l) = (0 : Int32)) → Yx (yX "isSame") (yZ G 10 700 (yFZ F)) G (eR (10, 10, 700)) kX12_isSame 135 [(0, .ref a0), (1, .ref (G.1 0)), (2, .ref a2)] [] M_9 H_8 (ca + 2) (sl + 98)) ∧ ((¬ (Op.cmpValue (FP.dcmp r_9 (FP.ddiv (FP.i2d x_11) (FP.i2d x_12))) .l) = (0 : Int32)) → Yx (yX "isSame") (yZ G 10 700 (yFZ F)) G (eR (10, 10, 700)) kX12_isSame 133 [] [] M_9 H_8 (ca + 2) (sl + 98)))))) ∧ ((x_10 = (0 : Int32)) → (((Op.cmpValue (FP.dcmp r_9 FP.dconst0) .l) = (0 : Int32)) → Yx (yX "isSame") (yZ G 10 700 (yFZ F)) G (eR (10, 10, 700)) kX12_isSame 135 [(0, .ref a0), (1, .ref (G.1 0)), (2, .ref a2)] [] M_9 H_8 (ca + 2) (sl + 98)) ∧ ((¬ (Op.cmpValue (FP.dcmp r_9 FP.dconst0) .l) = (0 : Int32)) → Yx (yX "isSame") (yZ G 10 700 (yFZ F)) G (eR (10, 10, 700)) kX12_isSame 133 [] [] M_9 H_8 (ca + 2) (sl + 98)))))))))))))))))))))))) :
    Yx (yX "isSame") (yZ G 10 700 (yFZ F)) G (eR (10, 10, 700)) kX12_isSame 65 [(0, .ref a0), (1, .ref (G.1 0)), (2, .ref a2), (3, .ref a3)] [] M H ca sl := by
  refine y_aload_n 1 dX12_isSame_65 rfl rfl ?_
  have hb := h.1
  replace h := h.2
  refine y_callM yXn (b' := (4, 0, 0)) (K' := kX10_points) (As := []) (S := []) dX12_isSame_66 mX10_points lMX12_87 rfl rfl ⟨(by decide), hb⟩ (Nat.le_of_ble_eq_true rfl) (yCal.cls h) (fun v_ M_ H_ q_ => ?_) rfl
  obtain ⟨⟨r_1, rfl, h⟩, rfl⟩ := q_
  revert h
  generalize M_ = M_1
  intro h
  refine y_aload_n 3 dX12_isSame_69 rfl rfl ?_
  refine y_iconst (v := 3) dX12_isSame_70 rfl ?_
  obtain ⟨x_2, ⟨N_2, f_2, e1_2, e2_2, e3_2⟩, h⟩ := h
  refine y_ialdx dX12_isSame_71 e1_2 e2_2 e3_2 ?_
  refine y_icmp_ne (t := 133) dX12_isSame_72 (by decide) (fun q => ?_) (fun q => ?_)
  · replace h := h.1 q
    exact Yx.sub (ks := []) rfl h
  · replace h := h.2 q
    refine y_aload_n 1 dX12_isSame_75 rfl rfl ?_
    have hb := h.1
    replace h := h.2
    refine y_callM yXn (b' := (3, 0, 0)) (K' := kX10_rings) (As := []) (S := []) dX12_isSame_76 mX10_rings lMX12_90 rfl rfl ⟨(by decide), hb⟩ (Nat.le_of_ble_eq_true rfl) (yCal.cls h) (fun v_ M_ H_ q_ => ?_) rfl
    obtain ⟨⟨r_3, rfl, h⟩, rfl⟩ := q_
    revert h
    generalize M_ = M_3
    intro h
    refine y_aload_n 3 dX12_isSame_79 rfl rfl ?_
    refine y_iconst (v := 2) dX12_isSame_80 rfl ?_
    obtain ⟨x_4, ⟨N_4, f_4, e1_4, e2_4, e3_4⟩, h⟩ := h
    refine y_ialdx dX12_isSame_81 e1_4 e2_4 e3_4 ?_
    refine y_icmp_ne (t := 133) dX12_isSame_82 (by decide) (fun q => ?_) (fun q => ?_)
    · replace h := h.1 q
      exact Yx.sub (ks := []) rfl h
    · replace h := h.2 q
      refine y_aload_n 1 dX12_isSame_85 rfl rfl ?_
      have hb := h.1
      replace h := h.2
      refine y_callM yXn (b' := (1, 0, 0)) (K' := kX10_placedTiles) (As := []) (S := []) dX12_isSame_86 mX10_placedTiles lMX12_93 rfl rfl ⟨(by decide), hb⟩ (Nat.le_of_ble_eq_true rfl) (yCal.cls h) (fun v_ M_ H_ q_ => ?_) rfl
      obtain ⟨⟨r_5, rfl, h⟩, rfl⟩ := q_
      revert h
      generalize M_ = M_5
      intro h
      refine y_aload_n 3 dX12_isSame_89 rfl rfl ?_
      refine y_iconst (v := 4) dX12_isSame_90 rfl ?_
      obtain ⟨x_6, ⟨N_6, f_6, e1_6, e2_6, e3_6⟩, h⟩ := h
      refine y_ialdx dX12_isSame_91 e1_6 e2_6 e3_6 ?_
      refine y_icmp_ne (t := 133) dX12_isSame_92 (by decide) (fun q => ?_) (fun q => ?_)
      · replace h := h.1 q
        exact Yx.sub (ks := []) rfl h
      · replace h := h.2 q
        refine y_aload_n 1 dX12_isSame_95 rfl rfl ?_
        have hb := h.1
        replace h := h.2
        refine y_callM yXn (b' := (3, 0, 0)) (K' := kX10_groups) (As := []) (S := []) dX12_isSame_96 mX10_groups lMX12_96 rfl rfl ⟨(by decide), hb⟩ (Nat.le_of_ble_eq_true rfl) (yCal.cls h) (fun v_ M_ H_ q_ => ?_) rfl
        obtain ⟨⟨r_7, rfl, h⟩, rfl⟩ := q_
        revert h
        generalize M_ = M_7
        intro h
        refine y_aload_n 0 dX12_isSame_99 rfl rfl ?_
        have hb := h.1
        replace h := h.2
        obtain ⟨⟨fs_8, hi⟩, h⟩ := h
        refine y_callV yXn (b' := (2, 2, 98)) (K' := kX12_groups) (As := []) (S := [.int r_7]) dX12_isSame_100 mX12_groups lMX12_99 clX12 rfl hi rfl ⟨(by decide), hb⟩ (Nat.le_of_ble_eq_true rfl) h (fun v_ M_8 H_8 q_ => ?_) rfl
        obtain ⟨r_8, rfl, h⟩ := q_
        refine y_icmp_ne (t := 133) dX12_isSame_103 (by decide) (fun q => ?_) (fun q => ?_)
        · replace h := h.1 q
          exact Yx.sub (ks := []) rfl h
        · replace h := h.2 q
          refine y_aload_n 1 dX12_isSame_106 rfl rfl ?_
          have hb := h.1
          replace h := h.2
          refine y_callM yXn (b' := (3, 0, 0)) (K' := kX10_meanMatch) (As := []) (S := []) dX12_isSame_107 mX10_meanMatch lMX12_100 rfl rfl ⟨(by decide), hb⟩ (Nat.le_of_ble_eq_true rfl) (yCal.cls h) (fun v_ M_ H_ q_ => ?_) rfl
          obtain ⟨⟨r_9, rfl, h⟩, rfl⟩ := q_
          revert h
          generalize M_ = M_9
          intro h
          refine y_aload_n 3 dX12_isSame_110 rfl rfl ?_
          refine y_iconst (v := 0) dX12_isSame_111 rfl ?_
          obtain ⟨x_10, ⟨N_10, f_10, e1_10, e2_10, e3_10⟩, h⟩ := h
          refine y_ialdx dX12_isSame_112 e1_10 e2_10 e3_10 ?_
          refine y_if_ne (t := 120) dX12_isSame_113 (by decide) (fun q => ?_) (fun q => ?_)
          · replace h := h.1 q
            refine y_aload_n 3 dX12_isSame_120 rfl rfl ?_
            refine y_iconst (v := 1) dX12_isSame_121 rfl ?_
            obtain ⟨x_11, ⟨N_11, f_11, e1_11, e2_11, e3_11⟩, h⟩ := h
            refine y_ialdx dX12_isSame_122 e1_11 e2_11 e3_11 ?_
            refine y_i2d dX12_isSame_123 ?_
            refine y_aload_n 3 dX12_isSame_124 rfl rfl ?_
            refine y_iconst (v := 0) dX12_isSame_125 rfl ?_
            obtain ⟨x_12, ⟨N_12, f_12, e1_12, e2_12, e3_12⟩, h⟩ := h
            refine y_ialdx dX12_isSame_126 e1_12 e2_12 e3_12 ?_
            refine y_i2d dX12_isSame_127 ?_
            have h1 := h.1
            replace h := h.2
            refine y_ddiv dX12_isSame_128 h1 ?_
            refine y_dcmp dX12_isSame_129 rfl ?_
            refine y_if_eq (t := 135) dX12_isSame_130 (by decide) (fun q => ?_) (fun q => ?_)
            · replace h := h.1 q
              exact Yx.sub (ks := [0, 1, 2]) rfl h
            · replace h := h.2 q
              exact Yx.sub (ks := []) rfl h
          · replace h := h.2 q
            refine y_dconst0 dX12_isSame_116 ?_
            refine y_goto (t := 129) dX12_isSame_117 (by decide) ?_
            refine y_dcmp dX12_isSame_129 rfl ?_
            refine y_if_eq (t := 135) dX12_isSame_130 (by decide) (fun q => ?_) (fun q => ?_)
            · replace h := h.1 q
              exact Yx.sub (ks := [0, 1, 2]) rfl h
            · replace h := h.2 q
              exact Yx.sub (ks := []) rfl h
set_option maxHeartbeats 4000000 in
set_option maxRecDepth 100000 in
theorem C_X12_isSame (G : eG) (M : eM) (H : yH) (F : Bool → eM → yH → Prop) (a0 : Nat)
    (h : (0 + 1 ≤ 10 ∧ 0 + 49 ≤ 700) ∧ yIs H a0 10 ∧ yCal G (1, 1, 49) kX12_board [.ref a0] M H (yFR (fun (r_1 : Nat) (M_1 : eM) (H_1 : yH) => ((0 + 1) + 2 ≤ 10 ∧ (0 + 49) + 54 ≤ 700) ∧ yIs H_1 a0 10 ∧ yCal G (3, 2, 54) kX12_counts [.ref a0] M_1 H_1 (yFR (fun (r_2 : Nat) (M_2 : eM) (H_2 : yH) => ((0 + 1 + 2) + 0 ≤ 10 ∧ (0 + 49 + 54) + 0 ≤ 700) ∧ Cal G 0 68 (1, 0, 0) kX10_columns [.ref (G.1 0)] M_2 (eFI (fun (r_3 : Int32) (M_3 : eM) => ∃ (x_4 : Int32), yG H_2 a0 10 0 (.int x_4) ∧ (((¬ r_3 = x_4) → Yx (yX "isSame") (yZ G 10 700 (yFZ F)) G (eR (10, 10, 700)) kX12_isSame 133 [] [] M_3 H_2 (0 + 1 + 2) (0 + 49 + 54)) ∧ ((r_3 = x_4) → ((0 + 1 + 2) + 0 ≤ 10 ∧ (0 + 49 + 54) + 0 ≤ 700) ∧ Cal G 0 68 (1, 0, 0) kX10_rows [.ref (G.1 0)] M_3 (eFI (fun (r_5 : Int32) (M_5 : eM) => ∃ (x_6 : Int32), yG H_2 a0 10 1 (.int x_6) ∧ (((¬ r_5 = x_6) → Yx (yX "isSame") (yZ G 10 700 (yFZ F)) G (eR (10, 10, 700)) kX12_isSame 133 [] [] M_5 H_2 (0 + 1 + 2) (0 + 49 + 54)) ∧ ((r_5 = x_6) → ((0 + 1 + 2) + 0 ≤ 10 ∧ (0 + 49 + 54) + 0 ≤ 700) ∧ Cal G 0 68 (1, 0, 0) kX10_tiles [.ref (G.1 0)] M_5 (eFI (fun (r_7 : Int32) (M_7 : eM) => ∃ (b_8 : Nat), yG H_2 a0 10 2 (.ref b_8) ∧ (∃ (n_9 : Nat), yLn G 5 H_2 b_8 n_9 ∧ (((¬ r_7 = (nI n_9)) → Yx (yX "isSame") (yZ G 10 700 (yFZ F)) G (eR (10, 10, 700)) kX12_isSame 133 [] [] M_7 H_2 (0 + 1 + 2) (0 + 49 + 54)) ∧ ((r_7 = (nI n_9)) → ((0 + 1 + 2) + 0 ≤ 10 ∧ (0 + 49 + 54) + 0 ≤ 700) ∧ Cal G 0 68 (1, 0, 0) kX10_rounds [.ref (G.1 0)] M_7 (eFI (fun (r_10 : Int32) (M_10 : eM) => ∃ (x_11 : Int32), yG H_2 a0 10 3 (.int x_11) ∧ (((¬ r_10 = x_11) → Yx (yX "isSame") (yZ G 10 700 (yFZ F)) G (eR (10, 10, 700)) kX12_isSame 133 [] [] M_10 H_2 (0 + 1 + 2) (0 + 49 + 54)) ∧ ((r_10 = x_11) → ((0 + 1 + 2) + 0 ≤ 10 ∧ (0 + 49 + 54) + 0 ≤ 700) ∧ Cal G 0 68 (3, 0, 0) kX10_matches [.ref (G.1 0)] M_10 (eFI (fun (r_12 : Int32) (M_12 : eM) => ∃ (x_13 : Int32), yEI G H_2 r_2 0 x_13 ∧ (((¬ r_12 = x_13) → Yx (yX "isSame") (yZ G 10 700 (yFZ F)) G (eR (10, 10, 700)) kX12_isSame 133 [] [] M_12 H_2 (0 + 1 + 2) (0 + 49 + 54)) ∧ ((r_12 = x_13) → Yx (yX "isSame") (yZ G 10 700 (yFZ F)) G (eR (10, 10, 700)) kX12_isSame 65 [(0, .ref a0), (1, .ref (G.1 0)), (2, .ref r_1), (3, .ref r_2)] [] M_12 H_2 (0 + 1 + 2) (0 + 49 + 54))))))))))))))))))))))))))) :
    yCal G (10, 10, 700) kX12_isSame [.ref a0, .ref (G.1 0)] M H (yFZ F) := by
  refine yCal.of (by decide +kernel) rfl (Nat.le_of_ble_eq_true rfl) ?_
  show Yx (yX "isSame") (yZ G 10 700 (yFZ F)) G (eR (10, 10, 700)) kX12_isSame 0 [(0, .ref a0), (1, .ref (G.1 0))] [] M H 0 0
  refine y_aload_n 0 dX12_isSame_0 rfl rfl ?_
  have hb := h.1
  replace h := h.2
  obtain ⟨⟨fs_1, hi⟩, h⟩ := h
  refine y_callV yXn (b' := (1, 1, 49)) (K' := kX12_board) (As := []) (S := []) dX12_isSame_1 mX12_board lMX12_59 clX12 rfl hi rfl ⟨(by decide), hb⟩ (Nat.le_of_ble_eq_true rfl) h (fun v_ M_1 H_1 q_ => ?_) rfl
  obtain ⟨r_1, rfl, h⟩ := q_
  refine y_astore_n (i := 2) (l' := [(2, .ref r_1), (0, .ref a0), (1, .ref (G.1 0))]) dX12_isSame_4 rfl (by decide) rfl ?_
  refine y_aload_n 1 dX12_isSame_5 rfl rfl ?_
  have hb := h.1
  replace h := h.2
  obtain ⟨⟨fs_2, hi⟩, h⟩ := h
  refine y_callV yXn (b' := (3, 2, 54)) (K' := kX12_counts) (As := []) (S := []) dX12_isSame_6 mX12_counts lMX12_71 clX12 rfl hi rfl ⟨(by decide), hb⟩ (Nat.le_of_ble_eq_true rfl) h (fun v_ M_2 H_2 q_ => ?_) rfl
  obtain ⟨r_2, rfl, h⟩ := q_
  refine y_astore_n (i := 3) (l' := [(3, .ref r_2), (2, .ref r_1), (0, .ref a0), (1, .ref (G.1 0))]) dX12_isSame_9 rfl (by decide) rfl ?_
  refine y_aload_n 3 dX12_isSame_10 rfl rfl ?_
  have hb := h.1
  replace h := h.2
  refine y_callM yXn (b' := (1, 0, 0)) (K' := kX10_columns) (As := []) (S := []) dX12_isSame_11 mX10_columns lMX12_74 rfl rfl ⟨(by decide), hb⟩ (Nat.le_of_ble_eq_true rfl) (yCal.cls h) (fun v_ M_ H_ q_ => ?_) rfl
  obtain ⟨⟨r_3, rfl, h⟩, rfl⟩ := q_
  revert h
  generalize M_ = M_3
  intro h
  refine y_aload_n 2 dX12_isSame_14 rfl rfl ?_
  obtain ⟨x_4, ⟨fs_4, e1_4, e2_4⟩, h⟩ := h
  refine y_get (k := 0) dX12_isSame_15 clX12 lFX12_7 (by decide) e1_4 e2_4 ?_
  refine y_icmp_ne (t := 133) dX12_isSame_18 (by decide) (fun q => ?_) (fun q => ?_)
  · replace h := h.1 q
    exact Yx.sub (ks := []) rfl h
  · replace h := h.2 q
    refine y_aload_n 3 dX12_isSame_21 rfl rfl ?_
    have hb := h.1
    replace h := h.2
    refine y_callM yXn (b' := (1, 0, 0)) (K' := kX10_rows) (As := []) (S := []) dX12_isSame_22 mX10_rows lMX12_78 rfl rfl ⟨(by decide), hb⟩ (Nat.le_of_ble_eq_true rfl) (yCal.cls h) (fun v_ M_ H_ q_ => ?_) rfl
    obtain ⟨⟨r_5, rfl, h⟩, rfl⟩ := q_
    revert h
    generalize M_ = M_5
    intro h
    refine y_aload_n 2 dX12_isSame_25 rfl rfl ?_
    obtain ⟨x_6, ⟨fs_6, e1_6, e2_6⟩, h⟩ := h
    refine y_get (k := 1) dX12_isSame_26 clX12 lFX12_13 (by decide) e1_6 e2_6 ?_
    refine y_icmp_ne (t := 133) dX12_isSame_29 (by decide) (fun q => ?_) (fun q => ?_)
    · replace h := h.1 q
      exact Yx.sub (ks := []) rfl h
    · replace h := h.2 q
      refine y_aload_n 3 dX12_isSame_32 rfl rfl ?_
      have hb := h.1
      replace h := h.2
      refine y_callM yXn (b' := (1, 0, 0)) (K' := kX10_tiles) (As := []) (S := []) dX12_isSame_33 mX10_tiles lMX12_80 rfl rfl ⟨(by decide), hb⟩ (Nat.le_of_ble_eq_true rfl) (yCal.cls h) (fun v_ M_ H_ q_ => ?_) rfl
      obtain ⟨⟨r_7, rfl, h⟩, rfl⟩ := q_
      revert h
      generalize M_ = M_7
      intro h
      refine y_aload_n 2 dX12_isSame_36 rfl rfl ?_
      obtain ⟨b_8, ⟨fs_8, e1_8, e2_8⟩, h⟩ := h
      refine y_get (k := 2) dX12_isSame_37 clX12 lFX12_18 (by decide) e1_8 e2_8 ?_
      obtain ⟨n_9, ⟨v_9, e1_9, e2_9⟩, h⟩ := h
      refine y_alenx (t := 5) (ty := .array .int) dX12_isSame_40 rfl e1_9 e2_9 ?_
      refine y_icmp_ne (t := 133) dX12_isSame_41 (by decide) (fun q => ?_) (fun q => ?_)
      · replace h := h.1 q
        exact Yx.sub (ks := []) rfl h
      · replace h := h.2 q
        refine y_aload_n 3 dX12_isSame_44 rfl rfl ?_
        have hb := h.1
        replace h := h.2
        refine y_callM yXn (b' := (1, 0, 0)) (K' := kX10_rounds) (As := []) (S := []) dX12_isSame_45 mX10_rounds lMX12_82 rfl rfl ⟨(by decide), hb⟩ (Nat.le_of_ble_eq_true rfl) (yCal.cls h) (fun v_ M_ H_ q_ => ?_) rfl
        obtain ⟨⟨r_10, rfl, h⟩, rfl⟩ := q_
        revert h
        generalize M_ = M_10
        intro h
        refine y_aload_n 2 dX12_isSame_48 rfl rfl ?_
        obtain ⟨x_11, ⟨fs_11, e1_11, e2_11⟩, h⟩ := h
        refine y_get (k := 3) dX12_isSame_49 clX12 lFX12_33 (by decide) e1_11 e2_11 ?_
        refine y_icmp_ne (t := 133) dX12_isSame_52 (by decide) (fun q => ?_) (fun q => ?_)
        · replace h := h.1 q
          exact Yx.sub (ks := []) rfl h
        · replace h := h.2 q
          refine y_aload_n 3 dX12_isSame_55 rfl rfl ?_
          have hb := h.1
          replace h := h.2
          refine y_callM yXn (b' := (3, 0, 0)) (K' := kX10_matches) (As := []) (S := []) dX12_isSame_56 mX10_matches lMX12_84 rfl rfl ⟨(by decide), hb⟩ (Nat.le_of_ble_eq_true rfl) (yCal.cls h) (fun v_ M_ H_ q_ => ?_) rfl
          obtain ⟨⟨r_12, rfl, h⟩, rfl⟩ := q_
          revert h
          generalize M_ = M_12
          intro h
          refine y_aload_n 0 dX12_isSame_59 rfl rfl ?_
          refine y_iconst (v := 0) dX12_isSame_60 rfl ?_
          obtain ⟨x_13, ⟨N_13, f_13, e1_13, e2_13, e3_13⟩, h⟩ := h
          refine y_ialdx dX12_isSame_61 e1_13 e2_13 e3_13 ?_
          refine y_icmp_ne (t := 133) dX12_isSame_62 (by decide) (fun q => ?_) (fun q => ?_)
          · replace h := h.1 q
            exact Yx.sub (ks := []) rfl h
          · replace h := h.2 q
            exact Yx.sub (ks := [2, 3, 1, 0]) rfl h
