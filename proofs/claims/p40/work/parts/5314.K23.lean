set_option maxHeartbeats 4000000 in
set_option maxRecDepth 100000 in
theorem B_L_act_312 (G : eG) (ca sl : Nat) (M : eM) (H : yH) (F : Bool → eM → yH → Prop) (x7 : Int32) (x8 : Int32)
    (h : ((¬ x7 = x8) → (ca ≤ 700 ∧ sl ≤ 19600) ∧ F false M H) ∧ ((x7 = x8) → ((x8 = (-9 : Int32)) → (ca ≤ 700 ∧ sl ≤ 19600) ∧ F false M H) ∧ ((¬ x8 = (-9 : Int32)) → (ca ≤ 700 ∧ sl ≤ 19600) ∧ F true M H))) :
    Yx yXA (yZ G 700 19600 (yFZ F)) G (eR (13, 700, 19600)) kL_act 312 [(7, .int x7), (8, .int x8)] [] M H ca sl := by
  refine y_iload 0 dL_act_312 rfl ?_
  refine y_iload 1 dL_act_314 rfl ?_
  refine y_icmp_ne (t := 330) dL_act_316 (by decide) (fun q => ?_) (fun q => ?_)
  · replace h := h.1 q
    refine y_iconst (v := 0) dL_act_330 rfl ?_
    have hb := h.1
    replace h := h.2
    exact y_zret (v := eZi false) dL_act_331 rfl (eZi_nw _) hb.1 hb.2 ⟨_, rfl, h⟩
  · replace h := h.2 q
    refine y_iload 1 dL_act_319 rfl ?_
    refine y_bipush (v := (-9)) dL_act_321 rfl ?_
    refine y_icmp_eq (t := 330) dL_act_323 (by decide) (fun q => ?_) (fun q => ?_)
    · replace h := h.1 q
      refine y_iconst (v := 0) dL_act_330 rfl ?_
      have hb := h.1
      replace h := h.2
      exact y_zret (v := eZi false) dL_act_331 rfl (eZi_nw _) hb.1 hb.2 ⟨_, rfl, h⟩
    · replace h := h.2 q
      refine y_iconst (v := 1) dL_act_326 rfl ?_
      refine y_goto (t := 331) dL_act_327 (by decide) ?_
      have hb := h.1
      replace h := h.2
      exact y_zret (v := eZi true) dL_act_331 rfl (eZi_nw _) hb.1 hb.2 ⟨_, rfl, h⟩
set_option maxHeartbeats 4000000 in
set_option maxRecDepth 100000 in
theorem B_L_act_294 (G : eG) (ca sl : Nat) (M : eM) (H : yH) (F : Bool → eM → yH → Prop) (x7 : Int32) (x8 : Int32)
    (h : Yx yXA (yZ G 700 19600 (yFZ F)) G (eR (13, 700, 19600)) kL_act 312 [(7, .int x7), (8, .int x8)] [] M H ca sl) :
    Yx yXA (yZ G 700 19600 (yFZ F)) G (eR (13, 700, 19600)) kL_act 294 [(7, .int x7), (8, .int x8)] [] M H ca sl := by
  refine y_goto (t := 312) dL_act_294 (by decide) ?_
  exact h
set_option maxHeartbeats 4000000 in
set_option maxRecDepth 100000 in
theorem B_L_act_286 (G : eG) (ca sl : Nat) (M : eM) (H : yH) (F : Bool → eM → yH → Prop) (x5 : Int32) (x8 : Int32)
    (h : ((ca + 0 ≤ 700 ∧ sl + 0 ≤ 19600) ∧ Cal G 0 68 (4, 0, 0) kX10_takeTile [.ref (G.1 0), .int x5] M (eFI (fun (r_1 : Int32) (M_1 : eM) => Yx yXA (yZ G 700 19600 (yFZ F)) G (eR (13, 700, 19600)) kL_act 294 [(7, .int r_1), (8, .int x8)] [] M_1 H ca sl))) ∨ (CalX G 0 68 (10, 1, 6) kX10_takeTile [.ref (G.1 0), .int x5] M "java/lang/IllegalStateException" ∧ (ca + 1 ≤ 700 ∧ sl + 6 ≤ 19600) ∧ ∀ q_1 : Nat, (((¬ x8 = (-9 : Int32)) → (ca + 1 ≤ 700 ∧ sl + 6 ≤ 19600) ∧ F false M H) ∧ ((x8 = (-9 : Int32)) → (ca + 1 ≤ 700 ∧ sl + 6 ≤ 19600) ∧ F true M H)))) :
    Yx yXA (yZ G 700 19600 (yFZ F)) G (eR (13, 700, 19600)) kL_act 286 [(0, .ref (G.1 0)), (5, .int x5), (8, .int x8)] [] M H ca sl := by
  refine y_aload_n 0 dL_act_286 rfl rfl ?_
  refine y_iload 1 dL_act_287 rfl ?_
  rcases h with h | ⟨hx, hb, h⟩
  · have hb := h.1
    replace h := h.2
    refine y_callM yXAk (b' := (4, 0, 0)) (K' := kX10_takeTile) (As := [.int x5]) (S := []) dL_act_289 mX10_takeTile lML_115 rfl rfl ⟨(by decide), hb⟩ (Nat.le_of_ble_eq_true rfl) (yCal.cls h) (fun v_ M_ H_ q_ => ?_) rfl
    obtain ⟨⟨r_1, rfl, h⟩, rfl⟩ := q_
    revert h
    generalize M_ = M_1
    intro h
    refine y_istore (i := 7) (l' := [(7, .int r_1), (0, .ref (G.1 0)), (5, .int x5), (8, .int x8)]) dL_act_292 (by decide) rfl ?_
    exact Yx.sub (ks := [0, 3]) rfl h
  · refine y_catchM (b' := (10, 1, 6)) (K' := kX10_takeTile) (As := [.int x5]) (S := []) dL_act_289 mX10_takeTile lML_115 rfl rfl ⟨(by decide), hb⟩ (Nat.le_of_ble_eq_true rfl) hx (by decide) (fun q_1 => ?_) rfl
    replace h := h q_1
    refine y_astore (i := 9) (l' := [(9, .ref q_1), (0, .ref (G.1 0)), (5, .int x5), (8, .int x8)]) dL_act_297 (by decide) rfl ?_
    refine y_iload 3 dL_act_299 rfl ?_
    refine y_bipush (v := (-9)) dL_act_301 rfl ?_
    refine y_icmp_ne (t := 310) dL_act_303 (by decide) (fun q => ?_) (fun q => ?_)
    · replace h := h.1 q
      refine y_iconst (v := 0) dL_act_310 rfl ?_
      have hb := h.1
      replace h := h.2
      exact y_zret (v := eZi false) dL_act_311 rfl (eZi_nw _) hb.1 hb.2 ⟨_, rfl, h⟩
    · replace h := h.2 q
      refine y_iconst (v := 1) dL_act_306 rfl ?_
      refine y_goto (t := 311) dL_act_307 (by decide) ?_
      have hb := h.1
      replace h := h.2
      exact y_zret (v := eZi true) dL_act_311 rfl (eZi_nw _) hb.1 hb.2 ⟨_, rfl, h⟩
set_option maxHeartbeats 4000000 in
set_option maxRecDepth 100000 in
theorem B_L_act_255 (G : eG) (ca sl : Nat) (M : eM) (H : yH) (F : Bool → eM → yH → Prop) (a1 : Nat) (x5 : Int32) (x6 : Int32) (x9 : Int32)
    (h : ∃ (b_1 : Nat), yG H a1 10 2 (.ref b_1) ∧ (∃ (b_2 : Nat), yER G 5 H b_1 x5 b_2 ∧ (∃ (N_3 : Nat) (f_3 : Nat → Int32), H b_2 = some (.inl (G.2.2.2 0, (N_3, .inl f_3))) ∧ vp_in 3 N_3 ∧ (((x9 = (0 : Int32)) → Yx yXA (yZ G 700 19600 (yFZ F)) G (eR (13, 700, 19600)) kL_act 286 [(0, .ref (G.1 0)), (5, .int x5), (8, .int (-9))] [] M (yU H b_2 (.inl (G.2.2.2 0, (N_3, .inl (upd f_3 (3 : Int32).toNatClampNeg (-1)))))) ca sl) ∧ ((¬ x9 = (0 : Int32)) → (ca + 2 ≤ 700 ∧ sl + 54 ≤ 19600) ∧ yIs (yU H b_2 (.inl (G.2.2.2 0, (N_3, .inl (upd f_3 (3 : Int32).toNatClampNeg (-1)))))) a1 10 ∧ yCal G (3, 2, 54) kX12_counts [.ref a1] M (yU H b_2 (.inl (G.2.2.2 0, (N_3, .inl (upd f_3 (3 : Int32).toNatClampNeg (-1)))))) (yFR (fun (r_4 : Nat) (M_4 : eM) (H_4 : yH) => ∃ (x_5 : Int32), yEI G H_4 r_4 3 x_5 ∧ (Yx yXA (yZ G 700 19600 (yFZ F)) G (eR (13, 700, 19600)) kL_act 286 [(0, .ref (G.1 0)), (5, .int x5), (8, .int (x6 - x_5))] [] M_4 H_4 (ca + 2) (sl + 54))))))))) :
    Yx yXA (yZ G 700 19600 (yFZ F)) G (eR (13, 700, 19600)) kL_act 255 [(0, .ref (G.1 0)), (1, .ref a1), (5, .int x5), (6, .int x6), (9, .int x9)] [] M H ca sl := by
  refine y_aload_n 1 dL_act_255 rfl rfl ?_
  obtain ⟨b_1, ⟨fs_1, e1_1, e2_1⟩, h⟩ := h
  refine y_get (k := 2) dL_act_256 clX12 lFL_64 (by decide) e1_1 e2_1 ?_
  refine y_iload 2 dL_act_259 rfl ?_
  obtain ⟨b_2, ⟨N_2, f_2, e1_2, e2_2, e3_2⟩, h⟩ := h
  refine y_aald (t := 5) (ty := .array .int) dL_act_261 rfl rfl e1_2 e2_2 e3_2 ?_
  refine y_iconst (v := 3) dL_act_262 rfl ?_
  refine y_iconst (v := (-1)) dL_act_263 rfl ?_
  obtain ⟨N_3, f_3, e1_3, e2_3, h⟩ := h
  refine y_iast yXAk dL_act_264 e1_3 e2_3 ?_
  refine y_iload 4 dL_act_265 rfl ?_
  refine y_if_eq (t := 282) dL_act_267 (by decide) (fun q => ?_) (fun q => ?_)
  · replace h := h.1 q
    refine y_bipush (v := (-9)) dL_act_282 rfl ?_
    refine y_istore (i := 8) (l' := [(8, .int (-9)), (0, .ref (G.1 0)), (1, .ref a1), (5, .int x5), (6, .int x6), (9, .int x9)]) dL_act_284 (by decide) rfl ?_
    exact Yx.sub (ks := [1, 3, 0]) rfl h
  · replace h := h.2 q
    refine y_iload 3 dL_act_270 rfl ?_
    refine y_aload_n 1 dL_act_272 rfl rfl ?_
    have hb := h.1
    replace h := h.2
    obtain ⟨⟨fs_4, hi⟩, h⟩ := h
    refine y_callV yXAk (b' := (3, 2, 54)) (K' := kX12_counts) (As := []) (S := [.int x6]) dL_act_273 mX12_counts lML_93 clX12 rfl hi rfl ⟨(by decide), hb⟩ (Nat.le_of_ble_eq_true rfl) h (fun v_ M_4 H_4 q_ => ?_) rfl
    obtain ⟨r_4, rfl, h⟩ := q_
    refine y_iconst (v := 3) dL_act_276 rfl ?_
    obtain ⟨x_5, ⟨N_5, f_5, e1_5, e2_5, e3_5⟩, h⟩ := h
    refine y_ialdx dL_act_277 e1_5 e2_5 e3_5 ?_
    refine y_isub dL_act_278 ?_
    refine y_goto (t := 284) dL_act_279 (by decide) ?_
    refine y_istore (i := 8) (l' := [(8, .int (x6 - x_5)), (0, .ref (G.1 0)), (1, .ref a1), (5, .int x5), (6, .int x6), (9, .int x9)]) dL_act_284 (by decide) rfl ?_
    exact Yx.sub (ks := [1, 3, 0]) rfl h
set_option maxHeartbeats 4000000 in
set_option maxRecDepth 100000 in
theorem B_L_act_236 (G : eG) (ca sl : Nat) (M : eM) (H : yH) (F : Bool → eM → yH → Prop) (a1 : Nat) (x5 : Int32) (x6 : Int32)
    (h : ∃ (b_1 : Nat), yG H a1 10 2 (.ref b_1) ∧ (∃ (b_2 : Nat), yER G 5 H b_1 x5 b_2 ∧ (∃ (x_3 : Int32), yEI G H b_2 3 x_3 ∧ (((x_3 < (0 : Int32)) → Yx yXA (yZ G 700 19600 (yFZ F)) G (eR (13, 700, 19600)) kL_act 255 [(0, .ref (G.1 0)), (1, .ref a1), (5, .int x5), (6, .int x6), (9, .int 0)] [] M H ca sl) ∧ ((¬ x_3 < (0 : Int32)) → Yx yXA (yZ G 700 19600 (yFZ F)) G (eR (13, 700, 19600)) kL_act 255 [(0, .ref (G.1 0)), (1, .ref a1), (5, .int x5), (6, .int x6), (9, .int 1)] [] M H ca sl))))) :
    Yx yXA (yZ G 700 19600 (yFZ F)) G (eR (13, 700, 19600)) kL_act 236 [(0, .ref (G.1 0)), (1, .ref a1), (5, .int x5), (6, .int x6)] [] M H ca sl := by
  refine y_aload_n 1 dL_act_236 rfl rfl ?_
  obtain ⟨b_1, ⟨fs_1, e1_1, e2_1⟩, h⟩ := h
  refine y_get (k := 2) dL_act_237 clX12 lFL_64 (by decide) e1_1 e2_1 ?_
  refine y_iload 2 dL_act_240 rfl ?_
  obtain ⟨b_2, ⟨N_2, f_2, e1_2, e2_2, e3_2⟩, h⟩ := h
  refine y_aald (t := 5) (ty := .array .int) dL_act_242 rfl rfl e1_2 e2_2 e3_2 ?_
  refine y_iconst (v := 3) dL_act_243 rfl ?_
  obtain ⟨x_3, ⟨N_3, f_3, e1_3, e2_3, e3_3⟩, h⟩ := h
  refine y_ialdx dL_act_244 e1_3 e2_3 e3_3 ?_
  refine y_if_lt (t := 252) dL_act_245 (by decide) (fun q => ?_) (fun q => ?_)
  · replace h := h.1 q
    refine y_iconst (v := 0) dL_act_252 rfl ?_
    refine y_istore (i := 9) (l' := [(9, .int 0), (0, .ref (G.1 0)), (1, .ref a1), (5, .int x5), (6, .int x6)]) dL_act_253 (by decide) rfl ?_
    exact Yx.sub (ks := [1, 2, 3, 4, 0]) rfl h
  · replace h := h.2 q
    refine y_iconst (v := 1) dL_act_248 rfl ?_
    refine y_goto (t := 253) dL_act_249 (by decide) ?_
    refine y_istore (i := 9) (l' := [(9, .int 1), (0, .ref (G.1 0)), (1, .ref a1), (5, .int x5), (6, .int x6)]) dL_act_253 (by decide) rfl ?_
    exact Yx.sub (ks := [1, 2, 3, 4, 0]) rfl h
set_option maxHeartbeats 4000000 in
set_option maxRecDepth 100000 in
theorem B_L_act_221 (G : eG) (ca sl : Nat) (M : eM) (H : yH) (F : Bool → eM → yH → Prop) (x5 : Int32) (x8 : Int32) (x10 : Int32) (x11 : Int32)
    (h : ((ca + 0 ≤ 700 ∧ sl + 0 ≤ 19600) ∧ Cal G 0 68 (4, 0, 0) kX10_putTile [.ref (G.1 0), .int x5, .int x10, .int x11] M (eFI (fun (r_1 : Int32) (M_1 : eM) => Yx yXA (yZ G 700 19600 (yFZ F)) G (eR (13, 700, 19600)) kL_act 294 [(7, .int r_1), (8, .int x8)] [] M_1 H ca sl))) ∨ (CalX G 0 68 (10, 1, 6) kX10_putTile [.ref (G.1 0), .int x5, .int x10, .int x11] M "java/lang/IllegalStateException" ∧ (ca + 1 ≤ 700 ∧ sl + 6 ≤ 19600) ∧ ∀ q_1 : Nat, (((¬ x8 = (-9 : Int32)) → (ca + 1 ≤ 700 ∧ sl + 6 ≤ 19600) ∧ F false M H) ∧ ((x8 = (-9 : Int32)) → (ca + 1 ≤ 700 ∧ sl + 6 ≤ 19600) ∧ F true M H)))) :
    Yx yXA (yZ G 700 19600 (yFZ F)) G (eR (13, 700, 19600)) kL_act 221 [(0, .ref (G.1 0)), (5, .int x5), (8, .int x8), (10, .int x10), (11, .int x11)] [] M H ca sl := by
  refine y_aload_n 0 dL_act_221 rfl rfl ?_
  refine y_iload 1 dL_act_222 rfl ?_
  refine y_iload 3 dL_act_224 rfl ?_
  refine y_iload 4 dL_act_226 rfl ?_
  rcases h with h | ⟨hx, hb, h⟩
  · have hb := h.1
    replace h := h.2
    refine y_callM yXAk (b' := (4, 0, 0)) (K' := kX10_putTile) (As := [.int x5, .int x10, .int x11]) (S := []) dL_act_228 mX10_putTile lML_111 rfl rfl ⟨(by decide), hb⟩ (Nat.le_of_ble_eq_true rfl) (yCal.cls h) (fun v_ M_ H_ q_ => ?_) rfl
    obtain ⟨⟨r_1, rfl, h⟩, rfl⟩ := q_
    revert h
    generalize M_ = M_1
    intro h
    refine y_istore (i := 7) (l' := [(7, .int r_1), (0, .ref (G.1 0)), (5, .int x5), (8, .int x8), (10, .int x10), (11, .int x11)]) dL_act_231 (by decide) rfl ?_
    refine y_goto (t := 294) dL_act_233 (by decide) ?_
    exact Yx.sub (ks := [0, 3]) rfl h
  · refine y_catchM (b' := (10, 1, 6)) (K' := kX10_putTile) (As := [.int x5, .int x10, .int x11]) (S := []) dL_act_228 mX10_putTile lML_111 rfl rfl ⟨(by decide), hb⟩ (Nat.le_of_ble_eq_true rfl) hx (by decide) (fun q_1 => ?_) rfl
    replace h := h q_1
    refine y_astore (i := 9) (l' := [(9, .ref q_1), (0, .ref (G.1 0)), (5, .int x5), (8, .int x8), (10, .int x10), (11, .int x11)]) dL_act_297 (by decide) rfl ?_
    refine y_iload 3 dL_act_299 rfl ?_
    refine y_bipush (v := (-9)) dL_act_301 rfl ?_
    refine y_icmp_ne (t := 310) dL_act_303 (by decide) (fun q => ?_) (fun q => ?_)
    · replace h := h.1 q
      refine y_iconst (v := 0) dL_act_310 rfl ?_
      have hb := h.1
      replace h := h.2
      exact y_zret (v := eZi false) dL_act_311 rfl (eZi_nw _) hb.1 hb.2 ⟨_, rfl, h⟩
    · replace h := h.2 q
      refine y_iconst (v := 1) dL_act_306 rfl ?_
      refine y_goto (t := 311) dL_act_307 (by decide) ?_
      have hb := h.1
      replace h := h.2
      exact y_zret (v := eZi true) dL_act_311 rfl (eZi_nw _) hb.1 hb.2 ⟨_, rfl, h⟩
set_option maxHeartbeats 4000000 in
set_option maxRecDepth 100000 in
theorem B_L_act_200 (G : eG) (ca sl : Nat) (M : eM) (H : yH) (F : Bool → eM → yH → Prop) (a1 : Nat) (x5 : Int32) (x6 : Int32) (x10 : Int32) (x11 : Int32) (x12 : Bool)
    (h : ((x12 = false) → Yx yXA (yZ G 700 19600 (yFZ F)) G (eR (13, 700, 19600)) kL_act 221 [(0, .ref (G.1 0)), (5, .int x5), (8, .int (-9)), (10, .int x10), (11, .int x11)] [] M H ca sl) ∧ ((x12 = true) → (ca + 2 ≤ 700 ∧ sl + 54 ≤ 19600) ∧ yIs H a1 10 ∧ yCal G (3, 2, 54) kX12_counts [.ref a1] M H (yFR (fun (r_1 : Nat) (M_1 : eM) (H_1 : yH) => ∃ (x_2 : Int32), yEI G H_1 r_1 3 x_2 ∧ (Yx yXA (yZ G 700 19600 (yFZ F)) G (eR (13, 700, 19600)) kL_act 221 [(0, .ref (G.1 0)), (5, .int x5), (8, .int (x_2 - x6)), (10, .int x10), (11, .int x11)] [] M_1 H_1 (ca + 2) (sl + 54)))))) :
    Yx yXA (yZ G 700 19600 (yFZ F)) G (eR (13, 700, 19600)) kL_act 200 [(0, .ref (G.1 0)), (1, .ref a1), (5, .int x5), (6, .int x6), (10, .int x10), (11, .int x11), (12, .int (eZi x12))] [] M H ca sl := by
  refine y_iload 6 dL_act_200 rfl ?_
  refine y_zif_eq (t := 217) dL_act_202 (by decide) (fun q => ?_) (fun q => ?_)
  · replace h := h.1 q
    refine y_bipush (v := (-9)) dL_act_217 rfl ?_
    refine y_istore (i := 8) (l' := [(8, .int (-9)), (0, .ref (G.1 0)), (1, .ref a1), (5, .int x5), (6, .int x6), (10, .int x10), (11, .int x11), (12, .int (eZi x12))]) dL_act_219 (by decide) rfl ?_
    exact Yx.sub (ks := [1, 3, 0, 5, 6]) rfl h
  · replace h := h.2 q
    refine y_aload_n 1 dL_act_205 rfl rfl ?_
    have hb := h.1
    replace h := h.2
    obtain ⟨⟨fs_1, hi⟩, h⟩ := h
    refine y_callV yXAk (b' := (3, 2, 54)) (K' := kX12_counts) (As := []) (S := []) dL_act_206 mX12_counts lML_93 clX12 rfl hi rfl ⟨(by decide), hb⟩ (Nat.le_of_ble_eq_true rfl) h (fun v_ M_1 H_1 q_ => ?_) rfl
    obtain ⟨r_1, rfl, h⟩ := q_
    refine y_iconst (v := 3) dL_act_209 rfl ?_
    obtain ⟨x_2, ⟨N_2, f_2, e1_2, e2_2, e3_2⟩, h⟩ := h
    refine y_ialdx dL_act_210 e1_2 e2_2 e3_2 ?_
    refine y_iload 3 dL_act_211 rfl ?_
    refine y_isub dL_act_213 ?_
    refine y_goto (t := 219) dL_act_214 (by decide) ?_
    refine y_istore (i := 8) (l' := [(8, .int (x_2 - x6)), (0, .ref (G.1 0)), (1, .ref a1), (5, .int x5), (6, .int x6), (10, .int x10), (11, .int x11), (12, .int (eZi x12))]) dL_act_219 (by decide) rfl ?_
    exact Yx.sub (ks := [1, 3, 0, 5, 6]) rfl h
set_option maxHeartbeats 4000000 in
set_option maxRecDepth 100000 in
theorem B_L_act_136 (G : eG) (ca sl : Nat) (M : eM) (H : yH) (F : Bool → eM → yH → Prop) (a1 : Nat) (a2 : Nat) (x5 : Int32) (x6 : Int32)
    (h : (ca + 1 ≤ 700 ∧ sl + 49 ≤ 19600) ∧ yIs H a1 10 ∧ yCal G (1, 1, 49) kX12_board [.ref a1] M H (yFR (fun (r_1 : Nat) (M_1 : eM) (H_1 : yH) => ∃ (n_2 : Nat), yLn G 0 H_1 r_1 n_2 ∧ (((ca + 1) + 0 ≤ 700 ∧ (sl + 49) + 0 ≤ 19600) ∧ yIs H_1 a2 9 ∧ yCal G (2, 0, 0) kX11_next [.ref a2, .int (nI n_2)] M_1 H_1 (yFI (fun (r_3 : Int32) (M_3 : eM) (H_3 : yH) => ((ca + 1) + 0 ≤ 700 ∧ (sl + 49) + 0 ≤ 19600) ∧ yIs H_3 a2 9 ∧ yCal G (2, 0, 0) kX11_next [.ref a2, .int 6] M_3 H_3 (yFI (fun (r_4 : Int32) (M_4 : eM) (H_4 : yH) => ((ca + 1) + 0 ≤ 700 ∧ (sl + 49) + 0 ≤ 19600) ∧ yIs H_4 a1 10 ∧ ∃ r_5 : Bool, yRd G (3, 0, 0) kX12_fits [.ref a1, .ref r_1, .int x5, .int r_3, .int r_4] M_4 H_4 (.int (eZi r_5)) ∧ (((r_5 = false) → Yx yXA (yZ G 700 19600 (yFZ F)) G (eR (13, 700, 19600)) kL_act 200 [(0, .ref (G.1 0)), (1, .ref a1), (5, .int x5), (6, .int x6), (10, .int r_3), (11, .int r_4), (12, .int (eZi r_5))] [] M_4 H_4 (ca + 1) (sl + 49)) ∧ ((r_5 = true) → ∃ (b_6 : Nat), yG H_4 a1 10 2 (.ref b_6) ∧ (∃ (b_7 : Nat), yER G 5 H_4 b_6 x5 b_7 ∧ (∃ (N_8 : Nat) (f_8 : Nat → Int32), H_4 b_7 = some (.inl (G.2.2.2 0, (N_8, .inl f_8))) ∧ vp_in 3 N_8 ∧ (∃ (b_9 : Nat), yG (yU H_4 b_7 (.inl (G.2.2.2 0, (N_8, .inl (upd f_8 (3 : Int32).toNatClampNeg r_3))))) a1 10 2 (.ref b_9) ∧ (∃ (b_10 : Nat), yER G 5 (yU H_4 b_7 (.inl (G.2.2.2 0, (N_8, .inl (upd f_8 (3 : Int32).toNatClampNeg r_3))))) b_9 x5 b_10 ∧ (∃ (N_11 : Nat) (f_11 : Nat → Int32), (yU H_4 b_7 (.inl (G.2.2.2 0, (N_8, .inl (upd f_8 (3 : Int32).toNatClampNeg r_3))))) b_10 = some (.inl (G.2.2.2 0, (N_11, .inl f_11))) ∧ vp_in 4 N_11 ∧ (Yx yXA (yZ G 700 19600 (yFZ F)) G (eR (13, 700, 19600)) kL_act 200 [(0, .ref (G.1 0)), (1, .ref a1), (5, .int x5), (6, .int x6), (10, .int r_3), (11, .int r_4), (12, .int (eZi r_5))] [] M_4 (yU (yU H_4 b_7 (.inl (G.2.2.2 0, (N_8, .inl (upd f_8 (3 : Int32).toNatClampNeg r_3))))) b_10 (.inl (G.2.2.2 0, (N_11, .inl (upd f_11 (4 : Int32).toNatClampNeg r_4))))) (ca + 1) (sl + 49))))))))))))))))) :
    Yx yXA (yZ G 700 19600 (yFZ F)) G (eR (13, 700, 19600)) kL_act 136 [(0, .ref (G.1 0)), (1, .ref a1), (2, .ref a2), (5, .int x5), (6, .int x6)] [] M H ca sl := by
  refine y_aload_n 1 dL_act_136 rfl rfl ?_
  have hb := h.1
  replace h := h.2
  obtain ⟨⟨fs_1, hi⟩, h⟩ := h
  refine y_callV yXAk (b' := (1, 1, 49)) (K' := kX12_board) (As := []) (S := []) dL_act_137 mX12_board lML_104 clX12 rfl hi rfl ⟨(by decide), hb⟩ (Nat.le_of_ble_eq_true rfl) h (fun v_ M_1 H_1 q_ => ?_) rfl
  obtain ⟨r_1, rfl, h⟩ := q_
  refine y_astore (i := 9) (l' := [(9, .ref r_1), (0, .ref (G.1 0)), (1, .ref a1), (2, .ref a2), (5, .int x5), (6, .int x6)]) dL_act_140 (by decide) rfl ?_
  refine y_aload_n 3 dL_act_142 rfl rfl ?_
  refine y_aload 0 dL_act_143 rfl ?_
  obtain ⟨n_2, ⟨v_2, e1_2, e2_2⟩, h⟩ := h
  refine y_alenx (t := 0) (ty := .int) dL_act_145 rfl e1_2 e2_2 ?_
  have hb := h.1
  replace h := h.2
  obtain ⟨⟨fs_3, hi⟩, h⟩ := h
  refine y_callV yXAk (b' := (2, 0, 0)) (K' := kX11_next) (As := [.int (nI n_2)]) (S := []) dL_act_146 mX11_next lML_35 clX11 rfl hi rfl ⟨(by decide), hb⟩ (Nat.le_of_ble_eq_true rfl) h (fun v_ M_3 H_3 q_ => ?_) rfl
  obtain ⟨r_3, rfl, h⟩ := q_
  refine y_istore (i := 10) (l' := [(10, .int r_3), (9, .ref r_1), (0, .ref (G.1 0)), (1, .ref a1), (2, .ref a2), (5, .int x5), (6, .int x6)]) dL_act_149 (by decide) rfl ?_
  refine y_aload_n 4 dL_act_151 rfl rfl ?_
  refine y_bipush (v := 6) dL_act_152 rfl ?_
  have hb := h.1
  replace h := h.2
  obtain ⟨⟨fs_4, hi⟩, h⟩ := h
  refine y_callV yXAk (b' := (2, 0, 0)) (K' := kX11_next) (As := [.int 6]) (S := []) dL_act_154 mX11_next lML_35 clX11 rfl hi rfl ⟨(by decide), hb⟩ (Nat.le_of_ble_eq_true rfl) h (fun v_ M_4 H_4 q_ => ?_) rfl
  obtain ⟨r_4, rfl, h⟩ := q_
  refine y_istore (i := 11) (l' := [(11, .int r_4), (10, .int r_3), (9, .ref r_1), (0, .ref (G.1 0)), (1, .ref a1), (2, .ref a2), (5, .int x5), (6, .int x6)]) dL_act_157 (by decide) rfl ?_
  refine y_aload_n 4 dL_act_159 rfl rfl ?_
  refine y_aload 2 dL_act_160 rfl ?_
  refine y_iload 6 dL_act_162 rfl ?_
  refine y_iload 1 dL_act_164 rfl ?_
  refine y_iload 0 dL_act_166 rfl ?_
  have hb := h.1
  replace h := h.2
  obtain ⟨⟨fs_5, hi⟩, h⟩ := h
  obtain ⟨r_5, hc, h⟩ := h
  refine y_callV yXAk (b' := (3, 0, 0)) (K' := kX12_fits) (As := [.ref r_1, .int x5, .int r_3, .int r_4]) (S := []) dL_act_168 mX12_fits lML_107 clX12 rfl hi rfl ⟨(by decide), hb⟩ (Nat.le_of_ble_eq_true rfl) hc (fun v_ M_ H_ q_ => ?_) rfl
  obtain ⟨rfl, rfl, rfl⟩ := q_
  refine y_istore (i := 12) (l' := [(12, .int (eZi r_5)), (11, .int r_4), (10, .int r_3), (9, .ref r_1), (0, .ref (G.1 0)), (1, .ref a1), (2, .ref a2), (5, .int x5), (6, .int x6)]) dL_act_171 (by decide) rfl ?_
  refine y_iload 0 dL_act_173 rfl ?_
  refine y_zif_eq (t := 200) dL_act_175 (by decide) (fun q => ?_) (fun q => ?_)
  · replace h := h.1 q
    exact Yx.sub (ks := [4, 5, 7, 8, 2, 1, 0]) rfl h
  · replace h := h.2 q
    refine y_aload_n 5 dL_act_178 rfl rfl ?_
    obtain ⟨b_6, ⟨fs_6, e1_6, e2_6⟩, h⟩ := h
    refine y_get (k := 2) dL_act_179 clX12 lFL_64 (by decide) e1_6 e2_6 ?_
    refine y_iload 7 dL_act_182 rfl ?_
    obtain ⟨b_7, ⟨N_7, f_7, e1_7, e2_7, e3_7⟩, h⟩ := h
    refine y_aald (t := 5) (ty := .array .int) dL_act_184 rfl rfl e1_7 e2_7 e3_7 ?_
    refine y_iconst (v := 3) dL_act_185 rfl ?_
    refine y_iload 2 dL_act_186 rfl ?_
    obtain ⟨N_8, f_8, e1_8, e2_8, h⟩ := h
    refine y_iast yXAk dL_act_188 e1_8 e2_8 ?_
    refine y_aload_n 5 dL_act_189 rfl rfl ?_
    obtain ⟨b_9, ⟨fs_9, e1_9, e2_9⟩, h⟩ := h
    refine y_get (k := 2) dL_act_190 clX12 lFL_64 (by decide) e1_9 e2_9 ?_
    refine y_iload 7 dL_act_193 rfl ?_
    obtain ⟨b_10, ⟨N_10, f_10, e1_10, e2_10, e3_10⟩, h⟩ := h
    refine y_aald (t := 5) (ty := .array .int) dL_act_195 rfl rfl e1_10 e2_10 e3_10 ?_
    refine y_iconst (v := 4) dL_act_196 rfl ?_
    refine y_iload 1 dL_act_197 rfl ?_
    obtain ⟨N_11, f_11, e1_11, e2_11, h⟩ := h
    refine y_iast yXAk dL_act_199 e1_11 e2_11 ?_
    exact Yx.sub (ks := [4, 5, 7, 8, 2, 1, 0]) rfl h
set_option maxHeartbeats 4000000 in
set_option maxRecDepth 100000 in
theorem B_L_act_118 (G : eG) (ca sl : Nat) (M : eM) (H : yH) (F : Bool → eM → yH → Prop) (x5 : Int32) (x8 : Int32)
    (h : ((ca + 0 ≤ 700 ∧ sl + 0 ≤ 19600) ∧ Cal G 0 68 (3, 0, 0) kX10_fitTile [.ref (G.1 0), .int x5] M (eFI (fun (r_1 : Int32) (M_1 : eM) => Yx yXA (yZ G 700 19600 (yFZ F)) G (eR (13, 700, 19600)) kL_act 294 [(7, .int r_1), (8, .int x8)] [] M_1 H ca sl))) ∨ (CalX G 0 68 (10, 1, 6) kX10_fitTile [.ref (G.1 0), .int x5] M "java/lang/IllegalStateException" ∧ (ca + 1 ≤ 700 ∧ sl + 6 ≤ 19600) ∧ ∀ q_1 : Nat, (((¬ x8 = (-9 : Int32)) → (ca + 1 ≤ 700 ∧ sl + 6 ≤ 19600) ∧ F false M H) ∧ ((x8 = (-9 : Int32)) → (ca + 1 ≤ 700 ∧ sl + 6 ≤ 19600) ∧ F true M H)))) :
    Yx yXA (yZ G 700 19600 (yFZ F)) G (eR (13, 700, 19600)) kL_act 118 [(0, .ref (G.1 0)), (5, .int x5), (8, .int x8)] [] M H ca sl := by
  refine y_aload_n 0 dL_act_118 rfl rfl ?_
  refine y_iload 1 dL_act_119 rfl ?_
  rcases h with h | ⟨hx, hb, h⟩
  · have hb := h.1
    replace h := h.2
    refine y_callM yXAk (b' := (3, 0, 0)) (K' := kX10_fitTile) (As := [.int x5]) (S := []) dL_act_121 mX10_fitTile lML_101 rfl rfl ⟨(by decide), hb⟩ (Nat.le_of_ble_eq_true rfl) (yCal.cls h) (fun v_ M_ H_ q_ => ?_) rfl
    obtain ⟨⟨r_1, rfl, h⟩, rfl⟩ := q_
    revert h
    generalize M_ = M_1
    intro h
    refine y_istore (i := 7) (l' := [(7, .int r_1), (0, .ref (G.1 0)), (5, .int x5), (8, .int x8)]) dL_act_124 (by decide) rfl ?_
    refine y_goto (t := 294) dL_act_126 (by decide) ?_
    exact Yx.sub (ks := [0, 3]) rfl h
  · refine y_catchM (b' := (10, 1, 6)) (K' := kX10_fitTile) (As := [.int x5]) (S := []) dL_act_121 mX10_fitTile lML_101 rfl rfl ⟨(by decide), hb⟩ (Nat.le_of_ble_eq_true rfl) hx (by decide) (fun q_1 => ?_) rfl
    replace h := h q_1
    refine y_astore (i := 9) (l' := [(9, .ref q_1), (0, .ref (G.1 0)), (5, .int x5), (8, .int x8)]) dL_act_297 (by decide) rfl ?_
    refine y_iload 3 dL_act_299 rfl ?_
    refine y_bipush (v := (-9)) dL_act_301 rfl ?_
    refine y_icmp_ne (t := 310) dL_act_303 (by decide) (fun q => ?_) (fun q => ?_)
    · replace h := h.1 q
      refine y_iconst (v := 0) dL_act_310 rfl ?_
      have hb := h.1
      replace h := h.2
      exact y_zret (v := eZi false) dL_act_311 rfl (eZi_nw _) hb.1 hb.2 ⟨_, rfl, h⟩
    · replace h := h.2 q
      refine y_iconst (v := 1) dL_act_306 rfl ?_
      refine y_goto (t := 311) dL_act_307 (by decide) ?_
      have hb := h.1
      replace h := h.2
      exact y_zret (v := eZi true) dL_act_311 rfl (eZi_nw _) hb.1 hb.2 ⟨_, rfl, h⟩
set_option maxHeartbeats 4000000 in
set_option maxRecDepth 100000 in
theorem B_L_act_93 (G : eG) (ca sl : Nat) (M : eM) (H : yH) (F : Bool → eM → yH → Prop) (a1 : Nat) (x5 : Int32)
    (h : (ca + 1 ≤ 700 ∧ sl + 49 ≤ 19600) ∧ yIs H a1 10 ∧ yCal G (4, 1, 49) kX12_fit [.ref a1, .int x5] M H (yFZ (fun (r_1 : Bool) (M_1 : eM) (H_1 : yH) => ((r_1 = false) → Yx yXA (yZ G 700 19600 (yFZ F)) G (eR (13, 700, 19600)) kL_act 118 [(0, .ref (G.1 0)), (5, .int x5), (8, .int (-9))] [] M_1 H_1 (ca + 1) (sl + 49)) ∧ ((r_1 = true) → ∃ (b_2 : Nat), yG H_1 a1 10 2 (.ref b_2) ∧ (∃ (b_3 : Nat), yER G 5 H_1 b_2 x5 b_3 ∧ (∃ (x_4 : Int32), yEI G H_1 b_3 3 x_4 ∧ (Yx yXA (yZ G 700 19600 (yFZ F)) G (eR (13, 700, 19600)) kL_act 118 [(0, .ref (G.1 0)), (5, .int x5), (8, .int x_4)] [] M_1 H_1 (ca + 1) (sl + 49)))))))) :
    Yx yXA (yZ G 700 19600 (yFZ F)) G (eR (13, 700, 19600)) kL_act 93 [(0, .ref (G.1 0)), (1, .ref a1), (5, .int x5)] [] M H ca sl := by
  refine y_aload_n 1 dL_act_93 rfl rfl ?_
  refine y_iload 2 dL_act_94 rfl ?_
  have hb := h.1
  replace h := h.2
  obtain ⟨⟨fs_1, hi⟩, h⟩ := h
  refine y_callV yXAk (b' := (4, 1, 49)) (K' := kX12_fit) (As := [.int x5]) (S := []) dL_act_96 mX12_fit lML_97 clX12 rfl hi rfl ⟨(by decide), hb⟩ (Nat.le_of_ble_eq_true rfl) h (fun v_ M_1 H_1 q_ => ?_) rfl
  obtain ⟨r_1, rfl, h⟩ := q_
  refine y_zif_eq (t := 114) dL_act_99 (by decide) (fun q => ?_) (fun q => ?_)
  · replace h := h.1 q
    refine y_bipush (v := (-9)) dL_act_114 rfl ?_
    refine y_istore (i := 8) (l' := [(8, .int (-9)), (0, .ref (G.1 0)), (1, .ref a1), (5, .int x5)]) dL_act_116 (by decide) rfl ?_
    exact Yx.sub (ks := [1, 3, 0]) rfl h
  · replace h := h.2 q
    refine y_aload_n 1 dL_act_102 rfl rfl ?_
    obtain ⟨b_2, ⟨fs_2, e1_2, e2_2⟩, h⟩ := h
    refine y_get (k := 2) dL_act_103 clX12 lFL_64 (by decide) e1_2 e2_2 ?_
    refine y_iload 2 dL_act_106 rfl ?_
    obtain ⟨b_3, ⟨N_3, f_3, e1_3, e2_3, e3_3⟩, h⟩ := h
    refine y_aald (t := 5) (ty := .array .int) dL_act_108 rfl rfl e1_3 e2_3 e3_3 ?_
    refine y_iconst (v := 3) dL_act_109 rfl ?_
    obtain ⟨x_4, ⟨N_4, f_4, e1_4, e2_4, e3_4⟩, h⟩ := h
    refine y_ialdx dL_act_110 e1_4 e2_4 e3_4 ?_
    refine y_goto (t := 116) dL_act_111 (by decide) ?_
    refine y_istore (i := 8) (l' := [(8, .int x_4), (0, .ref (G.1 0)), (1, .ref a1), (5, .int x5)]) dL_act_116 (by decide) rfl ?_
    exact Yx.sub (ks := [1, 3, 0]) rfl h
set_option maxHeartbeats 4000000 in
set_option maxRecDepth 100000 in
theorem B_L_act_68 (G : eG) (ca sl : Nat) (M : eM) (H : yH) (F : Bool → eM → yH → Prop) (a1 : Nat) (a2 : Nat) (x3 : Int32) (x4 : Int32)
    (h : (ca + 0 ≤ 700 ∧ sl + 0 ≤ 19600) ∧ yIs H a2 9 ∧ yCal G (2, 0, 0) kX11_next [.ref a2, .int x3] M H (yFI (fun (r_1 : Int32) (M_1 : eM) (H_1 : yH) => (ca + 2 ≤ 700 ∧ sl + 54 ≤ 19600) ∧ yIs H_1 a1 10 ∧ yCal G (3, 2, 54) kX12_counts [.ref a1] M_1 H_1 (yFR (fun (r_2 : Nat) (M_2 : eM) (H_2 : yH) => ∃ (x_3 : Int32), yEI G H_2 r_2 3 x_3 ∧ ((((5 : Int32) ≤ x4) → (((8 : Int32) ≤ x4) → Yx yXA (yZ G 700 19600 (yFZ F)) G (eR (13, 700, 19600)) kL_act 236 [(0, .ref (G.1 0)), (1, .ref a1), (5, .int r_1), (6, .int x_3)] [] M_2 H_2 (ca + 2) (sl + 54)) ∧ ((¬ (8 : Int32) ≤ x4) → Yx yXA (yZ G 700 19600 (yFZ F)) G (eR (13, 700, 19600)) kL_act 136 [(0, .ref (G.1 0)), (1, .ref a1), (2, .ref a2), (5, .int r_1), (6, .int x_3)] [] M_2 H_2 (ca + 2) (sl + 54))) ∧ ((¬ (5 : Int32) ≤ x4) → Yx yXA (yZ G 700 19600 (yFZ F)) G (eR (13, 700, 19600)) kL_act 93 [(0, .ref (G.1 0)), (1, .ref a1), (5, .int r_1)] [] M_2 H_2 (ca + 2) (sl + 54)))))))) :
    Yx yXA (yZ G 700 19600 (yFZ F)) G (eR (13, 700, 19600)) kL_act 68 [(0, .ref (G.1 0)), (1, .ref a1), (2, .ref a2), (3, .int x3), (4, .int x4)] [] M H ca sl := by
  refine y_aload_n 2 dL_act_68 rfl rfl ?_
  refine y_iload_n 3 dL_act_69 rfl rfl ?_
  have hb := h.1
  replace h := h.2
  obtain ⟨⟨fs_1, hi⟩, h⟩ := h
  refine y_callV yXAk (b' := (2, 0, 0)) (K' := kX11_next) (As := [.int x3]) (S := []) dL_act_70 mX11_next lML_35 clX11 rfl hi rfl ⟨(by decide), hb⟩ (Nat.le_of_ble_eq_true rfl) h (fun v_ M_1 H_1 q_ => ?_) rfl
  obtain ⟨r_1, rfl, h⟩ := q_
  refine y_istore (i := 5) (l' := [(5, .int r_1), (0, .ref (G.1 0)), (1, .ref a1), (2, .ref a2), (3, .int x3), (4, .int x4)]) dL_act_73 (by decide) rfl ?_
  refine y_aload_n 2 dL_act_75 rfl rfl ?_
  have hb := h.1
  replace h := h.2
  obtain ⟨⟨fs_2, hi⟩, h⟩ := h
  refine y_callV yXAk (b' := (3, 2, 54)) (K' := kX12_counts) (As := []) (S := []) dL_act_76 mX12_counts lML_93 clX12 rfl hi rfl ⟨(by decide), hb⟩ (Nat.le_of_ble_eq_true rfl) h (fun v_ M_2 H_2 q_ => ?_) rfl
  obtain ⟨r_2, rfl, h⟩ := q_
  refine y_iconst (v := 3) dL_act_79 rfl ?_
  obtain ⟨x_3, ⟨N_3, f_3, e1_3, e2_3, e3_3⟩, h⟩ := h
  refine y_ialdx dL_act_80 e1_3 e2_3 e3_3 ?_
  refine y_istore (i := 6) (l' := [(6, .int x_3), (5, .int r_1), (0, .ref (G.1 0)), (1, .ref a1), (2, .ref a2), (3, .int x3), (4, .int x4)]) dL_act_81 (by decide) rfl ?_
  refine y_bipush (v := (-9)) dL_act_83 rfl ?_
  refine y_istore (i := 8) (l' := [(8, .int (-9)), (6, .int x_3), (5, .int r_1), (0, .ref (G.1 0)), (1, .ref a1), (2, .ref a2), (3, .int x3), (4, .int x4)]) dL_act_85 (by decide) rfl ?_
  refine y_iload 7 dL_act_87 rfl ?_
  refine y_iconst (v := 5) dL_act_89 rfl ?_
  refine y_icmp_ge (t := 129) dL_act_90 (by decide) (fun q => ?_) (fun q => ?_)
  · replace h := h.1 q
    refine y_iload 7 dL_act_129 rfl ?_
    refine y_bipush (v := 8) dL_act_131 rfl ?_
    refine y_icmp_ge (t := 236) dL_act_133 (by decide) (fun q => ?_) (fun q => ?_)
    · replace h := h.1 q
      exact Yx.sub (ks := [3, 4, 2, 1]) rfl h
    · replace h := h.2 q
      exact Yx.sub (ks := [3, 4, 5, 2, 1]) rfl h
  · replace h := h.2 q
    exact Yx.sub (ks := [3, 4, 2]) rfl h
set_option maxHeartbeats 4000000 in
set_option maxRecDepth 100000 in
theorem B_L_act_47 (G : eG) (ca sl : Nat) (M : eM) (H : yH) (F : Bool → eM → yH → Prop) (a1 : Nat) (x5 : Int32)
    (h : (ca + 0 ≤ 700 ∧ sl + 0 ≤ 19600) ∧ Cal G 0 68 (8, 0, 0) kX10_playRounds [.ref (G.1 0), .int x5] M (eFI (fun (r_1 : Int32) (M_1 : eM) => (ca + 696 ≤ 700 ∧ sl + 19440 ≤ 19600) ∧ yIs H a1 10 ∧ yCal G (12, 696, 19440) kX12_play_ [.ref a1, .int x5] M_1 H (yFI (fun (r_2 : Int32) (M_2 : eM) (H_2 : yH) => ((¬ r_1 = r_2) → (ca + 696 ≤ 700 ∧ sl + 19440 ≤ 19600) ∧ F false M_2 H_2) ∧ ((r_1 = r_2) → (ca + 696 ≤ 700 ∧ sl + 19440 ≤ 19600) ∧ F true M_2 H_2)))))) :
    Yx yXA (yZ G 700 19600 (yFZ F)) G (eR (13, 700, 19600)) kL_act 47 [(0, .ref (G.1 0)), (1, .ref a1), (5, .int x5)] [] M H ca sl := by
  refine y_aload_n 0 dL_act_47 rfl rfl ?_
  refine y_iload 2 dL_act_48 rfl ?_
  have hb := h.1
  replace h := h.2
  refine y_callM yXAk (b' := (8, 0, 0)) (K' := kX10_playRounds) (As := [.int x5]) (S := []) dL_act_50 mX10_playRounds lML_87 rfl rfl ⟨(by decide), hb⟩ (Nat.le_of_ble_eq_true rfl) (yCal.cls h) (fun v_ M_ H_ q_ => ?_) rfl
  obtain ⟨⟨r_1, rfl, h⟩, rfl⟩ := q_
  revert h
  generalize M_ = M_1
  intro h
  refine y_aload_n 1 dL_act_53 rfl rfl ?_
  refine y_iload 2 dL_act_54 rfl ?_
  have hb := h.1
  replace h := h.2
  obtain ⟨⟨fs_2, hi⟩, h⟩ := h
  refine y_callV yXAk (b' := (12, 696, 19440)) (K' := kX12_play_) (As := [.int x5]) (S := [.int r_1]) dL_act_56 mX12_play_ lML_90 clX12 rfl hi rfl ⟨(by decide), hb⟩ (Nat.le_of_ble_eq_true rfl) h (fun v_ M_2 H_2 q_ => ?_) rfl
  obtain ⟨r_2, rfl, h⟩ := q_
  refine y_icmp_ne (t := 66) dL_act_59 (by decide) (fun q => ?_) (fun q => ?_)
  · replace h := h.1 q
    refine y_iconst (v := 0) dL_act_66 rfl ?_
    have hb := h.1
    replace h := h.2
    exact y_zret (v := eZi false) dL_act_67 rfl (eZi_nw _) hb.1 hb.2 ⟨_, rfl, h⟩
  · replace h := h.2 q
    refine y_iconst (v := 1) dL_act_62 rfl ?_
    refine y_goto (t := 67) dL_act_63 (by decide) ?_
    have hb := h.1
    replace h := h.2
    exact y_zret (v := eZi true) dL_act_67 rfl (eZi_nw _) hb.1 hb.2 ⟨_, rfl, h⟩
set_option maxHeartbeats 4000000 in
set_option maxRecDepth 100000 in
theorem B_L_act_25 (G : eG) (ca sl : Nat) (M : eM) (H : yH) (F : Bool → eM → yH → Prop) (a1 : Nat) (a2 : Nat)
    (h : (ca + 0 ≤ 700 ∧ sl + 0 ≤ 19600) ∧ yIs H a2 9 ∧ yCal G (2, 0, 0) kX11_next [.ref a2, .int 3] M H (yFI (fun (r_1 : Int32) (M_1 : eM) (H_1 : yH) => ((¬ r_1 = (0 : Int32)) → (ca + 0 ≤ 700 ∧ sl + 0 ≤ 19600) ∧ yIs H_1 a2 9 ∧ yCal G (2, 0, 0) kX11_next [.ref a2, .int 2] M_1 H_1 (yFI (fun (r_2 : Int32) (M_2 : eM) (H_2 : yH) => Yx yXA (yZ G 700 19600 (yFZ F)) G (eR (13, 700, 19600)) kL_act 47 [(0, .ref (G.1 0)), (1, .ref a1), (5, .int ((1 : Int32) + r_2))] [] M_2 H_2 ca sl))) ∧ ((r_1 = (0 : Int32)) → (ca + 0 ≤ 700 ∧ sl + 0 ≤ 19600) ∧ yIs H_1 a2 9 ∧ yCal G (2, 0, 0) kX11_next [.ref a2, .int 6] M_1 H_1 (yFI (fun (r_2 : Int32) (M_2 : eM) (H_2 : yH) => Yx yXA (yZ G 700 19600 (yFZ F)) G (eR (13, 700, 19600)) kL_act 47 [(0, .ref (G.1 0)), (1, .ref a1), (5, .int ((1 : Int32) + r_2))] [] M_2 H_2 ca sl)))))) :
    Yx yXA (yZ G 700 19600 (yFZ F)) G (eR (13, 700, 19600)) kL_act 25 [(0, .ref (G.1 0)), (1, .ref a1), (2, .ref a2)] [] M H ca sl := by
  refine y_iconst (v := 1) dL_act_25 rfl ?_
  refine y_aload_n 2 dL_act_26 rfl rfl ?_
  refine y_aload_n 2 dL_act_27 rfl rfl ?_
  refine y_iconst (v := 3) dL_act_28 rfl ?_
  have hb := h.1
  replace h := h.2
  obtain ⟨⟨fs_1, hi⟩, h⟩ := h
  refine y_callV yXAk (b' := (2, 0, 0)) (K' := kX11_next) (As := [.int 3]) (S := [.ref a2, .int 1]) dL_act_29 mX11_next lML_35 clX11 rfl hi rfl ⟨(by decide), hb⟩ (Nat.le_of_ble_eq_true rfl) h (fun v_ M_1 H_1 q_ => ?_) rfl
  obtain ⟨r_1, rfl, h⟩ := q_
  refine y_if_ne (t := 40) dL_act_32 (by decide) (fun q => ?_) (fun q => ?_)
  · replace h := h.1 q
    refine y_iconst (v := 2) dL_act_40 rfl ?_
    have hb := h.1
    replace h := h.2
    obtain ⟨⟨fs_2, hi⟩, h⟩ := h
    refine y_callV yXAk (b' := (2, 0, 0)) (K' := kX11_next) (As := [.int 2]) (S := [.int 1]) dL_act_41 mX11_next lML_35 clX11 rfl hi rfl ⟨(by decide), hb⟩ (Nat.le_of_ble_eq_true rfl) h (fun v_ M_2 H_2 q_ => ?_) rfl
    obtain ⟨r_2, rfl, h⟩ := q_
    refine y_iadd dL_act_44 ?_
    refine y_istore (i := 5) (l' := [(5, .int ((1 : Int32) + r_2)), (0, .ref (G.1 0)), (1, .ref a1), (2, .ref a2)]) dL_act_45 (by decide) rfl ?_
    exact Yx.sub (ks := [1, 2, 0]) rfl h
  · replace h := h.2 q
    refine y_bipush (v := 6) dL_act_35 rfl ?_
    refine y_goto (t := 41) dL_act_37 (by decide) ?_
    have hb := h.1
    replace h := h.2
    obtain ⟨⟨fs_2, hi⟩, h⟩ := h
    refine y_callV yXAk (b' := (2, 0, 0)) (K' := kX11_next) (As := [.int 6]) (S := [.int 1]) dL_act_41 mX11_next lML_35 clX11 rfl hi rfl ⟨(by decide), hb⟩ (Nat.le_of_ble_eq_true rfl) h (fun v_ M_2 H_2 q_ => ?_) rfl
    obtain ⟨r_2, rfl, h⟩ := q_
    refine y_iadd dL_act_44 ?_
    refine y_istore (i := 5) (l' := [(5, .int ((1 : Int32) + r_2)), (0, .ref (G.1 0)), (1, .ref a1), (2, .ref a2)]) dL_act_45 (by decide) rfl ?_
    exact Yx.sub (ks := [1, 2, 0]) rfl h
set_option maxHeartbeats 4000000 in
set_option maxRecDepth 100000 in
theorem E_L_act (G : eG) (M : eM) (H : yH) (F : Bool → eM → yH → Prop) (a1 : Nat) (a2 : Nat)
    (h : ∃ (b_1 : Nat), yG H a1 10 2 (.ref b_1) ∧ (∃ (n_2 : Nat), yLn G 5 H b_1 n_2 ∧ ((0 + 0 ≤ 700 ∧ 0 + 0 ≤ 19600) ∧ yIs H a2 9 ∧ yCal G (2, 0, 0) kX11_next [.ref a2, .int 10] M H (yFI (fun (r_3 : Int32) (M_3 : eM) (H_3 : yH) => (((nI n_2) = (0 : Int32)) → Yx yXA (yZ G 700 19600 (yFZ F)) G (eR (13, 700, 19600)) kL_act 25 [(0, .ref (G.1 0)), (1, .ref a1), (2, .ref a2)] [] M_3 H_3 0 0) ∧ ((¬ (nI n_2) = (0 : Int32)) → ((r_3 ≤ (8 : Int32)) → Yx yXA (yZ G 700 19600 (yFZ F)) G (eR (13, 700, 19600)) kL_act 68 [(0, .ref (G.1 0)), (1, .ref a1), (2, .ref a2), (3, .int (nI n_2)), (4, .int r_3)] [] M_3 H_3 0 0) ∧ ((¬ r_3 ≤ (8 : Int32)) → Yx yXA (yZ G 700 19600 (yFZ F)) G (eR (13, 700, 19600)) kL_act 25 [(0, .ref (G.1 0)), (1, .ref a1), (2, .ref a2)] [] M_3 H_3 0 0))))))) :
    Yx yXA (yZ G 700 19600 (yFZ F)) G (eR (13, 700, 19600)) kL_act 0 [(0, .ref (G.1 0)), (1, .ref a1), (2, .ref a2)] [] M H 0 0 := by
  refine y_aload_n 1 dL_act_0 rfl rfl ?_
  obtain ⟨b_1, ⟨fs_1, e1_1, e2_1⟩, h⟩ := h
  refine y_get (k := 2) dL_act_1 clX12 lFL_64 (by decide) e1_1 e2_1 ?_
  obtain ⟨n_2, ⟨v_2, e1_2, e2_2⟩, h⟩ := h
  refine y_alenx (t := 5) (ty := .array .int) dL_act_4 rfl e1_2 e2_2 ?_
  refine y_istore_n (i := 3) (l' := [(3, .int (nI n_2)), (0, .ref (G.1 0)), (1, .ref a1), (2, .ref a2)]) dL_act_5 rfl (by decide) rfl ?_
  refine y_aload_n 3 dL_act_6 rfl rfl ?_
  refine y_bipush (v := 10) dL_act_7 rfl ?_
  have hb := h.1
  replace h := h.2
  obtain ⟨⟨fs_3, hi⟩, h⟩ := h
  refine y_callV yXAk (b' := (2, 0, 0)) (K' := kX11_next) (As := [.int 10]) (S := []) dL_act_9 mX11_next lML_35 clX11 rfl hi rfl ⟨(by decide), hb⟩ (Nat.le_of_ble_eq_true rfl) h (fun v_ M_3 H_3 q_ => ?_) rfl
  obtain ⟨r_3, rfl, h⟩ := q_
  refine y_istore (i := 4) (l' := [(4, .int r_3), (3, .int (nI n_2)), (0, .ref (G.1 0)), (1, .ref a1), (2, .ref a2)]) dL_act_12 (by decide) rfl ?_
  refine y_iload_n 1 dL_act_14 rfl rfl ?_
  refine y_if_eq (t := 25) dL_act_15 (by decide) (fun q => ?_) (fun q => ?_)
  · replace h := h.1 q
    exact Yx.sub (ks := [2, 3, 4]) rfl h
  · replace h := h.2 q
    refine y_iload 0 dL_act_18 rfl ?_
    refine y_bipush (v := 8) dL_act_20 rfl ?_
    refine y_icmp_le (t := 68) dL_act_22 (by decide) (fun q => ?_) (fun q => ?_)
    · replace h := h.1 q
      exact Yx.sub (ks := [2, 3, 4, 1, 0]) rfl h
    · replace h := h.2 q
      exact Yx.sub (ks := [2, 3, 4]) rfl h
