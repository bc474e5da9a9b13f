/-! ===== the law's loop, and its start ===== -/
theorem lw_true {b L : Nat} {xs : Nat → Int32} {G : eG} {l : List (Nat × Value)} {w : va_W} {ca sl : Nat} (h1 : ca ≤ 601024) (h2 : sl ≤ 7293034) : lE b L xs G 1834 l [.int 1] w ca sl := by
  intro p la e s m args below meth c A H locs ls C hl
  obtain ⟨q1, q2, q3, q4, ⟨q5, ⟨q15, q16, q17⟩, q18⟩, q6, q7, q8, q9, q10, q11, q12, q13, q14⟩ := C
  refine W.widen h1 h2 ?_
  refine va_forget (fun q hq => ?_) ?_
  · have := q12.2.2 q hq
    rw [q15] at this
    exact this
  refine W.base ?_
  exact lw_retA (Drawn.sameBut.refl s.drawn lw_cs) q1 q2 q4 q5 dL_law_1834
theorem lw_gt {L i : Nat} (hL : L ≤ 3072) (hi : i ≤ 4000) : (nI L - 6 < nI i) ↔ L < i + 6 := by
  by_cases h : 6 ≤ L
  · rw [show (6 : Int32) = nI 6 from rfl, show nI L - nI 6 = nI (L - 6) from nI_sub (a := L) h]
    constructor
    · intro q
      rcases Nat.lt_or_ge L (i + 6) with z | z
      · exact z
      · exact absurd q (nI_nlt (by omega) (by omega))
    · intro q
      exact nI_lt (by omega) (by omega)
  · refine ⟨fun _ => by omega, fun _ => ?_⟩
    have key : ∀ L, L < 6 → nI L - 6 < 0 := by decide
    exact Int32.lt_of_lt_of_le (key L (by omega)) (nI_pos' (by omega))
section Loop
variable {b L o : Nat} {xs : Nat → Int32} {G : eG}
set_option maxHeartbeats 8000000 in
set_option maxRecDepth 100000 in
theorem lw_one (hL : L ≤ 3072) {f : Nat → Int64} {M Mm : eM} {S : gS} (hs : sOk S) (hc : sC M S) (hm : sM Mm S) {i : Nat} (hi : i + 6 ≤ L) {ca sl : Nat} (hr : ca + 2 ≤ 601024 ∧ sl + 16 ≤ 7293034) (kk : ∀ (f' : Nat → Int64) (M' Mm' : eM) (S' : gS), sOk S' → sC M' S' → sM Mm' S' → lE b L xs G 1827 (lLoc b o G (nI i)) [] (wL G o f' M' Mm') (ca + 2) (sl + 16)) : lE b L xs G 33 (lLoc b o G (nI i)) [] (wL G o f M Mm) ca sl := by
  have dflt : lE b L xs G 1827 (lLoc b o G (nI i)) [] (wL G o f M Mm) ca sl := Ex.wide (by omega) (by omega) (kk f M Mm S hs hc hm)
  refine x_aload_n 4 dL_law_33 rfl rfl ?_
  refine x_iload 0 dL_law_34 rfl ?_
  refine xl_sld i dL_law_36 rfl (by omega) hL ?_
  refine x_bipush (v := 63) dL_law_37 rfl ?_
  refine x_iand dL_law_39 ?_
  by_cases q : (xs i &&& 63).toInt < 0 ∨ 36 < (xs i &&& 63).toInt
  · exact x_tableOut (tg := 1827) dL_law_40 q (by decide) dflt
  · refine eTabCases (N := 37) q (by decide) (fun i9 h9 hx => ?_)
    match i9, h9, hx with
    | 0, _, hx => exact x_tableAt (tg := 204) dL_law_40 (eToI (hx.trans (by decide)) : xs i &&& 63 = 0) (by decide) (by decide) rfl (by decide) (KL_feed hs hc hm hi hL hr kk)
    | 1, _, hx => exact x_tableAt (tg := 308) dL_law_40 (eToI (hx.trans (by decide)) : xs i &&& 63 = 1) (by decide) (by decide) rfl (by decide) (KL_trim hs hc hm hi hL hr kk)
    | 2, _, hx => exact x_tableAt (tg := 364) dL_law_40 (eToI (hx.trans (by decide)) : xs i &&& 63 = 2) (by decide) (by decide) rfl (by decide) (KL_teach hs hc hm hi hL hr kk)
    | 3, _, hx => exact x_tableAt (tg := 377) dL_law_40 (eToI (hx.trans (by decide)) : xs i &&& 63 = 3) (by decide) (by decide) rfl (by decide) (KL_errorAt hs hc hm hi hL hr kk)
    | 4, _, hx => exact x_tableAt (tg := 390) dL_law_40 (eToI (hx.trans (by decide)) : xs i &&& 63 = 4) (by decide) (by decide) rfl (by decide) (KL_columns hs hc hm hi hL hr kk)
    | 5, _, hx => exact x_tableAt (tg := 403) dL_law_40 (eToI (hx.trans (by decide)) : xs i &&& 63 = 5) (by decide) (by decide) rfl (by decide) (KL_rows hs hc hm hi hL hr kk)
    | 6, _, hx => exact x_tableAt (tg := 416) dL_law_40 (eToI (hx.trans (by decide)) : xs i &&& 63 = 6) (by decide) (by decide) rfl (by decide) (KL_tiles hs hc hm hi hL hr kk)
    | 7, _, hx => exact x_tableAt (tg := 429) dL_law_40 (eToI (hx.trans (by decide)) : xs i &&& 63 = 7) (by decide) (by decide) rfl (by decide) (KL_rounds hs hc hm hi hL hr kk)
    | 8, _, hx => exact x_tableAt (tg := 442) dL_law_40 (eToI (hx.trans (by decide)) : xs i &&& 63 = 8) (by decide) (by decide) rfl (by decide) (KL_placedTiles hs hc hm hi hL hr kk)
    | 9, _, hx => exact x_tableAt (tg := 455) dL_law_40 (eToI (hx.trans (by decide)) : xs i &&& 63 = 9) (by decide) (by decide) rfl (by decide) (KL_matches hs hc hm hi hL hr kk)
    | 10, _, hx => exact x_tableAt (tg := 468) dL_law_40 (eToI (hx.trans (by decide)) : xs i &&& 63 = 10) (by decide) (by decide) rfl (by decide) (KL_points hs hc hm hi hL hr kk)
    | 11, _, hx => exact x_tableAt (tg := 481) dL_law_40 (eToI (hx.trans (by decide)) : xs i &&& 63 = 11) (by decide) (by decide) rfl (by decide) (KL_rings hs hc hm hi hL hr kk)
    | 12, _, hx => exact x_tableAt (tg := 494) dL_law_40 (eToI (hx.trans (by decide)) : xs i &&& 63 = 12) (by decide) (by decide) rfl (by decide) (KL_groups hs hc hm hi hL hr kk)
    | 13, _, hx => exact x_tableAt (tg := 507) dL_law_40 (eToI (hx.trans (by decide)) : xs i &&& 63 = 13) (by decide) (by decide) rfl (by decide) (KL_hasTile hs hc hm hi hL hr kk)
    | 14, _, hx => exact x_tableAt (tg := 570) dL_law_40 (eToI (hx.trans (by decide)) : xs i &&& 63 = 14) (by decide) (by decide) rfl (by decide) (KL_tileAt hs hc hm hi hL hr kk)
    | 15, _, hx => exact x_tableAt (tg := 626) dL_law_40 (eToI (hx.trans (by decide)) : xs i &&& 63 = 15) (by decide) (by decide) rfl (by decide) (KL_numberAt hs hc hm hi hL hr kk)
    | 16, _, hx => exact x_tableAt (tg := 694) dL_law_40 (eToI (hx.trans (by decide)) : xs i &&& 63 = 16) (by decide) (by decide) rfl (by decide) (KL_matchesOf hs hc hm hi hL hr kk)
    | 17, _, hx => exact x_tableAt (tg := 750) dL_law_40 (eToI (hx.trans (by decide)) : xs i &&& 63 = 17) (by decide) (by decide) rfl (by decide) (KL_isRing hs hc hm hi hL hr kk)
    | 18, _, hx => exact x_tableAt (tg := 813) dL_law_40 (eToI (hx.trans (by decide)) : xs i &&& 63 = 18) (by decide) (by decide) rfl (by decide) (KL_isPlaced hs hc hm hi hL hr kk)
    | 19, _, hx => exact x_tableAt (tg := 876) dL_law_40 (eToI (hx.trans (by decide)) : xs i &&& 63 = 19) (by decide) (by decide) rfl (by decide) (KL_cellOf hs hc hm hi hL hr kk)
    | 20, _, hx => exact x_tableAt (tg := 932) dL_law_40 (eToI (hx.trans (by decide)) : xs i &&& 63 = 20) (by decide) (by decide) rfl (by decide) (KL_turnOf hs hc hm hi hL hr kk)
    | 21, _, hx => exact x_tableAt (tg := 988) dL_law_40 (eToI (hx.trans (by decide)) : xs i &&& 63 = 21) (by decide) (by decide) rfl (by decide) (KL_fits hs hc hm hi hL hr kk)
    | 22, _, hx => exact x_tableAt (tg := 1075) dL_law_40 (eToI (hx.trans (by decide)) : xs i &&& 63 = 22) (by decide) (by decide) rfl (by decide) (KL_edgeAgainst hs hc hm hi hL hr kk)
    | 23, _, hx => exact x_tableAt (tg := 1155) dL_law_40 (eToI (hx.trans (by decide)) : xs i &&& 63 = 23) (by decide) (by decide) rfl (by decide) (KL_waysOf hs hc hm hi hL hr kk)
    | 24, _, hx => exact x_tableAt (tg := 1211) dL_law_40 (eToI (hx.trans (by decide)) : xs i &&& 63 = 24) (by decide) (by decide) rfl (by decide) (KL_isLeftover hs hc hm hi hL hr kk)
    | 25, _, hx => exact x_tableAt (tg := 1274) dL_law_40 (eToI (hx.trans (by decide)) : xs i &&& 63 = 25) (by decide) (by decide) rfl (by decide) (KL_looksToProve hs hc hm hi hL hr kk)
    | 26, _, hx => exact x_tableAt (tg := 1330) dL_law_40 (eToI (hx.trans (by decide)) : xs i &&& 63 = 26) (by decide) (by decide) rfl (by decide) (KL_putTile hs hc hm hi hL hr kk)
    | 27, _, hx => exact x_tableAt (tg := 1410) dL_law_40 (eToI (hx.trans (by decide)) : xs i &&& 63 = 27) (by decide) (by decide) rfl (by decide) (KL_takeTile hs hc hm hi hL hr kk)
    | 28, _, hx => exact x_tableAt (tg := 1466) dL_law_40 (eToI (hx.trans (by decide)) : xs i &&& 63 = 28) (by decide) (by decide) rfl (by decide) (KL_fitTile hs hc hm hi hL hr kk)
    | 29, _, hx => exact x_tableAt (tg := 1522) dL_law_40 (eToI (hx.trans (by decide)) : xs i &&& 63 = 29) (by decide) (by decide) rfl (by decide) (KL_playRounds hs hc hm hi hL hr kk)
    | 30, _, hx => exact x_tableAt (tg := 1578) dL_law_40 (eToI (hx.trans (by decide)) : xs i &&& 63 = 30) (by decide) (by decide) rfl (by decide) (KL_pointsAfter hs hc hm hi hL hr kk)
    | 31, _, hx => exact x_tableAt (tg := 1634) dL_law_40 (eToI (hx.trans (by decide)) : xs i &&& 63 = 31) (by decide) (by decide) rfl (by decide) (KL_roundsUntilRing hs hc hm hi hL hr kk)
    | 32, _, hx => exact x_tableAt (tg := 1647) dL_law_40 (eToI (hx.trans (by decide)) : xs i &&& 63 = 32) (by decide) (by decide) rfl (by decide) (KL_bestCell hs hc hm hi hL hr kk)
    | 33, _, hx => exact x_tableAt (tg := 1703) dL_law_40 (eToI (hx.trans (by decide)) : xs i &&& 63 = 33) (by decide) (by decide) rfl (by decide) (KL_bestTurn hs hc hm hi hL hr kk)
    | 34, _, hx => exact x_tableAt (tg := 1759) dL_law_40 (eToI (hx.trans (by decide)) : xs i &&& 63 = 34) (by decide) (by decide) rfl (by decide) (KL_bestTile hs hc hm hi hL hr kk)
    | 35, _, hx => exact x_tableAt (tg := 1772) dL_law_40 (eToI (hx.trans (by decide)) : xs i &&& 63 = 35) (by decide) (by decide) rfl (by decide) (KL_meanMatch hs hc hm hi hL hr kk)
    | 36, _, hx => exact x_tableAt (tg := 1813) dL_law_40 (eToI (hx.trans (by decide)) : xs i &&& 63 = 36) (by decide) (by decide) rfl (by decide) (KL_digest hs hc hm hi hL hr kk)
    | i9 + 37, h9, hx => exact absurd h9 (by omega)
theorem lw_loop (hL : L ≤ 3072) : ∀ (n i : Nat) (f : Nat → Int64) (M Mm : eM) (S : gS) (ca sl : Nat), sOk S → sC M S → sM Mm S → L < i + 6 * (n + 1) → i ≤ 3072 + 6 → ca + 2 * n ≤ 601024 → sl + 16 * n ≤ 7293034 → lE b L xs G 23 (lLoc b o G (nI i)) [] (wL G o f M Mm) ca sl := by
  intro n
  induction n with
  | zero =>
    intro i f M Mm S ca sl hs hc hm hn hi h1 h2
    refine x_iload 0 dL_law_23 rfl ?_
    refine x_aload_n 4 dL_law_25 rfl rfl ?_
    refine xl_slen dL_law_26 ?_
    refine x_bipush (v := 6) dL_law_27 rfl ?_
    refine x_isub dL_law_29 ?_
    refine x_icmp_gt (t := 1833) dL_law_30 (by decide) (fun _ => ?_) (fun q => absurd ((lw_gt hL (by omega)).mpr (by omega)) q)
    refine x_iconst (v := 1) dL_law_1833 rfl ?_
    exact lw_true (by omega) (by omega)
  | succ n ih =>
    intro i f M Mm S ca sl hs hc hm hn hi h1 h2
    refine x_iload 0 dL_law_23 rfl ?_
    refine x_aload_n 4 dL_law_25 rfl rfl ?_
    refine xl_slen dL_law_26 ?_
    refine x_bipush (v := 6) dL_law_27 rfl ?_
    refine x_isub dL_law_29 ?_
    refine x_icmp_gt (t := 1833) dL_law_30 (by decide) (fun _ => ?_) (fun q => ?_)
    · refine x_iconst (v := 1) dL_law_1833 rfl ?_
      exact lw_true (by omega) (by omega)
    · have hlt : i + 6 ≤ L := by
        rcases Nat.lt_or_ge L (i + 6) with z | z
        · exact absurd ((lw_gt hL (by omega)).mpr z) q
        · exact z
      refine lw_one hL hs hc hm hlt ⟨by omega, by omega⟩ (fun f' M' Mm' S' hs' hc' hm' => ?_)
      refine x_iinc (v := nI (i + 6)) (l' := lLoc b o G (nI (i + 6))) 0 dL_law_1827 rfl (nI_p i 6 rfl) (by decide) rfl ?_
      refine x_goto (t := 23) dL_law_1830 (by decide) ?_
      exact ih (i + 6) f' M' Mm' S' (ca + 2) (sl + 16) hs' hc' hm' (by omega) (by omega) (by omega) (by omega)
end Loop
/-- the addresses of both sides' cells -/
def xTwo (G G1 G2 : eG) : eG := (fun c => if c < 100 then G1.1 c else if c < 1000 then G2.1 c else G.1 c, G.2)
theorem xTwo_s (G G1 G2 : eG) : xSame G (xTwo G G1 G2) := ⟨rfl, fun c hc => by
  show (if c < 100 then _ else if c < 1000 then _ else G.1 c) = G.1 c
  rw [if_neg (by omega), if_neg (by omega)]⟩
theorem eshRef_1 : ∀ c, c < 68 → ∀ r ∈ eshRef (esh c), r < 100 := by decide +kernel
theorem eshRef_2 : ∀ k, k < 40 → ∀ r ∈ eshRef (esh (100 + k)), 100 ≤ r ∧ r < 1000 := by decide +kernel
theorem xSame.tr {G G1 G2 : eG} (h : xSame G G1) (h2 : xSame G G2) : xSame G1 G2 := ⟨h2.1.trans h.1.symm, fun c hc => (h2.2 c hc).trans (h.2 c hc).symm⟩
theorem xTwo_1 {G G1 G2 : eG} (h : xSame G G1) (M : eM) : xEq (eW G1 0 68 M) (eW (xTwo G G1 G2) 0 68 M) :=
  xS_eW (h.tr (xTwo_s G G1 G2)) (fun c h1 h2 => ⟨if_pos (by omega), fun r hr => if_pos (eshRef_1 c (by omega) r hr)⟩)
theorem xTwo_2 {G G1 G2 : eG} (h : xSame G G2) (M : eM) : xEq (eW G2 100 40 M) (eW (xTwo G G1 G2) 100 40 M) :=
  xS_eW (h.tr (xTwo_s G G1 G2)) (fun c h1 h2 => ⟨by
    show (if c < 100 then _ else if c < 1000 then G2.1 c else _) = G2.1 c
    rw [if_neg (by omega), if_pos (by omega)], fun r hr => by
    have h3 := eshRef_2 (c - 100) (by omega) r (by rw [show 100 + (c - 100) = c by omega]; exact hr)
    show (if r < 100 then _ else if r < 1000 then G2.1 r else _) = G2.1 r
    rw [if_neg (by omega), if_pos (by omega)]⟩)
set_option maxHeartbeats 4000000 in
set_option maxRecDepth 100000 in
theorem lw_body {b L : Nat} {xs : Nat → Int32} {G : eG} (hL : L ≤ 3072) : lE b L xs G 0 [(0, .ref b)] [] [] 0 0 := by
  refine x_new dL_law_0 clX10 (tb1 _ (List.mem_of_getElem? (i := 30) rfl)) (tb1 _ (List.mem_of_getElem? (i := 31) rfl)) (tb1 _ (List.mem_of_getElem? (i := 1) rfl)) xd_X10 ⟨Nat.le_of_ble_eq_true rfl, Nat.le_of_ble_eq_true rfl⟩ (fun q1 => ?_)
  refine x_dup dL_law_3 rfl ?_
  refine Ex.ww (w' := [] ++ ([(q1, .inr (8, [.null, .null, .null, .null, .null, .null, .null, .int 0]))] ++ [])) rfl ?_
  refine x_callI (K := kL_law) (R := room_1) (ca := 1) (sl := 8) (w := [] ++ ([(q1, .inr (8, [.null, .null, .null, .null, .null, .null, .null, .int 0]))] ++ [])) xN0_m lwX_n (b' := (5, 67, 7840)) (As := []) (S := [.ref q1]) dL_law_4 miX10_init lML_87 rfl (by exact ⟨⟨Nat.le_of_ble_eq_true rfl, Nat.le_of_ble_eq_true rfl⟩, ⟨Nat.le_of_ble_eq_true rfl, Nat.le_of_ble_eq_true rfl⟩⟩) (Nat.le_of_ble_eq_true rfl) ((I_X10_init G q1).list [] []) (fun v w' h => ?_) rfl
  obtain ⟨w1, ⟨rfl, G1, M, hG1, hq1, rfl, hc⟩, rfl⟩ := h
  refine Ex.ww (w' := eW G1 0 68 M) (List.append_nil _) ?_
  refine x_astore_n (l' := [(1, .ref q1), (0, .ref b)]) dL_law_7 rfl (by decide) rfl ?_
  refine x_new dL_law_8 clX13 (tb6 _ (List.mem_of_getElem? (i := 59) rfl)) (tb6 _ (List.mem_of_getElem? (i := 60) rfl)) (tb1 _ (List.mem_of_getElem? (i := 14) rfl)) xd_X13 ⟨Nat.le_of_ble_eq_true rfl, Nat.le_of_ble_eq_true rfl⟩ (fun q2 => ?_)
  refine x_dup dL_law_11 rfl ?_
  refine Ex.ww (w' := eW G1 0 68 M ++ ([(q2, .inr (11, [.int 0, .null, .int 0, .int 0, .null, .null, .null, .null, .int 0, .int 0, .int 0, .int 0, .int 0, .null, .null, .null, .null, .null, .null, .null, .null, .int 0, .int 0, .int 0]))] ++ [])) (by rw [List.append_nil]) ?_
  refine x_callI (K := kL_law) (R := room_1) (ca := 69) (sl := 7872) (w := eW G1 0 68 M ++ ([(q2, .inr (11, [.int 0, .null, .int 0, .int 0, .null, .null, .null, .null, .int 0, .int 0, .int 0, .int 0, .int 0, .null, .null, .null, .null, .null, .null, .null, .null, .int 0, .int 0, .int 0]))] ++ [])) xN0_m lwX_n (b' := (3, 39, 9900)) (As := []) (S := [.ref q2]) dL_law_12 miX13_init lML_90 rfl (by exact ⟨⟨Nat.le_of_ble_eq_true rfl, Nat.le_of_ble_eq_true rfl⟩, ⟨Nat.le_of_ble_eq_true rfl, Nat.le_of_ble_eq_true rfl⟩⟩) (Nat.le_of_ble_eq_true rfl) ((I_X13_init G q2).list (eW G1 0 68 M) []) (fun v w' h => ?_) rfl
  obtain ⟨w1, ⟨rfl, G2, Mm, hG2, hq2, rfl, hm⟩, rfl⟩ := h
  refine Ex.ww (w' := eW G1 0 68 M ++ eW G2 100 40 Mm) (by rw [List.append_nil]) ?_
  refine x_astore_n (l' := [(2, .ref q2), (1, .ref q1), (0, .ref b)]) dL_law_15 rfl (by decide) rfl ?_
  refine x_iconst (v := 1) dL_law_16 rfl ?_
  refine x_newl (N := 1) dL_law_17 xa_long (by decide) (by decide) (by decide) ⟨Nat.le_of_ble_eq_true rfl, Nat.le_of_ble_eq_true rfl⟩ (fun q3 => ?_)
  refine x_astore_n (l' := [(3, .ref q3), (2, .ref q2), (1, .ref q1), (0, .ref b)]) dL_law_19 rfl (by decide) rfl ?_
  refine x_iconst (v := 0) dL_law_20 rfl ?_
  refine x_istore (l' := [(4, .int 0), (3, .ref q3), (2, .ref q2), (1, .ref q1), (0, .ref b)]) dL_law_21 (by decide) rfl ?_
  refine Ex.le (w' := (q3, .inl (G.2.2.2 5, (1, .inr (.inl (fun _ => 0))))) :: (eW G1 0 68 M ++ eW G2 100 40 Mm)) (xLe.perm (List.perm_append_comm)) ?_
  refine Ex.g (xTwo_s G G1 G2) ?_
  refine Ex.le (w' := wL (xTwo G G1 G2) q3 (fun _ => 0) M Mm) (xEq.cons rfl (fun _ _ q => q) ((xTwo_1 hG1 M).app (xTwo_2 hG2 Mm))).le ?_
  have e1 : (xTwo G G1 G2).1 0 = q1 := hq1
  have e2 : (xTwo G G1 G2).1 100 = q2 := hq2
  have go := lw_loop (b := b) (L := L) (o := q3) (xs := xs) (G := xTwo G G1 G2) hL 512 0 (fun _ => 0) M Mm xS0 200 18000 xS0_ok hc hm (by omega) (by omega) (by omega) (by omega)
  unfold lLoc at go
  rw [e1, e2] at go
  exact Ex.wide (Nat.le_of_ble_eq_true rfl) (Nat.le_of_ble_eq_true rfl) go
/-- from the entry, for every script of at most 3072 ints, the law comes to its end with true -/
theorem whole_start {p : Program} {e : Env} {s : State} {m : MethodId} {below : List Frame} {meth : Method} {c : Code} (l : Launch) (hflags : l.flags = flags0) {b L : Nat} {xs : Nat → Int32} (hL : L ≤ 3072) (C0 : lw_At p s m meth c b L xs) : W p l e room_1 s m #[Value.ref b] below meth c s.heap [] 0 0 (lw_Z below #[Value.ref b] s) (entryFrame m ([Value.ref b] : List Value).toArray 9) := by
  obtain ⟨hx, hb, hr, hml, hown, hts, hX, hbl, hlocks, hgv⟩ := C0
  have hs := flat_of_before _ hgv
  have n1 : ∀ c ∈ flatC narrow_1_1, c.before #[Value.ref b] s = true := fun c hc => hs c (List.mem_append_right _ (List.mem_append_left _ hc))
  have n2 : ∀ c ∈ flatC narrow_1_2, c.before #[Value.ref b] s = true := fun c hc => hs c (List.mem_append_right _ (List.mem_append_right _ (List.mem_append_left _ hc)))
  have n3 : ∀ c ∈ flatC narrow_1_3, c.before #[Value.ref b] s = true := fun c hc => hs c (List.mem_append_right _ (List.mem_append_right _ (List.mem_append_right _ hc)))
  have hA : ∀ a : Nat, a < s.heap.size → ¬ (fun q : Nat => s.heap.size ≤ q) a := fun a h => Nat.not_le.mpr h
  obtain ⟨G, hK, hSt, hMs⟩ := n_G n1 n2 n3 hts hA
  rw [lg_entry_eq]
  exact lw_body (b := b) (xs := xs) (G := G) hL p l e s m #[Value.ref b] below meth c (fun q => s.heap.size ≤ q) s.heap [] _ ⟨hx, hb, hml, hr, ⟨hlocks, ⟨rfl, hX, hbl⟩, n_xN n1 n2 n3 hts hA⟩, hown, fun w hw => hts w (List.mem_filter.mp hw).1, hK, hSt, fun q h => h, ⟨hflags, hMs⟩, va_S.rf, fun k q h => by simp at h, ⟨fun i j p q h => by simp at h, fun k q h => by simp at h⟩⟩ (lv_entry [.ref b] (n := 9) (Nat.le_of_ble_eq_true rfl))
