/-! ===== the law: a game drawn, taught and played, twice ===== -/
theorem ar_8 {x k C a b c d e p q r : Nat} (h : x + k ≤ C) (ha : a + b + c + d + e + p * q + r ≤ k) : x + a + b + c + d + e + p * q + r ≤ C := by
  generalize p * q = z at ha ⊢
  omega
theorem ar_d {x K j N a : Nat} (h : x + K * (j + 1) ≤ N) (ha : a ≤ K) : x + a ≤ N := by
  rw [Nat.mul_succ] at h
  omega
theorem ar_d2 {x K j N a b : Nat} (h : x + K * (j + 1) ≤ N) (ha : a + b ≤ K) : x + a + b ≤ N := by
  rw [Nat.mul_succ] at h
  omega
theorem ar_e {x x' K j N : Nat} (h : x + K * (j + 1) ≤ N) (h2 : x' ≤ x + K) : x' + K * j ≤ N := by
  rw [Nat.mul_succ] at h
  omega
theorem ar_f {x K N : Nat} (h : x + K * 0 ≤ N) : x ≤ N := h
section LTime
variable {b L : Nat} {xs : Nat → Int32} {G : eG} {x2 : Int32} {C T : Nat}
theorem z_taught_ok {S : gS} (h : tEr (gBt S) (gSz S) = (0, 0)) : z_taught S = ((0, gBt S), -1, (tV (gBt S) (gSz S), tOs (gBt S) (gSz S)), tB0 (gBt S) (gSz S), 0) := by
  unfold z_taught
  rw [if_pos (by rw [h])]
set_option maxHeartbeats 4000000 in
set_option maxRecDepth 100000 in
theorem L_52 (zo : zOtx) (hC : C ≤ room_1.cells) (hT : T ≤ room_1.slots) (next : lwNt b L xs G x2 C T) {M : eM} {H : yH} {S : gS} {d : Nat} {ca sl : Nat} (hc : sC M S) (hs : sOk S) (hz : gSz S = 0) (hd : nD H d) (hca : ca + 22652 ≤ C) (hsl : sl + 1830463 ≤ T) :
    Yx (yXL b L xs) lwZ G room_1 kL_law 52 [(0, .ref b), (1, .ref (G.1 0)), (2, .int x2), (3, .ref d)] [] M H ca sl := by
  refine B_L_law_52 G ca sl M H _ _ ⟨⟨ar_1 hca hC (Nat.le_of_ble_eq_true rfl), ar_1 hsl hT (Nat.le_of_ble_eq_true rfl)⟩, fun q hq => ⟨⟨ar_2 hca hC (Nat.le_of_ble_eq_true rfl), ar_2 hsl hT (Nat.le_of_ble_eq_true rfl)⟩, S_sbInit (yU_same _ _ _) (fun va H1 hva s1 k1 => ?_)⟩⟩
  have hqd : q ≠ d := hd.ne hq
  have d1 : nD H1 d := (hd.le (yLe.new hq _)).kp k1 (fun z => hqd (List.mem_singleton.mp z).symm)
  refine ⟨⟨ar_3 hca hC (Nat.le_of_ble_eq_true rfl), ar_3 hsl hT (Nat.le_of_ble_eq_true rfl)⟩, S_drawn zo d1 s1 (by omega) (fun brd CC RR ts os g ta oa tk va' m' H2 hok g2 o2 d2 s2 m2 k2 => ?_)⟩
  obtain ⟨hCC, hRR, hbd, ⟨hn1, hn12⟩, hx, ho4, ho⟩ := hok
  obtain ⟨len1, len2⟩ := gmX_len (brd := brd) (C := CC) (R := RR) (by omega) (by omega) (by omega) hx (fun o h => (ho o h).1)
  have hlen : (gmX brd CC RR ts os).length ≤ 1100 := by omega
  refine ⟨⟨ar_4 hca hC (Nat.le_of_ble_eq_true rfl), ar_4 hsl hT (Nat.le_of_ble_eq_true rfl)⟩, yIs.of s2.1, S_toString s2 hlen m2 (fun t tv H3 f h0 h00 l3 t1 t2 t3 => ⟨⟨ar_5 hca hC (Nat.le_of_ble_eq_true rfl), ar_5 hsl hT (Nat.le_of_ble_eq_true rfl)⟩, S_taught t1 t2 t3 (as_gm brd CC RR ts os) hlen hs hc hz (fun M4 H4 bt hbt s4 c4 l4 => ?_)⟩)⟩
  have hf : tF bt (gmX brd CC RR ts os).length 0 (gmX brd CC RR ts os) := by
    refine ⟨by omega, fun j x hj => ?_⟩
    have hjl : j < (gmX brd CC RR ts os).length := (List.getElem?_eq_some_iff.mp hj).1
    rw [Nat.zero_add, hbt j hjl, List.getD_eq_getElem?_getD, hj]
    rfl
  obtain ⟨eEr, eOs, ⟨eW, eRr, eN, eU⟩, hos⟩ := gm_told hCC hRR hn1 (by omega) hx ho (by omega) (by omega) hf
  have eV : z_taughtV (((gmX brd CC RR ts os).length, bt), S.2) = 0 := by
    unfold z_taughtV
    show nI (tEr bt (gmX brd CC RR ts os).length).1 = 0
    rw [eEr]
    rfl
  rw [eV]
  have e4 := z_taught_ok (S := (((gmX brd CC RR ts os).length, bt), S.2)) eEr
  have s5 := s4.taught
  obtain ⟨S5, hS5⟩ : ∃ S5, z_taught (((gmX brd CC RR ts os).length, bt), S.2) = S5 := ⟨_, rfl⟩
  rw [hS5] at c4 s5 e4
  have z5 : gSz S5 = 0 := by rw [e4]
  have r5 : gR S5 = 0 := by rw [e4]
  have b5 : gB S5 = tB0 bt (gmX brd CC RR ts os).length := by rw [e4]
  have v5 : gTv S5 = tV bt (gmX brd CC RR ts os).length := by rw [e4]
  have o5 : gOs S5 = tOs bt (gmX brd CC RR ts os).length := by rw [e4]
  have hgr : gRl S5 os := fun r x => by
    rw [v5, o5, eOs]
    exact orP_rnd os _ _ x (fun o h => (ho o h).1.ok) hos
  have eWC : bW (gB S5) = CC := by
    rw [b5, eW]
    cases brd with
    | true => rfl
    | false => exact (hbd rfl).1.symm
  have eRC : bR (gB S5) = RR := by
    rw [b5, eRr]
    cases brd with
    | true => rfl
    | false => exact (hbd rfl).2.symm
  have eNC : bN (gB S5) = ts.length := by rw [b5]; exact eN
  have g5 : gAt G H4 g ta oa tk (gB S5) (gR S5) := by
    rw [r5, b5]
    unfold tB0
    refine ((l3.trans l4).g g2).b0 ?_ ?_ ?_ ?_
    · rw [b5] at eWC; exact eWC
    · rw [b5] at eRC; exact eRC
    · exact eN
    · exact eU
  have l5 : lk G M4 H4 S5 g ta oa tk (gB S5) os := ⟨⟨c4, s5⟩, g5, ⟨o2.kp (yKp.of (l3.trans l4) []) (fun _ z => absurd z List.not_mem_nil), ho4, fun o h => ⟨(ho o h).1.ok, by rw [eNC]; exact (ho o h).2⟩⟩, ⟨s5.2.2.1, bSim.refl _⟩, hgr, by rw [eNC]; exact ⟨hn1, hn12, z5⟩⟩
  have d4 : nD H4 d := (d2.le l3).le l4
  refine ⟨fun _ => ⟨⟨ar_6 hca hC (Nat.le_of_ble_eq_true rfl), ar_6 hsl hT (Nat.le_of_ble_eq_true rfl)⟩, Q_tiles l5.c (fun M5 l6 => ⟨⟨ar_6 hca hC (Nat.le_of_ble_eq_true rfl), ar_6 hsl hT (Nat.le_of_ble_eq_true rfl)⟩, Q_columns l6 (fun M6 l7 => ⟨⟨ar_6 hca hC (Nat.le_of_ble_eq_true rfl), ar_6 hsl hT (Nat.le_of_ble_eq_true rfl)⟩, Q_rows l7 (fun M7 l8 => ?_)⟩)⟩)⟩, fun z => absurd rfl z⟩
  refine B_L_law_102 G _ _ M7 H4 _ _ _ _ _ ?_
  rw [nI_mul]
  exact L_105 hC hT next 7 0 M7 H4 S5 (gB S5) _ _ (by omega) (l5.m l8) (bSz.refl _) d4 (ar_8 hca (Nat.le_of_ble_eq_true rfl)) (ar_8 hsl (Nat.le_of_ble_eq_true rfl))
set_option maxHeartbeats 4000000 in
set_option maxRecDepth 100000 in
theorem L_10 (zo : zOtx) : ∀ (j i : Nat) (M : eM) (H : yH) (S : gS) (ca sl : Nat), i + j = 2 → sC M S → sOk S → gSz S = 0 → ca + 22653 * j ≤ room_1.cells → sl + 1830464 * j ≤ room_1.slots →
    Yx (yXL b L xs) lwZ G room_1 kL_law 10 [(0, .ref b), (1, .ref (G.1 0)), (2, .int (nI i))] [] M H ca sl := by
  intro j
  induction j with
  | zero =>
    intro i M H S ca sl hi hc hs hz hca hsl
    have e : i = 2 := by omega
    subst e
    exact B_L_law_10 G ca sl M H _ ⟨fun _ => B_L_law_1137 G ca sl M H ⟨ar_f hca, ar_f hsl⟩, fun z => absurd (by decide) z⟩
  | succ j ih =>
    intro i M H S ca sl hi hc hs hz hca hsl
    refine B_L_law_10 G ca sl M H _ ⟨fun z => absurd z (nI_ge (b := 2) (by omega) (by decide)), fun _ => ⟨⟨ar_d hca (Nat.le_of_ble_eq_true rfl), ar_d hsl (Nat.le_of_ble_eq_true rfl)⟩, fun q hq => ⟨⟨i, by omega, rfl⟩, ⟨i + 3, by omega, nI_add i 3⟩, ⟨i + 6, by omega, nI_add i 6⟩, ⟨ar_d2 hca (Nat.le_of_ble_eq_true rfl), ar_d2 hsl (Nat.le_of_ble_eq_true rfl)⟩, C_X11_init G M _ _ q _ ⟨_, yU_same _ _ _, Nat.le_of_ble_eq_true rfl, ?_⟩⟩⟩⟩
    rw [yU_yU]
    refine L_52 (C := ca + 22653) (T := sl + 1830464) zo (ar_d hca (Nat.le_refl _)) (ar_d hsl (Nat.le_refl _)) (fun M' S' ca' sl' c' s' z' h1 h2 => ?_) hc hs hz ⟨_, yU_same _ _ _⟩ (ar_b (Nat.le_of_ble_eq_true rfl)) (ar_b (Nat.le_of_ble_eq_true rfl))
    rw [← nI_succ]
    exact ih (i + 1) M' _ S' ca' sl' (by omega) c' s' z' (ar_e hca h1) (ar_e hsl h2)
end LTime
