/-! ===== the model reads orders, tiles, lines ===== -/
theorem mCd.row {kn : Nat → Option Nat} {nb : Nat → Int32} {M : eM} {b c j : Nat} {v : Int32} {cd : List pSt} (h : mCd kn nb M b cd) (hc : c < 126) : mCd kn nb (eU M c j v) b cd := by
  intro i s hs
  obtain ⟨h1, h2, h3⟩ := h i s hs
  rw [eU_cell _ _ _ _ (by omega), eU_cell _ _ _ _ (by omega), eU_cell _ _ _ _ (by omega)]
  exact ⟨h1, h2, h3⟩
section MOrder
variable {G : eG} {bt : Nat → Nat} {sz : Nat}
theorem O_tail {M M0 : eM} {e b k nt : Nat} (hM : mWrong M e) (hk : k ≤ 16) (f0 : hFr M0 M b k nt) (F : eM → Prop) (hF : ∀ M', hFr M0 M' b k nt → mWrong M' e → F M') : Ev (eZ G 100 40 0 0 (eFV F)) G 100 40 (101, 0, 0) kX13_order 142 [(0, .ref (G.1 100)), (2, .int (nI k))] [] M 0 0 := by
  refine B_X13_order_142 G M F _ (W_takes hM.ne _ _ ⟨fun _ => ⟨vp_in_nI (by omega) (by decide), vp_in_nI (by omega) (by decide), ?_⟩, cFT⟩)
  rw [nI_clamp (show k < 2 ^ 31 by omega)]
  refine hF _ (((f0.trans (hFr.one (c := 125) (j := k) (by omega)) (Nat.le_refl b) (Nat.le_refl k) (Nat.le_refl nt)).trans (hFr.one (c := 123) (j := k) (by omega)) (Nat.le_refl b) (Nat.le_refl k) (Nat.le_refl nt)).trans (hFr.one (c := 118) (j := 4) (by omega)) (Nat.le_refl b) (Nat.le_refl k) (Nat.le_refl nt)) (((hM.eU (by decide)).eU (by decide)).eU (by decide))
/-- the error at each token of an order's line -/
theorem O_er {p q : Nat} (hk : tTk bt sz p = 4 ∨ tTk bt sz p = 7 ∨ tTk bt sz p = 8) (hn : ∀ j, p + 1 ≤ j → j < q → tTk bt sz j ≠ 1 ∧ tTk bt sz j ≠ 3 ∧ tTk bt sz j ≠ 4 ∧ tTk bt sz j ≠ 7 ∧ tTk bt sz j ≠ 8) : sL (tScan bt sz (p + 1)) = tTk bt sz p ∧ sNt (tScan bt sz (p + 1)) = sNt (tScan bt sz p) ∧ sNo (tScan bt sz (p + 1)) = sNo (tScan bt sz p) + 1 ∧ sNk (tScan bt sz (p + 1)) = sNk (tScan bt sz p) ∧ sEr (tScan bt sz (p + 1)) = sErr (decide (16 ≤ sNo (tScan bt sz p))) 4 p (sEr (tScan bt sz p)) ∧ (∀ d, p + 1 + d ≤ q → (tScan bt sz (p + 1 + d)).1 = (tScan bt sz (p + 1)).1 ∧ sNk (tScan bt sz (p + 1 + d)) = sNk (tScan bt sz p) ∧ sNu (tScan bt sz (p + 1 + d)) = sNu (tScan bt sz p) ∧ (tScan bt sz (p + 1 + d)).2.2.2.1 = (tScan bt sz p).2.2.2.1 ∧ sEr (tScan bt sz (p + 1 + d)) = eLoc (tTk bt sz) (mKn (tW bt sz) (sNt (tScan bt sz p)) (sNk (tScan bt sz p))) (p + 1) (sEr (tScan bt sz (p + 1))) d) := by
  have e : tScan bt sz (p + 1) = ((tTk bt sz p, sNt (tScan bt sz p), sNo (tScan bt sz p) + 1, sNn (tScan bt sz p), sSd (tScan bt sz p)), sNk (tScan bt sz p), sNu (tScan bt sz p), (tScan bt sz p).2.2.2.1, sErr (decide (16 ≤ sNo (tScan bt sz p))) 4 p (sEr (tScan bt sz p))) := by
    show sStep (tTk bt sz) (tW bt sz) (tNv bt sz) (tScan bt sz p) p = _
    unfold sStep
    rw [if_neg (by omega), if_pos hk]
  have e1 : sL (tScan bt sz (p + 1)) = tTk bt sz p := by rw [e]
  have e2 : sNt (tScan bt sz (p + 1)) = sNt (tScan bt sz p) := by rw [e]
  have e3 : sNk (tScan bt sz (p + 1)) = sNk (tScan bt sz p) := by rw [e]
  have e4 : sNu (tScan bt sz (p + 1)) = sNu (tScan bt sz p) := by rw [e]
  have e5 : (tScan bt sz (p + 1)).2.2.2.1 = (tScan bt sz p).2.2.2.1 := by rw [e]
  refine ⟨e1, e2, by rw [e], e3, by rw [e], fun d hd => ?_⟩
  obtain ⟨k1, k2, k3, k4, k5⟩ := sScan_mid (w := tW bt sz) (nv := tNv bt sz) hn (by rw [show sScan (tTk bt sz) (tW bt sz) (tNv bt sz) (p + 1) = tScan bt sz (p + 1) from rfl, e1]; omega) d hd
  refine ⟨k1, k2.trans e3, k3.trans e4, k4.trans e5, ?_⟩
  have k5' : sEr (tScan bt sz (p + 1 + d)) = eLoc (tTk bt sz) (mKn (tW bt sz) (sNt (tScan bt sz (p + 1))) (sNk (tScan bt sz (p + 1)))) (p + 1) (sEr (tScan bt sz (p + 1))) d := k5
  rw [e2, e3] at k5'
  exact k5'
/-- nodes as the line's readings tell them are nodes as the scan tells them -/
theorem O_code {M : eM} {b p q : Nat} {cd : List pSt} {nt : Nat} {nk : Nat → Nat} (h : mCd (mKn (tW bt sz) nt nk) (tNb bt sz) M b cd) (hs : pSts (tTk bt sz) p q cd) (hj : ∀ j, p ≤ j → j < q → sNt (tScan bt sz j) = nt ∧ sNk (tScan bt sz j) = nk) : gCd M bt sz b cd := by
  intro i s hi
  obtain ⟨h1, h2, h3⟩ := h i s hi
  refine ⟨h1, ?_, h3⟩
  rw [h2]
  obtain ⟨a1, a2, -⟩ := hs s (List.mem_of_getElem? hi)
  unfold mLeft gLeft
  by_cases h40 : s.1 = 40
  · rw [if_pos h40, if_pos h40]
  · rw [if_neg h40, if_neg h40]
    by_cases hn : s.1 = 16 ∨ s.1 = 18 ∨ s.1 = 19
    · rw [if_pos hn, if_pos hn]
      obtain ⟨b1, b2, b3⟩ := a2 hn
      obtain ⟨c1, c2⟩ := hj _ b1 b2
      unfold tTile sKn
      rw [c1, c2]
    · rw [if_neg hn, if_neg hn]
theorem O_order {M : eM} {p b : Nat} (hM : mLn M bt sz p b) (hp : p < tT bt sz) (hk : tTk bt sz p = 4 ∨ tTk bt sz p = 7 ∨ tTk bt sz p = 8) (hb : b ≤ p) {x : Nat ⊕ (Nat × pOrd)} (hx : pOrder (tTk bt sz) 2500 p b = some x) (F : eM → Prop)
    (hF : match (generalizing := false) x with
      | .inl e => ∀ M', hFr M M' b (min 16 (sNo (tScan bt sz p))) (sNt (tScan bt sz p)) → mWrong M' e → F M'
      | .inr (q, o) => ∀ M', hFr M M' b (min 16 (sNo (tScan bt sz p))) (sNt (tScan bt sz p)) → mLn M' bt sz q (b + (oCode o).length) → gCd M' bt sz b (oCode o) → mOrd M' (min 16 (sNo (tScan bt sz p))) o (tTile bt sz (oName o)) → (∀ j, M' 119 j = M 119 j) → M' 118 0 = M 118 0 → M' 118 1 = M 118 1 → F M') : Cal G 100 40 (101, 0, 0) kX13_order [.ref (G.1 100), .int (nI (mDoes (tTk bt sz p)))] M (eFV F) := by
  have ht := tTk_pTk bt sz
  have h400 := ht.1
  obtain ⟨m1, m2, m3⟩ := hM
  obtain ⟨kk, hkk⟩ : ∃ k, k = min 16 (sNo (tScan bt sz p)) := ⟨_, rfl⟩
  have hk16 : kk ≤ 16 := by omega
  rw [← hkk] at m2 hF
  obtain ⟨nt, hnt⟩ : ∃ n, n = sNt (tScan bt sz p) := ⟨_, rfl⟩
  obtain ⟨nk, hnk⟩ : ∃ n, n = sNk (tScan bt sz p) := ⟨_, rfl⟩
  rw [← hnt] at hF
  rw [← hnt, ← hnk] at m1
  obtain ⟨nkn, hnkn⟩ : ∃ f, f = mKn (tW bt sz) nt nk := ⟨_, rfl⟩
  -- errors along the line
  obtain ⟨eR, heR⟩ : ∃ eR : Nat → Nat × Nat, eR = fun j => eLoc (tTk bt sz) nkn (p + 1) (sErr (decide (16 ≤ sNo (tScan bt sz p))) 4 p (sEr (tScan bt sz p))) (j - (p + 1)) := ⟨_, rfl⟩
  have hE : mErr (tTk bt sz) (mKn (tW bt sz) nt nk) (p + 1) eR := by rw [heR, hnkn]; exact eLoc_err _ _ _
  have eR1 : eR (p + 1) = sErr (decide (16 ≤ sNo (tScan bt sz p))) 4 p (sEr (tScan bt sz p)) := by rw [heR]; show eLoc _ _ _ _ (p + 1 - (p + 1)) = _; rw [Nat.sub_self]; rfl
  refine C_X13_order G M F _ ?_
  have e118 : (if M 118 4 < 16 then M 118 4 else 16) = nI kk := by rw [m2]; exact eMin' hk16
  rw [e118]
  -- behind the mark
  have main : ∀ M1, mFr M M1 b → mRd (tTk bt sz) (tT bt sz) (tW bt sz) nt nk (tNb bt sz) M1 p b 0 (eR (p + 1)) → Ev (eZ G 100 40 0 0 (eFV F)) G 100 40 (101, 0, 0) kX13_order 24 [(0, .ref (G.1 100)), (1, .int (nI (mDoes (tTk bt sz p)))), (2, .int (nI kk))] [] M1 0 0 := by
    intro M1 f1 r1
    obtain ⟨f2, r2⟩ := r1.step
    have e11 : (eU M1 100 8 ((M1 100 8) + 1)) 118 11 = nI b := r2.2.2.2.2.2
    refine B_X13_order_24 G M1 F _ _ ⟨vp_in_nI (by omega) (by decide), vp_in_nI (by omega) (by decide), ?_⟩
    rw [nI_clamp (show kk < 2 ^ 31 by omega), e11]
    obtain ⟨M2, hM2⟩ : ∃ M2, M2 = eU (eU (eU M1 100 8 ((M1 100 8) + 1)) 122 kk (nI b)) 120 kk (nI (mDoes (tTk bt sz p))) := ⟨_, rfl⟩
    rw [← hM2]
    have f02 : hFr M M2 b kk nt := by
      rw [hM2]
      exact (((f1.trans f2 (Nat.le_refl _)).h kk nt).trans (hFr.one (c := 122) (j := kk) (by omega)) (Nat.le_refl b) (Nat.le_refl kk) (Nat.le_refl nt)).trans (hFr.one (c := 120) (j := kk) (by omega)) (Nat.le_refl b) (Nat.le_refl kk) (Nat.le_refl nt)
    have c2 : mRx (tTk bt sz) (tT bt sz) (tW bt sz) nt nk (tNb bt sz) eR M2 (p + 1) b 0 := by
      rw [hM2]
      exact (r2.row (by decide)).row (by decide)
    have rows2 : M2 120 kk = nI (mDoes (tTk bt sz p)) ∧ M2 122 kk = nI b := by
      rw [hM2]
      exact ⟨eU_same _ _ _ _, by rw [eU_cell _ _ _ _ (by decide), eU_same]⟩
    have k119 : ∀ (Ma Mb : eM) (bb : Nat), mFr Ma Mb bb → (∀ j, Mb 119 j = Ma 119 j) := fun Ma Mb bb f j => f.row (by decide) (by omega) (by decide)
    have n119 : ∀ j, M2 119 j = M 119 j := fun j => by
      rw [hM2, eU_cell _ _ _ _ (by decide), eU_cell _ _ _ _ (by decide), k119 _ _ _ (f1.trans f2 (Nat.le_refl _))]
    have n118 : ∀ j, j ≠ 11 → M2 118 j = M 118 j := fun j hj => by
      rw [hM2, eU_cell _ _ _ _ (by decide), eU_cell _ _ _ _ (by decide)]
      exact (f1.trans f2 (Nat.le_refl _)).row (by decide) (by omega) (by decide)
    clear hM2 e11 r2 f2 r1
    unfold pOrder at hx
    have wr : ∀ (M3 : eM) (e : Nat), hFr M M3 b kk nt → mWrong M3 e → x = .inl e → Ev (eZ G 100 40 0 0 (eFV F)) G 100 40 (101, 0, 0) kX13_order 142 [(0, .ref (G.1 100)), (2, .int (nI kk))] [] M3 0 0 := by
      intro M3 e f3 w3 hxe
      subst hxe
      exact O_tail w3 hk16 f3 F hF
    have ft : ∀ (Ma : eM) (j : Nat) (v : Int32), hFr M Ma b kk nt → 3 * kk ≤ j → hFr M (eU Ma 124 j v) b kk nt := fun Ma j v f hj => f.trans (hFr.one (c := 124) (j := j) (by omega)) (Nat.le_refl b) (Nat.le_refl kk) (Nat.le_refl nt)
    have e3k : (3 : Int32) * nI kk = nI (3 * kk) := by rw [eL3, nI_mul]
    have e3k1 : nI (3 * kk) + 1 = nI (3 * kk + 1) := (nI_succ _).symm
    have e3k2 : nI (3 * kk) + 2 = nI (3 * kk + 2) := by rw [eL2, nI_add]
    have m04 : mDoes (tTk bt sz p) = 0 ↔ tTk bt sz p = 4 := by unfold mDoes; rcases hk with z | z | z <;> (rw [z]; decide)
    rcases gEat_on hx with ⟨h41, hx⟩ | ⟨h41, hxe⟩
    rotate_left
    · -- no name
      refine X_name ht hE c2 (Nat.le_refl _) (by omega) _ (fun z => absurd z h41) (fun _ M3 f3 b3 => ⟨vp_in_nI (by omega) (by decide), ?_⟩)
      have g3 := (f02.trans (f3.h kk nt) (Nat.le_refl b) (Nat.le_refl kk) (Nat.le_refl nt)).trans (hFr.one (c := 121) (j := kk) (v := 0) (by omega)) (Nat.le_refl b) (Nat.le_refl kk) (Nat.le_refl nt)
      have w3 : mWrong (eU M3 121 kk 0) (p + 1) := b3.wrong.eU (by decide)
      refine ⟨fun _ => wr _ _ g3 w3 hxe, fun _ => ?_⟩
      refine W_take w3.ne _ _ (W_sumC 93 w3.ne _ ?_)
      rw [e3k, e3k1, e3k2, nI_clamp (show 3 * kk < 2 ^ 31 by omega), nI_clamp (show 3 * kk + 1 < 2 ^ 31 by omega), nI_clamp (show 3 * kk + 2 < 2 ^ 31 by omega)]
      refine ⟨vp_in_nI (by omega) (by decide), W_take (w3.eU (c := 124) (by decide)).ne _ _ (W_sumC 93 (w3.eU (c := 124) (by decide)).ne _ ⟨vp_in_nI (by omega) (by decide), W_take ((w3.eU (c := 124) (by decide)).eU (c := 124) (by decide)).ne _ _ (W_sumC 93 ((w3.eU (c := 124) (by decide)).eU (c := 124) (by decide)).ne _ ⟨vp_in_nI (by omega) (by decide), ?_⟩)⟩)⟩
      exact wr _ _ (ft _ _ _ (ft _ _ _ (ft _ _ _ g3 (by omega)) (by omega)) (by omega)) (((w3.eU (c := 124) (by decide)).eU (c := 124) (by decide)).eU (c := 124) (by decide)) hxe
    have hp1 := ht.lt (show p + 1 ≤ tT bt sz by omega) (by omega) (by omega)
    refine X_name ht hE c2 (Nat.le_refl _) (by omega) _ (fun _ M3 f3 c3 => ⟨vp_in_nI (by omega) (by decide), ?_⟩) (fun z => absurd h41 z)
    obtain ⟨tile, htile⟩ : ∃ t, t = (mKn (tW bt sz) nt nk (p + 1)).getD 0 := ⟨_, rfl⟩
    rw [← htile]
    have g3 := (f02.trans (f3.h kk nt) (Nat.le_refl b) (Nat.le_refl kk) (Nat.le_refl nt)).trans (hFr.one (c := 121) (j := kk) (v := nI tile) (by omega)) (Nat.le_refl b) (Nat.le_refl kk) (Nat.le_refl nt)
    have c4 : mRx (tTk bt sz) (tT bt sz) (tW bt sz) nt nk (tNb bt sz) eR (eU M3 121 kk (nI tile)) (p + 2) b 0 := mRd.row c3 (by decide)
    have rows4 : (eU M3 121 kk (nI tile)) 120 kk = nI (mDoes (tTk bt sz p)) ∧ (eU M3 121 kk (nI tile)) 121 kk = nI tile ∧ (eU M3 121 kk (nI tile)) 122 kk = nI b := by
      refine ⟨?_, eU_same _ _ _ _, ?_⟩
      · rw [eU_cell _ _ _ _ (by decide), f3.row (by decide) (by omega) (by decide)]; exact rows2.1
      · rw [eU_cell _ _ _ _ (by decide), f3.row (by decide) (by omega) (by decide)]; exact rows2.2
    have n4 : ∀ j, (eU M3 121 kk (nI tile)) 119 j = M 119 j := fun j => by rw [eU_cell _ _ _ _ (by decide), k119 _ _ _ f3, n119]
    have n48 : ∀ j, j ≠ 11 → (eU M3 121 kk (nI tile)) 118 j = M 118 j := fun j hj => by rw [eU_cell _ _ _ _ (by decide), f3.row (by decide) (by omega) (by decide), n118 j hj]
    generalize eU M3 121 kk (nI tile) = M4 at g3 c4 rows4 n4 n48
    clear c3 f3 M3 c2 rows2 n119 n118
    -- the test and the end
    have fin : ∀ (M5 : eM) (s : List pSt × List pSt × List pSt) (r bb : Nat), hFr M M5 b kk nt → mRx (tTk bt sz) (tT bt sz) (tW bt sz) nt nk (tNb bt sz) eR M5 r bb 0 → p + 1 ≤ r → r ≤ tT bt sz → bb ≤ r → bb = b + s.1.length + s.2.1.length + s.2.2.length → mCd (mKn (tW bt sz) nt nk) (tNb bt sz) M5 b (s.1 ++ (s.2.1 ++ s.2.2)) → (M5 120 kk = nI (mDoes (tTk bt sz p)) ∧ M5 121 kk = nI tile ∧ M5 122 kk = nI b) → (tTk bt sz p = 4 → M5 124 (3 * kk) = nI (b + s.1.length - 1) ∧ M5 124 (3 * kk + 1) = nI (b + s.1.length + s.2.1.length - 1) ∧ M5 124 (3 * kk + 2) = nI (bb - 1)) → (∀ j, M5 119 j = M 119 j) → (∀ j, j ≠ 11 → M5 118 j = M 118 j) → pWhen (tTk bt sz) 2500 (tTk bt sz p, p + 1, b) s r bb = some x → (∀ q o, x = .inr (q, o) → pOk (tTk bt sz) (tT bt sz) p b q o) → Ev (eZ G 100 40 0 0 (eFV F)) G 100 40 (101, 0, 0) kX13_order 142 [(0, .ref (G.1 100)), (2, .int (nI kk))] [] M5 0 0 := by
      intro M5 s r bb f5 c5 hr1 hr hbr hbb k5 rows5 sums5 n5 n58 hw hok
      have done : ∀ (M6 : eM) (q : Nat) (tst : List pSt) (has : Bool) (tv : Int32), mFr M5 M6 bb → mRx (tTk bt sz) (tT bt sz) (tW bt sz) nt nk (tNb bt sz) eR M6 q (bb + tst.length) 0 → mCd (mKn (tW bt sz) nt nk) (tNb bt sz) M6 b (s.1 ++ (s.2.1 ++ (s.2.2 ++ tst))) → tv = (if has = true then nI (bb + tst.length - 1) else -1) → x = .inr (q, ((tTk bt sz p, p + 1, b), s, (tst, has))) → (F (eU (eU (eU M6 125 kk tv) 123 kk ((eU M6 125 kk tv) 118 11)) 118 4 (if (nI kk + 1) < 16 then (nI kk + 1) else 16))) := by
        intro M6 q tst has tv f6 c6 k6 htv hxe
        subst hxe
        have hpo := hok _ _ rfl
        obtain ⟨o1, o2, o3, o4, -, o6, -⟩ := hpo
        have e11 : (eU M6 125 kk tv) 118 11 = nI (bb + tst.length) := by rw [eU_cell _ _ _ _ (by decide)]; exact c6.2.2.2.2.2
        rw [e11, eMinS hk16]
        have hq : p + 2 ≤ q := by omega
        obtain ⟨d, hd⟩ : ∃ d, q = p + 1 + d := ⟨q - (p + 1), by omega⟩
        obtain ⟨g1, g2, g3', g4, g5, g6⟩ := O_er (bt := bt) (sz := sz) (p := p) (q := q) hk (fun j a1 a2 => by have := o4 j a1 a2; omega)
        obtain ⟨w1, w2, w3, w4, w5⟩ := g6 d (by omega)
        have len : b + (oCode ((tTk bt sz p, p + 1, b), s, (tst, has))).length = bb + tst.length := by
          have := oCode_len ((tTk bt sz p, p + 1, b), s, (tst, has))
          show b + _ = _
          have e2 : oFrom ((tTk bt sz p, p + 1, b), s, (tst, has)) = b := rfl
          rw [e2] at this
          rw [this, hbb]
        have hNt : sNt (tScan bt sz q) = nt := by rw [hd, show sNt (tScan bt sz (p + 1 + d)) = sNt (tScan bt sz (p + 1)) from congrArg (fun z => z.2.1) w1, g2, hnt]
        have hNk : sNk (tScan bt sz q) = nk := by rw [hd, w2, hnk]
        have hNo : sNo (tScan bt sz q) = sNo (tScan bt sz p) + 1 := by rw [hd, show sNo (tScan bt sz (p + 1 + d)) = sNo (tScan bt sz (p + 1)) from congrArg (fun z => z.2.2.1) w1, g3']
        have hEr : sEr (tScan bt sz q) = eR q := by
          rw [hd, w5, heR, hnkn, hnt, hnk, g5]
          show _ = eLoc _ _ _ _ (p + 1 + d - (p + 1))
          rw [Nat.add_sub_cancel_left]
        have hrow : ∀ c j v w, 119 ≤ c → c ≤ 125 → (eU (eU (eU M6 125 kk tv) 123 kk v) 118 4 w) c j = (eU (eU M6 125 kk tv) 123 kk v) c j := fun c j v w c1 c2 => eU_cell _ _ _ _ (by omega)
        have fAll : hFr M (eU (eU (eU M6 125 kk tv) 123 kk (nI (bb + tst.length))) 118 4 (nI (min 16 (kk + 1)))) b kk nt := (((f5.trans (f6.h kk nt) (by omega) (Nat.le_refl kk) (Nat.le_refl nt)).trans (hFr.one (c := 125) (j := kk) (by omega)) (Nat.le_refl b) (Nat.le_refl kk) (Nat.le_refl nt)).trans (hFr.one (c := 123) (j := kk) (by omega)) (Nat.le_refl b) (Nat.le_refl kk) (Nat.le_refl nt)).trans (hFr.one (c := 118) (j := 4) (by omega)) (Nat.le_refl b) (Nat.le_refl kk) (Nat.le_refl nt)
        refine hF _ fAll ⟨?_, ?_, m3.fr fAll⟩ ?_ ?_ (fun j => ?_) ?_ ?_
        · rw [hNt, hNk, hEr, len]
          have z := (mRd.row c6 (c := 125) (j := kk) (v := tv) (by decide)).row (c := 123) (j := kk) (v := nI (bb + tst.length)) (by decide)
          obtain ⟨⟨h1, h2, h3, h4, h5, h6⟩, z2, z3, z4, z5, z6⟩ := z
          refine ⟨⟨fun j hj => ?_, ⟨?_, h2.2⟩, fun i hi => ⟨?_, (h3 i hi).2⟩, fun j hj hkj => ⟨?_, ?_, (h4 j hj hkj).2.2⟩, fun i hi => ?_, fun j hj hkj => ?_⟩, ?_, ?_, ⟨?_, ?_, z4.2.2⟩, ?_, ?_⟩
          · rw [eU_cell _ _ _ _ (by decide)]; exact h1 j hj
          · rw [eU_place _ _ _ _ (by decide)]; exact h2.1
          · rw [eU_cell _ _ _ _ (by decide)]; exact (h3 i hi).1
          · rw [eU_cell _ _ _ _ (by decide)]; exact (h4 j hj hkj).1
          · rw [eU_cell _ _ _ _ (by decide)]; exact (h4 j hj hkj).2.1
          · rw [eU_cell _ _ _ _ (by decide)]; exact h5 i hi
          · rw [eU_cell _ _ _ _ (by decide)]; exact h6 j hj hkj
          · rw [eU_cell _ _ _ _ (by decide)]; exact z2
          · rw [eU_cell _ _ _ _ (by decide)]; exact z3
          · rw [eU_cell _ _ _ _ (by decide)]; exact z4.1
          · rw [eU_cell _ _ _ _ (by decide)]; exact z4.2.1
          · rw [eU_cell _ _ _ _ (by decide)]; exact z5
          · rw [eU_place _ _ _ _ (by decide)]; exact z6
        · rw [eU_same, hNo, show min 16 (sNo (tScan bt sz p) + 1) = min 16 (kk + 1) by omega]
        · have z1 : gCd M6 bt sz b (oCode ((tTk bt sz p, p + 1, b), s, (tst, has))) := O_code k6 (o6.mono (Nat.le_refl p) (Nat.le_refl q)) (fun j a1 a2 => by
            by_cases hj : j = p
            · rw [hj]; exact ⟨hnt.symm, hnk.symm⟩
            · obtain ⟨d', hd'⟩ : ∃ d', j = p + 1 + d' := ⟨j - (p + 1), by omega⟩
              obtain ⟨y1, y2, -⟩ := g6 d' (by omega)
              rw [hd']
              exact ⟨by rw [show sNt (tScan bt sz (p + 1 + d')) = sNt (tScan bt sz (p + 1)) from congrArg (fun z => z.2.1) y1, g2, hnt], by rw [y2, hnk]⟩)
          intro i s' hs'
          obtain ⟨y1, y2, y3⟩ := z1 i s' hs'
          rw [eU_cell _ _ _ _ (by decide), eU_cell _ _ _ _ (by decide), eU_cell _ _ _ _ (by decide), eU_cell _ _ _ _ (by decide), eU_cell _ _ _ _ (by decide), eU_cell _ _ _ _ (by decide), eU_cell _ _ _ _ (by decide), eU_cell _ _ _ _ (by decide), eU_cell _ _ _ _ (by decide)]
          exact ⟨y1, y2, y3⟩
        · have t1 : tTile bt sz (p + 1) = tile := by
            unfold tTile sKn
            rw [g2, g4, htile, hnt, hnk]
          have r6 : ∀ c j, 119 ≤ c → c ≤ 125 → M6 c j = M5 c j := fun c j c1 c2 => f6.row (by omega) (by omega) (by omega)
          refine ⟨?_, ?_, ?_, ?_, fun z => ?_, ?_⟩
          · rw [hrow _ _ _ _ (by decide) (by decide), eU_cell _ _ _ _ (by decide), eU_cell _ _ _ _ (by decide), r6 _ _ (by decide) (by decide)]; exact rows5.1
          · rw [hrow _ _ _ _ (by decide) (by decide), eU_cell _ _ _ _ (by decide), eU_cell _ _ _ _ (by decide), r6 _ _ (by decide) (by decide)]
            show M5 121 kk = nI (tTile bt sz (p + 1))
            rw [t1]; exact rows5.2.1
          · rw [hrow _ _ _ _ (by decide) (by decide), eU_cell _ _ _ _ (by decide), eU_cell _ _ _ _ (by decide), r6 _ _ (by decide) (by decide)]; exact rows5.2.2
          · rw [hrow _ _ _ _ (by decide) (by decide), eU_same]
            show nI (bb + tst.length) = nI (b + s.1.length + s.2.1.length + s.2.2.length + tst.length)
            rw [hbb]
          · obtain ⟨q1, q2, q3⟩ := sums5 z
            rw [hrow _ _ _ _ (by decide) (by decide), hrow _ _ _ _ (by decide) (by decide), hrow _ _ _ _ (by decide) (by decide), eU_cell _ _ _ _ (by decide), eU_cell _ _ _ _ (by decide), eU_cell _ _ _ _ (by decide), eU_cell _ _ _ _ (by decide), eU_cell _ _ _ _ (by decide), eU_cell _ _ _ _ (by decide), r6 _ _ (by decide) (by decide), r6 _ _ (by decide) (by decide), r6 _ _ (by decide) (by decide)]
            refine ⟨q1, q2, ?_⟩
            show M5 124 (3 * kk + 2) = nI (b + s.1.length + s.2.1.length + s.2.2.length - 1)
            rw [← hbb]; exact q3
          · rw [hrow _ _ _ _ (by decide) (by decide), eU_cell _ _ _ _ (by decide), eU_same, htv]
            show (if has = true then nI (bb + tst.length - 1) else -1) = (if has = true then nI (b + s.1.length + s.2.1.length + s.2.2.length + tst.length - 1) else -1)
            rw [hbb]
        · rw [hrow _ _ _ _ (by decide) (by decide), eU_cell _ _ _ _ (by decide), eU_cell _ _ _ _ (by decide), f6.row (by decide) (by omega) (by decide)]; exact n5 j
        · rw [eU_place _ _ _ _ (by decide), eU_cell _ _ _ _ (by decide), eU_cell _ _ _ _ (by decide), f6.row (by decide) (by omega) (by decide)]; exact n58 0 (by decide)
        · rw [eU_place _ _ _ _ (by decide), eU_cell _ _ _ _ (by decide), eU_cell _ _ _ _ (by decide), f6.row (by decide) (by omega) (by decide)]; exact n58 1 (by decide)
      unfold pWhen at hw
      refine B_X13_order_142 G M5 F _ (X_takes ht hE c5 hr1 hr _ 9 8 (by decide) rfl (fun h9 M6 f6 c6 => ⟨cTF, fun _ => ?_⟩) (fun h9 => ⟨fun _ => ?_, cFT⟩))
      · rw [if_pos h9] at hw
        have hrT := ht.lt hr (by omega) (by omega)
        rcases gThen_on hw with ⟨e, hr2, hxe⟩ | ⟨q4, c4', hr2, hw⟩
        · refine mP_all ht hE 2500 8 0 (r + 1) bb 95 M6 _ _ (by decide) (by decide) (by omega) hrT (by omega) (fun z => by cases z) c6 hr2 (fun M7 r7 n' f7 b7 l1 l2 => ⟨vp_in_nI (by omega) (by decide), vp_in_nI (by omega) (by decide), ?_⟩) (by decide)
          rw [nI_clamp (show kk < 2 ^ 31 by omega)]
          subst hxe
          exact hF _ ((((f5.trans ((f6.trans f7 (Nat.le_refl _)).h kk nt) (by omega) (Nat.le_refl kk) (Nat.le_refl nt)).trans (hFr.one (c := 125) (j := kk) (by omega)) (Nat.le_refl b) (Nat.le_refl kk) (Nat.le_refl nt)).trans (hFr.one (c := 123) (j := kk) (by omega)) (Nat.le_refl b) (Nat.le_refl kk) (Nat.le_refl nt)).trans (hFr.one (c := 118) (j := 4) (by omega)) (Nat.le_refl b) (Nat.le_refl kk) (Nat.le_refl nt)) (((b7.wrong.eU (by decide)).eU (by decide)).eU (by decide))
        · cases hw
          refine mP_all ht hE 2500 8 0 (r + 1) bb 95 M6 _ _ (by decide) (by decide) (by omega) hrT (by omega) (fun z => by cases z) c6 hr2 (fun M7 f7 c7 k7 => ⟨vp_in_nI (by omega) (by decide), vp_in_nI (by omega) (by decide), ?_⟩) (by decide)
          rw [nI_clamp (show kk < 2 ^ 31 by omega)]
          have f67 := f6.trans f7 (Nat.le_refl _)
          refine done M7 q4 c4' true _ f67 c7 ?_ rfl rfl
          have e1 : s.1 ++ (s.2.1 ++ (s.2.2 ++ c4')) = (s.1 ++ (s.2.1 ++ s.2.2)) ++ c4' := by rw [List.append_assoc, List.append_assoc]
          have ls : (s.1 ++ (s.2.1 ++ s.2.2)).length = s.1.length + s.2.1.length + s.2.2.length := by rw [List.length_append, List.length_append]; omega
          rw [e1]
          refine (k5.keep f67 (by rw [ls]; omega)).append ?_
          rw [ls, show b + (s.1.length + s.2.1.length + s.2.2.length) = bb by omega]
          exact k7
      · rw [if_neg h9] at hw
        cases hw
        refine ⟨vp_in_nI (by omega) (by decide), vp_in_nI (by omega) (by decide), ?_⟩
        rw [nI_clamp (show kk < 2 ^ 31 by omega)]
        refine done M5 r [] false _ (mFr.refl _ _) c5 ?_ rfl rfl
        rw [List.append_nil]
        exact k5
    have hok : ∀ q o, x = .inr (q, o) → pOk (tTk bt sz) (tT bt sz) p b q o := by
      intro q o hxe
      refine pOrder_ok (n := 2500) ht hp hk ?_
      rw [← hxe]
      unfold pOrder
      unfold gEat
      rw [if_pos h41]
      exact hx
    by_cases h4 : tTk bt sz p = 4
    · rw [if_pos h4] at hx
      refine ⟨fun z => absurd (by rw [m04.mpr h4]; rfl) z, fun _ => ?_⟩
      rw [e3k, e3k1, e3k2, nI_clamp (show 3 * kk < 2 ^ 31 by omega), nI_clamp (show 3 * kk + 1 < 2 ^ 31 by omega), nI_clamp (show 3 * kk + 2 < 2 ^ 31 by omega)]
      have row124 : ∀ (Ma : eM) (j : Nat) (v : Int32) (r bb : Nat), mRx (tTk bt sz) (tT bt sz) (tW bt sz) nt nk (tNb bt sz) eR Ma r bb 0 → mRx (tTk bt sz) (tT bt sz) (tW bt sz) nt nk (tNb bt sz) eR (eU Ma 124 j v) r bb 0 := fun Ma j v r bb c => mRd.row c (by decide)
      rcases gEat_on hx with ⟨h5, hx⟩ | ⟨h5, hxe⟩
      rotate_left
      · refine X_take ht hE c4 (by omega) (by omega) _ 5 4 (by decide) rfl (fun z => absurd z h5) (fun _ M5 f5 b5 => ?_)
        have g5 := g3.trans (f5.h kk nt) (Nat.le_refl b) (Nat.le_refl kk) (Nat.le_refl nt)
        have w3 := b5.wrong
        refine W_sumC 93 w3.ne _ ⟨vp_in_nI (by omega) (by decide), W_take (w3.eU (c := 124) (by decide)).ne _ _ (W_sumC 93 (w3.eU (c := 124) (by decide)).ne _ ⟨vp_in_nI (by omega) (by decide), W_take ((w3.eU (c := 124) (by decide)).eU (c := 124) (by decide)).ne _ _ (W_sumC 93 ((w3.eU (c := 124) (by decide)).eU (c := 124) (by decide)).ne _ ⟨vp_in_nI (by omega) (by decide), ?_⟩)⟩)⟩
        exact wr _ _ (ft _ _ _ (ft _ _ _ (ft _ _ _ g5 (by omega)) (by omega)) (by omega)) (((w3.eU (c := 124) (by decide)).eU (c := 124) (by decide)).eU (c := 124) (by decide)) hxe
      have hp2 := ht.lt (show p + 2 ≤ tT bt sz by omega) (by omega) (by omega)
      refine X_take ht hE c4 (by omega) (by omega) _ 5 4 (by decide) rfl (fun _ M5 f5 c5 => ?_) (fun z => absurd h5 z)
      have g5 := g3.trans (f5.h kk nt) (Nat.le_refl b) (Nat.le_refl kk) (Nat.le_refl nt)
      have rw5 : ∀ (Ma Mb : eM) (bb : Nat), mFr Ma Mb bb → ∀ c j, 119 ≤ c → c ≤ 125 → Mb c j = Ma c j := fun Ma Mb bb f c j c1 c2 => f.row (by omega) (by omega) (by omega)
      have r18 : ∀ (Ma Mb : eM) (bb : Nat), mFr Ma Mb bb → ∀ j, j ≠ 11 → Mb 118 j = Ma 118 j := fun Ma Mb bb f j hj => f.row (by decide) (by omega) (by decide)
      rcases gThen_on hx with ⟨e, hr1, hxe⟩ | ⟨p1, c1, hr1, hx⟩
      · refine mP_all ht hE 2500 3 0 (p + 3) b 95 M5 _ _ (by decide) (by decide) (by omega) (by omega) (by omega) (fun z => by cases z) c5 hr1 (fun M6 r6 n' f6 b6 l1 l2 => ?_) (by decide)
        have g6 := g5.trans (f6.h kk nt) (Nat.le_refl b) (Nat.le_refl kk) (Nat.le_refl nt)
        have w3 := b6.wrong
        refine ⟨vp_in_nI (by omega) (by decide), W_take (w3.eU (c := 124) (by decide)).ne _ _ (W_sumC 93 (w3.eU (c := 124) (by decide)).ne _ ⟨vp_in_nI (by omega) (by decide), W_take ((w3.eU (c := 124) (by decide)).eU (c := 124) (by decide)).ne _ _ (W_sumC 93 ((w3.eU (c := 124) (by decide)).eU (c := 124) (by decide)).ne _ ⟨vp_in_nI (by omega) (by decide), ?_⟩)⟩)⟩
        exact wr _ _ (ft _ _ _ (ft _ _ _ (ft _ _ _ g6 (by omega)) (by omega)) (by omega)) (((w3.eU (c := 124) (by decide)).eU (c := 124) (by decide)).eU (c := 124) (by decide)) hxe
      obtain ⟨q1, q2, q2'⟩ := pE_fine ht _ _ _ _ _ _ (show p + 3 ≤ tT bt sz by omega) hr1
      have l1 : 1 ≤ c1.length := q2' rfl
      refine mP_all ht hE 2500 3 0 (p + 3) b 95 M5 _ _ (by decide) (by decide) (by omega) (by omega) (by omega) (fun z => by cases z) c5 hr1 (fun M6 f6 c6 k6 => ⟨vp_in_nI (by omega) (by decide), ?_⟩) (by decide)
      have g6 := ft _ (3 * kk) (nI (b + c1.length - 1)) (g5.trans (f6.h kk nt) (Nat.le_refl b) (Nat.le_refl kk) (Nat.le_refl nt)) (Nat.le_refl _)
      have c6' := row124 _ (3 * kk) (nI (b + c1.length - 1)) _ _ c6
      have k6' := k6.row (c := 124) (j := 3 * kk) (v := nI (b + c1.length - 1)) (by decide)
      have rows6 : (eU M6 124 (3 * kk) (nI (b + c1.length - 1))) 120 kk = nI (mDoes (tTk bt sz p)) ∧ (eU M6 124 (3 * kk) (nI (b + c1.length - 1))) 121 kk = nI tile ∧ (eU M6 124 (3 * kk) (nI (b + c1.length - 1))) 122 kk = nI b := by
        have f56 := f5.trans f6 (Nat.le_refl _)
        rw [eU_cell _ _ _ _ (by decide), eU_cell _ _ _ _ (by decide), eU_cell _ _ _ _ (by decide), rw5 _ _ _ f56 120 kk (by decide) (by decide), rw5 _ _ _ f56 121 kk (by decide) (by decide), rw5 _ _ _ f56 122 kk (by decide) (by decide)]
        exact rows4
      have n6 : ∀ j, (eU M6 124 (3 * kk) (nI (b + c1.length - 1))) 119 j = M 119 j := fun j => by rw [eU_cell _ _ _ _ (by decide), rw5 _ _ _ (f5.trans f6 (Nat.le_refl _)) 119 j (by decide) (by decide)]; exact n4 j
      have n68 : ∀ j, j ≠ 11 → (eU M6 124 (3 * kk) (nI (b + c1.length - 1))) 118 j = M 118 j := fun j hj => by rw [eU_cell _ _ _ _ (by decide), r18 _ _ _ (f5.trans f6 (Nat.le_refl _)) j hj]; exact n48 j hj
      have s6 : (eU M6 124 (3 * kk) (nI (b + c1.length - 1))) 124 (3 * kk) = nI (b + c1.length - 1) := eU_same _ _ _ _
      generalize eU M6 124 (3 * kk) (nI (b + c1.length - 1)) = N6 at g6 c6' k6' rows6 n6 n68 s6
      clear k6 c6 f6 M6
      rcases gEat_on hx with ⟨h30, hx⟩ | ⟨h30, hxe⟩
      rotate_left
      · refine X_take ht hE c6' (by omega) q1 _ 30 54 (by decide) rfl (fun z => absurd z h30) (fun _ M7 f7 b7 => ?_)
        have g7 := g6.trans (f7.h kk nt) (by omega) (Nat.le_refl kk) (Nat.le_refl nt)
        have w3 := b7.wrong
        refine W_sumC 93 w3.ne _ ⟨vp_in_nI (by omega) (by decide), W_take (w3.eU (c := 124) (by decide)).ne _ _ (W_sumC 93 (w3.eU (c := 124) (by decide)).ne _ ⟨vp_in_nI (by omega) (by decide), ?_⟩)⟩
        exact wr _ _ (ft _ _ _ (ft _ _ _ g7 (by omega)) (by omega)) ((w3.eU (c := 124) (by decide)).eU (c := 124) (by decide)) hxe
      have hp3 := ht.lt q1 (by omega) (by omega)
      refine X_take ht hE c6' (by omega) q1 _ 30 54 (by decide) rfl (fun _ M7 f7 c7 => ?_) (fun z => absurd h30 z)
      have g7 := g6.trans (f7.h kk nt) (by omega) (Nat.le_refl kk) (Nat.le_refl nt)
      rcases gThen_on hx with ⟨e, hr2, hxe⟩ | ⟨p2, c2', hr2, hx⟩
      · refine mP_all ht hE 2500 3 0 (p1 + 1) (b + c1.length) 95 M7 _ _ (by decide) (by decide) (by omega) hp3 (by omega) (fun z => by cases z) c7 hr2 (fun M8 r8 n' f8 b8 l2 l3 => ?_) (by decide)
        have g8 := g7.trans (f8.h kk nt) (by omega) (Nat.le_refl kk) (Nat.le_refl nt)
        have w3 := b8.wrong
        refine ⟨vp_in_nI (by omega) (by decide), W_take (w3.eU (c := 124) (by decide)).ne _ _ (W_sumC 93 (w3.eU (c := 124) (by decide)).ne _ ⟨vp_in_nI (by omega) (by decide), ?_⟩)⟩
        exact wr _ _ (ft _ _ _ (ft _ _ _ g8 (by omega)) (by omega)) ((w3.eU (c := 124) (by decide)).eU (c := 124) (by decide)) hxe
      obtain ⟨q3, q4, q4'⟩ := pE_fine ht _ _ _ _ _ _ hp3 hr2
      have l2 : 1 ≤ c2'.length := q4' rfl
      refine mP_all ht hE 2500 3 0 (p1 + 1) (b + c1.length) 95 M7 _ _ (by decide) (by decide) (by omega) hp3 (by omega) (fun z => by cases z) c7 hr2 (fun M8 f8 c8 k8 => ⟨vp_in_nI (by omega) (by decide), ?_⟩) (by decide)
      have f78 := f7.trans f8 (Nat.le_refl _)
      have g8 := ft _ (3 * kk + 1) (nI (b + c1.length + c2'.length - 1)) (g7.trans (f8.h kk nt) (by omega) (Nat.le_refl kk) (Nat.le_refl nt)) (by omega)
      have c8' := row124 _ (3 * kk + 1) (nI (b + c1.length + c2'.length - 1)) _ _ c8
      have k8' : mCd (mKn (tW bt sz) nt nk) (tNb bt sz) (eU M8 124 (3 * kk + 1) (nI (b + c1.length + c2'.length - 1))) b (c1 ++ c2') := ((k6'.keep f78 (Nat.le_refl _)).append k8).row (by decide)
      have rows8 : (eU M8 124 (3 * kk + 1) (nI (b + c1.length + c2'.length - 1))) 120 kk = nI (mDoes (tTk bt sz p)) ∧ (eU M8 124 (3 * kk + 1) (nI (b + c1.length + c2'.length - 1))) 121 kk = nI tile ∧ (eU M8 124 (3 * kk + 1) (nI (b + c1.length + c2'.length - 1))) 122 kk = nI b := by
        rw [eU_cell _ _ _ _ (by decide), eU_cell _ _ _ _ (by decide), eU_cell _ _ _ _ (by decide), rw5 _ _ _ f78 120 kk (by decide) (by decide), rw5 _ _ _ f78 121 kk (by decide) (by decide), rw5 _ _ _ f78 122 kk (by decide) (by decide)]
        exact rows6
      have n8 : ∀ j, (eU M8 124 (3 * kk + 1) (nI (b + c1.length + c2'.length - 1))) 119 j = M 119 j := fun j => by rw [eU_cell _ _ _ _ (by decide), rw5 _ _ _ f78 119 j (by decide) (by decide)]; exact n6 j
      have n88 : ∀ j, j ≠ 11 → (eU M8 124 (3 * kk + 1) (nI (b + c1.length + c2'.length - 1))) 118 j = M 118 j := fun j hj => by rw [eU_cell _ _ _ _ (by decide), r18 _ _ _ f78 j hj]; exact n68 j hj
      have s8 : (eU M8 124 (3 * kk + 1) (nI (b + c1.length + c2'.length - 1))) 124 (3 * kk) = nI (b + c1.length - 1) ∧ (eU M8 124 (3 * kk + 1) (nI (b + c1.length + c2'.length - 1))) 124 (3 * kk + 1) = nI (b + c1.length + c2'.length - 1) := by
        refine ⟨?_, eU_same _ _ _ _⟩
        rw [eU_place _ _ _ _ (by omega), rw5 _ _ _ f78 124 _ (by decide) (by decide)]
        exact s6
      generalize eU M8 124 (3 * kk + 1) (nI (b + c1.length + c2'.length - 1)) = N8 at g8 c8' k8' rows8 n8 n88 s8
      clear k8 c8 f78 f8 M8 f7 c7 g7 M7 g6 c6' k6' rows6 n6 n68 s6 N6
      rcases gEat_on hx with ⟨h6, hx⟩ | ⟨h6, hxe⟩
      rotate_left
      · refine X_take ht hE c8' (by omega) q3 _ 6 5 (by decide) rfl (fun z => absurd z h6) (fun _ M9 f9 b9 => ?_)
        have g9 := g8.trans (f9.h kk nt) (by omega) (Nat.le_refl kk) (Nat.le_refl nt)
        have w3 := b9.wrong
        refine W_sumC 93 w3.ne _ ⟨vp_in_nI (by omega) (by decide), ?_⟩
        exact wr _ _ (ft _ _ _ g9 (by omega)) (w3.eU (c := 124) (by decide)) hxe
      have hp4 := ht.lt q3 (by omega) (by omega)
      refine X_take ht hE c8' (by omega) q3 _ 6 5 (by decide) rfl (fun _ M9 f9 c9 => ?_) (fun z => absurd h6 z)
      have g9 := g8.trans (f9.h kk nt) (by omega) (Nat.le_refl kk) (Nat.le_refl nt)
      rcases gThen_on hx with ⟨e, hr3, hxe⟩ | ⟨p3, c3', hr3, hx⟩
      · refine mP_all ht hE 2500 3 0 (p2 + 1) (b + c1.length + c2'.length) 95 M9 _ _ (by decide) (by decide) (by omega) hp4 (by omega) (fun z => by cases z) c9 hr3 (fun M10 r10 n' f10 b10 l3 l4 => ⟨vp_in_nI (by omega) (by decide), ?_⟩) (by decide)
        have g10 := g9.trans (f10.h kk nt) (by omega) (Nat.le_refl kk) (Nat.le_refl nt)
        exact wr _ _ (ft _ _ _ g10 (by omega)) (b10.wrong.eU (c := 124) (by decide)) hxe
      obtain ⟨q5, q6, q6'⟩ := pE_fine ht _ _ _ _ _ _ hp4 hr3
      have l3 : 1 ≤ c3'.length := q6' rfl
      refine mP_all ht hE 2500 3 0 (p2 + 1) (b + c1.length + c2'.length) 95 M9 _ _ (by decide) (by decide) (by omega) hp4 (by omega) (fun z => by cases z) c9 hr3 (fun M10 f10 c10 k10 => ⟨vp_in_nI (by omega) (by decide), ?_⟩) (by decide)
      have f910 := f9.trans f10 (Nat.le_refl _)
      have g10 := ft _ (3 * kk + 2) (nI (b + c1.length + c2'.length + c3'.length - 1)) (g9.trans (f10.h kk nt) (by omega) (Nat.le_refl kk) (Nat.le_refl nt)) (by omega)
      have c10' := row124 _ (3 * kk + 2) (nI (b + c1.length + c2'.length + c3'.length - 1)) _ _ c10
      refine fin _ (c1, c2', c3') p3 (b + c1.length + c2'.length + c3'.length) g10 c10' (by omega) q5 (by omega) rfl ?_ ?_ (fun _ => ⟨?_, ?_, eU_same _ _ _ _⟩) (fun j => ?_) (fun j hj => ?_) hx hok
      · have z : mCd (mKn (tW bt sz) nt nk) (tNb bt sz) M10 b ((c1 ++ c2') ++ c3') := (k8'.keep f910 (by rw [List.length_append]; omega)).append (by rw [List.length_append, ← Nat.add_assoc]; exact k10)
        rw [List.append_assoc] at z
        exact z.row (by decide)
      · rw [eU_cell _ _ _ _ (by decide), eU_cell _ _ _ _ (by decide), eU_cell _ _ _ _ (by decide), rw5 _ _ _ f910 120 kk (by decide) (by decide), rw5 _ _ _ f910 121 kk (by decide) (by decide), rw5 _ _ _ f910 122 kk (by decide) (by decide)]
        exact rows8
      · rw [eU_place _ _ _ _ (by omega), rw5 _ _ _ f910 124 _ (by decide) (by decide)]; exact s8.1
      · rw [eU_place _ _ _ _ (by omega), rw5 _ _ _ f910 124 _ (by decide) (by decide)]; exact s8.2
      · rw [eU_cell _ _ _ _ (by decide), rw5 _ _ _ f910 119 j (by decide) (by decide)]; exact n8 j
      · rw [eU_cell _ _ _ _ (by decide), r18 _ _ _ f910 j hj]; exact n88 j hj
    · rw [if_neg h4] at hx
      refine ⟨fun _ => ?_, fun z => absurd (m04.mp ((nI_eq (b := 0) (by unfold mDoes; split <;> (try split) <;> omega) (by decide)).mp z)) h4⟩
      exact fin M4 ([], [], []) (p + 2) b g3 c4 (by omega) (by omega) (by omega) rfl (mCd.nil _ _) rows4 (fun z => absurd z h4) n4 n48 hx hok
  refine ⟨fun q => ?_, fun q => ?_⟩
  · have hne : ¬ 16 ≤ sNo (tScan bt sz p) := fun z => q (by rw [show kk = 16 by omega]; rfl)
    rw [decide_eq_false hne, sErr_f] at eR1
    exact main M (mFr.refl _ _) (by rw [eR1]; exact m1)
  · have h16 : kk = 16 := (nI_eq (b := 16) (by omega) (by decide)).mp q
    refine S_mark m1 _ 4 (by decide) (fun M1 f1 r1 => main M1 f1 ?_)
    rw [eR1, decide_eq_true (show 16 ≤ sNo (tScan bt sz p) by omega)]
    unfold sErr
    by_cases h0 : (sEr (tScan bt sz p)).1 = 0
    · rw [if_pos ⟨h0, rfl⟩]
      rw [if_pos h0] at r1
      exact r1
    · rw [if_neg (fun z => h0 z.1)]
      rw [if_neg h0] at r1
      exact r1
end MOrder
