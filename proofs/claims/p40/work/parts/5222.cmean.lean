/-! ===== what the tokens mean, from left to right ===== -/
section CMean
variable {G : eG} {M : eM} {bt : Nat → Nat} {sz : Nat}
theorem T_saysSame (hT : cTape M bt sz) (F : Bool → eM → Prop) {a c n : Nat} (ha : a + n ≤ sz) (hc : c + n ≤ sz) (h : F (zFf (fun x => decide (nI (bt (a + x)) ≠ nI (bt (c + x)))) n).isNone M) : Cal G 0 68 (2, 0, 0) kX8_saysSame [.ref (G.1 1), .int (nI a), .int (nI c), .int (nI n)] M (eFZ F) := by
  have h2 := hT.2.1
  refine C_X8_saysSame G M F _ _ _ ?_
  have key : ∀ i, i ≤ n → (∀ j, j < i → decide (nI (bt (a + j)) ≠ nI (bt (c + j))) = false) → Ev (eZ G 0 68 0 0 (eFZ F)) G 0 68 (2, 0, 0) kX8_saysSame 3 [(0, .ref (G.1 1)), (1, .int (nI a)), (2, .int (nI c)), (3, .int (nI n)), (4, .int (nI i))] [] M 0 0 := by
    refine eDown (P := fun i => (∀ j, j < i → decide (nI (bt (a + j)) ≠ nI (bt (c + j))) = false) → Ev (eZ G 0 68 0 0 (eFZ F)) G 0 68 (2, 0, 0) kX8_saysSame 3 [(0, .ref (G.1 1)), (1, .int (nI a)), (2, .int (nI c)), (3, .int (nI n)), (4, .int (nI i))] [] M 0 0) ?_ ?_
    · intro hj
      rw [zFf_none hj] at h
      exact B_X8_saysSame_3 G M F _ _ _ _ ⟨fun _ => h, fun z => absurd (Int32.le_refl _) z⟩
    · intro i hi hn hj
      refine B_X8_saysSame_3 G M F _ _ _ _ ⟨fun z => absurd z (nI_ge hi (by omega)), fun _ => ?_⟩
      rw [nI_add, nI_add]
      refine T_byteAt hT _ (by omega) (fun z1 => T_byteAt hT _ (by omega) (fun z2 => ⟨fun q => ?_, fun q => ?_⟩) (fun q => by omega)) (fun q => by omega)
      · rw [← nI_succ]
        refine hn (fun j hji => ?_)
        by_cases hq : j = i
        · subst hq
          have := sb_inj (hT.2.2 _ z1).2 (hT.2.2 _ z2).2 q
          exact decide_eq_false (fun y => y (by rw [this]))
        · exact hj j (by omega)
      · have y1 : decide (nI (bt (a + i)) ≠ nI (bt (c + i))) = true := decide_eq_true (fun y => q (by
          have h3 := (nI_eq (by have := (hT.2.2 _ z1).2; omega) (by have := (hT.2.2 _ z2).2; omega)).mp y
          rw [h3]))
        rw [zFf_some hi y1 hj] at h
        exact h
  exact key 0 (Nat.zero_le _) (fun j hj => absurd hj (by omega))
/-- the tape and its tokens -/
def cTS (M : eM) (bt : Nat → Nat) (sz : Nat) : Prop := cTape M bt sz ∧ cToks M bt sz
theorem cTS.at {M : eM} {bt : Nat → Nat} {sz : Nat} (h : cTS M bt sz) : ∀ j, j ≤ tT bt sz → M 4 j = nI (tTk bt sz j) := by
  intro j hj
  by_cases hq : j = tT bt sz
  · rw [hq]; exact h.2.2.2.1
  · exact (h.2.2.1 j (by omega)).1
theorem cTS.in {M : eM} {bt : Nat → Nat} {sz : Nat} (_ : cTS M bt sz) {j : Nat} (hj : j < tT bt sz) : tAt bt sz j + (tStop bt sz (tAt bt sz j) - tAt bt sz j) ≤ sz ∧ tAt bt sz j ≤ tStop bt sz (tAt bt sz j) := by
  have h2 := (tT_is bt sz).2.2 j hj
  have h3 := tTk_ok h2
  have h4 := tStop_in (bt := bt) h3.1
  omega
theorem T_sameWords (hS : cTS M bt sz) (F : Bool → eM → Prop) {a c : Nat} (ha : a < tT bt sz) (hc : c < tT bt sz) (h : F (mSame (tW bt sz) a c) M) : Cal G 0 68 (3, 0, 0) kX9_areSameWords [.ref (G.1 3), .int (nI a), .int (nI c)] M (eFZ F) := by
  have h400 := (tTk_pTk bt sz).1
  have h2 := hS.1.2.1
  obtain ⟨i1, i2⟩ := hS.in ha
  obtain ⟨i3, i4⟩ := hS.in hc
  obtain ⟨-, a5, a6, -⟩ := hS.2.2.1 a ha
  obtain ⟨-, c5, c6, -⟩ := hS.2.2.1 c hc
  refine C_X9_areSameWords G M F _ _ ?_
  rw [hS.2.1, nI_clamp (show a < 2 ^ 31 by omega), nI_clamp (show c < 2 ^ 31 by omega), a5, a6, c5, c6, nI_sub i2, nI_sub i4]
  refine ⟨fun q => absurd q (nI_pos (by omega)), fun _ => ⟨fun q => absurd q (nI_ge (by omega) (by omega)), fun _ => ⟨fun q => absurd q (nI_pos (by omega)), fun _ => ⟨fun _ => ⟨vp_in_nI (by omega) (by decide), vp_in_nI (by omega) (by decide), vp_in_nI (by omega) (by decide), vp_in_nI (by omega) (by decide), fun q => ?_, fun q => ⟨vp_in_nI (by omega) (by decide), vp_in_nI (by omega) (by decide), ?_⟩⟩, fun q => absurd (nI_lt (by omega) (by omega)) q⟩⟩⟩⟩
  · unfold mSame at h
    rw [decide_eq_false (fun z => q (by
      have z' : tStop bt sz (tAt bt sz a) - tAt bt sz a = tStop bt sz (tAt bt sz c) - tAt bt sz c := z
      rw [z'])), Bool.false_and] at h
    exact h
  · have hl : tStop bt sz (tAt bt sz a) - tAt bt sz a = tStop bt sz (tAt bt sz c) - tAt bt sz c := (nI_eq (by omega) (by omega)).mp q
    have e : mSame (tW bt sz) a c = (zFf (fun x => decide (nI (bt (tAt bt sz a + x)) ≠ nI (bt (tAt bt sz c + x)))) (tStop bt sz (tAt bt sz a) - tAt bt sz a)).isNone := by
      unfold mSame
      rw [decide_eq_true (show (tW bt sz).2.1 a = (tW bt sz).2.1 c from hl), Bool.true_and]
      rfl
    rw [e] at h
    refine T_saysSame hS.1 _ i1 (by omega) ⟨fun z => ?_, fun z => ?_⟩
    · rw [z] at h; exact h
    · rw [z] at h; exact h
theorem T_valueOf (hS : cTS M bt sz) (F : Int32 → eM → Prop) {t : Nat} (ht : t ≤ tT bt sz) (h : F (M 7 t) M) : Cal G 0 68 (1, 0, 0) kX9_valueOf [.ref (G.1 3), .int (nI t)] M (eFI F) := by
  have h400 := (tTk_pTk bt sz).1
  refine C_X9_valueOf G M F _ ?_
  rw [hS.2.1, nI_clamp (show t < 2 ^ 31 by omega)]
  exact ⟨fun q => absurd q (nI_pos (by omega)), fun _ => ⟨fun q => absurd q (nI_ge (by omega) (by omega)), fun _ => ⟨vp_in_nI (by omega) (by decide), h⟩⟩⟩
theorem T_valueAny (hS : cTS M bt sz) (F : Int32 → eM → Prop) (a : Int32) (h : ∀ r, F r M) : Cal G 0 68 (1, 0, 0) kX9_valueOf [.ref (G.1 3), .int a] M (eFI F) := by
  have h400 := (tTk_pTk bt sz).1
  refine C_X9_valueOf G M F _ ⟨fun _ => h _, fun q => ⟨fun _ => h _, fun q2 => ⟨?_, h _⟩⟩⟩
  rw [hS.2.1] at q2
  obtain ⟨j, hj, rfl⟩ := nI_of q
  exact vp_in_nI (by
    have : ¬ tT bt sz + 1 ≤ j := fun z => q2 (nI_le z hj)
    omega) (by decide)
theorem T_startOf (hS : cTS M bt sz) (F : Int32 → eM → Prop) {t : Nat} (ht : t ≤ tT bt sz) (h : F (nI (tAt bt sz t)) M) : Cal G 0 68 (1, 0, 0) kX9_startOf [.ref (G.1 3), .int (nI t)] M (eFI F) := by
  have h400 := (tTk_pTk bt sz).1
  have e : M 5 t = nI (tAt bt sz t) := by
    by_cases hq : t = tT bt sz
    · rw [hq]; exact hS.2.2.2.2
    · exact (hS.2.2.1 t (by omega)).2.1
  refine C_X9_startOf G M F _ ?_
  rw [hS.2.1, nI_clamp (show t < 2 ^ 31 by omega), e]
  exact ⟨fun q => absurd q (nI_pos (by omega)), fun _ => ⟨fun q => absurd q (nI_ge (by omega) (by omega)), fun _ => ⟨vp_in_nI (by omega) (by decide), h⟩⟩⟩
/-- what the looking for errors may write -/
def nFr (M M' : eM) : Prop := (∀ c, c ≠ 14 → c ≠ 15 → c ≠ 8 → c ≠ 9 → c ≠ 7 → M' c = M c) ∧ (∀ j, j ≠ 0 → j ≠ 1 → j ≠ 2 → j ≠ 4 → M' 8 j = M 8 j)
theorem nFr.refl (M : eM) : nFr M M := ⟨fun _ _ _ _ _ _ => rfl, fun _ _ _ _ _ => rfl⟩
theorem nFr.trans {M M1 M2 : eM} (h : nFr M M1) (h1 : nFr M1 M2) : nFr M M2 := ⟨fun c a1 a2 a3 a4 a5 => (h1.1 c a1 a2 a3 a4 a5).trans (h.1 c a1 a2 a3 a4 a5), fun j a1 a2 a3 a4 => (h1.2 j a1 a2 a3 a4).trans (h.2 j a1 a2 a3 a4)⟩
/-- the state as the class holds it -/
def cMn (M : eM) (S : sSt) : Prop := (M 14 3 = nI (sNt S) ∧ M 14 4 = nI (sNo S) ∧ M 14 5 = nI (if sL S = 0 then 42 else sL S)) ∧ (∀ i, i < sNt S → M 15 i = nI (sNk S i)) ∧ (M 8 0 = nI (sCol S) ∧ M 8 1 = nI (sRow S) ∧ M 8 2 = nI (sSd S) ∧ M 8 4 = nI (sNn S)) ∧ (∀ i, i < sNn S → M 9 i = nI (sNu S i))
def cVals (M : eM) (bt : Nat → Nat) (sz j : Nat) : Prop := ∀ i, i < j → tTk bt sz i = 41 → sL (tScan bt sz i) ≠ 3 → M 7 i = nI (tTile bt sz i)
theorem cTS.of {M M' : eM} {bt : Nat → Nat} {sz : Nat} (h : cTS M bt sz) (hc : ∀ c, 1 ≤ c → c < 7 → M' c = M c) (h7 : ∀ j, tTk bt sz j = 40 → M' 7 j = M 7 j) : cTS M' bt sz := by
  obtain ⟨h1, h2, h3, h4, h5⟩ := h
  refine ⟨h1.of (hc 1 (by decide) (by decide)) (hc 2 (by decide) (by decide)), ?_, fun j hj => ?_, ?_, ?_⟩
  · rw [hc 3 (by decide) (by decide)]; exact h2
  · obtain ⟨k1, k2, k3, k4⟩ := h3 j hj
    rw [hc 4 (by decide) (by decide), hc 5 (by decide) (by decide), hc 6 (by decide) (by decide)]
    exact ⟨k1, k2, k3, fun z => by rw [h7 j z]; exact k4 z⟩
  · rw [hc 4 (by decide) (by decide)]; exact h4
  · rw [hc 5 (by decide) (by decide)]; exact h5
theorem N_tileNamed (hS : cTS M bt sz) {j : Nat} (hj : j < tT bt sz) (h6 : M 14 6 = nI j) (hM : cMn M (tScan bt sz j)) (F : Int32 → eM → Prop) (h : F (eO (sKn (tW bt sz) (tScan bt sz j) j)) M) : Cal G 0 68 (4, 0, 0) kX5_tileNamed [.ref (G.1 14)] M (eFI F) := by
  have h400 := (tTk_pTk bt sz).1
  obtain ⟨s1, -, -, -, -, s6⟩ := tScan_in bt sz j
  refine C_X5_tileNamed G M F ?_
  unfold sKn mKn at h
  have key : ∀ i, i ≤ sNt (tScan bt sz j) → (∀ i', i' < i → mSame (tW bt sz) (sNk (tScan bt sz j) i') j = false) → Ev (eZ G 0 68 0 0 (eFI F)) G 0 68 (4, 0, 0) kX5_tileNamed 2 [(0, .ref (G.1 14)), (1, .int (nI i))] [] M 0 0 := by
    refine eDown (P := fun i => (∀ i', i' < i → mSame (tW bt sz) (sNk (tScan bt sz j) i') j = false) → Ev (eZ G 0 68 0 0 (eFI F)) G 0 68 (4, 0, 0) kX5_tileNamed 2 [(0, .ref (G.1 14)), (1, .int (nI i))] [] M 0 0) ?_ ?_
    · intro hn
      rw [zFf_none hn] at h
      exact B_X5_tileNamed_2 G M F _ ⟨fun _ => h, fun z => absurd (by rw [hM.1.1]; exact Int32.le_refl _) z⟩
    · intro i hi hn hno
      obtain ⟨k1, k2⟩ := s6 i hi
      refine B_X5_tileNamed_2 G M F _ ⟨fun z => absurd (by rw [hM.1.1] at z; exact z) (nI_ge hi (by omega)), fun _ => ⟨vp_in_nI (by omega) (by decide), ?_⟩⟩
      rw [nI_clamp (show i < 2 ^ 31 by omega), hM.2.1 i hi, h6]
      refine T_sameWords hS _ hj (by omega) ?_
      rw [mSame_comm]
      refine ⟨fun z => ?_, fun z => ?_⟩
      · rw [← nI_succ]
        refine hn (fun i' hi' => ?_)
        by_cases hq : i' = i
        · subst hq; exact z
        · exact hno i' (by omega)
      · rw [zFf_some hi z hno] at h
        exact h
  exact key 0 (Nat.zero_le _) (fun i hi => absurd hi (by omega))
theorem N_token (hS : cTS M bt sz) {j : Nat} (hj : j ≤ tT bt sz) (h6 : M 14 6 = nI j) (hM : cMn M (tScan bt sz j)) (h0 : (sEr (tScan bt sz j)).1 = 0) (hv : cVals M bt sz j) (F : Int32 → eM → Prop) (h : ∀ M', nFr M M' → M' 14 6 = nI j → cTS M' bt sz → ((sEr (tScan bt sz (j + 1))).1 = 0 → cMn M' (tScan bt sz (j + 1)) ∧ cVals M' bt sz (j + 1)) → F (nI (sEr (tScan bt sz (j + 1))).1) M') : Cal G 0 68 (5, 0, 0) kX5_errorAtToken [.ref (G.1 14)] M (eFI F) := by
  have ht := tTk_pTk bt sz
  have h400 := ht.1
  have hk := ht.2.1 j hj
  obtain ⟨s1, s2, s3, s4, s5, s6⟩ := tScan_in bt sz j
  have hstep : tScan bt sz (j + 1) = sStep (tTk bt sz) (tW bt sz) (tNv bt sz) (tScan bt sz j) j := rfl
  have e13 : nI (tTk bt sz j) - 1 = nI (tTk bt sz j - 1) := nI_sub hk.1
  have vno : tTk bt sz j ≠ 41 → ∀ M', (∀ i, M' 7 i = M 7 i) → cVals M' bt sz (j + 1) := by
    intro h41 M' h7 i hi k1 k2
    rw [h7]
    by_cases hq : i = j
    · subst hq; exact absurd k1 h41
    · exact hv i (by omega) k1 k2
  -- nothing to be done
  have none_ : ¬ (tTk bt sz j = 1 ∨ tTk bt sz j = 3) → ¬ (tTk bt sz j = 4 ∨ tTk bt sz j = 7 ∨ tTk bt sz j = 8) → tTk bt sz j ≠ 41 → tTk bt sz j ≠ 40 → F 0 M := by
    intro n1 n2 n3 n4
    have e : tScan bt sz (j + 1) = tScan bt sz j := by
      rw [hstep]
      unfold sStep
      rw [if_neg n1, if_neg n2, if_neg n3, if_neg n4]
    have := h M (nFr.refl M) h6 hS (fun _ => by rw [e]; exact ⟨hM, vno n3 M (fun _ => rfl)⟩)
    rw [e, h0] at this
    exact this
  have other : ∀ k, (∀ k', k' < 43 → eSw k' = k → ¬ (k' + 1 = 1 ∨ k' + 1 = 3) ∧ ¬ (k' + 1 = 4 ∨ k' + 1 = 7 ∨ k' + 1 = 8) ∧ k' + 1 ≠ 41 ∧ k' + 1 ≠ 40) → eSw (tTk bt sz j - 1) = k → F 0 M := by
    intro k hall q
    have := hall (tTk bt sz j - 1) (by omega) q
    rw [show tTk bt sz j - 1 + 1 = tTk bt sz j by omega] at this
    exact none_ this.1 this.2.1 this.2.2.1 this.2.2.2
  have boardTile : (tTk bt sz j = 1 ∨ tTk bt sz j = 3) → Ev (eZ G 0 68 0 0 (eFI F)) G 0 68 (5, 0, 0) kX5_errorAtToken 108 [(0, .ref (G.1 14)), (1, eV G 1 (nI (tTk bt sz j)))] [] M 0 0 := by
    intro hbt
    have e : tScan bt sz (j + 1) = ((tTk bt sz j, (tScan bt sz j).1.2), (tScan bt sz j).2) := by
      rw [hstep]
      unfold sStep
      rw [if_pos hbt]
    refine B_X5_errorAtToken_108 G M F _ ?_
    have hf : nFr M (eU M 14 5 (nI (tTk bt sz j))) := ⟨fun c a1 _ _ _ _ => eU_other _ _ _ a1, fun i _ _ _ _ => eU_cell _ _ _ _ (by decide)⟩
    have := h _ hf (by rw [eU_place _ _ _ _ (by decide)]; exact h6) (hS.of (fun c c1 c2 => eU_other _ _ _ (by omega)) (fun i _ => eU_cell _ _ _ _ (by decide))) (fun _ => by
      rw [e]
      obtain ⟨⟨m1, m2, m3⟩, m4, ⟨m5, m6, m7, m8⟩, m9⟩ := hM
      refine ⟨⟨⟨?_, ?_, ?_⟩, fun i hi => ?_, ⟨?_, ?_, ?_, ?_⟩, fun i hi => ?_⟩, vno (by omega) _ (fun i => eU_cell _ _ _ _ (by decide))⟩
      · rw [eU_place _ _ _ _ (by decide)]; exact m1
      · rw [eU_place _ _ _ _ (by decide)]; exact m2
      · rw [eU_same]
        show nI (tTk bt sz j) = nI (if tTk bt sz j = 0 then 42 else tTk bt sz j)
        rw [if_neg (by omega)]
      · rw [eU_cell _ _ _ _ (by decide)]; exact m4 i hi
      · rw [eU_cell _ _ _ _ (by decide)]; exact m5
      · rw [eU_cell _ _ _ _ (by decide)]; exact m6
      · rw [eU_cell _ _ _ _ (by decide)]; exact m7
      · rw [eU_cell _ _ _ _ (by decide)]; exact m8
      · rw [eU_cell _ _ _ _ (by decide)]; exact m9 i hi)
    rw [e] at this
    have e0 : (sEr (((tTk bt sz j, (tScan bt sz j).1.2), (tScan bt sz j).2) : sSt)).1 = 0 := h0
    rw [e0] at this
    exact this
  have orders : (tTk bt sz j = 4 ∨ tTk bt sz j = 7 ∨ tTk bt sz j = 8) → Ev (eZ G 0 68 0 0 (eFI F)) G 0 68 (5, 0, 0) kX5_errorAtToken 115 [(0, .ref (G.1 14)), (1, eV G 1 (nI (tTk bt sz j)))] [] M 0 0 := by
    intro hbt
    have e : tScan bt sz (j + 1) = ((tTk bt sz j, sNt (tScan bt sz j), sNo (tScan bt sz j) + 1, sNn (tScan bt sz j), sSd (tScan bt sz j)), sNk (tScan bt sz j), sNu (tScan bt sz j), (tScan bt sz j).2.2.2.1, sErr (decide (16 ≤ sNo (tScan bt sz j))) 4 j (sEr (tScan bt sz j))) := by
      rw [hstep]
      unfold sStep
      rw [if_neg (by omega), if_pos hbt]
    obtain ⟨⟨m1, m2, m3⟩, m4, ⟨m5, m6, m7, m8⟩, m9⟩ := hM
    refine B_X5_errorAtToken_115 G M F _ ?_
    rw [eU_same, eU_place _ _ _ _ (show 4 ≠ 5 by decide), m2, ← nI_succ]
    have hf : nFr M (eU (eU M 14 5 (nI (tTk bt sz j))) 14 4 (nI (sNo (tScan bt sz j) + 1))) := ⟨fun c a1 _ _ _ _ => by rw [eU_other _ _ _ a1, eU_other _ _ _ a1], fun i _ _ _ _ => by rw [eU_cell _ _ _ _ (by decide), eU_cell _ _ _ _ (by decide)]⟩
    have key := h _ hf (by rw [eU_place _ _ _ _ (by decide), eU_place _ _ _ _ (by decide)]; exact h6) (hS.of (fun c c1 c2 => by rw [eU_other _ _ _ (by omega), eU_other _ _ _ (by omega)]) (fun i _ => by rw [eU_cell _ _ _ _ (by decide), eU_cell _ _ _ _ (by decide)])) (fun _ => by
      rw [e]
      refine ⟨⟨⟨?_, ?_, ?_⟩, fun i hi => ?_, ⟨?_, ?_, ?_, ?_⟩, fun i hi => ?_⟩, vno (by omega) _ (fun i => by rw [eU_cell _ _ _ _ (by decide), eU_cell _ _ _ _ (by decide)])⟩
      · rw [eU_place _ _ _ _ (by decide), eU_place _ _ _ _ (by decide)]; exact m1
      · rw [eU_same]
      · rw [eU_place _ _ _ _ (by decide), eU_same]
        show nI (tTk bt sz j) = nI (if tTk bt sz j = 0 then 42 else tTk bt sz j)
        rw [if_neg (by omega)]
      · rw [eU_cell _ _ _ _ (by decide), eU_cell _ _ _ _ (by decide)]; exact m4 i hi
      · rw [eU_cell _ _ _ _ (by decide), eU_cell _ _ _ _ (by decide)]; exact m5
      · rw [eU_cell _ _ _ _ (by decide), eU_cell _ _ _ _ (by decide)]; exact m6
      · rw [eU_cell _ _ _ _ (by decide), eU_cell _ _ _ _ (by decide)]; exact m7
      · rw [eU_cell _ _ _ _ (by decide), eU_cell _ _ _ _ (by decide)]; exact m8
      · rw [eU_cell _ _ _ _ (by decide), eU_cell _ _ _ _ (by decide)]; exact m9 i hi)
    rw [e] at key
    have key' : F (nI (sErr (decide (16 ≤ sNo (tScan bt sz j))) 4 j (sEr (tScan bt sz j))).1) (eU (eU M 14 5 (nI (tTk bt sz j))) 14 4 (nI (sNo (tScan bt sz j) + 1))) := key
    refine ⟨fun q => ?_, fun q => ?_⟩
    · have : sNo (tScan bt sz j) + 1 ≤ 16 := (nI_leI (b := 16) (by omega) (by decide)).mp q
      rw [decide_eq_false (show ¬ 16 ≤ sNo (tScan bt sz j) by omega), sErr_f, h0] at key'
      exact key'
    · have : ¬ sNo (tScan bt sz j) + 1 ≤ 16 := fun z => q (nI_le (b := 16) z (by decide))
      rw [decide_eq_true (show 16 ≤ sNo (tScan bt sz j) by omega), sErr_t h0] at key'
      exact key'
  have number : tTk bt sz j = 40 → Ev (eZ G 0 68 0 0 (eFI F)) G 0 68 (5, 0, 0) kX5_errorAtToken 154 [(0, .ref (G.1 14))] [] M 0 0 := by
    intro h40
    have hjT : j < tT bt sz := ht.lt hj (by omega) (by omega)
    have hnv : M 7 j = nI (tNv bt sz j) := (hS.2.2.1 j hjT).2.2.2 h40
    have hok := tTk_ok ((tT_is bt sz).2.2 j hjT)
    have hv6 : tNv bt sz j < 1000000 := by
      obtain ⟨d1, d2, d3⟩ := tNum hok.1 (by rw [← hok.2.2]; exact h40)
      have hst := tStop_in (bt := bt) hok.1
      have hval : ∀ n, n ≤ tStop bt sz (tAt bt sz j) - tAt bt sz j → tVal bt (tAt bt sz j) n < 10 ^ n := by
        intro n
        induction n with
        | zero => intro _; exact Nat.one_pos
        | succ n ih =>
          intro hn
          have h1 := ih (by omega)
          have h2 := d2 (tAt bt sz j + n) (by omega) (by omega)
          unfold tD at h2
          rw [Bool.and_eq_true] at h2
          have h3 := of_decide_eq_true h2.2
          rw [tVal, Nat.pow_succ]
          omega
      have h1 := hval _ (Nat.le_refl _)
      have h2 : 10 ^ (tStop bt sz (tAt bt sz j) - tAt bt sz j) ≤ 10 ^ 6 := Nat.pow_le_pow_right (by decide) d3
      unfold tNv
      omega
    have e : tScan bt sz (j + 1) = sNum (tNv bt sz j) (tScan bt sz j) j := by
      rw [hstep]
      unfold sStep
      rw [if_neg (by omega), if_neg (by omega), if_neg (by omega), if_pos h40]
    obtain ⟨⟨m1, m2, m3⟩, m4, ⟨m5, m6, m7, m8⟩, m9⟩ := hM
    refine B_X5_errorAtToken_154 G M F ?_
    rw [h6]
    refine T_valueOf hS _ hj ?_
    rw [hnv]
    refine C_X5_errorOfNumber G M _ _ ?_
    rw [m3]
    have l1 := nL (tScan bt sz j) s5 (k := 1) (Or.inl rfl)
    have l3 := nL (tScan bt sz j) s5 (k := 3) (Or.inr rfl)
    refine ⟨fun q1 => ⟨fun q3 => ?_, fun q3 => ?_⟩, fun q1 => ?_⟩
    · have n1 : ¬ sL (tScan bt sz j) = 1 := fun z => q1 (l1.mpr z)
      have n3 : ¬ sL (tScan bt sz j) = 3 := fun z => q3 (l3.mpr z)
      have e2 : tScan bt sz (j + 1) = tScan bt sz j := by
        rw [e]; unfold sNum; rw [if_neg n1, if_neg n3]
      have := h M (nFr.refl M) h6 hS (fun _ => by rw [e2]; exact ⟨⟨⟨m1, m2, m3⟩, m4, ⟨m5, m6, m7, m8⟩, m9⟩, vno (by omega) M (fun _ => rfl)⟩)
      rw [e2, h0] at this
      exact this
    · have n1 : ¬ sL (tScan bt sz j) = 1 := fun z => q1 (l1.mpr z)
      have n3 : sL (tScan bt sz j) = 3 := l3.mp q3
      have e2 : tScan bt sz (j + 1) = ((sL (tScan bt sz j), sNt (tScan bt sz j), sNo (tScan bt sz j), (if sNn (tScan bt sz j) < 48 then sNn (tScan bt sz j) + 1 else sNn (tScan bt sz j)), sSd (tScan bt sz j)), sNk (tScan bt sz j), (if sNn (tScan bt sz j) < 48 then zU (sNu (tScan bt sz j)) (sNn (tScan bt sz j)) (tNv bt sz j) else sNu (tScan bt sz j)), (tScan bt sz j).2.2.2.1, sErr (decide (9 < tNv bt sz j)) 5 j (sEr (tScan bt sz j))) := by
        rw [e]; unfold sNum; rw [if_neg n1, if_pos n3]
      have fin : ∀ M1, nFr M M1 → M1 14 6 = nI j → cTS M1 bt sz → ((sEr (tScan bt sz (j + 1))).1 = 0 → cMn M1 (tScan bt sz (j + 1)) ∧ cVals M1 bt sz (j + 1)) → ((nI (tNv bt sz j) < 10 → F 0 M1) ∧ (¬ nI (tNv bt sz j) < 10 → F 5 M1)) := by
        intro M1 f1 f2 f3 f4
        have key := h M1 f1 f2 f3 f4
        rw [e2] at key
        have key' : F (nI (sErr (decide (9 < tNv bt sz j)) 5 j (sEr (tScan bt sz j))).1) M1 := key
        refine ⟨fun q => ?_, fun q => ?_⟩
        · have : tNv bt sz j < 10 := (nI_ltI (b := 10) (by omega) (by decide)).mp q
          rw [decide_eq_false (show ¬ 9 < tNv bt sz j by omega), sErr_f, h0] at key'
          exact key'
        · have : ¬ tNv bt sz j < 10 := fun z => q (nI_lt (b := 10) z (by decide))
          rw [decide_eq_true (show 9 < tNv bt sz j by omega), sErr_t h0] at key'
          exact key'
      refine C_X7_addTileNumber G M _ _ ?_
      rw [m8, nI_clamp (show sNn (tScan bt sz j) < 2 ^ 31 by omega), eU_cell _ _ _ _ (show 8 ≠ 9 by decide), m8]
      refine ⟨fun q => fin M (nFr.refl M) h6 hS (fun _ => ?_), fun q => ⟨vp_in_nI ?_ (by decide), fin _ ⟨fun c a1 a2 a3 a4 a5 => ?_, fun i a1 a2 a3 a4 => ?_⟩ ?_ (hS.of (fun c c1 c2 => ?_) (fun i _ => ?_)) (fun _ => ?_)⟩⟩
      · have q48 : 48 ≤ sNn (tScan bt sz j) := (nI_leI (a := 48) (by decide) (by omega)).mp q
        rw [e2]
        refine ⟨⟨⟨m1, m2, m3⟩, m4, ⟨m5, m6, m7, ?_⟩, fun i hi => ?_⟩, vno (by omega) M (fun _ => rfl)⟩
        · show M 8 4 = nI (if sNn (tScan bt sz j) < 48 then sNn (tScan bt sz j) + 1 else sNn (tScan bt sz j))
          rw [if_neg (by omega)]; exact m8
        · have hi' : i < (if sNn (tScan bt sz j) < 48 then sNn (tScan bt sz j) + 1 else sNn (tScan bt sz j)) := hi
          show M 9 i = nI ((if sNn (tScan bt sz j) < 48 then zU (sNu (tScan bt sz j)) (sNn (tScan bt sz j)) (tNv bt sz j) else sNu (tScan bt sz j)) i)
          rw [if_neg (by omega)] at hi' ⊢
          exact m9 i hi'
      · have : ¬ 48 ≤ sNn (tScan bt sz j) := fun z => q (nI_le (a := 48) z (by omega))
        omega
      · rw [eU_other _ _ _ a3, eU_other _ _ _ a4]
      · rw [eU_place _ _ _ _ a4, eU_cell _ _ _ _ (by decide)]
      · rw [eU_cell _ _ _ _ (by decide), eU_cell _ _ _ _ (by decide)]; exact h6
      · rw [eU_other _ _ _ (by omega), eU_other _ _ _ (by omega)]
      · rw [eU_cell _ _ _ _ (by decide), eU_cell _ _ _ _ (by decide)]
      · have q48 : sNn (tScan bt sz j) < 48 := Nat.not_le.mp fun z => q (nI_le (a := 48) z (by omega))
        rw [e2]
        refine ⟨⟨⟨?_, ?_, ?_⟩, fun i hi => ?_, ⟨?_, ?_, ?_, ?_⟩, fun i hi => ?_⟩, vno (by omega) _ (fun i => by rw [eU_cell _ _ _ _ (by decide), eU_cell _ _ _ _ (by decide)])⟩
        · rw [eU_cell _ _ _ _ (by decide), eU_cell _ _ _ _ (by decide)]; exact m1
        · rw [eU_cell _ _ _ _ (by decide), eU_cell _ _ _ _ (by decide)]; exact m2
        · rw [eU_cell _ _ _ _ (by decide), eU_cell _ _ _ _ (by decide)]; exact m3
        · rw [eU_cell _ _ _ _ (by decide), eU_cell _ _ _ _ (by decide)]; exact m4 i hi
        · rw [eU_place _ _ _ _ (by decide), eU_cell _ _ _ _ (by decide)]; exact m5
        · rw [eU_place _ _ _ _ (by decide), eU_cell _ _ _ _ (by decide)]; exact m6
        · rw [eU_place _ _ _ _ (by decide), eU_cell _ _ _ _ (by decide)]; exact m7
        · rw [eU_same]
          show nI (sNn (tScan bt sz j)) + 1 = nI (if sNn (tScan bt sz j) < 48 then sNn (tScan bt sz j) + 1 else sNn (tScan bt sz j))
          rw [if_pos q48]; exact (nI_succ _).symm
        · have hi' : i < (if sNn (tScan bt sz j) < 48 then sNn (tScan bt sz j) + 1 else sNn (tScan bt sz j)) := hi
          rw [eU_cell _ _ _ _ (by decide)]
          show _ = nI ((if sNn (tScan bt sz j) < 48 then zU (sNu (tScan bt sz j)) (sNn (tScan bt sz j)) (tNv bt sz j) else sNu (tScan bt sz j)) i)
          rw [if_pos q48] at hi' ⊢
          by_cases hq : i = sNn (tScan bt sz j)
          · rw [hq, eU_same, zU_same]
          · rw [eU_place _ _ _ _ hq, zU_ne _ _ hq]
            exact m9 i (by omega)
    · have n1 : sL (tScan bt sz j) = 1 := l1.mp q1
      have e2 : tScan bt sz (j + 1) = ((sL (tScan bt sz j), sNt (tScan bt sz j), sNo (tScan bt sz j), sNn (tScan bt sz j), sSd (tScan bt sz j) + 1), sNk (tScan bt sz j), sNu (tScan bt sz j), (if sSd (tScan bt sz j) = 0 then (tNv bt sz j, sRow (tScan bt sz j)) else (sCol (tScan bt sz j), tNv bt sz j)), sErr (decide (tNv bt sz j < 3 ∨ 7 < tNv bt sz j)) 5 j (sEr (tScan bt sz j))) := by
        rw [e]; unfold sNum; rw [if_pos n1]
      have fin : ∀ M1, nFr M M1 → M1 14 6 = nI j → cTS M1 bt sz → ((sEr (tScan bt sz (j + 1))).1 = 0 → cMn M1 (tScan bt sz (j + 1)) ∧ cVals M1 bt sz (j + 1)) → ((nI (tNv bt sz j) < 3 → F 5 M1) ∧ (¬ nI (tNv bt sz j) < 3 → ((nI (tNv bt sz j) ≤ 7) → F 0 M1) ∧ ((¬ nI (tNv bt sz j) ≤ 7) → F 5 M1))) := by
        intro M1 f1 f2 f3 f4
        have key := h M1 f1 f2 f3 f4
        rw [e2] at key
        have key' : F (nI (sErr (decide (tNv bt sz j < 3 ∨ 7 < tNv bt sz j)) 5 j (sEr (tScan bt sz j))).1) M1 := key
        refine ⟨fun q => ?_, fun q => ⟨fun z => ?_, fun z => ?_⟩⟩
        · have : tNv bt sz j < 3 := (nI_ltI (b := 3) (by omega) (by decide)).mp q
          rw [decide_eq_true (Or.inl this), sErr_t h0] at key'
          exact key'
        · have n3 : ¬ tNv bt sz j < 3 := fun y => q (nI_lt (b := 3) y (by decide))
          have n7 : tNv bt sz j ≤ 7 := (nI_leI (b := 7) (by omega) (by decide)).mp z
          rw [decide_eq_false (show ¬ (tNv bt sz j < 3 ∨ 7 < tNv bt sz j) by omega), sErr_f, h0] at key'
          exact key'
        · have n7 : ¬ tNv bt sz j ≤ 7 := fun y => z (nI_le (b := 7) y (by decide))
          rw [decide_eq_true (show tNv bt sz j < 3 ∨ 7 < tNv bt sz j by omega), sErr_t h0] at key'
          exact key'
      have go : ∀ (p : Nat) (v : Nat × Nat), (p = 0 ∨ p = 1) → v = (if sSd (tScan bt sz j) = 0 then (tNv bt sz j, sRow (tScan bt sz j)) else (sCol (tScan bt sz j), tNv bt sz j)) → eU M 8 p (nI (tNv bt sz j)) 8 0 = nI v.1 → eU M 8 p (nI (tNv bt sz j)) 8 1 = nI v.2 → Ev (eZ G 0 68 0 0 (eFV (fun (M2 : eM) => ((nI (tNv bt sz j) < 3) → F 5 M2) ∧ ((¬ nI (tNv bt sz j) < 3) → ((nI (tNv bt sz j) ≤ 7) → F 0 M2) ∧ ((¬ nI (tNv bt sz j) ≤ 7) → F 5 M2))))) G 0 68 (1, 0, 0) kX7_addSide 20 [(0, .ref (G.1 8))] [] (eU M 8 p (nI (tNv bt sz j))) 0 0 := by
        intro p v hp hv2 w0 w1
        refine B_X7_addSide_20 G _ _ ?_
        rw [eU_place _ _ _ _ (show 2 ≠ p by omega), m7]
        refine fin _ ⟨fun c a1 a2 a3 a4 a5 => ?_, fun i a1 a2 a3 a4 => ?_⟩ ?_ (hS.of (fun c c1 c2 => ?_) (fun i _ => ?_)) (fun _ => ?_)
        · rw [eU_other _ _ _ a3, eU_other _ _ _ a3]
        · rw [eU_place _ _ _ _ a3, eU_place _ _ _ _ (by omega)]
        · rw [eU_cell _ _ _ _ (by decide), eU_cell _ _ _ _ (by decide)]; exact h6
        · rw [eU_other _ _ _ (by omega), eU_other _ _ _ (by omega)]
        · rw [eU_cell _ _ _ _ (by decide), eU_cell _ _ _ _ (by decide)]
        · rw [e2, ← hv2]
          refine ⟨⟨⟨?_, ?_, ?_⟩, fun i hi => ?_, ⟨?_, ?_, ?_, ?_⟩, fun i hi => ?_⟩, vno (by omega) _ (fun i => by rw [eU_cell _ _ _ _ (by decide), eU_cell _ _ _ _ (by decide)])⟩
          · rw [eU_cell _ _ _ _ (by decide), eU_cell _ _ _ _ (by decide)]; exact m1
          · rw [eU_cell _ _ _ _ (by decide), eU_cell _ _ _ _ (by decide)]; exact m2
          · rw [eU_cell _ _ _ _ (by decide), eU_cell _ _ _ _ (by decide)]; exact m3
          · rw [eU_cell _ _ _ _ (by decide), eU_cell _ _ _ _ (by decide)]; exact m4 i hi
          · rw [eU_place _ _ _ _ (by decide)]; exact w0
          · rw [eU_place _ _ _ _ (by decide)]; exact w1
          · rw [eU_same]; exact (nI_succ _).symm
          · rw [eU_place _ _ _ _ (by decide), eU_place _ _ _ _ (by omega)]; exact m8
          · rw [eU_cell _ _ _ _ (by decide), eU_cell _ _ _ _ (by decide)]; exact m9 i hi
      refine C_X7_addSide G M _ _ ?_
      rw [m7]
      refine ⟨fun q => ?_, fun q => ?_⟩
      · have hsd : ¬ sSd (tScan bt sz j) = 0 := fun z => q (by rw [z]; rfl)
        refine go 1 (sCol (tScan bt sz j), tNv bt sz j) (Or.inr rfl) (by rw [if_neg hsd]) ?_ (eU_same _ _ _ _)
        rw [eU_place _ _ _ _ (by decide)]; exact m5
      · have hsd : sSd (tScan bt sz j) = 0 := (nI_eq (b := 0) (by omega) (by decide)).mp q
        refine go 0 (tNv bt sz j, sRow (tScan bt sz j)) (Or.inl rfl) (by rw [if_pos hsd]) (eU_same _ _ _ _) ?_
        rw [eU_place _ _ _ _ (by decide)]; exact m6
  have name : tTk bt sz j = 41 → Ev (eZ G 0 68 0 0 (eFI F)) G 0 68 (5, 0, 0) kX5_errorAtToken 145 [(0, .ref (G.1 14))] [] M 0 0 := by
    intro h41
    have hjT : j < tT bt sz := ht.lt hj (by omega) (by omega)
    have e : tScan bt sz (j + 1) = sName (tW bt sz) (tScan bt sz j) j := by
      rw [hstep]
      unfold sStep
      rw [if_neg (by omega), if_neg (by omega), if_pos h41]
    refine B_X5_errorAtToken_145 G M F (N_tileNamed hS hjT h6 hM _ ?_)
    obtain ⟨⟨m1, m2, m3⟩, m4, ⟨m5, m6, m7, m8⟩, m9⟩ := hM
    refine C_X5_errorOfName G M _ _ ?_
    rw [m3, m1, h6, nI_clamp (show sNt (tScan bt sz j) < 2 ^ 31 by omega)]
    have l3 := nL (tScan bt sz j) s5 (k := 3) (Or.inr rfl)
    have kn16 : ∀ i, sKn (tW bt sz) (tScan bt sz j) j = some i → i < 16 := fun i hi => by have := (zFf_some' hi).1; omega
    refine ⟨fun q3 => ⟨fun q => ?_, fun q => ?_⟩, fun q3 => ?_⟩
    · have n3 : sL (tScan bt sz j) = 3 := l3.mp q3
      have hk0 : sKn (tW bt sz) (tScan bt sz j) j = none := by
        cases hh : sKn (tW bt sz) (tScan bt sz j) j with
        | none => rfl
        | some i => rw [hh] at q; exact absurd q (nI_pos (by have := kn16 i hh; omega))
      have e2 : tScan bt sz (j + 1) = ((sL (tScan bt sz j), (if sNt (tScan bt sz j) < 16 then sNt (tScan bt sz j) + 1 else sNt (tScan bt sz j)), sNo (tScan bt sz j), sNn (tScan bt sz j), sSd (tScan bt sz j)), (if sNt (tScan bt sz j) < 16 then zU (sNk (tScan bt sz j)) (sNt (tScan bt sz j)) j else sNk (tScan bt sz j)), sNu (tScan bt sz j), (tScan bt sz j).2.2.2.1, sErr (decide (16 ≤ sNt (tScan bt sz j))) 4 j (sEr (tScan bt sz j))) := by
        rw [e]; unfold sName; rw [if_pos n3, hk0]
        show (_, _, _, _, sErr _ 4 j (sErr false 2 j _)) = _
        rw [sErr_f]
      refine ⟨fun q16 => ⟨vp_in_nI ?_ (by decide), ?_⟩, fun q16 => ?_⟩
      · exact (nI_ltI (b := 16) (by omega) (by decide)).mp q16
      · have n16 : sNt (tScan bt sz j) < 16 := (nI_ltI (b := 16) (by omega) (by decide)).mp q16
        rw [eU_cell _ _ _ _ (show 14 ≠ 15 by decide), m1]
        have key := h (eU (eU M 15 (sNt (tScan bt sz j)) (nI j)) 14 3 (nI (sNt (tScan bt sz j)) + 1)) ⟨fun c a1 a2 a3 a4 a5 => by rw [eU_other _ _ _ a1, eU_other _ _ _ a2], fun i _ _ _ _ => by rw [eU_cell _ _ _ _ (by decide), eU_cell _ _ _ _ (by decide)]⟩ (by rw [eU_place _ _ _ _ (by decide), eU_cell _ _ _ _ (by decide)]; exact h6) (hS.of (fun c c1 c2 => by rw [eU_other _ _ _ (by omega), eU_other _ _ _ (by omega)]) (fun i _ => by rw [eU_cell _ _ _ _ (by decide), eU_cell _ _ _ _ (by decide)])) (fun _ => by
          rw [e2, if_pos n16, if_pos n16]
          refine ⟨⟨⟨?_, ?_, ?_⟩, fun i hi => ?_, ⟨?_, ?_, ?_, ?_⟩, fun i hi => ?_⟩, fun i hi k1 k2 => ?_⟩
          · rw [eU_same]; exact (nI_succ _).symm
          · rw [eU_place _ _ _ _ (by decide), eU_cell _ _ _ _ (by decide)]; exact m2
          · rw [eU_place _ _ _ _ (by decide), eU_cell _ _ _ _ (by decide)]; exact m3
          · rw [eU_cell _ _ _ _ (by decide)]
            show _ = nI (zU (sNk (tScan bt sz j)) (sNt (tScan bt sz j)) j i)
            by_cases hq : i = sNt (tScan bt sz j)
            · rw [hq, eU_same, zU_same]
            · rw [eU_place _ _ _ _ hq, zU_ne _ _ hq]
              have hi' : i < sNt (tScan bt sz j) + 1 := hi
              exact m4 i (by omega)
          · rw [eU_cell _ _ _ _ (by decide), eU_cell _ _ _ _ (by decide)]; exact m5
          · rw [eU_cell _ _ _ _ (by decide), eU_cell _ _ _ _ (by decide)]; exact m6
          · rw [eU_cell _ _ _ _ (by decide), eU_cell _ _ _ _ (by decide)]; exact m7
          · rw [eU_cell _ _ _ _ (by decide), eU_cell _ _ _ _ (by decide)]; exact m8
          · rw [eU_cell _ _ _ _ (by decide), eU_cell _ _ _ _ (by decide)]; exact m9 i hi
          · rw [eU_cell _ _ _ _ (by decide), eU_cell _ _ _ _ (by decide)]
            by_cases hq : i = j
            · subst hq; exact absurd n3 k2
            · exact hv i (by omega) k1 k2)
        rw [e2] at key
        have key' : F (nI (sErr (decide (16 ≤ sNt (tScan bt sz j))) 4 j (sEr (tScan bt sz j))).1) _ := key
        rw [decide_eq_false (show ¬ 16 ≤ sNt (tScan bt sz j) by omega), sErr_f, h0] at key'
        exact key'
      · have n16 : ¬ sNt (tScan bt sz j) < 16 := fun z => q16 (nI_lt (b := 16) z (by decide))
        have er4 : sEr (tScan bt sz (j + 1)) = (4, j) := by
          rw [e2]
          show sErr (decide (16 ≤ sNt (tScan bt sz j))) 4 j (sEr (tScan bt sz j)) = _
          rw [decide_eq_true (show 16 ≤ sNt (tScan bt sz j) by omega), sErr_t h0]
        have key := h M (nFr.refl M) h6 hS (fun z => by rw [er4] at z; exact absurd z (show ¬ (4 : Nat) = 0 by decide))
        rw [er4] at key
        exact key
    · have n3 : sL (tScan bt sz j) = 3 := l3.mp q3
      obtain ⟨i, hk0⟩ : ∃ i, sKn (tW bt sz) (tScan bt sz j) j = some i := by
        cases hh : sKn (tW bt sz) (tScan bt sz j) j with
        | none => rw [hh] at q; exact absurd eM1lt q
        | some i => exact ⟨i, rfl⟩
      have er2 : sEr (tScan bt sz (j + 1)) = (2, j) := by
        rw [e]; unfold sName; rw [if_pos n3, hk0]
        show sErr _ 4 j (sErr true 2 j (sEr (tScan bt sz j))) = _
        rw [sErr_t h0, sErr_keep (show (2 : Nat) ≠ 0 by decide)]
      have key := h M (nFr.refl M) h6 hS (fun z => by rw [er2] at z; exact absurd z (show ¬ (2 : Nat) = 0 by decide))
      rw [er2] at key
      exact key
    · have n3 : ¬ sL (tScan bt sz j) = 3 := fun z => q3 (l3.mpr z)
      have e2 : tScan bt sz (j + 1) = ((tScan bt sz j).1, sNk (tScan bt sz j), sNu (tScan bt sz j), (tScan bt sz j).2.2.2.1, sErr (sKn (tW bt sz) (tScan bt sz j) j).isNone 3 j (sEr (tScan bt sz j))) := by
        rw [e]; unfold sName; rw [if_neg n3]
      refine C_X9_setValue G M _ _ _ ?_
      rw [hS.2.1, nI_clamp (show j < 2 ^ 31 by omega)]
      refine ⟨fun q => absurd q (nI_pos (by omega)), fun _ => ⟨fun q => absurd q (nI_ge (by omega) (by omega)), fun _ => ⟨vp_in_nI (by omega) (by decide), ?_⟩⟩⟩
      have key := h (eU M 7 j (eO (sKn (tW bt sz) (tScan bt sz j) j))) ⟨fun c a1 a2 a3 a4 a5 => eU_other _ _ _ a5, fun i _ _ _ _ => eU_cell _ _ _ _ (by decide)⟩ (by rw [eU_cell _ _ _ _ (by decide)]; exact h6) (hS.of (fun c c1 c2 => eU_other _ _ _ (by omega)) (fun i hi => eU_place _ _ _ _ (fun z => by rw [z, h41] at hi; cases hi))) (fun hz => by
        rw [e2]
        refine ⟨⟨⟨?_, ?_, ?_⟩, fun i hi => ?_, ⟨?_, ?_, ?_, ?_⟩, fun i hi => ?_⟩, fun i hi k1 k2 => ?_⟩
        · rw [eU_cell _ _ _ _ (by decide)]; exact m1
        · rw [eU_cell _ _ _ _ (by decide)]; exact m2
        · rw [eU_cell _ _ _ _ (by decide)]; exact m3
        · rw [eU_cell _ _ _ _ (by decide)]; exact m4 i hi
        · rw [eU_cell _ _ _ _ (by decide)]; exact m5
        · rw [eU_cell _ _ _ _ (by decide)]; exact m6
        · rw [eU_cell _ _ _ _ (by decide)]; exact m7
        · rw [eU_cell _ _ _ _ (by decide)]; exact m8
        · rw [eU_cell _ _ _ _ (by decide)]; exact m9 i hi
        · by_cases hq : i = j
          · subst hq
            rw [eU_same]
            unfold tTile
            cases hh : sKn (tW bt sz) (tScan bt sz i) i with
            | none =>
              exfalso
              rw [e2] at hz
              have hz' : (sErr (sKn (tW bt sz) (tScan bt sz i) i).isNone 3 i (sEr (tScan bt sz i))).1 = 0 := hz
              rw [hh] at hz'
              rw [show (none : Option Nat).isNone = true from rfl, sErr_t h0] at hz'
              exact absurd hz' (show ¬ (3 : Nat) = 0 by decide)
            | some k => rfl
          · rw [eU_place _ _ _ _ hq]
            exact hv i (by omega) k1 k2)
      rw [e2] at key
      have key' : F (nI (sErr (sKn (tW bt sz) (tScan bt sz j) j).isNone 3 j (sEr (tScan bt sz j))).1) _ := key
      cases hh : sKn (tW bt sz) (tScan bt sz j) j with
      | none =>
        rw [hh] at key'
        rw [show (none : Option Nat).isNone = true from rfl, sErr_t h0] at key'
        exact ⟨fun z => absurd z eM1nle, fun _ => key'⟩
      | some k =>
        rw [hh] at key'
        rw [show (some k).isNone = false from rfl, sErr_f, h0] at key'
        exact ⟨fun _ => key', fun z => absurd (nI_pos' (by have := kn16 k hh; omega)) z⟩
  refine C_X5_errorAtToken G M F ?_
  rw [h6]
  refine S_kindOf G ht (fun i hi => hS.at i hi) hS.2.1 _ hj ?_
  rw [e13, nI_clamp (show tTk bt sz j - 1 < 2 ^ 31 by omega)]
  refine ⟨⟨nI_le (a := 1) hk.1 (by omega), nI_le (b := 44) (by omega) (by decide)⟩, vp_in_nI (by omega) (by decide), fun q => ?_, fun q => number ?_, fun q => other 6 (by decide) q, fun q => other 7 (by decide) q, fun q => other 8 (by decide) q, fun q => other 9 (by decide) q, fun q => other 10 (by decide) q, fun q => other 11 (by decide) q, fun q => other 12 (by decide) q, fun q => other 13 (by decide) q, fun q => other 14 (by decide) q, fun q => other 15 (by decide) q, fun q => other 16 (by decide) q, fun q => boardTile ?_, fun q => boardTile ?_, fun q => orders ?_, fun q => orders ?_, fun q => orders ?_, fun q => name ?_⟩
  · have hn := (by decide : ∀ k, k < 43 → ((eSw k).toInt < 5 ∨ 22 < (eSw k).toInt) → ¬ (k + 1 = 1 ∨ k + 1 = 3) ∧ ¬ (k + 1 = 4 ∨ k + 1 = 7 ∨ k + 1 = 8) ∧ k + 1 ≠ 41 ∧ k + 1 ≠ 40) (tTk bt sz j - 1) (by omega) q
    rw [show tTk bt sz j - 1 + 1 = tTk bt sz j by omega] at hn
    exact none_ hn.1 hn.2.1 hn.2.2.1 hn.2.2.2
  · have := (by decide : ∀ k, k < 43 → eSw k = 5 → k = 39) (tTk bt sz j - 1) (by omega) q
    omega
  · have := (by decide : ∀ k, k < 43 → eSw k = 17 → k = 0) (tTk bt sz j - 1) (by omega) q
    omega
  · have := (by decide : ∀ k, k < 43 → eSw k = 18 → k = 2) (tTk bt sz j - 1) (by omega) q
    omega
  · have := (by decide : ∀ k, k < 43 → eSw k = 19 → k = 3) (tTk bt sz j - 1) (by omega) q
    omega
  · have := (by decide : ∀ k, k < 43 → eSw k = 20 → k = 6) (tTk bt sz j - 1) (by omega) q
    omega
  · have := (by decide : ∀ k, k < 43 → eSw k = 21 → k = 7) (tTk bt sz j - 1) (by omega) q
    omega
  · have := (by decide : ∀ k, k < 43 → eSw k = 22 → k = 40) (tTk bt sz j - 1) (by omega) q
    omega
/-- tokens put in the place of what they mean -/
theorem N_resolve (hS : cTS M bt sz) {nc no : Nat} (hc : nc ≤ 400) (ho : no ≤ 16) (h9 : M 8 9 = nI nc) (h6 : M 8 6 = nI no) (hn : ∀ i, i < no → ∃ t, t ≤ tT bt sz ∧ M (36 + i) 1 = nI t) (F : eM → Prop) (h : ∀ M', (∀ c j, ¬ (c = 12 ∧ j < nc) → ¬ (36 ≤ c ∧ c < 36 + no ∧ j = 1) → M' c j = M c j) → (∀ i t, i < nc → t ≤ tT bt sz → M 12 i = nI t → M' 12 i = M 7 t) → (∀ i t, i < no → t ≤ tT bt sz → M (36 + i) 1 = nI t → M' (36 + i) 1 = M 7 t) → F M') : Cal G 0 68 (2, 0, 0) kX7_resolve [.ref (G.1 8), .ref (G.1 3)] M (eFV F) := by
  have h400 := (tTk_pTk bt sz).1
  refine C_X7_resolve G M F ?_
  -- the second loop
  have key2 : ∀ M1 : eM, (∀ c j, ¬ (c = 12 ∧ j < nc) → M1 c j = M c j) → (∀ i t, i < nc → t ≤ tT bt sz → M 12 i = nI t → M1 12 i = M 7 t) → ∀ i, i ≤ no → ∀ M2, (∀ c j, ¬ (36 ≤ c ∧ c < 36 + i ∧ j = 1) → M2 c j = M1 c j) → (∀ k t, k < i → t ≤ tT bt sz → M (36 + k) 1 = nI t → M2 (36 + k) 1 = M 7 t) → Ev (eZ G 0 68 0 0 (eFV F)) G 0 68 (2, 0, 0) kX7_resolve 34 [(0, .ref (G.1 8)), (1, .ref (G.1 3)), (2, .int (nI i))] [] M2 0 0 := by
    intro M1 g1 g2
    refine eDown (P := fun i => ∀ M2, (∀ c j, ¬ (36 ≤ c ∧ c < 36 + i ∧ j = 1) → M2 c j = M1 c j) → (∀ k t, k < i → t ≤ tT bt sz → M (36 + k) 1 = nI t → M2 (36 + k) 1 = M 7 t) → Ev (eZ G 0 68 0 0 (eFV F)) G 0 68 (2, 0, 0) kX7_resolve 34 [(0, .ref (G.1 8)), (1, .ref (G.1 3)), (2, .int (nI i))] [] M2 0 0) ?_ ?_
    · intro M2 f1 f2
      have e6 : M2 8 6 = nI no := by rw [f1 8 6 (by omega), g1 8 6 (by omega)]; exact h6
      refine B_X7_resolve_34 G M2 F _ ⟨fun _ => h M2 (fun c j a1 a2 => ?_) (fun i t hi ht e => ?_) f2, fun q => absurd (by rw [e6]; exact Int32.le_refl _) q⟩
      · rw [f1 c j a2, g1 c j a1]
      · rw [f1 12 i (by omega)]; exact g2 i t hi ht e
    · intro i hi hstep M2 f1 f2
      have e6 : M2 8 6 = nI no := by rw [f1 8 6 (by omega), g1 8 6 (by omega)]; exact h6
      obtain ⟨t, htT, et⟩ := hn i hi
      refine B_X7_resolve_34 G M2 F _ ⟨fun q => absurd (by rw [e6] at q; exact q) (nI_ge hi (by omega)), fun _ => ⟨vp_in_nI (by omega) (by decide), vp_in_nI (by omega) (by decide), ?_⟩⟩
      rw [nI_clamp (show i < 2 ^ 31 by omega), f1 (36 + i) 1 (by omega), g1 (36 + i) 1 (by omega), et]
      have hS2 : cTS M2 bt sz := hS.of (fun c c1 c2 => funext fun j => by rw [f1 c j (by omega), g1 c j (by omega)]) (fun j _ => by rw [f1 7 j (by omega), g1 7 j (by omega)])
      refine T_valueOf hS2 _ htT ?_
      rw [← nI_succ]
      have e7 : M2 7 t = M 7 t := by rw [f1 7 t (by omega), g1 7 t (by omega)]
      refine hstep _ (fun c j a1 => ?_) (fun k t' hk ht' e => ?_)
      · rw [show eU M2 (36 + i) 1 (M2 7 t) c j = M2 c j from if_neg (by omega)]
        exact f1 c j (by omega)
      · by_cases hq : k = i
        · subst hq
          rw [eU_same, e7]
          rw [et] at e
          rw [(nI_eq (by omega) (by omega)).mp e]
        · rw [eU_cell _ _ _ _ (by omega)]
          exact f2 k t' (by omega) ht' e
  refine eDown (P := fun i => ∀ M1, (∀ c j, ¬ (c = 12 ∧ j < i) → M1 c j = M c j) → (∀ k t, k < i → t ≤ tT bt sz → M 12 k = nI t → M1 12 k = M 7 t) → Ev (eZ G 0 68 0 0 (eFV F)) G 0 68 (2, 0, 0) kX7_resolve 2 [(0, .ref (G.1 8)), (1, .ref (G.1 3)), (2, .int (nI i))] [] M1 0 0) (N := nc) ?_ ?_ 0 (Nat.zero_le _) M (fun _ _ _ => rfl) (fun k t hk => absurd hk (Nat.not_lt_zero _))
  · intro M1 g1 g2
    have e9 : M1 8 9 = nI nc := by rw [g1 8 9 (by omega)]; exact h9
    refine B_X7_resolve_2 G M1 F _ ⟨fun _ => key2 M1 g1 g2 0 (Nat.zero_le _) M1 (fun _ _ _ => rfl) (fun k t hk => absurd hk (Nat.not_lt_zero _)), fun q => absurd (by rw [e9]; exact Int32.le_refl _) q⟩
  · intro i hi hstep M1 g1 g2
    have e9 : M1 8 9 = nI nc := by rw [g1 8 9 (by omega)]; exact h9
    refine B_X7_resolve_2 G M1 F _ ⟨fun q => absurd (by rw [e9] at q; exact q) (nI_ge hi (by omega)), fun _ => ⟨vp_in_nI (by omega) (by decide), ?_⟩⟩
    rw [nI_clamp (show i < 2 ^ 31 by omega), g1 12 i (by omega)]
    have hS1 : cTS M1 bt sz := hS.of (fun c c1 c2 => funext fun j => g1 c j (by omega)) (fun j _ => g1 7 j (by omega))
    have go : ∀ r : Int32, (∀ t, t ≤ tT bt sz → M 12 i = nI t → r = M 7 t) → vp_in (nI i) 400 ∧ (Ev (eZ G 0 68 0 0 (eFV F)) G 0 68 (2, 0, 0) kX7_resolve 2 [(0, .ref (G.1 8)), (1, .ref (G.1 3)), (2, .int (nI i + 1))] [] (eU M1 12 i r) 0 0) := by
      intro r hr
      refine ⟨vp_in_nI (by omega) (by decide), ?_⟩
      rw [← nI_succ]
      refine hstep _ (fun c j a1 => ?_) (fun k t hk ht e => ?_)
      · rw [show eU M1 12 i r c j = M1 c j from if_neg (by omega)]
        exact g1 c j (by omega)
      · by_cases hq : k = i
        · subst hq
          rw [eU_same]
          exact hr t ht e
        · rw [eU_place _ _ _ _ hq]
          exact g2 k t (by omega) ht e
    by_cases hex : ∃ t, t ≤ tT bt sz ∧ M 12 i = nI t
    · obtain ⟨t, ht, e⟩ := hex
      rw [e]
      refine T_valueOf hS1 _ ht (go _ (fun t' ht' e' => ?_))
      rw [e] at e'
      rw [g1 7 t (by omega), (nI_eq (by omega) (by omega)).mp e']
    · exact T_valueAny hS1 _ _ (fun r => go r (fun t ht e => absurd ⟨t, ht, e⟩ hex))
theorem N_first (hS : cTS M bt sz) (hc : M 8 0 = 5 ∧ M 8 1 = 5 ∧ M 8 2 = 0 ∧ M 8 4 = 0) {nc no : Nat} (hnc : nc ≤ 400) (hno : no ≤ 16) (h9 : M 8 9 = nI nc) (h6 : M 8 6 = nI no) (hn : ∀ i, i < no → ∃ t, t ≤ tT bt sz ∧ M (36 + i) 1 = nI t) (F : Int32 → eM → Prop)
    (hbad : (sEr (tScan bt sz (tT bt sz + 1))).1 ≠ 0 → ∀ M', nFr M M' → cTS M' bt sz → M' 14 6 = nI (sEr (tScan bt sz (tT bt sz + 1))).2 → (sEr (tScan bt sz (tT bt sz + 1))).2 ≤ tT bt sz → F (nI (sEr (tScan bt sz (tT bt sz + 1))).1) M')
    (hok : (sEr (tScan bt sz (tT bt sz + 1))).1 = 0 → ∀ M1 M', nFr M M1 → cTS M1 bt sz → cMn M1 (tScan bt sz (tT bt sz + 1)) → cVals M1 bt sz (tT bt sz + 1) → (∀ c j, ¬ (c = 12 ∧ j < nc) → ¬ (36 ≤ c ∧ c < 36 + no ∧ j = 1) → M' c j = M1 c j) → (∀ i t, i < nc → t ≤ tT bt sz → M1 12 i = nI t → M' 12 i = M1 7 t) → (∀ i t, i < no → t ≤ tT bt sz → M1 (36 + i) 1 = nI t → M' (36 + i) 1 = M1 7 t) → F 0 M') : Cal G 0 68 (6, 0, 0) kX5_firstError [.ref (G.1 14)] M (eFI F) := by
  have ht := tTk_pTk bt sz
  have h400 := ht.1
  refine C_X5_firstError G M F ?_
  refine eDown (P := fun j => ∀ M1, nFr M M1 → M1 14 6 = nI j → cTS M1 bt sz → cMn M1 (tScan bt sz j) → cVals M1 bt sz j → (sEr (tScan bt sz j)).1 = 0 → Ev (eZ G 0 68 0 0 (eFI F)) G 0 68 (6, 0, 0) kX5_firstError 22 [(0, .ref (G.1 14))] [] M1 0 0) (N := tT bt sz + 1) ?_ ?_ 0 (Nat.zero_le _) _ ⟨fun c a1 _ _ _ _ => ?_, fun j _ _ _ _ => ?_⟩ ?_ (hS.of (fun c c1 c2 => ?_) (fun j _ => ?_)) ⟨⟨?_, ?_, ?_⟩, fun i hi => absurd hi (Nat.not_lt_zero _), ⟨?_, ?_, ?_, ?_⟩, fun i hi => absurd hi (Nat.not_lt_zero _)⟩ (fun i hi => absurd hi (Nat.not_lt_zero _)) rfl
  · intro M1 f1 n6 s1 m1 v1 e0
    refine B_X5_firstError_22 G M1 F ⟨fun _ => ?_, fun q => absurd (by rw [s1.2.1, n6]; exact Int32.le_refl _) q⟩
    refine N_resolve s1 hnc hno (by rw [f1.2 9 (by decide) (by decide) (by decide) (by decide)]; exact h9) (by rw [f1.2 6 (by decide) (by decide) (by decide) (by decide)]; exact h6) (fun i hi => ?_) _ (fun M' g1 g2 g3 => hok e0 M1 M' f1 s1 m1 v1 g1 g2 g3)
    rw [f1.1 (36 + i) (by omega) (by omega) (by omega) (by omega) (by omega)]
    exact hn i hi
  · intro j hj hstep M1 f1 n6 s1 m1 v1 e0
    refine B_X5_firstError_22 G M1 F ⟨fun q => absurd (by rw [s1.2.1, n6] at q; exact q) (nI_ge hj (by omega)), fun _ => ?_⟩
    refine N_token s1 (by omega) n6 m1 e0 v1 _ (fun M2 f2 n62 s2 k2 => ⟨fun z => ?_, fun z => ?_⟩)
    · have e1 : (sEr (tScan bt sz (j + 1))).1 = 0 := (nI_eq (b := 0) (by have := tScan_5 bt sz (j + 1); omega) (by decide)).mp z
      obtain ⟨k3, k4⟩ := k2 e1
      rw [n62]
      refine hstep _ (f1.trans (f2.trans ⟨fun c a1 _ _ _ _ => eU_other _ _ _ a1, fun i _ _ _ _ => eU_cell _ _ _ _ (by decide)⟩)) ?_ (s2.of (fun c c1 c2 => eU_other _ _ _ (by omega)) (fun i _ => eU_cell _ _ _ _ (by decide))) ?_ (fun i hi a1 a2 => ?_) e1
      · rw [eU_same]; exact (nI_succ j).symm
      · obtain ⟨⟨w1, w2, w3⟩, w4, ⟨w5, w6, w7, w8⟩, w9⟩ := k3
        refine ⟨⟨?_, ?_, ?_⟩, fun i hi => ?_, ⟨?_, ?_, ?_, ?_⟩, fun i hi => ?_⟩
        · rw [eU_place _ _ _ _ (by decide)]; exact w1
        · rw [eU_place _ _ _ _ (by decide)]; exact w2
        · rw [eU_place _ _ _ _ (by decide)]; exact w3
        · rw [eU_cell _ _ _ _ (by decide)]; exact w4 i hi
        · rw [eU_cell _ _ _ _ (by decide)]; exact w5
        · rw [eU_cell _ _ _ _ (by decide)]; exact w6
        · rw [eU_cell _ _ _ _ (by decide)]; exact w7
        · rw [eU_cell _ _ _ _ (by decide)]; exact w8
        · rw [eU_cell _ _ _ _ (by decide)]; exact w9 i hi
      · rw [eU_cell _ _ _ _ (by decide)]
        exact k4 i hi a1 a2
    · have e1 : (sEr (tScan bt sz (j + 1))).1 ≠ 0 := fun y => z (by rw [y]; rfl)
      have e2 := sScan_er e1 (tT bt sz + 1 - (j + 1))
      rw [show j + 1 + (tT bt sz + 1 - (j + 1)) = tT bt sz + 1 by omega] at e2
      have e3 : (sEr (tScan bt sz (j + 1))).2 = j := sStep_at _ _ e0 e1
      have := hbad (by rw [e2]; exact e1) M2 (f1.trans f2) s2 (by rw [e2, e3]; exact n62) (by rw [e2, e3]; omega)
      rw [e2] at this
      exact this
  · rw [eU_other _ _ _ a1, eU_other _ _ _ a1, eU_other _ _ _ a1, eU_other _ _ _ a1]
  · rw [eU_cell _ _ _ _ (by decide), eU_cell _ _ _ _ (by decide), eU_cell _ _ _ _ (by decide), eU_cell _ _ _ _ (by decide)]
  · exact eU_same _ _ _ _
  · rw [eU_other _ _ _ (by omega), eU_other _ _ _ (by omega), eU_other _ _ _ (by omega), eU_other _ _ _ (by omega)]
  · rw [eU_cell _ _ _ _ (by decide), eU_cell _ _ _ _ (by decide), eU_cell _ _ _ _ (by decide), eU_cell _ _ _ _ (by decide)]
  · rw [eU_place _ _ _ _ (by decide), eU_place _ _ _ _ (by decide), eU_place _ _ _ _ (by decide), eU_same]; rfl
  · rw [eU_place _ _ _ _ (by decide), eU_place _ _ _ _ (by decide), eU_same]; rfl
  · rw [eU_place _ _ _ _ (by decide), eU_same]; rfl
  · rw [eU_cell _ _ _ _ (by decide), eU_cell _ _ _ _ (by decide), eU_cell _ _ _ _ (by decide), eU_cell _ _ _ _ (by decide)]; exact hc.1
  · rw [eU_cell _ _ _ _ (by decide), eU_cell _ _ _ _ (by decide), eU_cell _ _ _ _ (by decide), eU_cell _ _ _ _ (by decide)]; exact hc.2.1
  · rw [eU_cell _ _ _ _ (by decide), eU_cell _ _ _ _ (by decide), eU_cell _ _ _ _ (by decide), eU_cell _ _ _ _ (by decide)]; exact hc.2.2.1
  · rw [eU_cell _ _ _ _ (by decide), eU_cell _ _ _ _ (by decide), eU_cell _ _ _ _ (by decide), eU_cell _ _ _ _ (by decide)]; exact hc.2.2.2
end CMean
