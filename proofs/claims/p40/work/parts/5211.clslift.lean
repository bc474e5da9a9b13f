/-! ===== the class lifts a tile; keeps the board and brings it back ===== -/
def cLiftI (M0 M : eM) (B : eBd) (c i : Nat) : Prop := (∀ j, j ≠ 30 → j ≠ 31 → M j = M0 j) ∧ (∀ c' e', c' < bC B → e' < 6 → M 30 (c' * 6 + e') = eO (bFaceL B c i c' e')) ∧ (∀ c', c' < bC B → M 31 c' = nI (bTbL B c i c'))
theorem S_lift0 (G : eG) {M : eM} {B : eBd} (hb : bOk B) (hM : cB M B) (F : eM → Prop) {k : Nat} (hk : k < bN B) (h2 : bCe B k = none) (h : F M) : Cal G 0 68 (1, 0, 0) kX1_lift [.ref (G.1 23), .int (nI k)] M (eFV F) := by
  have h16 := hb.2.2.1
  refine C_X1_lift G M F (nI k) ⟨vp_in_nI (by omega) (by decide), ?_⟩
  rw [nI_clamp (show k < 2 ^ 31 by omega), hM.ce hk, h2]
  exact ⟨fun q => absurd q eM1nle, fun _ => h⟩
theorem S_lift (G : eG) {M : eM} {B : eBd} (hb : bOk B) (hM : cB M B) (F : eM → Prop) {k c : Nat} (hk : k < bN B) (h2 : bCe B k = some c) (h : ∀ M', cB M' (bLift B k c) → (∀ j, j < 23 ∨ 31 < j → M' j = M j) → F M') : Cal G 0 68 (1, 0, 0) kX1_lift [.ref (G.1 23), .int (nI k)] M (eFV F) := by
  have h49 := hb.c49
  have h16 := hb.2.2.1
  obtain ⟨hc, h1, ht⟩ := hb.2.2.2.2.1 k c hk h2
  have hP := bP_pos hb hk h2
  refine C_X1_lift G M F (nI k) ⟨vp_in_nI (by omega) (by decide), ?_⟩
  rw [nI_clamp (show k < 2 ^ 31 by omega), hM.ce hk, h2, eO_some, nI_clamp (show c < 2 ^ 31 by omega)]
  refine ⟨fun _ => ⟨vp_in_nI (by omega) (by decide), vp_in_nI (by omega) (by decide), ?_⟩, fun q => absurd (nI_pos' (by omega)) q⟩
  have e4 : (eU (eU M 24 c (-1)) 25 k (-1)) 23 4 = nI (bP B) := by
    rw [eU_cell _ _ _ _ (by decide), eU_cell _ _ _ _ (by decide)]
    exact hM.np
  rw [e4]
  have key : ∀ M0 : eM, M0 = eU (eU (eU M 24 c (-1)) 25 k (-1)) 23 4 (nI (bP B) - 1) → ∀ i, i ≤ 6 → ∀ M1, cLiftI M0 M1 B c i → Ev (eZ G 0 68 0 0 (eFV F)) G 0 68 (1, 0, 0) kX1_lift 38 [(0, .ref (G.1 23)), (2, .int (nI c)), (3, .int (nI i))] [] M1 0 0 := by
    intro M0 hM0
    have hlow : ∀ j, j < 23 ∨ 31 < j → M0 j = M j := fun j hj => by
      rw [hM0, eU_other _ _ _ (by omega), eU_other _ _ _ (by omega), eU_other _ _ _ (by omega)]
    have hmid : ∀ j, 26 ≤ j → M0 j = M j := fun j hj => by
      rw [hM0, eU_other _ _ _ (by omega), eU_other _ _ _ (by omega), eU_other _ _ _ (by omega)]
    refine eDown (P := fun i => ∀ M1, cLiftI M0 M1 B c i → Ev (eZ G 0 68 0 0 (eFV F)) G 0 68 (1, 0, 0) kX1_lift 38 [(0, .ref (G.1 23)), (2, .int (nI c)), (3, .int (nI i))] [] M1 0 0) ?_ ?_
    · intro M1 hI
      refine B_X1_lift_38 G M1 F _ _ ⟨fun _ => h M1 ?_ ?_, fun q => absurd (Int32.le_refl 6) q⟩
      · obtain ⟨i1, i2, i3⟩ := hI
        obtain ⟨m1, m2, m3, m4, m5, m6, m7, m8, m9⟩ := hM
        refine ⟨⟨?_, ?_, ?_, ?_, ?_⟩, ?_, ?_, ?_, ?_, ?_, ?_, ?_, ?_⟩
        · rw [i1 23 (by decide) (by decide), hM0, eU_place _ _ _ _ (by decide), eU_cell _ _ _ _ (by decide), eU_cell _ _ _ _ (by decide)]; exact m1.1
        · rw [i1 23 (by decide) (by decide), hM0, eU_place _ _ _ _ (by decide), eU_cell _ _ _ _ (by decide), eU_cell _ _ _ _ (by decide)]; exact m1.2.1
        · rw [i1 23 (by decide) (by decide), hM0, eU_place _ _ _ _ (by decide), eU_cell _ _ _ _ (by decide), eU_cell _ _ _ _ (by decide)]; exact m1.2.2.1
        · rw [i1 23 (by decide) (by decide), hM0, eU_place _ _ _ _ (by decide), eU_cell _ _ _ _ (by decide), eU_cell _ _ _ _ (by decide)]; exact m1.2.2.2.1
        · rw [i1 23 (by decide) (by decide), hM0, eU_same, eL1]; exact nI_sub hP
        · intro c' hc'
          rw [i1 24 (by decide) (by decide), hM0, eU_cell _ _ _ _ (by decide), eU_cell _ _ _ _ (by decide)]
          show _ = eO (zU (bAt B) c none c')
          by_cases hq : c' = c
          · subst hq; rw [eU_same, zU_same]; rfl
          · rw [eU_place _ _ _ _ hq, zU_ne _ _ hq]; exact m2 c' hc'
        · intro j hj
          rw [i1 25 (by decide) (by decide), hM0, eU_cell _ _ _ _ (by decide)]
          show _ = eO (zU (bCe B) k none j)
          by_cases hq : j = k
          · subst hq; rw [eU_same, zU_same]; rfl
          · rw [eU_place _ _ _ _ hq, zU_ne _ _ hq, eU_cell _ _ _ _ (by decide)]; exact m3 j hj
        · intro j c' hj hjc
          have hq : j ≠ k := fun z => by
            subst z
            have : none = some c' := (zU_same (bCe B) j none).symm.trans hjc
            cases this
          rw [i1 26 (by decide) (by decide), hmid 26 (by decide)]
          exact m4 j c' hj ((zU_ne (bCe B) none hq).symm.trans hjc)
        · intro j hj
          rw [i1 27 (by decide) (by decide), hmid 27 (by decide)]; exact m5 j hj
        · intro a b n ha hb' hn
          rw [i1 28 (by decide) (by decide), hmid 28 (by decide)]; exact m6 a b n ha hb' hn
        · intro a b ha hb'
          rw [i1 29 (by decide) (by decide), hmid 29 (by decide)]; exact m7 a b ha hb'
        · intro a b ha hb'
          rw [i2 a b ha hb', bFace_lift]
          unfold bFaceL
          by_cases hq : bBes B a b = some c
          · rw [if_pos ⟨hq, Nat.mod_lt _ (by decide)⟩, if_pos hq]
          · rw [if_neg (fun z => hq z.1), if_neg hq]
        · intro a ha
          rw [i3 a ha, bTbL_6 (k := k)]
      · intro j hj
        rw [hI.1 j (by omega) (by omega), hlow j hj]
    · intro i hi hn M1 hI
      obtain ⟨i1, i2, i3⟩ := hI
      have go : ∀ M2, cLiftI M0 M2 B c (i + 1) → Ev (eZ G 0 68 0 0 (eFV F)) G 0 68 (1, 0, 0) kX1_lift 91 [(0, .ref (G.1 23)), (2, .int (nI c)), (3, .int (nI i))] [] M2 0 0 := by
        intro M2 h2'
        have := hn M2 h2'
        rw [nI_succ] at this
        exact B_X1_lift_91 G M2 F _ _ this
      refine B_X1_lift_38 G M1 F _ _ ⟨fun q => absurd q (nI_ge hi (by decide)), fun _ => ?_⟩
      rw [eIx]
      refine ⟨vp_in_nI (by omega) (by decide), ?_⟩
      have e29 : M1 29 (c * 6 + i) = eO (bBes B c i) := by rw [i1 29 (by decide) (by decide), hmid 29 (by decide)]; exact hM.be hc hi
      rw [nI_clamp (show c * 6 + i < 2 ^ 31 by omega), e29]
      cases hd : bBes B c i with
      | none =>
        refine ⟨fun _ => go M1 ⟨i1, fun a b ha hb' => ?_, fun a ha => ?_⟩, fun q => absurd eM1lt q⟩
        · rw [i2 a b ha hb', bFaceL_keep hb ha hb' (fun z => by rw [hd] at z; cases z.1)]
        · rw [i3 a ha, bTbL_keep hb ha (by rw [hd]; exact fun z => by cases z)]
      | some d =>
        have hdl := (hb.bes hc hi hd).1
        refine ⟨fun q => absurd q (nI_pos (by omega)), fun _ => ?_⟩
        rw [eO_some, eOpp hi, eIx, nI_clamp (show d * 6 + (i + 3) % 6 < 2 ^ 31 by omega), nI_clamp (show d < 2 ^ 31 by omega)]
        refine ⟨vp_in_nI (by omega) (by decide), vp_in_nI (by omega) (by decide), vp_in_nI (by omega) (by decide), go _ ⟨fun j hj hj' => ?_, fun a b ha hb' => ?_, fun a ha => ?_⟩⟩
        · rw [eU_other _ _ _ hj', eU_other _ _ _ hj]
          exact i1 j hj hj'
        · rw [eU_cell _ _ _ _ (by decide)]
          by_cases hq : a * 6 + b = d * 6 + (i + 3) % 6
          · obtain ⟨rfl, rfl⟩ := bIx_inj hb' (Nat.mod_lt _ (by decide)) hq
            rw [eU_same, bFaceL_step hb hc hi hd]
            rfl
          · rw [eU_place _ _ _ _ hq, i2 a b ha hb', bFaceL_keep hb ha hb' (fun z => by
              rw [hd] at z
              cases z.1
              exact hq (by rw [z.2]))]
        · by_cases hq : a = d
          · subst hq
            rw [eU_same, eU_cell _ _ _ _ (by decide), i3 a ha, bTbL_step hb hc hi h1 hd, eL1, nI_sub (by omega)]
            congr 1
          · rw [eU_place _ _ _ _ hq, eU_cell _ _ _ _ (by decide), i3 a ha, bTbL_keep hb ha (by rw [hd]; exact fun z => hq (Option.some.inj z).symm)]
  refine key _ rfl 0 (Nat.zero_le _) _ ⟨fun _ _ _ => rfl, fun a b ha hb' => ?_, fun a ha => ?_⟩
  · rw [eU_cell _ _ _ _ (by decide), eU_cell _ _ _ _ (by decide), eU_cell _ _ _ _ (by decide), hM.fa ha hb']
    unfold bFaceL
    rw [if_neg (fun z => absurd z.2 (Nat.not_lt_zero _))]
  · rw [eU_cell _ _ _ _ (by decide), eU_cell _ _ _ _ (by decide), eU_cell _ _ _ _ (by decide), hM.tb ha, bTbL_0]

