/-! ===== the class puts and lifts ===== -/
/-- the class's board while a tile is being put -/
def cPutI (M0 M : eM) (B : eBd) (k c t i : Nat) : Prop := (∀ j, j ≠ 30 → j ≠ 31 → M j = M0 j) ∧ (∀ c' e', c' < bC B → e' < 6 → M 30 (c' * 6 + e') = eO (bFaceI B k c t i c' e')) ∧ (∀ c', c' < bC B → M 31 c' = nI (bTbI B c i c'))
theorem S_put (G : eG) {M : eM} {B : eBd} (hb : bOk B) (hM : cB M B) (F : eM → Prop) {k c t : Nat} (hk : k < bN B) (hc : c < bC B) (ht : t < 6) (h1 : bAt B c = none) (h2 : bCe B k = none) (h : ∀ M', cB M' (bPut B k c t) → (∀ j, j < 23 ∨ 31 < j → M' j = M j) → F M') : Cal G 0 68 (2, 0, 0) kX1_put [.ref (G.1 23), .int (nI k), .int (nI c), .int (nI t)] M (eFV F) := by
  have h49 := hb.c49
  have h16 := hb.2.2.1
  refine C_X1_put G M F (nI k) (nI c) (nI t) ⟨vp_in_nI (by omega) (by decide), vp_in_nI (by omega) (by decide), vp_in_nI (by omega) (by decide), ?_⟩
  rw [nI_clamp (show c < 2 ^ 31 by omega), nI_clamp (show k < 2 ^ 31 by omega)]
  have e4 : (eU (eU (eU M 24 c (nI k)) 25 k (nI c)) 26 k (nI t)) 23 4 = nI (bP B) := by
    rw [eU_cell _ _ _ _ (by decide), eU_cell _ _ _ _ (by decide), eU_cell _ _ _ _ (by decide)]
    exact hM.np
  rw [e4]
  have key : ∀ M0 : eM, M0 = eU (eU (eU (eU M 24 c (nI k)) 25 k (nI c)) 26 k (nI t)) 23 4 (nI (bP B) + 1) → ∀ i, i ≤ 6 → ∀ M1, cPutI M0 M1 B k c t i → Ev (eZ G 0 68 0 0 (eFV F)) G 0 68 (2, 0, 0) kX1_put 34 [(0, .ref (G.1 23)), (1, .int (nI k)), (2, .int (nI c)), (3, .int (nI t)), (4, .int (nI i))] [] M1 0 0 := by
    intro M0 hM0
    have hlow : ∀ j, j < 23 ∨ 31 < j → M0 j = M j := fun j hj => by
      rw [hM0, eU_other _ _ _ (by omega), eU_other _ _ _ (by omega), eU_other _ _ _ (by omega), eU_other _ _ _ (by omega)]
    have h27 : M0 27 = M 27 := by rw [hM0, eU_other _ _ _ (by decide), eU_other _ _ _ (by decide), eU_other _ _ _ (by decide), eU_other _ _ _ (by decide)]
    have h28 : M0 28 = M 28 := by rw [hM0, eU_other _ _ _ (by decide), eU_other _ _ _ (by decide), eU_other _ _ _ (by decide), eU_other _ _ _ (by decide)]
    have h29 : M0 29 = M 29 := by rw [hM0, eU_other _ _ _ (by decide), eU_other _ _ _ (by decide), eU_other _ _ _ (by decide), eU_other _ _ _ (by decide)]
    refine eDown (P := fun i => ∀ M1, cPutI M0 M1 B k c t i → Ev (eZ G 0 68 0 0 (eFV F)) G 0 68 (2, 0, 0) kX1_put 34 [(0, .ref (G.1 23)), (1, .int (nI k)), (2, .int (nI c)), (3, .int (nI t)), (4, .int (nI i))] [] M1 0 0) ?_ ?_
    · intro M1 hI
      refine B_X1_put_34 G M1 F _ _ _ _ ⟨fun _ => h M1 ?_ ?_, fun q => absurd (Int32.le_refl 6) q⟩
      · obtain ⟨i1, i2, i3⟩ := hI
        obtain ⟨m1, m2, m3, m4, m5, m6, m7, m8, m9⟩ := hM
        refine ⟨⟨?_, ?_, ?_, ?_, ?_⟩, ?_, ?_, ?_, ?_, ?_, ?_, ?_, ?_⟩
        · rw [i1 23 (by decide) (by decide), hM0, eU_place _ _ _ _ (by decide), eU_cell _ _ _ _ (by decide), eU_cell _ _ _ _ (by decide), eU_cell _ _ _ _ (by decide)]; exact m1.1
        · rw [i1 23 (by decide) (by decide), hM0, eU_place _ _ _ _ (by decide), eU_cell _ _ _ _ (by decide), eU_cell _ _ _ _ (by decide), eU_cell _ _ _ _ (by decide)]; exact m1.2.1
        · rw [i1 23 (by decide) (by decide), hM0, eU_place _ _ _ _ (by decide), eU_cell _ _ _ _ (by decide), eU_cell _ _ _ _ (by decide), eU_cell _ _ _ _ (by decide)]; exact m1.2.2.1
        · rw [i1 23 (by decide) (by decide), hM0, eU_place _ _ _ _ (by decide), eU_cell _ _ _ _ (by decide), eU_cell _ _ _ _ (by decide), eU_cell _ _ _ _ (by decide)]; exact m1.2.2.2.1
        · rw [i1 23 (by decide) (by decide), hM0, eU_same]; exact (nI_succ _).symm
        · intro c' hc'
          rw [i1 24 (by decide) (by decide), hM0, eU_cell _ _ _ _ (by decide), eU_cell _ _ _ _ (by decide), eU_cell _ _ _ _ (by decide)]
          show _ = eO (zU (bAt B) c (some k) c')
          by_cases hq : c' = c
          · subst hq; rw [eU_same, zU_same]; rfl
          · rw [eU_place _ _ _ _ hq, zU_ne _ _ hq]; exact m2 c' hc'
        · intro j hj
          rw [i1 25 (by decide) (by decide), hM0, eU_cell _ _ _ _ (by decide), eU_cell _ _ _ _ (by decide)]
          show _ = eO (zU (bCe B) k (some c) j)
          by_cases hq : j = k
          · subst hq; rw [eU_same, zU_same]; rfl
          · rw [eU_place _ _ _ _ hq, zU_ne _ _ hq, eU_cell _ _ _ _ (by decide)]; exact m3 j hj
        · intro j c' hj hjc
          rw [i1 26 (by decide) (by decide), hM0, eU_cell _ _ _ _ (by decide)]
          show _ = nI (zU (bTr B) k t j)
          by_cases hq : j = k
          · subst hq; rw [eU_same, zU_same]
          · rw [eU_place _ _ _ _ hq, zU_ne _ _ hq, eU_cell _ _ _ _ (by decide), eU_cell _ _ _ _ (by decide)]
            exact m4 j c' hj ((zU_ne (bCe B) (some c) hq).symm.trans hjc)
        · intro j hj
          rw [i1 27 (by decide) (by decide), h27]; exact m5 j hj
        · intro a b n ha hb' hn
          rw [i1 28 (by decide) (by decide), h28]; exact m6 a b n ha hb' hn
        · intro a b ha hb'
          rw [i1 29 (by decide) (by decide), h29]; exact m7 a b ha hb'
        · intro a b ha hb'
          rw [i2 a b ha hb', bFace_put hb ha hb' h2]
          unfold bFaceI
          by_cases hq : bBes B a b = some c
          · rw [if_pos ⟨hq, Nat.mod_lt _ (by decide)⟩, if_pos hq]
          · rw [if_neg (fun z => hq z.1), if_neg hq]
        · intro a ha
          rw [i3 a ha, bTbI_6 (k := k) (t := t)]
      · intro j hj
        rw [hI.1 j (by omega) (by omega), hlow j hj]
    · intro i hi hn M1 hI
      obtain ⟨i1, i2, i3⟩ := hI
      have go : ∀ M2, cPutI M0 M2 B k c t (i + 1) → Ev (eZ G 0 68 0 0 (eFV F)) G 0 68 (2, 0, 0) kX1_put 97 [(0, .ref (G.1 23)), (1, .int (nI k)), (2, .int (nI c)), (3, .int (nI t)), (4, .int (nI i))] [] M2 0 0 := by
        intro M2 h2'
        have := hn M2 h2'
        rw [nI_succ] at this
        exact B_X1_put_97 G M2 F _ _ _ _ this
      refine B_X1_put_34 G M1 F _ _ _ _ ⟨fun q => absurd q (nI_ge hi (by decide)), fun _ => ?_⟩
      rw [eIx]
      refine ⟨vp_in_nI (by omega) (by decide), ?_⟩
      have e29 : M1 29 (c * 6 + i) = eO (bBes B c i) := by rw [i1 29 (by decide) (by decide), h29]; exact hM.be hc hi
      rw [nI_clamp (show c * 6 + i < 2 ^ 31 by omega), e29]
      cases hd : bBes B c i with
      | none =>
        refine ⟨fun _ => go M1 ⟨i1, fun a b ha hb' => ?_, fun a ha => ?_⟩, fun q => absurd eM1lt q⟩
        · rw [i2 a b ha hb', bFaceI_keep hb ha hb' (fun z => by rw [hd] at z; cases z.1)]
        · rw [i3 a ha, bTbI_keep hb ha (by rw [hd]; exact fun z => by cases z)]
      | some d =>
        have hdl := (hb.bes hc hi hd).1
        refine ⟨fun q => absurd q (nI_pos (by omega)), fun _ => ?_⟩
        rw [eO_some, eOpp hi, eIx, nI_clamp (show d * 6 + (i + 3) % 6 < 2 ^ 31 by omega), nI_clamp (show d < 2 ^ 31 by omega)]
        have hM1 : ∀ j, j < 3 * bN B → M1 27 j = nI (bNu B j) := fun j hj => by rw [i1 27 (by decide) (by decide), h27]; exact hM.nu hj
        have e1 : ((nI k * 3) + ((((nI i + 6) - nI t) - ((nI i + 6) - nI t) / 6 * 6) / 2)) = nI (3 * k + (i + 6 - t) % 6 / 2) := by
          rw [eL6, nI_add, nI_sub (show t ≤ i + 6 by omega), nI_rem (by omega) (by decide) (by decide), eL2, nI_div (by omega) (by decide) (by decide), eL3, nI_mul, nI_add, Nat.mul_comm k 3]
        have e2 := bNm_in (n := bN B) hk ht hi
        refine C_X1_numberOf G M1 _ _ _ _ ?_
        rw [e1]
        refine ⟨vp_in_nI (by omega) (by decide), ?_⟩
        rw [nI_clamp (by omega), hM1 _ e2]
        refine ⟨vp_in_nI (by omega) (by decide), vp_in_nI (by omega) (by decide), vp_in_nI (by omega) (by decide), go _ ⟨fun j hj hj' => ?_, fun a b ha hb' => ?_, fun a ha => ?_⟩⟩
        · rw [eU_other _ _ _ hj', eU_other _ _ _ hj]
          exact i1 j hj hj'
        · rw [eU_cell _ _ _ _ (by decide)]
          by_cases hq : a * 6 + b = d * 6 + (i + 3) % 6
          · obtain ⟨rfl, rfl⟩ := bIx_inj hb' (Nat.mod_lt _ (by decide)) hq
            rw [eU_same, bFaceI_step hb hc hi hd]
            rfl
          · rw [eU_place _ _ _ _ hq, i2 a b ha hb', bFaceI_keep hb ha hb' (fun z => by
              rw [hd] at z
              cases z.1
              exact hq (by rw [z.2]))]
        · by_cases hq : a = d
          · subst hq
            rw [eU_same, eU_cell _ _ _ _ (by decide), i3 a ha, bTbI_step hb hc hi hd]
            exact (nI_succ _).symm
          · rw [eU_place _ _ _ _ hq, eU_cell _ _ _ _ (by decide), i3 a ha, bTbI_keep hb ha (by rw [hd]; exact fun z => hq (Option.some.inj z).symm)]
  refine key _ rfl 0 (Nat.zero_le _) _ ⟨fun _ _ _ => rfl, fun a b ha hb' => ?_, fun a ha => ?_⟩
  · rw [eU_cell _ _ _ _ (by decide), eU_cell _ _ _ _ (by decide), eU_cell _ _ _ _ (by decide), eU_cell _ _ _ _ (by decide), hM.fa ha hb']
    unfold bFaceI
    rw [if_neg (fun z => absurd z.2 (Nat.not_lt_zero _))]
  · rw [eU_cell _ _ _ _ (by decide), eU_cell _ _ _ _ (by decide), eU_cell _ _ _ _ (by decide), eU_cell _ _ _ _ (by decide), hM.tb ha, bTbI_0 h1]

