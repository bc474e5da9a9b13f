/-! ===== a tile is put, a tile is lifted ===== -/
/-! the model's put and take -/
theorem mB.put {s a k t : Nat} {M : eM} {B : eBd} (hd : (s ≠ a ∧ s ≠ k ∧ s ≠ t) ∧ (a ≠ k ∧ a ≠ t ∧ k ≠ t) ∧ (107 < s ∧ 108 < s) ∧ (108 < a ∧ 108 < k ∧ 108 < t)) (h : mB s a k t M B) {i c u : Nat} (hi : i < bN B) (hce : bCe B i = none) : mB s a k t (eU (eU (eU (eU M a c (nI i)) k i (nI c)) t i (nI u)) s 3 (nI (bP B) + 1)) (bPut B i c u) := by
  obtain ⟨⟨d1, d2, d3⟩, ⟨d4, d5, d6⟩, ⟨d7, d8⟩, d9, d10, d11⟩ := hd
  obtain ⟨⟨m1, m2, m3⟩, m4, m5, m6, m7, m8⟩ := h
  refine ⟨⟨?_, ?_, ?_⟩, ?_, ?_, ?_, ?_, ?_⟩
  · rw [eU_cell _ _ _ _ (by omega), eU_cell _ _ _ _ (by omega), eU_cell _ _ _ _ (by omega), eU_cell _ _ _ _ (by omega)]; exact m1
  · rw [eU_cell _ _ _ _ (by omega), eU_cell _ _ _ _ (by omega), eU_cell _ _ _ _ (by omega), eU_cell _ _ _ _ (by omega)]; exact m2
  · rw [eU_cell _ _ _ _ (by omega), eU_cell _ _ _ _ (by omega), eU_cell _ _ _ _ (by omega), eU_cell _ _ _ _ (by omega)]; exact m3
  · intro j hj
    rw [eU_cell _ _ _ _ (by omega), eU_cell _ _ _ _ (by omega), eU_cell _ _ _ _ (by omega), eU_cell _ _ _ _ (by omega)]
    exact m4 j hj
  · intro c' hc'
    rw [eU_cell _ _ _ _ (fun z => d1 z.symm), eU_cell _ _ _ _ d5, eU_cell _ _ _ _ d4]
    show _ = eO (zU (bAt B) c (some i) c')
    by_cases hq : c' = c
    · subst hq
      rw [eU_same, zU_same]; rfl
    · rw [eU_place _ _ _ _ hq, zU_ne _ _ hq]
      exact m5 c' hc'
  · intro j hj
    rw [eU_cell _ _ _ _ (fun z => d2 z.symm), eU_cell _ _ _ _ d6]
    show _ = eO (zU (bCe B) i (some c) j)
    by_cases hq : j = i
    · subst hq
      rw [eU_same, zU_same]; rfl
    · rw [eU_place _ _ _ _ hq, zU_ne _ _ hq, eU_cell _ _ _ _ (fun z => d4 z.symm)]
      exact m6 j hj
  · intro j c' hj hjc
    rw [eU_cell _ _ _ _ (fun z => d3 z.symm)]
    show _ = nI (zU (bTr B) i u j)
    by_cases hq : j = i
    · subst hq
      rw [eU_same, zU_same]
    · rw [eU_place _ _ _ _ hq, zU_ne _ _ hq, eU_cell _ _ _ _ (fun z => d6 z.symm), eU_cell _ _ _ _ (fun z => d5 z.symm)]
      exact m7 j c' hj ((zU_ne (bCe B) (some c) hq).symm.trans hjc)
  · rw [eU_same]
    exact (nI_succ _).symm
theorem mB.lift {s a k t : Nat} {M : eM} {B : eBd} (hb : bOk B) (hd : (s ≠ a ∧ s ≠ k ∧ s ≠ t) ∧ (a ≠ k ∧ a ≠ t ∧ k ≠ t) ∧ (107 < s ∧ 108 < s) ∧ (108 < a ∧ 108 < k ∧ 108 < t)) (h : mB s a k t M B) {i c : Nat} (hi : i < bN B) (hce : bCe B i = some c) : mB s a k t (eU (eU (eU M a c (-1)) k i (-1)) s 3 (nI (bP B) - 1)) (bLift B i c) := by
  obtain ⟨⟨d1, d2, d3⟩, ⟨d4, d5, d6⟩, ⟨d7, d8⟩, d9, d10, d11⟩ := hd
  obtain ⟨⟨m1, m2, m3⟩, m4, m5, m6, m7, m8⟩ := h
  refine ⟨⟨?_, ?_, ?_⟩, ?_, ?_, ?_, ?_, ?_⟩
  · rw [eU_cell _ _ _ _ (by omega), eU_cell _ _ _ _ (by omega), eU_cell _ _ _ _ (by omega)]; exact m1
  · rw [eU_cell _ _ _ _ (by omega), eU_cell _ _ _ _ (by omega), eU_cell _ _ _ _ (by omega)]; exact m2
  · rw [eU_cell _ _ _ _ (by omega), eU_cell _ _ _ _ (by omega), eU_cell _ _ _ _ (by omega)]; exact m3
  · intro j hj
    rw [eU_cell _ _ _ _ (by omega), eU_cell _ _ _ _ (by omega), eU_cell _ _ _ _ (by omega)]
    exact m4 j hj
  · intro c' hc'
    rw [eU_cell _ _ _ _ (fun z => d1 z.symm), eU_cell _ _ _ _ d4]
    show _ = eO (zU (bAt B) c none c')
    by_cases hq : c' = c
    · subst hq
      rw [eU_same, zU_same]; rfl
    · rw [eU_place _ _ _ _ hq, zU_ne _ _ hq]
      exact m5 c' hc'
  · intro j hj
    rw [eU_cell _ _ _ _ (fun z => d2 z.symm)]
    show _ = eO (zU (bCe B) i none j)
    by_cases hq : j = i
    · subst hq
      rw [eU_same, zU_same]; rfl
    · rw [eU_place _ _ _ _ hq, zU_ne _ _ hq, eU_cell _ _ _ _ (fun z => d4 z.symm)]
      exact m6 j hj
  · intro j c' hj hjc
    have hq : j ≠ i := fun z => by
      subst z
      have : none = some c' := (zU_same (bCe B) j none).symm.trans hjc
      cases this
    rw [eU_cell _ _ _ _ (fun z => d3 z.symm), eU_cell _ _ _ _ (fun z => d6 z.symm), eU_cell _ _ _ _ (fun z => d5 z.symm)]
    exact m7 j c' hj ((zU_ne (bCe B) none hq).symm.trans hjc)
  · rw [eU_same]
    show nI (bP B) - 1 = nI (bP B - 1)
    have h1 : 1 ≤ bP B := by
      rw [hb.2.2.2.2.2.2]
      refine Decidable.byContradiction fun z => ?_
      have h0 := zSm_of0 (f := fun k => if (bCe B k).isSome then 1 else 0) (n := bN B) (by omega) i hi
      try dsimp only at h0
      rw [hce] at h0
      exact absurd h0 (by simp)
    rw [eL1, nI_sub h1]

