/-! ===== the class's board begins ===== -/
theorem eCp_in (M : eM) (c c1 k j : Nat) (hj : j < k) : eCp M c c1 0 0 k c1 j = M c j := by
  show (if c1 = c1 then va_cpy (M c) (M c1) 0 0 k else M c1) j = _
  rw [if_pos rfl]
  show (if 0 ≤ j ∧ j < 0 + k then M c (0 + (j - 0)) else M c1 j) = _
  rw [if_pos ⟨Nat.zero_le _, by omega⟩]
  congr 1
  omega
theorem eCp_other (M : eM) (c c1 sp dp k : Nat) {x : Nat} (h : x ≠ c1) : eCp M c c1 sp dp k x = M x := if_neg h
section CBegin
variable {G : eG}
theorem Z_fill_24 {M : eM} (F : eM → Prop) (v : Int32) (h : ∀ M', (∀ x, x ≠ 24 → M' x = M x) → (∀ j, j < 49 → M' 24 j = v) → F M') : Cal G 21 15 (1, 0, 0) kJ7_fill_53178 [.ref (G.1 24), .int v] M (eFV F) := by
  refine C_J7_fill_53178_24s G M F v ?_
  have key : ∀ i, i ≤ 49 → ∀ M1 : eM, (∀ x, x ≠ 24 → M1 x = M x) → (∀ j, j < i → M1 24 j = v) → Ev (eZ G 21 15 0 0 (eFV F)) G 21 15 (1, 0, 0) kJ7_fill_53178 5 [(0, .ref (G.1 24)), (1, .int v), (2, .int (nI i)), (3, .int 49)] [] M1 0 0 := by
    refine eDown (P := fun i => ∀ M1 : eM, (∀ x, x ≠ 24 → M1 x = M x) → (∀ j, j < i → M1 24 j = v) → Ev (eZ G 21 15 0 0 (eFV F)) G 21 15 (1, 0, 0) kJ7_fill_53178 5 [(0, .ref (G.1 24)), (1, .int v), (2, .int (nI i)), (3, .int 49)] [] M1 0 0) ?_ ?_
    · intro M1 f1 g1
      exact B_J7_fill_53178_24s_5 G M1 F _ _ _ ⟨fun _ => h M1 f1 g1, fun q => absurd (Int32.le_refl 49) q⟩
    · intro i hi hn M1 f1 g1
      refine B_J7_fill_53178_24s_5 G M1 F _ _ _ ⟨fun q => absurd q (nI_ge (b := 49) hi (by decide)), fun _ => ⟨vp_in_nI hi (by decide), ?_⟩⟩
      rw [nI_clamp (show i < 2 ^ 31 by omega), ← nI_succ]
      refine hn _ (fun x hx => by rw [eU_other _ _ _ hx]; exact f1 x hx) (fun j hj => ?_)
      by_cases hq : j = i
      · rw [hq, eU_same]
      · rw [eU_place _ _ _ _ hq]; exact g1 j (by omega)
  exact key 0 (Nat.zero_le _) M (fun _ _ => rfl) (fun j hj => absurd hj (by omega))
theorem Z_fill_25 {M : eM} (F : eM → Prop) (v : Int32) (h : ∀ M', (∀ x, x ≠ 25 → M' x = M x) → (∀ j, j < 16 → M' 25 j = v) → F M') : Cal G 21 15 (1, 0, 0) kJ7_fill_53178 [.ref (G.1 25), .int v] M (eFV F) := by
  refine C_J7_fill_53178_25s G M F v ?_
  have key : ∀ i, i ≤ 16 → ∀ M1 : eM, (∀ x, x ≠ 25 → M1 x = M x) → (∀ j, j < i → M1 25 j = v) → Ev (eZ G 21 15 0 0 (eFV F)) G 21 15 (1, 0, 0) kJ7_fill_53178 5 [(0, .ref (G.1 25)), (1, .int v), (2, .int (nI i)), (3, .int 16)] [] M1 0 0 := by
    refine eDown (P := fun i => ∀ M1 : eM, (∀ x, x ≠ 25 → M1 x = M x) → (∀ j, j < i → M1 25 j = v) → Ev (eZ G 21 15 0 0 (eFV F)) G 21 15 (1, 0, 0) kJ7_fill_53178 5 [(0, .ref (G.1 25)), (1, .int v), (2, .int (nI i)), (3, .int 16)] [] M1 0 0) ?_ ?_
    · intro M1 f1 g1
      exact B_J7_fill_53178_25s_5 G M1 F _ _ _ ⟨fun _ => h M1 f1 g1, fun q => absurd (Int32.le_refl 16) q⟩
    · intro i hi hn M1 f1 g1
      refine B_J7_fill_53178_25s_5 G M1 F _ _ _ ⟨fun q => absurd q (nI_ge (b := 16) hi (by decide)), fun _ => ⟨vp_in_nI hi (by decide), ?_⟩⟩
      rw [nI_clamp (show i < 2 ^ 31 by omega), ← nI_succ]
      refine hn _ (fun x hx => by rw [eU_other _ _ _ hx]; exact f1 x hx) (fun j hj => ?_)
      by_cases hq : j = i
      · rw [hq, eU_same]
      · rw [eU_place _ _ _ _ hq]; exact g1 j (by omega)
  exact key 0 (Nat.zero_le _) M (fun _ _ => rfl) (fun j hj => absurd hj (by omega))
theorem Z_fill_26 {M : eM} (F : eM → Prop) (v : Int32) (h : ∀ M', (∀ x, x ≠ 26 → M' x = M x) → (∀ j, j < 16 → M' 26 j = v) → F M') : Cal G 21 15 (1, 0, 0) kJ7_fill_53178 [.ref (G.1 26), .int v] M (eFV F) := by
  refine C_J7_fill_53178_26s G M F v ?_
  have key : ∀ i, i ≤ 16 → ∀ M1 : eM, (∀ x, x ≠ 26 → M1 x = M x) → (∀ j, j < i → M1 26 j = v) → Ev (eZ G 21 15 0 0 (eFV F)) G 21 15 (1, 0, 0) kJ7_fill_53178 5 [(0, .ref (G.1 26)), (1, .int v), (2, .int (nI i)), (3, .int 16)] [] M1 0 0 := by
    refine eDown (P := fun i => ∀ M1 : eM, (∀ x, x ≠ 26 → M1 x = M x) → (∀ j, j < i → M1 26 j = v) → Ev (eZ G 21 15 0 0 (eFV F)) G 21 15 (1, 0, 0) kJ7_fill_53178 5 [(0, .ref (G.1 26)), (1, .int v), (2, .int (nI i)), (3, .int 16)] [] M1 0 0) ?_ ?_
    · intro M1 f1 g1
      exact B_J7_fill_53178_26s_5 G M1 F _ _ _ ⟨fun _ => h M1 f1 g1, fun q => absurd (Int32.le_refl 16) q⟩
    · intro i hi hn M1 f1 g1
      refine B_J7_fill_53178_26s_5 G M1 F _ _ _ ⟨fun q => absurd q (nI_ge (b := 16) hi (by decide)), fun _ => ⟨vp_in_nI hi (by decide), ?_⟩⟩
      rw [nI_clamp (show i < 2 ^ 31 by omega), ← nI_succ]
      refine hn _ (fun x hx => by rw [eU_other _ _ _ hx]; exact f1 x hx) (fun j hj => ?_)
      by_cases hq : j = i
      · rw [hq, eU_same]
      · rw [eU_place _ _ _ _ hq]; exact g1 j (by omega)
  exact key 0 (Nat.zero_le _) M (fun _ _ => rfl) (fun j hj => absurd hj (by omega))
theorem Z_fill_28 {M : eM} (F : eM → Prop) (v : Int32) (h : ∀ M', (∀ x, x ≠ 28 → M' x = M x) → (∀ j, j < 960 → M' 28 j = v) → F M') : Cal G 21 15 (1, 0, 0) kJ7_fill_53178 [.ref (G.1 28), .int v] M (eFV F) := by
  refine C_J7_fill_53178_28s G M F v ?_
  have key : ∀ i, i ≤ 960 → ∀ M1 : eM, (∀ x, x ≠ 28 → M1 x = M x) → (∀ j, j < i → M1 28 j = v) → Ev (eZ G 21 15 0 0 (eFV F)) G 21 15 (1, 0, 0) kJ7_fill_53178 5 [(0, .ref (G.1 28)), (1, .int v), (2, .int (nI i)), (3, .int 960)] [] M1 0 0 := by
    refine eDown (P := fun i => ∀ M1 : eM, (∀ x, x ≠ 28 → M1 x = M x) → (∀ j, j < i → M1 28 j = v) → Ev (eZ G 21 15 0 0 (eFV F)) G 21 15 (1, 0, 0) kJ7_fill_53178 5 [(0, .ref (G.1 28)), (1, .int v), (2, .int (nI i)), (3, .int 960)] [] M1 0 0) ?_ ?_
    · intro M1 f1 g1
      exact B_J7_fill_53178_28s_5 G M1 F _ _ _ ⟨fun _ => h M1 f1 g1, fun q => absurd (Int32.le_refl 960) q⟩
    · intro i hi hn M1 f1 g1
      refine B_J7_fill_53178_28s_5 G M1 F _ _ _ ⟨fun q => absurd q (nI_ge (b := 960) hi (by decide)), fun _ => ⟨vp_in_nI hi (by decide), ?_⟩⟩
      rw [nI_clamp (show i < 2 ^ 31 by omega), ← nI_succ]
      refine hn _ (fun x hx => by rw [eU_other _ _ _ hx]; exact f1 x hx) (fun j hj => ?_)
      by_cases hq : j = i
      · rw [hq, eU_same]
      · rw [eU_place _ _ _ _ hq]; exact g1 j (by omega)
  exact key 0 (Nat.zero_le _) M (fun _ _ => rfl) (fun j hj => absurd hj (by omega))
theorem Z_fill_30 {M : eM} (F : eM → Prop) (v : Int32) (h : ∀ M', (∀ x, x ≠ 30 → M' x = M x) → (∀ j, j < 294 → M' 30 j = v) → F M') : Cal G 21 15 (1, 0, 0) kJ7_fill_53178 [.ref (G.1 30), .int v] M (eFV F) := by
  refine C_J7_fill_53178_30s G M F v ?_
  have key : ∀ i, i ≤ 294 → ∀ M1 : eM, (∀ x, x ≠ 30 → M1 x = M x) → (∀ j, j < i → M1 30 j = v) → Ev (eZ G 21 15 0 0 (eFV F)) G 21 15 (1, 0, 0) kJ7_fill_53178 5 [(0, .ref (G.1 30)), (1, .int v), (2, .int (nI i)), (3, .int 294)] [] M1 0 0 := by
    refine eDown (P := fun i => ∀ M1 : eM, (∀ x, x ≠ 30 → M1 x = M x) → (∀ j, j < i → M1 30 j = v) → Ev (eZ G 21 15 0 0 (eFV F)) G 21 15 (1, 0, 0) kJ7_fill_53178 5 [(0, .ref (G.1 30)), (1, .int v), (2, .int (nI i)), (3, .int 294)] [] M1 0 0) ?_ ?_
    · intro M1 f1 g1
      exact B_J7_fill_53178_30s_5 G M1 F _ _ _ ⟨fun _ => h M1 f1 g1, fun q => absurd (Int32.le_refl 294) q⟩
    · intro i hi hn M1 f1 g1
      refine B_J7_fill_53178_30s_5 G M1 F _ _ _ ⟨fun q => absurd q (nI_ge (b := 294) hi (by decide)), fun _ => ⟨vp_in_nI hi (by decide), ?_⟩⟩
      rw [nI_clamp (show i < 2 ^ 31 by omega), ← nI_succ]
      refine hn _ (fun x hx => by rw [eU_other _ _ _ hx]; exact f1 x hx) (fun j hj => ?_)
      by_cases hq : j = i
      · rw [hq, eU_same]
      · rw [eU_place _ _ _ _ hq]; exact g1 j (by omega)
  exact key 0 (Nat.zero_le _) M (fun _ _ => rfl) (fun j hj => absurd hj (by omega))
theorem Z_fill_31 {M : eM} (F : eM → Prop) (v : Int32) (h : ∀ M', (∀ x, x ≠ 31 → M' x = M x) → (∀ j, j < 49 → M' 31 j = v) → F M') : Cal G 21 15 (1, 0, 0) kJ7_fill_53178 [.ref (G.1 31), .int v] M (eFV F) := by
  refine C_J7_fill_53178_31s G M F v ?_
  have key : ∀ i, i ≤ 49 → ∀ M1 : eM, (∀ x, x ≠ 31 → M1 x = M x) → (∀ j, j < i → M1 31 j = v) → Ev (eZ G 21 15 0 0 (eFV F)) G 21 15 (1, 0, 0) kJ7_fill_53178 5 [(0, .ref (G.1 31)), (1, .int v), (2, .int (nI i)), (3, .int 49)] [] M1 0 0 := by
    refine eDown (P := fun i => ∀ M1 : eM, (∀ x, x ≠ 31 → M1 x = M x) → (∀ j, j < i → M1 31 j = v) → Ev (eZ G 21 15 0 0 (eFV F)) G 21 15 (1, 0, 0) kJ7_fill_53178 5 [(0, .ref (G.1 31)), (1, .int v), (2, .int (nI i)), (3, .int 49)] [] M1 0 0) ?_ ?_
    · intro M1 f1 g1
      exact B_J7_fill_53178_31s_5 G M1 F _ _ _ ⟨fun _ => h M1 f1 g1, fun q => absurd (Int32.le_refl 49) q⟩
    · intro i hi hn M1 f1 g1
      refine B_J7_fill_53178_31s_5 G M1 F _ _ _ ⟨fun q => absurd q (nI_ge (b := 49) hi (by decide)), fun _ => ⟨vp_in_nI hi (by decide), ?_⟩⟩
      rw [nI_clamp (show i < 2 ^ 31 by omega), ← nI_succ]
      refine hn _ (fun x hx => by rw [eU_other _ _ _ hx]; exact f1 x hx) (fun j hj => ?_)
      by_cases hq : j = i
      · rw [hq, eU_same]
      · rw [eU_place _ _ _ _ hq]; exact g1 j (by omega)
  exact key 0 (Nat.zero_le _) M (fun _ _ => rfl) (fun j hj => absurd hj (by omega))
theorem Z_besides {M : eM} {wd rw' c : Nat} (hw : 3 ≤ wd ∧ wd ≤ 7) (hr : 3 ≤ rw' ∧ rw' ≤ 7) (hc : c < wd * rw') (h0 : M 23 0 = nI wd) (h1 : M 23 1 = nI rw') (F : eM → Prop) (h : ∀ M', (∀ x j, ¬ (x = 29 ∧ c * 6 ≤ j ∧ j < c * 6 + 6) → M' x j = M x j) → (∀ e, e < 6 → M' 29 (c * 6 + e) = eO (bBesW wd rw' c e)) → F M') : Cal G 21 15 (1, 0, 0) kX1_findCellsBeside [.ref (G.1 23), .int (nI c)] M (eFV F) := by
  have h49 : wd * rw' ≤ 49 := Nat.mul_le_mul hw.2 hr.2
  have key : ∀ e, e ≤ 6 → ∀ M1 : eM, (∀ x j, ¬ (x = 29 ∧ c * 6 ≤ j ∧ j < c * 6 + 6) → M1 x j = M x j) → (∀ d, d < e → M1 29 (c * 6 + d) = eO (bBesW wd rw' c d)) → Ev (eZ G 21 15 0 0 (eFV F)) G 21 15 (1, 0, 0) kX1_findCellsBeside 39 [(0, .ref (G.1 23)), (1, .int (nI c)), (2, .int (nI c - nI c / nI wd * nI wd)), (3, .int (nI c / nI wd)), (4, .int (nI e))] [] M1 0 0 := by
    refine eDown (P := fun e => ∀ M1 : eM, (∀ x j, ¬ (x = 29 ∧ c * 6 ≤ j ∧ j < c * 6 + 6) → M1 x j = M x j) → (∀ d, d < e → M1 29 (c * 6 + d) = eO (bBesW wd rw' c d)) → Ev (eZ G 21 15 0 0 (eFV F)) G 21 15 (1, 0, 0) kX1_findCellsBeside 39 [(0, .ref (G.1 23)), (1, .int (nI c)), (2, .int (nI c - nI c / nI wd * nI wd)), (3, .int (nI c / nI wd)), (4, .int (nI e))] [] M1 0 0) ?_ ?_
    · intro M1 f1 g1
      exact B_X1_findCellsBeside_s_39 G M1 F _ _ _ _ ⟨fun _ => h M1 f1 g1, fun q => absurd (Int32.le_refl 6) q⟩
    · intro e he hn M1 f1 g1
      have e0 : M1 23 0 = nI wd := by rw [f1 23 0 (by omega)]; exact h0
      have e1 : M1 23 1 = nI rw' := by rw [f1 23 1 (by omega)]; exact h1
      have st : ∀ v, v = cBes (nI wd) (nI rw') (nI c) e → Ev (eZ G 21 15 0 0 (eFV F)) G 21 15 (1, 0, 0) kX1_findCellsBeside 39 [(0, .ref (G.1 23)), (1, .int (nI c)), (2, .int (nI c - nI c / nI wd * nI wd)), (3, .int (nI c / nI wd)), (4, .int (nI e + 1))] [] (eU M1 29 (c * 6 + e) v) 0 0 := by
        intro v hv
        rw [cBes_eq hw hr hc he] at hv
        rw [← nI_succ]
        refine hn _ (fun x j hx => ?_) (fun d hd => ?_)
        · by_cases hq : x = 29 ∧ j = c * 6 + e
          · exact absurd ⟨hq.1, by omega, by omega⟩ hx
          · show (if x = 29 ∧ j = c * 6 + e then v else M1 x j) = M x j
            rw [if_neg hq]
            exact f1 x j hx
        · by_cases hq : d = e
          · rw [hq, eU_same]; exact hv
          · rw [eU_place _ _ _ _ (by omega)]; exact g1 d (by omega)
      refine B_X1_findCellsBeside_s_39 G M1 F _ _ _ _ ⟨fun q => absurd q (nI_ge (b := 6) he (by decide)), fun _ => ⟨vp_in_nI he (by decide), vp_in_nI he (by decide), ?_⟩⟩
      rw [nI_clamp (show e < 2 ^ 31 by omega), e0, e1]
      have vp : vp_in ((nI c * 6) + nI e) 294 := by rw [eIx]; exact vp_in_nI (by omega) (by decide)
      have b98 : cBes (nI wd) (nI rw') (nI c) e = -1 → ∀ a b, Ev (eZ G 21 15 0 0 (eFV F)) G 21 15 (1, 0, 0) kX1_findCellsBeside 98 [(0, .ref (G.1 23)), (1, .int (nI c)), (2, .int (nI c - nI c / nI wd * nI wd)), (3, .int (nI c / nI wd)), (4, .int (nI e)), (5, .int a), (6, .int b)] [] M1 0 0 := by
        intro hv a b
        refine B_X1_findCellsBeside_s_98 G M1 F _ _ _ _ _ _ ⟨fun _ => ⟨vp, ?_⟩, fun q => absurd rfl q⟩
        rw [eIx, nI_clamp (show c * 6 + e < 2 ^ 31 by omega)]
        exact st _ hv.symm
      refine ⟨fun q1 => b98 ?_ _ _, fun q1 => ⟨fun q2 => b98 ?_ _ _, fun q2 => ⟨fun q3 => b98 ?_ _ _, fun q3 => ⟨fun q4 => b98 ?_ _ _, fun q4 => ⟨fun q => absurd q (by decide), fun _ => ⟨vp, ?_⟩⟩⟩⟩⟩⟩
      · unfold cBes sX sY; rw [if_pos q1]
      · unfold cBes sX sY; rw [if_neg q1, if_pos q2]
      · unfold cBes sX sY; rw [if_neg q1, if_neg q2, if_pos q3]
      · unfold cBes sX sY; rw [if_neg q1, if_neg q2, if_neg q3, if_pos q4]
      · rw [eIx, nI_clamp (show c * 6 + e < 2 ^ 31 by omega)]
        refine st _ ?_
        unfold cBes sX sY
        rw [if_neg q1, if_neg q2, if_neg q3, if_neg q4]
  have hp : ¬ nI wd ≤ 0 := nI_ge (a := 0) (by omega) (by omega)
  have hz : ¬ nI wd = 0 := nI_ne0 (by omega) (by omega)
  refine C_X1_findCellsBeside_s G M F _ ?_
  rw [h0]
  exact ⟨fun q => absurd q hp, fun _ => ⟨hz, fun q => absurd q hp, fun _ => ⟨hz, key 0 (Nat.zero_le _) M (fun _ _ _ => rfl) (fun d hd => absurd hd (by omega))⟩⟩⟩
theorem Z_tileNumber {M : eM} {n i : Nat} (h4 : M 21 4 = nI n) (hn : n ≤ 48) (hi : i < n) (F : Int32 → eM → Prop) (h : F (M 22 i) M) : Cal G 21 15 (1, 0, 0) kX7_tileNumber [.ref (G.1 21), .int (nI i)] M (eFI F) := by
  refine C_X7_tileNumber_s G M F _ ⟨fun q => absurd q (nI_pos (by omega)), fun _ => ⟨fun q => absurd q ?_, fun _ => ⟨vp_in_nI (by omega) (by decide), ?_⟩⟩⟩
  · rw [h4]; exact nI_ge hi (by omega)
  · rw [nI_clamp (by omega)]; exact h
theorem Z_numberOf {M : eM} {i e u : Nat} (hi : i < 16) (he : e < 6) (hu : u < 6) (F : Int32 → eM → Prop) (h : F (M 27 (3 * i + (e + 6 - u) % 6 / 2)) M) : Cal G 21 15 (1, 0, 0) kX1_numberOf [.ref (G.1 23), .int (nI i), .int (nI e), .int (nI u)] M (eFI F) := by
  have e1 : ((nI i * 3) + ((((nI e + 6) - nI u) - ((nI e + 6) - nI u) / 6 * 6) / 2)) = nI (3 * i + (e + 6 - u) % 6 / 2) := by
    rw [eL6, nI_add, nI_sub (show u ≤ e + 6 by omega), nI_rem (by omega) (by decide) (by decide), eL2, nI_div (by omega) (by decide) (by decide), eL3, nI_mul, nI_add, Nat.mul_comm i 3]
  refine C_X1_numberOf_s G M F _ _ _ ?_
  rw [e1]
  refine ⟨vp_in_nI (by omega) (by decide), ?_⟩
  rw [nI_clamp (by omega)]
  exact h
/-- what the learning of a tile may write -/
def lFr (M M' : eM) (i : Nat) : Prop := ∀ x j, ¬ (x = 27 ∧ 3 * i ≤ j ∧ j < 3 * i + 3) → ¬ (x = 28 ∧ i * 60 ≤ j ∧ j < i * 60 + 60) → M' x j = M x j
theorem Z_learn {M : eM} {n i : Nat} {nu : Nat → Nat} (hn : n ≤ 16) (hi : i < n) (h4 : M 21 4 = nI (3 * n)) (h22 : ∀ j, j < 3 * n → M 22 j = nI (nu j)) (hnu : ∀ j, j < 3 * n → nu j < 10) (hz : ∀ j, i * 60 ≤ j → j < i * 60 + 60 → M 28 j = 0) (F : eM → Prop) (h : ∀ M', lFr M M' i → (∀ p, p < 3 → M' 27 (3 * i + p) = nI (nu (3 * i + p))) → (∀ e m, e < 6 → m < 10 → M' 28 ((i * 6 + e) * 10 + m) = zMask (fun t => decide (nNm nu i t e = m))) → F M') : Cal G 21 15 (2, 0, 0) kX1_learnTile [.ref (G.1 23), .int (nI i), .ref (G.1 21)] M (eFV F) := by
  have nm_lt : ∀ t e, t < 6 → e < 6 → nNm nu i t e < 10 := fun t e ht he => hnu _ (by have := bNm_in (k := i) (n := n) hi ht he; exact this)
  -- the edges
  have edges : ∀ M0, lFr M M0 i → (∀ p, p < 3 → M0 27 (3 * i + p) = nI (nu (3 * i + p))) → (∀ j, i * 60 ≤ j → j < i * 60 + 60 → M0 28 j = 0) → Ev (eZ G 21 15 0 0 (eFV F)) G 21 15 (2, 0, 0) kX1_learnTile 34 [(0, .ref (G.1 23)), (1, .int (nI i)), (3, .int 0)] [] M0 0 0 := by
    intro M0 f0 g0 z0
    have ekey : ∀ e, e ≤ 6 → ∀ M1 : eM, (∀ x j, ¬ (x = 28 ∧ i * 60 ≤ j ∧ j < i * 60 + 60) → M1 x j = M0 x j) → (∀ d m, d < e → m < 10 → M1 28 ((i * 6 + d) * 10 + m) = zMask (fun t => decide (nNm nu i t d = m))) → (∀ d m, e ≤ d → d < 6 → m < 10 → M1 28 ((i * 6 + d) * 10 + m) = 0) → Ev (eZ G 21 15 0 0 (eFV F)) G 21 15 (2, 0, 0) kX1_learnTile 34 [(0, .ref (G.1 23)), (1, .int (nI i)), (3, .int (nI e))] [] M1 0 0 := by
      refine eDown (P := fun e => ∀ M1 : eM, (∀ x j, ¬ (x = 28 ∧ i * 60 ≤ j ∧ j < i * 60 + 60) → M1 x j = M0 x j) → (∀ d m, d < e → m < 10 → M1 28 ((i * 6 + d) * 10 + m) = zMask (fun t => decide (nNm nu i t d = m))) → (∀ d m, e ≤ d → d < 6 → m < 10 → M1 28 ((i * 6 + d) * 10 + m) = 0) → Ev (eZ G 21 15 0 0 (eFV F)) G 21 15 (2, 0, 0) kX1_learnTile 34 [(0, .ref (G.1 23)), (1, .int (nI i)), (3, .int (nI e))] [] M1 0 0) ?_ ?_
      · intro M1 f1 g1 _
        refine B_X1_learnTile_s_34 G M1 F _ _ ⟨fun _ => h M1 (fun x j a b => by rw [f1 x j b]; exact f0 x j a b) (fun p hp => ?_) (fun e m he hm => g1 e m he hm), fun q => absurd (Int32.le_refl 6) q⟩
        rw [f1 27 _ (by omega)]
        exact g0 p hp
      · intro e he hn2 M1 f1 g1 z1
        refine B_X1_learnTile_s_34 G M1 F _ _ ⟨fun q => absurd q (nI_ge (b := 6) he (by decide)), fun _ => ?_⟩
        -- the turns
        have tkey : ∀ t, t ≤ 6 → ∀ M2 : eM, (∀ x j, ¬ (x = 28 ∧ (i * 6 + e) * 10 ≤ j ∧ j < (i * 6 + e) * 10 + 10) → M2 x j = M1 x j) → (∀ m, m < 10 → M2 28 ((i * 6 + e) * 10 + m) = zMask (fun u => decide (u < t) && decide (nNm nu i u e = m))) → Ev (eZ G 21 15 0 0 (eFV F)) G 21 15 (2, 0, 0) kX1_learnTile 43 [(0, .ref (G.1 23)), (1, .int (nI i)), (3, .int (nI e)), (4, .int (nI t))] [] M2 0 0 := by
          refine eDown (P := fun t => ∀ M2 : eM, (∀ x j, ¬ (x = 28 ∧ (i * 6 + e) * 10 ≤ j ∧ j < (i * 6 + e) * 10 + 10) → M2 x j = M1 x j) → (∀ m, m < 10 → M2 28 ((i * 6 + e) * 10 + m) = zMask (fun u => decide (u < t) && decide (nNm nu i u e = m))) → Ev (eZ G 21 15 0 0 (eFV F)) G 21 15 (2, 0, 0) kX1_learnTile 43 [(0, .ref (G.1 23)), (1, .int (nI i)), (3, .int (nI e)), (4, .int (nI t))] [] M2 0 0) ?_ ?_
          · intro M2 f2 g2
            refine B_X1_learnTile_s_43 G M2 F _ _ _ ⟨fun _ => ?_, fun q => absurd (Int32.le_refl 6) q⟩
            rw [← nI_succ]
            refine hn2 M2 (fun x j hx => ?_) (fun d m hd hm => ?_) (fun d m hd hd6 hm => ?_)
            · rw [f2 x j (fun z => hx ⟨z.1, by omega, by omega⟩)]; exact f1 x j hx
            · by_cases hq : d = e
              · subst hq
                rw [g2 m hm]
                exact zMask_ext (fun u hu => by rw [decide_eq_true hu, Bool.true_and])
              · rw [f2 28 _ (by omega)]; exact g1 d m (by omega) hm
            · rw [f2 28 _ (by omega)]; exact z1 d m (by omega) hd6 hm
          · intro t ht hn3 M2 f2 g2
            refine B_X1_learnTile_s_43 G M2 F _ _ _ ⟨fun q => absurd q (nI_ge (b := 6) ht (by decide)), fun _ => Z_numberOf (by omega) he ht _ ?_⟩
            have e27 : M2 27 (3 * i + (e + 6 - t) % 6 / 2) = nI (nNm nu i t e) := by
              rw [f2 27 _ (by omega), f1 27 _ (by omega)]
              exact g0 _ (by omega)
            rw [e27]
            have hm := nm_lt t e ht he
            refine ⟨fun q => absurd q (nI_pos (by omega)), fun _ => ⟨fun q => absurd q (nI_ge (b := 10) hm (by decide)), fun _ => ?_⟩⟩
            rw [eIx2, (by decide : ∀ t, t < 6 → nI t &&& 31 = nI t) t ht, nI_clamp (show (i * 6 + e) * 10 + nNm nu i t e < 2 ^ 31 by omega), g2 _ hm, zMask_or _ ht]
            refine ⟨vp_in_nI (by omega) (by decide), vp_in_nI (by omega) (by decide), B_X1_learnTile_s_96 G _ F _ _ _ ?_⟩
            rw [← nI_succ]
            refine hn3 _ (fun x j hx => ?_) (fun m hm' => ?_)
            · show (if x = 28 ∧ j = (i * 6 + e) * 10 + nNm nu i t e then _ else M2 x j) = M1 x j
              rw [if_neg (fun z => hx ⟨z.1, by omega, by omega⟩)]
              exact f2 x j hx
            · by_cases hq : m = nNm nu i t e
              · subst hq
                rw [eU_same]
                refine zMask_ext (fun u hu => ?_)
                by_cases hu2 : u = t
                · subst hu2
                  simp
                · rw [decide_eq_false hu2, Bool.or_false, show decide (u < t + 1) = decide (u < t) from decide_eq_decide.mpr ⟨fun z => by omega, fun z => by omega⟩]
              · rw [eU_place _ _ _ _ (by omega), g2 m hm']
                refine zMask_ext (fun u hu => ?_)
                by_cases hu2 : u = t
                · subst hu2
                  have z0 : decide (nNm nu i u e = m) = false := decide_eq_false (fun z => hq z.symm)
                  rw [z0, Bool.and_false, Bool.and_false]
                · rw [show decide (u < t + 1) = decide (u < t) from decide_eq_decide.mpr ⟨fun z => by omega, fun z => by omega⟩]
        refine tkey 0 (Nat.zero_le _) M1 (fun _ _ _ => rfl) (fun m hm => ?_)
        rw [z1 e m (Nat.le_refl _) he hm]
        exact ((zMask_0 _).mpr (zFf_none (fun u _ => by rw [decide_eq_false (Nat.not_lt_zero u), Bool.false_and]))).symm
    refine ekey 0 (Nat.zero_le _) M0 (fun _ _ _ => rfl) (fun d m hd => absurd hd (Nat.not_lt_zero _)) (fun d m _ hd hm => z0 _ (by omega) (by omega))
  refine C_X1_learnTile_s G M F _ ?_
  have pkey : ∀ p, p ≤ 3 → ∀ M1 : eM, (∀ x j, ¬ (x = 27 ∧ 3 * i ≤ j ∧ j < 3 * i + 3) → M1 x j = M x j) → (∀ d, d < p → M1 27 (3 * i + d) = nI (nu (3 * i + d))) → Ev (eZ G 21 15 0 0 (eFV F)) G 21 15 (2, 0, 0) kX1_learnTile 2 [(0, .ref (G.1 23)), (1, .int (nI i)), (2, .ref (G.1 21)), (3, .int (nI p))] [] M1 0 0 := by
    refine eDown (P := fun p => ∀ M1 : eM, (∀ x j, ¬ (x = 27 ∧ 3 * i ≤ j ∧ j < 3 * i + 3) → M1 x j = M x j) → (∀ d, d < p → M1 27 (3 * i + d) = nI (nu (3 * i + d))) → Ev (eZ G 21 15 0 0 (eFV F)) G 21 15 (2, 0, 0) kX1_learnTile 2 [(0, .ref (G.1 23)), (1, .int (nI i)), (2, .ref (G.1 21)), (3, .int (nI p))] [] M1 0 0) ?_ ?_
    · intro M1 f1 g1
      exact B_X1_learnTile_s_2 G M1 F _ _ ⟨fun _ => edges M1 (fun x j a _ => f1 x j a) g1 (fun j a b => by rw [f1 28 j (by omega)]; exact hz j a b), fun q => absurd (Int32.le_refl 3) q⟩
    · intro p hp hn1 M1 f1 g1
      have e3 : (nI i * 3) + nI p = nI (3 * i + p) := by rw [eL3, nI_mul, nI_add, Nat.mul_comm i 3]
      refine B_X1_learnTile_s_2 G M1 F _ _ ⟨fun q => absurd q (nI_ge (b := 3) hp (by decide)), fun _ => ?_⟩
      rw [e3]
      refine Z_tileNumber (n := 3 * n) (by rw [f1 21 4 (by omega)]; exact h4) (by omega) (by omega) _ ⟨vp_in_nI (by omega) (by decide), ?_⟩
      rw [nI_clamp (show 3 * i + p < 2 ^ 31 by omega), f1 22 _ (by omega), h22 _ (by omega), ← nI_succ]
      refine hn1 _ (fun x j hx => ?_) (fun d hd => ?_)
      · show (if x = 27 ∧ j = 3 * i + p then _ else M1 x j) = M x j
        rw [if_neg (fun z => hx ⟨z.1, by omega, by omega⟩)]
        exact f1 x j hx
      · by_cases hq : d = p
        · rw [hq, eU_same]
        · rw [eU_place _ _ _ _ (by omega)]; exact g1 d (by omega)
  exact pkey 0 (Nat.zero_le _) M (fun _ _ _ => rfl) (fun d hd => absurd hd (Nat.not_lt_zero _))
theorem Z_begin {M : eM} {wd r n : Nat} {nu : Nat → Nat} (hw : 3 ≤ wd ∧ wd ≤ 7) (hr : 3 ≤ r ∧ r ≤ 7) (hn : n ≤ 16) (hnu : ∀ j, j < 3 * n → nu j < 10) (h0 : M 21 0 = nI wd) (h1 : M 21 1 = nI r) (h4 : M 21 4 = nI (3 * n)) (h22 : ∀ j, j < 3 * n → M 22 j = nI (nu j)) (F : eM → Prop) (h : ∀ M', cB M' (b0 wd r n nu) → (∀ c, c < 23 ∨ 31 < c → M' c = M c) → F M') : Cal G 21 15 (3, 0, 0) kX1_begin [.ref (G.1 23), .ref (G.1 21)] M (eFV F) := by
  have h49 : wd * r ≤ 49 := Nat.mul_le_mul hw.2 hr.2
  refine C_X1_begin_s G M F ?_
  have a1 : (eU M 23 0 (M 21 0)) 21 1 = nI r := by rw [eU_cell _ _ _ _ (by decide)]; exact h1
  rw [a1, h0]
  have a2 : (eU (eU M 23 0 (nI wd)) 23 1 (nI r)) 23 0 = nI wd := by rw [eU_place _ _ _ _ (by decide), eU_same]
  have a3 : (eU (eU M 23 0 (nI wd)) 23 1 (nI r)) 23 1 = nI r := eU_same _ _ _ _
  rw [a2, a3, nI_mul, if_neg (show ¬ (49 : Int32) < nI (wd * r) from nI_nlt (a := 49) h49 (by decide))]
  obtain ⟨Ma, hMa⟩ : ∃ Ma, Ma = eU (eU (eU M 23 0 (nI wd)) 23 1 (nI r)) 23 2 (nI (wd * r)) := ⟨_, rfl⟩
  rw [← hMa]
  have fa : ∀ x, x ≠ 23 → Ma x = M x := fun x hx => by rw [hMa, eU_other _ _ _ hx, eU_other _ _ _ hx, eU_other _ _ _ hx]
  have ga : Ma 23 0 = nI wd ∧ Ma 23 1 = nI r ∧ Ma 23 2 = nI (wd * r) := by
    rw [hMa]
    exact ⟨by rw [eU_place _ _ _ _ (by decide), eU_place _ _ _ _ (by decide), eU_same], by rw [eU_place _ _ _ _ (by decide), eU_same], eU_same _ _ _ _⟩
  refine C_X7_tileCount_s G Ma _ ?_
  rw [fa 21 (by decide), h4, eL3, nI_div (by omega) (by decide) (by decide), Nat.mul_div_cancel_left n (by decide)]
  rw [if_neg (show ¬ (16 : Int32) < nI n from nI_nlt (a := 16) hn (by decide))]
  obtain ⟨Mb, hMb⟩ : ∃ Mb, Mb = eU (eU Ma 23 3 (nI n)) 23 4 0 := ⟨_, rfl⟩
  rw [← hMb]
  have fb : ∀ x, x ≠ 23 → Mb x = M x := fun x hx => by rw [hMb, eU_other _ _ _ hx, eU_other _ _ _ hx]; exact fa x hx
  have gb : Mb 23 0 = nI wd ∧ Mb 23 1 = nI r ∧ Mb 23 2 = nI (wd * r) ∧ Mb 23 3 = nI n ∧ Mb 23 4 = 0 := by
    rw [hMb]
    exact ⟨by rw [eU_place _ _ _ _ (by decide), eU_place _ _ _ _ (by decide)]; exact ga.1, by rw [eU_place _ _ _ _ (by decide), eU_place _ _ _ _ (by decide)]; exact ga.2.1, by rw [eU_place _ _ _ _ (by decide), eU_place _ _ _ _ (by decide)]; exact ga.2.2, by rw [eU_place _ _ _ _ (by decide), eU_same], eU_same _ _ _ _⟩
  refine Z_fill_24 _ (-1) (fun M2 f2 g2 => Z_fill_25 _ (-1) (fun M3 f3 g3 => Z_fill_26 _ 0 (fun M4 f4 g4 => Z_fill_30 _ (-1) (fun M5 f5 g5 => Z_fill_31 _ 0 (fun M6 f6 g6 => ?_)))))
  have f26 : ∀ x, x ≠ 24 → x ≠ 25 → x ≠ 26 → x ≠ 30 → x ≠ 31 → M6 x = Mb x := fun x b1 b2 b3 b4 b5 => by rw [f6 x b5, f5 x b4, f4 x b3, f3 x b2, f2 x b1]
  have e24 : ∀ j, j < 49 → M6 24 j = -1 := fun j hj => by rw [f6 24 (by decide), f5 24 (by decide), f4 24 (by decide), f3 24 (by decide)]; exact g2 j hj
  have e25 : ∀ j, j < 16 → M6 25 j = -1 := fun j hj => by rw [f6 25 (by decide), f5 25 (by decide), f4 25 (by decide)]; exact g3 j hj
  have e26 : ∀ j, j < 16 → M6 26 j = 0 := fun j hj => by rw [f6 26 (by decide), f5 26 (by decide)]; exact g4 j hj
  have e30 : ∀ j, j < 294 → M6 30 j = -1 := fun j hj => by rw [f6 30 (by decide)]; exact g5 j hj
  have e23 : M6 23 = Mb 23 := f26 23 (by decide) (by decide) (by decide) (by decide) (by decide)
  -- the tiles
  have tiles : ∀ M7 : eM, (∀ x, x ≠ 28 → x ≠ 29 → M7 x = M6 x) → (∀ c e, c < wd * r → e < 6 → M7 29 (c * 6 + e) = eO (bBesW wd r c e)) → (∀ j, j < 960 → M7 28 j = 0) → ∀ i, i ≤ n → ∀ M8 : eM, (∀ x, x ≠ 27 → x ≠ 28 → M8 x = M7 x) → (∀ j, j < 3 * i → M8 27 j = nI (nu j)) → (∀ k e m, k < i → e < 6 → m < 10 → M8 28 ((k * 6 + e) * 10 + m) = zMask (fun t => decide (nNm nu k t e = m))) → (∀ j, i * 60 ≤ j → j < 960 → M8 28 j = 0) → Ev (eZ G 21 15 0 0 (eFV F)) G 21 15 (3, 0, 0) kX1_begin 123 [(0, .ref (G.1 23)), (1, .ref (G.1 21)), (2, .int (nI i))] [] M8 0 0 := by
    intro M7 f7 g29 g28
    refine eDown (P := fun i => ∀ M8 : eM, (∀ x, x ≠ 27 → x ≠ 28 → M8 x = M7 x) → (∀ j, j < 3 * i → M8 27 j = nI (nu j)) → (∀ k e m, k < i → e < 6 → m < 10 → M8 28 ((k * 6 + e) * 10 + m) = zMask (fun t => decide (nNm nu k t e = m))) → (∀ j, i * 60 ≤ j → j < 960 → M8 28 j = 0) → Ev (eZ G 21 15 0 0 (eFV F)) G 21 15 (3, 0, 0) kX1_begin 123 [(0, .ref (G.1 23)), (1, .ref (G.1 21)), (2, .int (nI i))] [] M8 0 0) ?_ ?_
    · intro M8 f8 g27 g28' _
      have r8 : ∀ x, x ≠ 24 → x ≠ 25 → x ≠ 26 → x ≠ 27 → x ≠ 28 → x ≠ 29 → x ≠ 30 → x ≠ 31 → M8 x = Mb x := fun x b1 b2 b3 b4 b5 b6 b7 b8 => by rw [f8 x b4 b5, f7 x b5 b6]; exact f26 x b1 b2 b3 b7 b8
      have r6 : ∀ x, x ≠ 27 → x ≠ 28 → x ≠ 29 → M8 x = M6 x := fun x b1 b2 b3 => by rw [f8 x b1 b2, f7 x b2 b3]
      have e8 : M8 23 = Mb 23 := r8 23 (by decide) (by decide) (by decide) (by decide) (by decide) (by decide) (by decide) (by decide)
      refine B_X1_begin_s_123 G M8 F _ ⟨fun _ => h M8 ?_ (fun c hc => ?_), fun q => absurd ?_ q⟩
      · refine ⟨⟨by rw [e8]; exact gb.1, by rw [e8]; exact gb.2.1, by rw [e8]; exact gb.2.2.1, by rw [e8]; exact gb.2.2.2.1, by rw [e8]; exact gb.2.2.2.2⟩, fun c hc => ?_, fun i hi => ?_, fun i c hi hc => (by cases hc), g27, fun k e m hk he hm => g28' k e m hk he hm, fun c e hc he => ?_, fun c e hc he => ?_, fun c hc => ?_⟩
        · have hc' : c < wd * r := hc
          rw [r6 24 (by decide) (by decide) (by decide), e24 c (by omega)]; rfl
        · have hi' : i < n := hi
          rw [r6 25 (by decide) (by decide) (by decide), e25 i (by omega)]; rfl
        · rw [f8 29 (by decide) (by decide)]; exact g29 c e hc he
        · have hc' : c < wd * r := hc
          rw [r6 30 (by decide) (by decide) (by decide), e30 _ (by omega), b0_face]; rfl
        · have hc' : c < wd * r := hc
          rw [r6 31 (by decide) (by decide) (by decide), g6 c (by omega), b0_tb]; rfl
      · rw [r8 c (by omega) (by omega) (by omega) (by omega) (by omega) (by omega) (by omega) (by omega)]
        exact fb c (by omega)
      · rw [e8, gb.2.2.2.1]; exact Int32.le_refl _
    · intro i hi hnx M8 f8 g27 g28' z28
      have r8 : ∀ x, x ≠ 24 → x ≠ 25 → x ≠ 26 → x ≠ 27 → x ≠ 28 → x ≠ 29 → x ≠ 30 → x ≠ 31 → M8 x = Mb x := fun x b1 b2 b3 b4 b5 b6 b7 b8 => by rw [f8 x b4 b5, f7 x b5 b6]; exact f26 x b1 b2 b3 b7 b8
      have e8 : M8 23 = Mb 23 := r8 23 (by decide) (by decide) (by decide) (by decide) (by decide) (by decide) (by decide) (by decide)
      have e21 : M8 21 = M 21 := (r8 21 (by decide) (by decide) (by decide) (by decide) (by decide) (by decide) (by decide) (by decide)).trans (fb 21 (by decide))
      have e22 : M8 22 = M 22 := (r8 22 (by decide) (by decide) (by decide) (by decide) (by decide) (by decide) (by decide) (by decide)).trans (fb 22 (by decide))
      refine B_X1_begin_s_123 G M8 F _ ⟨fun q => absurd q ?_, fun _ => ?_⟩
      · rw [e8, gb.2.2.2.1]; exact nI_ge hi (by omega)
      · refine Z_learn hn hi (by rw [e21]; exact h4) (by rw [e22]; exact h22) hnu (fun j a b => z28 j a (by omega)) _ (fun M9 f9 p9 q9 => ?_)
        rw [← nI_succ]
        refine hnx M9 (fun x b1 b2 => ?_) (fun j hj => ?_) (fun k e m hk he hm => ?_) (fun j a b => ?_)
        · rw [← f8 x b1 b2]
          exact funext fun j => f9 x j (fun z => b1 z.1) (fun z => b2 z.1)
        · by_cases hq : j < 3 * i
          · rw [f9 27 j (by omega) (by omega)]; exact g27 j hq
          · have := p9 (j - 3 * i) (by omega)
            rw [show 3 * i + (j - 3 * i) = j by omega] at this
            exact this
        · by_cases hq : k = i
          · subst hq; exact q9 e m he hm
          · rw [f9 28 _ (by omega) (by omega)]; exact g28' k e m (by omega) he hm
        · rw [f9 28 j (by omega) (by omega)]; exact z28 j (by omega) b
  -- the cells
  have cells : ∀ c, c ≤ wd * r → ∀ M7 : eM, (∀ x, x ≠ 29 → M7 x = M6 x) → (∀ d e, d < c → e < 6 → M7 29 (d * 6 + e) = eO (bBesW wd r d e)) → Ev (eZ G 21 15 0 0 (eFV F)) G 21 15 (3, 0, 0) kX1_begin 94 [(0, .ref (G.1 23)), (1, .ref (G.1 21)), (2, .int (nI c))] [] M7 0 0 := by
    refine eDown (P := fun c => ∀ M7 : eM, (∀ x, x ≠ 29 → M7 x = M6 x) → (∀ d e, d < c → e < 6 → M7 29 (d * 6 + e) = eO (bBesW wd r d e)) → Ev (eZ G 21 15 0 0 (eFV F)) G 21 15 (3, 0, 0) kX1_begin 94 [(0, .ref (G.1 23)), (1, .ref (G.1 21)), (2, .int (nI c))] [] M7 0 0) ?_ ?_
    · intro M7 f7 g7
      refine B_X1_begin_s_94 G M7 F _ ⟨fun _ => Z_fill_28 _ 0 (fun M8 f8 g8 => ?_), fun q => absurd ?_ q⟩
      · exact tiles M8 (fun x b1 b2 => by rw [f8 x b1]; exact f7 x b2) (fun c e hc he => by rw [f8 29 (by decide)]; exact g7 c e hc he) g8 0 (Nat.zero_le _) M8 (fun _ _ _ => rfl) (fun j hj => absurd hj (by omega)) (fun k e m hk => absurd hk (Nat.not_lt_zero _)) (fun j _ hj => g8 j hj)
      · rw [f7 23 (by decide), e23, gb.2.2.1]; exact Int32.le_refl _
    · intro c hc hnx M7 f7 g7
      refine B_X1_begin_s_94 G M7 F _ ⟨fun q => absurd q ?_, fun _ => ?_⟩
      · rw [f7 23 (by decide), e23, gb.2.2.1]; exact nI_ge hc (by omega)
      · refine Z_besides hw hr hc (by rw [f7 23 (by decide), e23]; exact gb.1) (by rw [f7 23 (by decide), e23]; exact gb.2.1) _ (fun M8 f8 g8 => ?_)
        rw [← nI_succ]
        refine hnx M8 (fun x b1 => ?_) (fun d e hd he => ?_)
        · rw [← f7 x b1]
          exact funext fun j => f8 x j (fun z => b1 z.1)
        · by_cases hq : d = c
          · subst hq; exact g8 e he
          · rw [f8 29 _ (by omega)]; exact g7 d e (by omega) he
  exact cells 0 (Nat.zero_le _) M6 (fun _ _ => rfl) (fun d e hd => absurd hd (Nat.not_lt_zero _))
/-- the same in the whole world -/
theorem S_begin {M : eM} {wd r n : Nat} {nu : Nat → Nat} (hw : 3 ≤ wd ∧ wd ≤ 7) (hr : 3 ≤ r ∧ r ≤ 7) (hn : n ≤ 16) (hnu : ∀ j, j < 3 * n → nu j < 10) (h0 : M 21 0 = nI wd) (h1 : M 21 1 = nI r) (h4 : M 21 4 = nI (3 * n)) (h22 : ∀ j, j < 3 * n → M 22 j = nI (nu j)) (F : eM → Prop) (h : ∀ M', cB M' (b0 wd r n nu) → (∀ c, c < 23 ∨ 31 < c → M' c = M c) → F M') : Cal G 0 68 (3, 0, 0) kX1_begin [.ref (G.1 23), .ref (G.1 21)] M (eFV F) := by
  refine ((Z_begin (F := fun M' => cB M' (b0 wd r n nu) ∧ ∀ c, c < 23 ∨ 31 < c → M' c = M c) hw hr hn hnu h0 h1 h4 h22 (fun M' b f => ⟨b, f⟩)).frame (lo := 0) (n := 68) (by decide)).mono ?_
  rintro v M' ⟨M0, ⟨hv, hb, hf⟩, rfl⟩
  refine ⟨hv, h _ (hb.fr (fun c c1 c2 => if_pos ⟨by omega, by omega⟩)) (fun c hc => ?_)⟩
  unfold eMix
  by_cases hq : 21 ≤ c ∧ c < 21 + 15
  · rw [if_pos hq]; exact hf c hc
  · rw [if_neg hq]
end CBegin
