/-! ===== the model's counts, points and best ways ===== -/
theorem eZif {x : Bool} {n : Nat} : nI (n + (if x then 1 else 0)) = nI n + (if x then 1 else 0) := by cases x <;> exact (nI_add _ _).symm
theorem bNotLe {a b : Nat} (h : a < b) (hb : b < 2 ^ 31) : ¬ nI b ≤ nI a := nI_ge h hb
theorem bWaysC_le (B : eBd) (k c n : Nat) : zSm (fun t => if bFits B k c t then 1 else 0) n ≤ n := by
  have h := zSm_le (f := fun t => if bFits B k c t then 1 else 0) (k := 1) (n := n) (fun i _ => by split <;> omega)
  omega
/-- the first way: six times the cell, and the turn -/
def bWay (B : eBd) (k : Nat) : Option Nat := match bFirst B k with
  | none => none
  | some c => some (6 * c + (bAny B k c).getD 0)
theorem S_ways_130 (G : eG) {M : eM} {B : eBd} (hb : bOk B) (hM : mB 130 131 132 133 M B) (F : Int32 → eM → Prop) {i : Nat} (hi : i < bN B) (h : F (nI (bWays B i)) M) : Cal G 100 40 (6, 0, 0) kX13_ways [.ref (G.1 100), .ref (G.1 130), .int (nI i)] M (eFI F) := by
  have h49 := hb.c49
  refine C_X13_ways_130 G M F (nI i) ?_
  refine eDown (P := fun c => Ev (eZ G 100 40 0 0 (eFI F)) G 100 40 (6, 0, 0) kX13_ways 5 [(0, .ref (G.1 100)), (1, .ref (G.1 130)), (2, .int (nI i)), (3, .int (nI (zSm (fun c => zSm (fun t => if bFits B i c t then 1 else 0) 6) c))), (4, .int (nI c))] [] M 0 0) (N := bC B) ?_ ?_ 0 (Nat.zero_le _)
  · exact B_X13_ways_130_5 G M F _ _ _ (S_cells G hM _ ⟨fun _ => h, fun q => absurd (Int32.le_refl _) q⟩)
  · intro c hc hn
    refine B_X13_ways_130_5 G M F _ _ _ (S_cells G hM _ ⟨fun q => absurd q (nI_ge hc (by omega)), fun _ => ?_⟩)
    refine eDown (P := fun u => Ev (eZ G 100 40 0 0 (eFI F)) G 100 40 (6, 0, 0) kX13_ways 17 [(0, .ref (G.1 100)), (1, .ref (G.1 130)), (2, .int (nI i)), (3, .int (nI (zSm (fun c => zSm (fun t => if bFits B i c t then 1 else 0) 6) c + zSm (fun t => if bFits B i c t then 1 else 0) u))), (4, .int (nI c)), (5, .int (nI u))] [] M 0 0) (N := 6) ?_ ?_ 0 (Nat.zero_le _)
    · try dsimp only at hn
      rw [zSm, nI_succ c] at hn
      exact B_X13_ways_130_17 G M F _ _ _ _ ⟨fun _ => hn, fun q => absurd (Int32.le_refl 6) q⟩
    · intro u hu hn2
      try dsimp only at hn2
      rw [zSm, nI_succ u, ← Nat.add_assoc, eZif] at hn2
      refine B_X13_ways_130_17 G M F _ _ _ _ ⟨fun q => absurd q (nI_ge hu (by decide)), fun _ => ?_⟩
      refine S_fits_130 G hb hM _ hi hc hu ⟨fun q => ?_, fun q => ?_⟩
      · rw [q] at hn2; exact hn2
      · rw [q] at hn2; exact hn2
theorem S_firstWay_130 (G : eG) {M : eM} {B : eBd} (hb : bOk B) (hM : mB 130 131 132 133 M B) (F : Int32 → eM → Prop) {i : Nat} (hi : i < bN B) (h : F (eO (bWay B i)) M) : Cal G 100 40 (6, 0, 0) kX13_firstWay [.ref (G.1 100), .ref (G.1 130), .int (nI i)] M (eFI F) := by
  have h49 := hb.c49
  refine C_X13_firstWay_130 G M F (nI i) ?_
  have key : ∀ c, c ≤ bC B → (∀ j, j < c → (bAny B i j).isSome = false) → Ev (eZ G 100 40 0 0 (eFI F)) G 100 40 (6, 0, 0) kX13_firstWay 2 [(0, .ref (G.1 100)), (1, .ref (G.1 130)), (2, .int (nI i)), (3, .int (nI c))] [] M 0 0 := by
    refine eDown (P := fun c => (∀ j, j < c → (bAny B i j).isSome = false) → Ev (eZ G 100 40 0 0 (eFI F)) G 100 40 (6, 0, 0) kX13_firstWay 2 [(0, .ref (G.1 100)), (1, .ref (G.1 130)), (2, .int (nI i)), (3, .int (nI c))] [] M 0 0) ?_ ?_
    · intro hj
      have e1 : bWay B i = none := by
        unfold bWay bFirst
        rw [zFf_none hj]
      rw [e1] at h
      exact B_X13_firstWay_130_2 G M F _ _ (S_cells G hM _ ⟨fun _ => h, fun q => absurd (Int32.le_refl _) q⟩)
    · intro c hc hn hj
      refine B_X13_firstWay_130_2 G M F _ _ (S_cells G hM _ ⟨fun q => absurd q (nI_ge hc (by omega)), fun _ => ?_⟩)
      have key2 : ∀ u, u ≤ 6 → (∀ j, j < u → bFits B i c j = false) → Ev (eZ G 100 40 0 0 (eFI F)) G 100 40 (6, 0, 0) kX13_firstWay 13 [(0, .ref (G.1 100)), (1, .ref (G.1 130)), (2, .int (nI i)), (3, .int (nI c)), (4, .int (nI u))] [] M 0 0 := by
        refine eDown (P := fun u => (∀ j, j < u → bFits B i c j = false) → Ev (eZ G 100 40 0 0 (eFI F)) G 100 40 (6, 0, 0) kX13_firstWay 13 [(0, .ref (G.1 100)), (1, .ref (G.1 130)), (2, .int (nI i)), (3, .int (nI c)), (4, .int (nI u))] [] M 0 0) ?_ ?_
        · intro hu
          refine B_X13_firstWay_130_13 G M F _ _ _ ⟨fun _ => ?_, fun q => absurd (Int32.le_refl 6) q⟩
          rw [← nI_succ]
          refine hn (fun j hjc => ?_)
          by_cases hq : j = c
          · subst hq
            unfold bAny
            rw [zFf_none hu]
            rfl
          · exact hj j (by omega)
        · intro u hu hn2 hj2
          refine B_X13_firstWay_130_13 G M F _ _ _ ⟨fun q => absurd q (nI_ge hu (by decide)), fun _ => ?_⟩
          refine S_fits_130 G hb hM _ hi hc hu ⟨fun q => ?_, fun q => ?_⟩
          · rw [← nI_succ]
            refine hn2 (fun j hju => ?_)
            by_cases hq : j = u
            · subst hq; exact q
            · exact hj2 j (by omega)
          · have e0 : bAny B i c = some u := zFf_some hu q hj2
            have e1 : bWay B i = some (6 * c + u) := by
              unfold bWay bFirst
              rw [zFf_some hc (by rw [e0]; rfl) hj]
              show some (6 * c + (bAny B i c).getD 0) = _
              rw [e0]
              rfl
            rw [e1] at h
            rw [eL6, nI_mul, nI_add]
            exact h
      exact key2 0 (Nat.zero_le _) (fun j hj => absurd hj (by omega))
  exact key 0 (Nat.zero_le _) (fun j hj => absurd hj (by omega))
theorem S_ring_130 (G : eG) {M : eM} {B : eBd} (hb : bOk B) (hM : mB 130 131 132 133 M B) (F : Bool → eM → Prop) {c : Nat} (hc : c < bC B) (h : F (bRing B c) M) : Cal G 100 40 (5, 0, 0) kX13_ring [.ref (G.1 100), .ref (G.1 130), .int (nI c)] M (eFZ F) := by
  have h6 := bTb_le B c
  unfold bRing at h
  refine C_X13_ring_130 G M F (nI c) (S_tb_130 G hb hM _ hc ⟨fun q => ?_, fun q => ?_⟩)
  · rw [decide_eq_false (fun z => q (by rw [z]; rfl))] at h
    exact h
  · rw [decide_eq_true ((nI_eq (by omega) (by decide)).mp q)] at h
    exact h
theorem S_rings_130 (G : eG) {M : eM} {B : eBd} (hb : bOk B) (hM : mB 130 131 132 133 M B) (F : Int32 → eM → Prop) (h : F (nI (bRings B)) M) : Cal G 100 40 (6, 0, 0) kX13_rings [.ref (G.1 100), .ref (G.1 130)] M (eFI F) := by
  have h49 := hb.c49
  refine C_X13_rings_130 G M F ?_
  refine eDown (P := fun c => Ev (eZ G 100 40 0 0 (eFI F)) G 100 40 (6, 0, 0) kX13_rings 4 [(0, .ref (G.1 100)), (1, .ref (G.1 130)), (2, .int (nI (zSm (fun c => if bRing B c then 1 else 0) c))), (3, .int (nI c))] [] M 0 0) (N := bC B) ?_ ?_ 0 (Nat.zero_le _)
  · exact B_X13_rings_130_4 G M F _ _ (S_cells G hM _ ⟨fun _ => h, fun q => absurd (Int32.le_refl _) q⟩)
  · intro c hc hn
    try dsimp only at hn
    rw [zSm, nI_succ c, eZif] at hn
    refine B_X13_rings_130_4 G M F _ _ (S_cells G hM _ ⟨fun q => absurd q (nI_ge hc (by omega)), fun _ => ?_⟩)
    refine S_ring_130 G hb hM _ hc ⟨fun q => ?_, fun q => ?_⟩
    · rw [q] at hn; exact hn
    · rw [q] at hn; exact hn
theorem S_matches_130 (G : eG) {M : eM} {B : eBd} (hb : bOk B) (hM : mB 130 131 132 133 M B) (F : Int32 → eM → Prop) (h : F (nI (bMatch B)) M) : Cal G 100 40 (5, 0, 0) kX13_matches [.ref (G.1 100), .ref (G.1 130)] M (eFI F) := by
  have h49 := hb.c49
  have h16 := hb.2.2.1
  refine C_X13_matches_130 G M F ?_
  refine eDown (P := fun c => Ev (eZ G 100 40 0 0 (eFI F)) G 100 40 (5, 0, 0) kX13_matches 4 [(0, .ref (G.1 100)), (1, .ref (G.1 130)), (2, .int (nI (zSm (fun c => if (bAt B c).isSome then bTb B c else 0) c))), (3, .int (nI c))] [] M 0 0) (N := bC B) ?_ ?_ 0 (Nat.zero_le _)
  · refine B_X13_matches_130_4 G M F _ _ (S_cells G hM _ ⟨fun _ => ?_, fun q => absurd (Int32.le_refl _) q⟩)
    have hle := zSm_le (f := fun c => if (bAt B c).isSome then bTb B c else 0) (k := 6) (n := bC B) (fun c _ => by have := bTb_le B c; split <;> omega)
    show F (nI (bEnds B) / nI 2) M
    rw [nI_div (show bEnds B < 2 ^ 31 by unfold bEnds; omega) (by decide) (by decide)]
    exact h
  · intro c hc hn
    try dsimp only at hn
    rw [zSm, nI_succ c, ← nI_add] at hn
    refine B_X13_matches_130_4 G M F _ _ (S_cells G hM _ ⟨fun q => absurd q (nI_ge hc (by omega)), fun _ => ⟨vp_in_nI (by omega) (by decide), ?_⟩⟩)
    rw [nI_clamp (show c < 2 ^ 31 by omega), hM.2.2.1 c hc]
    cases h1 : bAt B c with
    | none =>
      rw [h1] at hn
      exact ⟨fun _ => B_X13_matches_130_31 G M F _ _ (by rw [show nI (zSm (fun c => if (bAt B c).isSome then bTb B c else 0) c) + nI (if (none : Option Nat).isSome = true then bTb B c else 0) = nI (zSm (fun c => if (bAt B c).isSome then bTb B c else 0) c) by rw [nI_add]; rfl] at hn; exact hn), fun q => absurd rfl q⟩
    | some k =>
      rw [h1] at hn
      have := (hb.2.2.2.1 c k hc h1).1
      exact ⟨fun q => absurd q (eNeg k (by omega)), fun _ => S_tb_130 G hb hM _ hc (B_X13_matches_130_31 G M F _ _ hn)⟩
theorem S_matched_130 (G : eG) {M : eM} {B : eBd} (hb : bOk B) (hM : mB 130 131 132 133 M B) (F : Int32 → eM → Prop) (h : F (nI (bMatched B)) M) : Cal G 100 40 (4, 0, 0) kX13_matched [.ref (G.1 100), .ref (G.1 130)] M (eFI F) := by
  have h49 := hb.c49
  have h16 := hb.2.2.1
  refine C_X13_matched_130 G M F ?_
  refine eDown (P := fun c => Ev (eZ G 100 40 0 0 (eFI F)) G 100 40 (4, 0, 0) kX13_matched 4 [(0, .ref (G.1 100)), (1, .ref (G.1 130)), (2, .int (nI (zSm (bHere B) c))), (3, .int (nI c))] [] M 0 0) (N := bC B) ?_ ?_ 0 (Nat.zero_le _)
  · exact B_X13_matched_130_4 G M F _ _ (S_cells G hM _ ⟨fun _ => h, fun q => absurd (Int32.le_refl _) q⟩)
  · intro c hc hn
    try dsimp only at hn
    rw [zSm, nI_succ c] at hn
    refine B_X13_matched_130_4 G M F _ _ (S_cells G hM _ ⟨fun q => absurd q (nI_ge hc (by omega)), fun _ => ⟨vp_in_nI (by omega) (by decide), ?_⟩⟩)
    rw [nI_clamp (show c < 2 ^ 31 by omega), hM.2.2.1 c hc]
    cases h1 : bAt B c with
    | none =>
      have e1 : bHere B c = 0 := by unfold bHere; rw [h1]
      rw [e1, Nat.add_zero] at hn
      exact ⟨fun q => absurd rfl q, fun _ => B_X13_matched_130_67 G M F _ _ hn⟩
    | some k =>
      have hk := (hb.2.2.2.1 c k hc h1).1
      have e1 : bHere B c = zSm (fun e => if (bTile B c e).isSome then bNm B k (bTr B k) e else 0) 3 := by unfold bHere; rw [h1]
      rw [e1] at hn
      refine ⟨fun _ => ?_, fun q => absurd q (eNeg k (by omega))⟩
      refine eDown (P := fun e => Ev (eZ G 100 40 0 0 (eFI F)) G 100 40 (4, 0, 0) kX13_matched 28 [(0, .ref (G.1 100)), (1, .ref (G.1 130)), (2, .int (nI (zSm (bHere B) c + zSm (fun e => if (bTile B c e).isSome then bNm B k (bTr B k) e else 0) e))), (3, .int (nI c)), (4, .int (nI e))] [] M 0 0) (N := 3) ?_ ?_ 0 (Nat.zero_le _)
      · exact B_X13_matched_130_28 G M F _ _ _ ⟨fun _ => B_X13_matched_130_67 G M F _ _ hn, fun q => absurd (Int32.le_refl 3) q⟩
      · intro e he hn2
        try dsimp only at hn2
        rw [zSm, nI_succ e, ← Nat.add_assoc, ← nI_add (zSm (bHere B) c + _)] at hn2
        refine B_X13_matched_130_28 G M F _ _ _ ⟨fun q => absurd q (nI_ge he (by decide)), fun _ => ?_⟩
        refine S_tileBeside_130 G hb hM _ hc (by omega) ?_
        cases h2 : bTile B c e with
        | none =>
          rw [h2] at hn2
          exact ⟨fun q => absurd rfl q, fun _ => hn2⟩
        | some k2 =>
          rw [h2] at hn2
          obtain ⟨d, -, -, -, hk2, -⟩ := hb.tile hc (by omega) h2
          exact ⟨fun _ => S_numberAt_130 G hb hM _ hc (by omega) h1 hn2, fun q => absurd q (eNeg k2 (by omega))⟩
theorem S_points_130 (G : eG) {M : eM} {B : eBd} (hb : bOk B) (hM : mB 130 131 132 133 M B) (F : Int32 → eM → Prop) (h : F (nI (bPoints B)) M) : Cal G 100 40 (7, 0, 0) kX13_points [.ref (G.1 100), .ref (G.1 130)] M (eFI F) := by
  refine C_X13_points_130 G M F (S_matched_130 G hb hM _ (S_rings_130 G hb hM _ ?_))
  rw [eL10, nI_mul, nI_add]
  exact h
theorem S_ways_134 (G : eG) {M : eM} {B : eBd} (hb : bOk B) (hM : mB 134 135 136 137 M B) (F : Int32 → eM → Prop) {i : Nat} (hi : i < bN B) (h : F (nI (bWays B i)) M) : Cal G 100 40 (6, 0, 0) kX13_ways [.ref (G.1 100), .ref (G.1 134), .int (nI i)] M (eFI F) := by
  have h49 := hb.c49
  refine C_X13_ways_134 G M F (nI i) ?_
  refine eDown (P := fun c => Ev (eZ G 100 40 0 0 (eFI F)) G 100 40 (6, 0, 0) kX13_ways 5 [(0, .ref (G.1 100)), (1, .ref (G.1 134)), (2, .int (nI i)), (3, .int (nI (zSm (fun c => zSm (fun t => if bFits B i c t then 1 else 0) 6) c))), (4, .int (nI c))] [] M 0 0) (N := bC B) ?_ ?_ 0 (Nat.zero_le _)
  · exact B_X13_ways_134_5 G M F _ _ _ (S_cells G hM _ ⟨fun _ => h, fun q => absurd (Int32.le_refl _) q⟩)
  · intro c hc hn
    refine B_X13_ways_134_5 G M F _ _ _ (S_cells G hM _ ⟨fun q => absurd q (nI_ge hc (by omega)), fun _ => ?_⟩)
    refine eDown (P := fun u => Ev (eZ G 100 40 0 0 (eFI F)) G 100 40 (6, 0, 0) kX13_ways 17 [(0, .ref (G.1 100)), (1, .ref (G.1 134)), (2, .int (nI i)), (3, .int (nI (zSm (fun c => zSm (fun t => if bFits B i c t then 1 else 0) 6) c + zSm (fun t => if bFits B i c t then 1 else 0) u))), (4, .int (nI c)), (5, .int (nI u))] [] M 0 0) (N := 6) ?_ ?_ 0 (Nat.zero_le _)
    · try dsimp only at hn
      rw [zSm, nI_succ c] at hn
      exact B_X13_ways_134_17 G M F _ _ _ _ ⟨fun _ => hn, fun q => absurd (Int32.le_refl 6) q⟩
    · intro u hu hn2
      try dsimp only at hn2
      rw [zSm, nI_succ u, ← Nat.add_assoc, eZif] at hn2
      refine B_X13_ways_134_17 G M F _ _ _ _ ⟨fun q => absurd q (nI_ge hu (by decide)), fun _ => ?_⟩
      refine S_fits_134 G hb hM _ hi hc hu ⟨fun q => ?_, fun q => ?_⟩
      · rw [q] at hn2; exact hn2
      · rw [q] at hn2; exact hn2
theorem S_firstWay_134 (G : eG) {M : eM} {B : eBd} (hb : bOk B) (hM : mB 134 135 136 137 M B) (F : Int32 → eM → Prop) {i : Nat} (hi : i < bN B) (h : F (eO (bWay B i)) M) : Cal G 100 40 (6, 0, 0) kX13_firstWay [.ref (G.1 100), .ref (G.1 134), .int (nI i)] M (eFI F) := by
  have h49 := hb.c49
  refine C_X13_firstWay_134 G M F (nI i) ?_
  have key : ∀ c, c ≤ bC B → (∀ j, j < c → (bAny B i j).isSome = false) → Ev (eZ G 100 40 0 0 (eFI F)) G 100 40 (6, 0, 0) kX13_firstWay 2 [(0, .ref (G.1 100)), (1, .ref (G.1 134)), (2, .int (nI i)), (3, .int (nI c))] [] M 0 0 := by
    refine eDown (P := fun c => (∀ j, j < c → (bAny B i j).isSome = false) → Ev (eZ G 100 40 0 0 (eFI F)) G 100 40 (6, 0, 0) kX13_firstWay 2 [(0, .ref (G.1 100)), (1, .ref (G.1 134)), (2, .int (nI i)), (3, .int (nI c))] [] M 0 0) ?_ ?_
    · intro hj
      have e1 : bWay B i = none := by
        unfold bWay bFirst
        rw [zFf_none hj]
      rw [e1] at h
      exact B_X13_firstWay_134_2 G M F _ _ (S_cells G hM _ ⟨fun _ => h, fun q => absurd (Int32.le_refl _) q⟩)
    · intro c hc hn hj
      refine B_X13_firstWay_134_2 G M F _ _ (S_cells G hM _ ⟨fun q => absurd q (nI_ge hc (by omega)), fun _ => ?_⟩)
      have key2 : ∀ u, u ≤ 6 → (∀ j, j < u → bFits B i c j = false) → Ev (eZ G 100 40 0 0 (eFI F)) G 100 40 (6, 0, 0) kX13_firstWay 13 [(0, .ref (G.1 100)), (1, .ref (G.1 134)), (2, .int (nI i)), (3, .int (nI c)), (4, .int (nI u))] [] M 0 0 := by
        refine eDown (P := fun u => (∀ j, j < u → bFits B i c j = false) → Ev (eZ G 100 40 0 0 (eFI F)) G 100 40 (6, 0, 0) kX13_firstWay 13 [(0, .ref (G.1 100)), (1, .ref (G.1 134)), (2, .int (nI i)), (3, .int (nI c)), (4, .int (nI u))] [] M 0 0) ?_ ?_
        · intro hu
          refine B_X13_firstWay_134_13 G M F _ _ _ ⟨fun _ => ?_, fun q => absurd (Int32.le_refl 6) q⟩
          rw [← nI_succ]
          refine hn (fun j hjc => ?_)
          by_cases hq : j = c
          · subst hq
            unfold bAny
            rw [zFf_none hu]
            rfl
          · exact hj j (by omega)
        · intro u hu hn2 hj2
          refine B_X13_firstWay_134_13 G M F _ _ _ ⟨fun q => absurd q (nI_ge hu (by decide)), fun _ => ?_⟩
          refine S_fits_134 G hb hM _ hi hc hu ⟨fun q => ?_, fun q => ?_⟩
          · rw [← nI_succ]
            refine hn2 (fun j hju => ?_)
            by_cases hq : j = u
            · subst hq; exact q
            · exact hj2 j (by omega)
          · have e0 : bAny B i c = some u := zFf_some hu q hj2
            have e1 : bWay B i = some (6 * c + u) := by
              unfold bWay bFirst
              rw [zFf_some hc (by rw [e0]; rfl) hj]
              show some (6 * c + (bAny B i c).getD 0) = _
              rw [e0]
              rfl
            rw [e1] at h
            rw [eL6, nI_mul, nI_add]
            exact h
      exact key2 0 (Nat.zero_le _) (fun j hj => absurd hj (by omega))
  exact key 0 (Nat.zero_le _) (fun j hj => absurd hj (by omega))
theorem S_ring_134 (G : eG) {M : eM} {B : eBd} (hb : bOk B) (hM : mB 134 135 136 137 M B) (F : Bool → eM → Prop) {c : Nat} (hc : c < bC B) (h : F (bRing B c) M) : Cal G 100 40 (5, 0, 0) kX13_ring [.ref (G.1 100), .ref (G.1 134), .int (nI c)] M (eFZ F) := by
  have h6 := bTb_le B c
  unfold bRing at h
  refine C_X13_ring_134 G M F (nI c) (S_tb_134 G hb hM _ hc ⟨fun q => ?_, fun q => ?_⟩)
  · rw [decide_eq_false (fun z => q (by rw [z]; rfl))] at h
    exact h
  · rw [decide_eq_true ((nI_eq (by omega) (by decide)).mp q)] at h
    exact h
theorem S_rings_134 (G : eG) {M : eM} {B : eBd} (hb : bOk B) (hM : mB 134 135 136 137 M B) (F : Int32 → eM → Prop) (h : F (nI (bRings B)) M) : Cal G 100 40 (6, 0, 0) kX13_rings [.ref (G.1 100), .ref (G.1 134)] M (eFI F) := by
  have h49 := hb.c49
  refine C_X13_rings_134 G M F ?_
  refine eDown (P := fun c => Ev (eZ G 100 40 0 0 (eFI F)) G 100 40 (6, 0, 0) kX13_rings 4 [(0, .ref (G.1 100)), (1, .ref (G.1 134)), (2, .int (nI (zSm (fun c => if bRing B c then 1 else 0) c))), (3, .int (nI c))] [] M 0 0) (N := bC B) ?_ ?_ 0 (Nat.zero_le _)
  · exact B_X13_rings_134_4 G M F _ _ (S_cells G hM _ ⟨fun _ => h, fun q => absurd (Int32.le_refl _) q⟩)
  · intro c hc hn
    try dsimp only at hn
    rw [zSm, nI_succ c, eZif] at hn
    refine B_X13_rings_134_4 G M F _ _ (S_cells G hM _ ⟨fun q => absurd q (nI_ge hc (by omega)), fun _ => ?_⟩)
    refine S_ring_134 G hb hM _ hc ⟨fun q => ?_, fun q => ?_⟩
    · rw [q] at hn; exact hn
    · rw [q] at hn; exact hn
theorem S_matches_134 (G : eG) {M : eM} {B : eBd} (hb : bOk B) (hM : mB 134 135 136 137 M B) (F : Int32 → eM → Prop) (h : F (nI (bMatch B)) M) : Cal G 100 40 (5, 0, 0) kX13_matches [.ref (G.1 100), .ref (G.1 134)] M (eFI F) := by
  have h49 := hb.c49
  have h16 := hb.2.2.1
  refine C_X13_matches_134 G M F ?_
  refine eDown (P := fun c => Ev (eZ G 100 40 0 0 (eFI F)) G 100 40 (5, 0, 0) kX13_matches 4 [(0, .ref (G.1 100)), (1, .ref (G.1 134)), (2, .int (nI (zSm (fun c => if (bAt B c).isSome then bTb B c else 0) c))), (3, .int (nI c))] [] M 0 0) (N := bC B) ?_ ?_ 0 (Nat.zero_le _)
  · refine B_X13_matches_134_4 G M F _ _ (S_cells G hM _ ⟨fun _ => ?_, fun q => absurd (Int32.le_refl _) q⟩)
    have hle := zSm_le (f := fun c => if (bAt B c).isSome then bTb B c else 0) (k := 6) (n := bC B) (fun c _ => by have := bTb_le B c; split <;> omega)
    show F (nI (bEnds B) / nI 2) M
    rw [nI_div (show bEnds B < 2 ^ 31 by unfold bEnds; omega) (by decide) (by decide)]
    exact h
  · intro c hc hn
    try dsimp only at hn
    rw [zSm, nI_succ c, ← nI_add] at hn
    refine B_X13_matches_134_4 G M F _ _ (S_cells G hM _ ⟨fun q => absurd q (nI_ge hc (by omega)), fun _ => ⟨vp_in_nI (by omega) (by decide), ?_⟩⟩)
    rw [nI_clamp (show c < 2 ^ 31 by omega), hM.2.2.1 c hc]
    cases h1 : bAt B c with
    | none =>
      rw [h1] at hn
      exact ⟨fun _ => B_X13_matches_134_31 G M F _ _ (by rw [show nI (zSm (fun c => if (bAt B c).isSome then bTb B c else 0) c) + nI (if (none : Option Nat).isSome = true then bTb B c else 0) = nI (zSm (fun c => if (bAt B c).isSome then bTb B c else 0) c) by rw [nI_add]; rfl] at hn; exact hn), fun q => absurd rfl q⟩
    | some k =>
      rw [h1] at hn
      have := (hb.2.2.2.1 c k hc h1).1
      exact ⟨fun q => absurd q (eNeg k (by omega)), fun _ => S_tb_134 G hb hM _ hc (B_X13_matches_134_31 G M F _ _ hn)⟩
theorem S_matched_134 (G : eG) {M : eM} {B : eBd} (hb : bOk B) (hM : mB 134 135 136 137 M B) (F : Int32 → eM → Prop) (h : F (nI (bMatched B)) M) : Cal G 100 40 (4, 0, 0) kX13_matched [.ref (G.1 100), .ref (G.1 134)] M (eFI F) := by
  have h49 := hb.c49
  have h16 := hb.2.2.1
  refine C_X13_matched_134 G M F ?_
  refine eDown (P := fun c => Ev (eZ G 100 40 0 0 (eFI F)) G 100 40 (4, 0, 0) kX13_matched 4 [(0, .ref (G.1 100)), (1, .ref (G.1 134)), (2, .int (nI (zSm (bHere B) c))), (3, .int (nI c))] [] M 0 0) (N := bC B) ?_ ?_ 0 (Nat.zero_le _)
  · exact B_X13_matched_134_4 G M F _ _ (S_cells G hM _ ⟨fun _ => h, fun q => absurd (Int32.le_refl _) q⟩)
  · intro c hc hn
    try dsimp only at hn
    rw [zSm, nI_succ c] at hn
    refine B_X13_matched_134_4 G M F _ _ (S_cells G hM _ ⟨fun q => absurd q (nI_ge hc (by omega)), fun _ => ⟨vp_in_nI (by omega) (by decide), ?_⟩⟩)
    rw [nI_clamp (show c < 2 ^ 31 by omega), hM.2.2.1 c hc]
    cases h1 : bAt B c with
    | none =>
      have e1 : bHere B c = 0 := by unfold bHere; rw [h1]
      rw [e1, Nat.add_zero] at hn
      exact ⟨fun q => absurd rfl q, fun _ => B_X13_matched_134_67 G M F _ _ hn⟩
    | some k =>
      have hk := (hb.2.2.2.1 c k hc h1).1
      have e1 : bHere B c = zSm (fun e => if (bTile B c e).isSome then bNm B k (bTr B k) e else 0) 3 := by unfold bHere; rw [h1]
      rw [e1] at hn
      refine ⟨fun _ => ?_, fun q => absurd q (eNeg k (by omega))⟩
      refine eDown (P := fun e => Ev (eZ G 100 40 0 0 (eFI F)) G 100 40 (4, 0, 0) kX13_matched 28 [(0, .ref (G.1 100)), (1, .ref (G.1 134)), (2, .int (nI (zSm (bHere B) c + zSm (fun e => if (bTile B c e).isSome then bNm B k (bTr B k) e else 0) e))), (3, .int (nI c)), (4, .int (nI e))] [] M 0 0) (N := 3) ?_ ?_ 0 (Nat.zero_le _)
      · exact B_X13_matched_134_28 G M F _ _ _ ⟨fun _ => B_X13_matched_134_67 G M F _ _ hn, fun q => absurd (Int32.le_refl 3) q⟩
      · intro e he hn2
        try dsimp only at hn2
        rw [zSm, nI_succ e, ← Nat.add_assoc, ← nI_add (zSm (bHere B) c + _)] at hn2
        refine B_X13_matched_134_28 G M F _ _ _ ⟨fun q => absurd q (nI_ge he (by decide)), fun _ => ?_⟩
        refine S_tileBeside_134 G hb hM _ hc (by omega) ?_
        cases h2 : bTile B c e with
        | none =>
          rw [h2] at hn2
          exact ⟨fun q => absurd rfl q, fun _ => hn2⟩
        | some k2 =>
          rw [h2] at hn2
          obtain ⟨d, -, -, -, hk2, -⟩ := hb.tile hc (by omega) h2
          exact ⟨fun _ => S_numberAt_134 G hb hM _ hc (by omega) h1 hn2, fun q => absurd q (eNeg k2 (by omega))⟩
theorem S_points_134 (G : eG) {M : eM} {B : eBd} (hb : bOk B) (hM : mB 134 135 136 137 M B) (F : Int32 → eM → Prop) (h : F (nI (bPoints B)) M) : Cal G 100 40 (7, 0, 0) kX13_points [.ref (G.1 100), .ref (G.1 134)] M (eFI F) := by
  refine C_X13_points_134 G M F (S_matched_134 G hb hM _ (S_rings_134 G hb hM _ ?_))
  rw [eL10, nI_mul, nI_add]
  exact h
