theorem S_isIn (G : eG) (M : eM) (F : Bool → eM → Prop) (a b c : Int32) (h : F (decide (b ≤ a ∧ a ≤ c)) M) : Cal G 100 40 (1, 0, 0) kX13_isIn [.int a, .int b, .int c] M (eFZ F) := by
  refine C_X13_isIn G M F a b c ⟨fun q => ?_, fun q => ⟨fun q2 => ?_, fun q2 => ?_⟩⟩
  · rwa [decide_eq_false (fun z => absurd q (Int32.not_lt.mpr z.1))] at h
  · rwa [decide_eq_false (fun z => absurd q2 (Int32.not_lt.mpr z.2))] at h
  · rwa [decide_eq_true ⟨Int32.not_lt.mp q, Int32.not_lt.mp q2⟩] at h
theorem S_cells (G : eG) {s a k t : Nat} {M : eM} {B : eBd} (hM : mB s a k t M B) (F : Int32 → eM → Prop) (h : F (nI (bC B)) M) : Cal G 100 40 (1, 0, 0) kX13_cells [.ref (G.1 100)] M (eFI F) := by
  refine C_X13_cells G M F ?_
  rw [hM.1.1, hM.1.2.1, nI_mul]
  exact h
theorem S_beside (G : eG) {s a k t : Nat} {M : eM} {B : eBd} (hb : bOk B) (hM : mB s a k t M B) (F : Int32 → eM → Prop) {c e : Nat} (hc : c < bC B) (he : e < 6) (h : F (eO (bBes B c e)) M) : Cal G 100 40 (2, 0, 0) kX13_beside [.ref (G.1 100), .int (nI c), .int (nI e)] M (eFI F) := by
  have hW : ¬ M 107 0 = 0 := by
    rw [hM.1.1]
    exact nI_ne0 (by have := hb.1; omega) (by have := hb.1; omega)
  rw [← sBes_eq hb.1 hb.2.1 hc he, ← hM.1.1, ← hM.1.2.1] at h
  refine C_X13_beside G M F (nI c) (nI e) ⟨hW, vp_in_nI he (by decide), hW, vp_in_nI he (by decide), ?_⟩
  rw [nI_clamp (show e < 2 ^ 31 by omega)]
  refine S_isIn G M _ _ _ _ ⟨fun q => ?_, fun q => ?_⟩
  · rw [sBes, if_neg (fun z => absurd (of_decide_eq_false q) (fun y => y z.1))] at h
    exact h
  · refine S_isIn G M _ _ _ _ ⟨fun q2 => ?_, fun q2 => ?_⟩
    · rw [sBes, if_neg (fun z => absurd (of_decide_eq_false q2) (fun y => y z.2))] at h
      exact h
    · rw [sBes, if_pos ⟨of_decide_eq_true q, of_decide_eq_true q2⟩] at h
      exact h
theorem bNm_eq {k t e n : Nat} (hk : k < 16) (ht : t < 6) (he : e < 6) : (3 * nI k) + ((((nI e - nI t) + 6) - ((nI e - nI t) + 6) / 6 * 6) / 2) = nI (3 * k + (e + 6 - t) % 6 / 2) := by
  have h1 : nI e - nI t + 6 = nI (e + 6 - t) := by
    rw [← nI_sub (show t ≤ e + 6 by omega), ← nI_add, ← eL6]
    rw [Int32.sub_eq_add_neg, Int32.sub_eq_add_neg, Int32.add_assoc, Int32.add_assoc, Int32.add_comm (-nI t)]
  rw [h1, eL6, nI_rem (by omega) (by decide) (by decide), eL2, nI_div (by omega) (by decide) (by decide), eL3, nI_mul, nI_add]
theorem S_numberOf (G : eG) {s a k t : Nat} {M : eM} {B : eBd} (hb : bOk B) (hM : mB s a k t M B) (F : Int32 → eM → Prop) {i u e : Nat} (hi : i < bN B) (hu : u < 6) (he : e < 6) (h : F (nI (bNm B i u e)) M) : Cal G 100 40 (1, 0, 0) kX13_numberOf [.ref (G.1 100), .int (nI i), .int (nI u), .int (nI e)] M (eFI F) := by
  have h16 := hb.2.2.1
  have h1 := bNm_in hi hu he
  refine C_X13_numberOf G M F _ _ _ ?_
  rw [bNm_eq (n := 0) (by omega) hu he]
  refine ⟨vp_in_nI (by omega) (by decide), ?_⟩
  rw [nI_clamp (by omega), hM.2.1 _ h1]
  exact h
theorem S_isInside (G : eG) {s a k t : Nat} {M : eM} {B : eBd} (hb : bOk B) (hM : mB s a k t M B) (F : Bool → eM → Prop) {c : Nat} (hc : c < bC B) (h : F (zFf (fun e => (bBes B c e).isNone) 6).isNone M) : Cal G 100 40 (3, 0, 0) kX13_isInside [.ref (G.1 100), .int (nI c)] M (eFZ F) := by
  refine C_X13_isInside G M F (nI c) ?_
  have h49 := hb.c49
  have key : ∀ i, i ≤ 6 → (∀ j, j < i → (bBes B c j).isNone = false) → Ev (eZ G 100 40 0 0 (eFZ F)) G 100 40 (3, 0, 0) kX13_isInside 2 [(0, .ref (G.1 100)), (1, .int (nI c)), (2, .int (nI i))] [] M 0 0 := by
    refine eDown (P := fun i => (∀ j, j < i → (bBes B c j).isNone = false) → Ev (eZ G 100 40 0 0 (eFZ F)) G 100 40 (3, 0, 0) kX13_isInside 2 [(0, .ref (G.1 100)), (1, .int (nI c)), (2, .int (nI i))] [] M 0 0) ?_ ?_
    · intro hj
      rw [zFf_none hj] at h
      exact B_X13_isInside_2 G M F _ _ ⟨fun _ => h, fun q => absurd (Int32.le_refl 6) q⟩
    · intro i hi hn hj
      refine B_X13_isInside_2 G M F _ _ ⟨fun q => absurd q (nI_ge hi (by decide)), fun _ => ?_⟩
      refine S_beside G hb hM _ hc hi ⟨fun q => ?_, fun q => ?_⟩
      · rw [nI_succ i] at hn
        refine hn (fun j hji => ?_)
        by_cases hje : j = i
        · subst hje
          cases h1 : bBes B c j with
          | none => rw [h1] at q; exact absurd rfl q
          | some d => rfl
        · exact hj j (by omega)
      · cases h1 : bBes B c i with
        | none =>
          rw [zFf_some hi (by rw [h1]; rfl) hj] at h
          exact h
        | some d =>
          rw [h1] at q
          exact absurd q (eNeg d (by have := (hb.bes hc hi h1).1; omega))
  exact key 0 (Nat.zero_le _) (fun j hj => absurd hj (by omega))
theorem S_tileBeside_130 (G : eG) {M : eM} {B : eBd} (hb : bOk B) (hM : mB 130 131 132 133 M B) (F : Int32 → eM → Prop) {c e : Nat} (hc : c < bC B) (he : e < 6) (h : F (eO (bTile B c e)) M) : Cal G 100 40 (3, 0, 0) kX13_tileBeside [.ref (G.1 100), .ref (G.1 130), .int (nI c), .int (nI e)] M (eFI F) := by
  refine C_X13_tileBeside_130 G M F (nI c) (nI e) (S_beside G hb hM _ hc he ?_)
  unfold bTile at h
  cases h1 : bBes B c e with
  | none =>
    rw [h1] at h
    exact ⟨fun q => absurd rfl q, fun _ => h⟩
  | some d =>
    rw [h1] at h
    have hd := (hb.bes hc he h1).1
    have h49 := hb.c49
    refine ⟨fun _ => ⟨vp_in_nI (show d < 49 by omega) (by decide), ?_⟩, fun q => absurd q (eNeg d (by omega))⟩
    rw [eO_some, nI_clamp (show d < 2 ^ 31 by omega), hM.2.2.1 d hd]
    exact h
theorem S_tb_130 (G : eG) {M : eM} {B : eBd} (hb : bOk B) (hM : mB 130 131 132 133 M B) (F : Int32 → eM → Prop) {c : Nat} (hc : c < bC B) (h : F (nI (bTb B c)) M) : Cal G 100 40 (4, 0, 0) kX13_tilesBeside [.ref (G.1 100), .ref (G.1 130), .int (nI c)] M (eFI F) := by
  refine C_X13_tilesBeside_130 G M F (nI c) ?_
  have h16 := hb.2.2.1
  refine eDown (P := fun i => Ev (eZ G 100 40 0 0 (eFI F)) G 100 40 (4, 0, 0) kX13_tilesBeside 5 [(0, .ref (G.1 100)), (1, .ref (G.1 130)), (2, .int (nI c)), (3, .int (nI (zSm (fun e => if (bTile B c e).isSome then 1 else 0) i))), (4, .int (nI i))] [] M 0 0) (N := 6) ?_ ?_ 0 (Nat.zero_le _)
  · exact B_X13_tilesBeside_130_5 G M F _ _ _ ⟨fun _ => h, fun q => absurd (Int32.le_refl 6) q⟩
  · intro i hi hn
    refine B_X13_tilesBeside_130_5 G M F _ _ _ ⟨fun q => absurd q (nI_ge hi (by decide)), fun _ => ?_⟩
    refine S_tileBeside_130 G hb hM _ hc hi ?_
    try dsimp only at hn
    rw [zSm, nI_succ i, ← nI_add] at hn
    cases h1 : bTile B c i with
    | none =>
      rw [h1] at hn
      exact ⟨fun q => absurd rfl q, fun _ => hn⟩
    | some k =>
      rw [h1] at hn
      obtain ⟨d, -, -, -, hk, -⟩ := hb.tile hc hi h1
      exact ⟨fun _ => hn, fun q => absurd q (eNeg k (by omega))⟩
theorem S_numberAt_130 (G : eG) {M : eM} {B : eBd} (hb : bOk B) (hM : mB 130 131 132 133 M B) (F : Int32 → eM → Prop) {c e i : Nat} (hc : c < bC B) (he : e < 6) (hi : bAt B c = some i) (h : F (nI (bNm B i (bTr B i) e)) M) : Cal G 100 40 (2, 0, 0) kX13_numberAt [.ref (G.1 100), .ref (G.1 130), .int (nI c), .int (nI e)] M (eFI F) := by
  have h49 := hb.c49
  have h16 := hb.2.2.1
  obtain ⟨h1, h2⟩ := hb.2.2.2.1 c i hc hi
  have h3 := (hb.2.2.2.2.1 i c h1 h2).2.2
  have e1 : M 131 (nI c).toNatClampNeg = nI i := by rw [nI_clamp (show c < 2 ^ 31 by omega), hM.2.2.1 c hc, hi]; rfl
  have e2 : M 133 (nI i).toNatClampNeg = nI (bTr B i) := by rw [nI_clamp (show i < 2 ^ 31 by omega), hM.2.2.2.2.1 i c h1 h2]
  refine C_X13_numberAt_130 G M F (nI c) (nI e) ⟨vp_in_nI (by omega) (by decide), vp_in_nI (by omega) (by decide), ?_⟩
  rw [e1, e2]
  exact ⟨vp_in_nI (by omega) (by decide), S_numberOf G hb hM _ h1 h3 he h⟩
theorem S_against_130 (G : eG) {M : eM} {B : eBd} (hb : bOk B) (hM : mB 130 131 132 133 M B) (F : Int32 → eM → Prop) {i c u : Nat} (hi : i < bN B) (hc : c < bC B) (hu : u < 6) (h : F (eO (bAgainst B i c u)) M) : Cal G 100 40 (4, 0, 0) kX13_against [.ref (G.1 100), .ref (G.1 130), .int (nI i), .int (nI c), .int (nI u)] M (eFI F) := by
  refine C_X13_against_130 G M F (nI i) (nI c) (nI u) ?_
  have h16 := hb.2.2.1
  have key : ∀ e, e ≤ 6 → (∀ j, j < e → bClash B i u c j = false) → Ev (eZ G 100 40 0 0 (eFI F)) G 100 40 (4, 0, 0) kX13_against 3 [(0, .ref (G.1 100)), (1, .ref (G.1 130)), (2, .int (nI i)), (3, .int (nI c)), (4, .int (nI u)), (5, .int (nI e))] [] M 0 0 := by
    refine eDown (P := fun e => (∀ j, j < e → bClash B i u c j = false) → Ev (eZ G 100 40 0 0 (eFI F)) G 100 40 (4, 0, 0) kX13_against 3 [(0, .ref (G.1 100)), (1, .ref (G.1 130)), (2, .int (nI i)), (3, .int (nI c)), (4, .int (nI u)), (5, .int (nI e))] [] M 0 0) ?_ ?_
    · intro hj
      unfold bAgainst at h
      rw [zFf_none hj] at h
      exact B_X13_against_130_3 G M F _ _ _ _ ⟨fun _ => h, fun q => absurd (Int32.le_refl 6) q⟩
    · intro e he hn hj
      have go : bClash B i u c e = false → Ev (eZ G 100 40 0 0 (eFI F)) G 100 40 (4, 0, 0) kX13_against 61 [(0, .ref (G.1 100)), (1, .ref (G.1 130)), (2, .int (nI i)), (3, .int (nI c)), (4, .int (nI u)), (5, .int (nI e))] [] M 0 0 := by
        intro hf
        rw [nI_succ e] at hn
        refine B_X13_against_130_61 G M F _ _ _ _ (hn (fun j hje => ?_))
        by_cases hq : j = e
        · subst hq; exact hf
        · exact hj j (by omega)
      refine B_X13_against_130_3 G M F _ _ _ _ ⟨fun q => absurd q (nI_ge he (by decide)), fun _ => ?_⟩
      refine S_tileBeside_130 G hb hM _ hc he ?_
      cases h1 : bTile B c e with
      | none => exact ⟨fun _ => go (by unfold bClash bFace; rw [h1]), fun q => absurd rfl q⟩
      | some k =>
        obtain ⟨d, hd, hbd, had, hk, hck, htk⟩ := hb.tile hc he h1
        have e3 : (e + 3) % 6 < 6 := Nat.mod_lt _ (by decide)
        have e2 : M 133 (nI k).toNatClampNeg = nI (bTr B k) := by rw [nI_clamp (show k < 2 ^ 31 by omega), hM.2.2.2.2.1 k d hk hck]
        have e4 : (nI e + 3) - (nI e + 3) / 6 * 6 = nI ((e + 3) % 6) := by rw [eL3, eL6, nI_add, nI_rem (by omega) (by decide) (by decide)]
        have hcl : bClash B i u c e = decide (bNm B k (bTr B k) ((e + 3) % 6) ≠ bNm B i u e) := by unfold bClash bFace; rw [h1]
        have hx := hb.nm hk htk e3
        have hy := hb.nm hi hu he
        refine ⟨fun q => absurd q (eNeg k (by omega)), fun _ => ⟨vp_in_nI (show k < 16 by omega) (by decide), ?_⟩⟩
        rw [eO_some, e2, e4]
        refine S_numberOf G hb hM _ hk htk e3 ?_
        refine S_numberOf G hb hM _ hi hu he ⟨fun q => go ?_, fun q => ?_⟩
        · rw [hcl, (nI_eq (by omega) (by omega)).mp q]
          exact decide_eq_false (fun z => z rfl)
        · unfold bAgainst at h
          rw [zFf_some he (by rw [hcl]; exact decide_eq_true (fun z => q (by rw [z]))) hj] at h
          exact h
  exact key 0 (Nat.zero_le _) (fun j hj => absurd hj (by omega))
theorem S_fits_130 (G : eG) {M : eM} {B : eBd} (hb : bOk B) (hM : mB 130 131 132 133 M B) (F : Bool → eM → Prop) {i c u : Nat} (hi : i < bN B) (hc : c < bC B) (hu : u < 6) (h : F (bFits B i c u) M) : Cal G 100 40 (5, 0, 0) kX13_fits [.ref (G.1 100), .ref (G.1 130), .int (nI i), .int (nI c), .int (nI u)] M (eFZ F) := by
  have h16 := hb.2.2.1
  have h49 := hb.c49
  refine C_X13_fits_130 G M F (nI i) (nI c) (nI u) ⟨vp_in_nI (by omega) (by decide), ?_⟩
  rw [nI_clamp (show i < 2 ^ 31 by omega), hM.2.2.2.1 i hi]
  unfold bFits at h
  cases h1 : bCe B i with
  | some c' =>
    rw [h1] at h
    have := (hb.2.2.2.2.1 i c' hi h1).1
    exact ⟨fun _ => h, fun q => absurd q (eNeg c' (by omega))⟩
  | none =>
    refine ⟨fun q => absurd rfl q, fun _ => ⟨vp_in_nI (by omega) (by decide), ?_⟩⟩
    rw [nI_clamp (show c < 2 ^ 31 by omega), hM.2.2.1 c hc]
    cases h2 : bAt B c with
    | some k =>
      rw [h1, h2] at h
      have := (hb.2.2.2.1 c k hc h2).1
      exact ⟨fun q => absurd q (eNeg k (by omega)), fun _ => h⟩
    | none =>
      refine ⟨fun _ => ?_, fun q => absurd rfl q⟩
      rw [h1, h2] at h
      have hP : bP B ≤ 16 := by
        rw [hb.2.2.2.2.2.2]
        have := zSm_le (f := fun k => if (bCe B k).isSome then 1 else 0) (k := 1) (n := bN B) (fun i _ => by split <;> omega)
        omega
      rw [hM.2.2.2.2.2]
      refine ⟨fun q => ?_, fun q => ?_⟩
      · have hp : ¬ bP B = 0 := fun z => q (by rw [z]; rfl)
        rw [decide_eq_false hp] at h
        have h6 := bTb_le B c
        refine S_tb_130 G hb hM _ hc ⟨fun q2 => ?_, fun q2 => ?_⟩
        · have : bTb B c ≤ 0 := (nI_leI (by omega) (by decide)).mp q2
          rw [decide_eq_false (show ¬ 0 < bTb B c by omega)] at h
          exact h
        · have hlt : 0 < bTb B c := by
            refine Decidable.byContradiction fun z => q2 ?_
            rw [show bTb B c = 0 by omega]
            exact Int32.le_refl _
          rw [decide_eq_true hlt] at h
          refine S_against_130 G hb hM _ hi hc hu ?_
          cases h3 : bAgainst B i c u with
          | none => rw [h3] at h; exact ⟨fun q => absurd rfl q, fun _ => h⟩
          | some e =>
            rw [h3] at h
            exact ⟨fun _ => h, fun q => absurd q (eNeg e (by have := (zFf_some' h3).1; omega))⟩
      · have hp : bP B = 0 := (nI_eq (by omega) (by decide)).mp q
        rw [decide_eq_true hp] at h
        exact h
theorem S_tileBeside_134 (G : eG) {M : eM} {B : eBd} (hb : bOk B) (hM : mB 134 135 136 137 M B) (F : Int32 → eM → Prop) {c e : Nat} (hc : c < bC B) (he : e < 6) (h : F (eO (bTile B c e)) M) : Cal G 100 40 (3, 0, 0) kX13_tileBeside [.ref (G.1 100), .ref (G.1 134), .int (nI c), .int (nI e)] M (eFI F) := by
  refine C_X13_tileBeside_134 G M F (nI c) (nI e) (S_beside G hb hM _ hc he ?_)
  unfold bTile at h
  cases h1 : bBes B c e with
  | none =>
    rw [h1] at h
    exact ⟨fun q => absurd rfl q, fun _ => h⟩
  | some d =>
    rw [h1] at h
    have hd := (hb.bes hc he h1).1
    have h49 := hb.c49
    refine ⟨fun _ => ⟨vp_in_nI (show d < 49 by omega) (by decide), ?_⟩, fun q => absurd q (eNeg d (by omega))⟩
    rw [eO_some, nI_clamp (show d < 2 ^ 31 by omega), hM.2.2.1 d hd]
    exact h
theorem S_tb_134 (G : eG) {M : eM} {B : eBd} (hb : bOk B) (hM : mB 134 135 136 137 M B) (F : Int32 → eM → Prop) {c : Nat} (hc : c < bC B) (h : F (nI (bTb B c)) M) : Cal G 100 40 (4, 0, 0) kX13_tilesBeside [.ref (G.1 100), .ref (G.1 134), .int (nI c)] M (eFI F) := by
  refine C_X13_tilesBeside_134 G M F (nI c) ?_
  have h16 := hb.2.2.1
  refine eDown (P := fun i => Ev (eZ G 100 40 0 0 (eFI F)) G 100 40 (4, 0, 0) kX13_tilesBeside 5 [(0, .ref (G.1 100)), (1, .ref (G.1 134)), (2, .int (nI c)), (3, .int (nI (zSm (fun e => if (bTile B c e).isSome then 1 else 0) i))), (4, .int (nI i))] [] M 0 0) (N := 6) ?_ ?_ 0 (Nat.zero_le _)
  · exact B_X13_tilesBeside_134_5 G M F _ _ _ ⟨fun _ => h, fun q => absurd (Int32.le_refl 6) q⟩
  · intro i hi hn
    refine B_X13_tilesBeside_134_5 G M F _ _ _ ⟨fun q => absurd q (nI_ge hi (by decide)), fun _ => ?_⟩
    refine S_tileBeside_134 G hb hM _ hc hi ?_
    try dsimp only at hn
    rw [zSm, nI_succ i, ← nI_add] at hn
    cases h1 : bTile B c i with
    | none =>
      rw [h1] at hn
      exact ⟨fun q => absurd rfl q, fun _ => hn⟩
    | some k =>
      rw [h1] at hn
      obtain ⟨d, -, -, -, hk, -⟩ := hb.tile hc hi h1
      exact ⟨fun _ => hn, fun q => absurd q (eNeg k (by omega))⟩
theorem S_numberAt_134 (G : eG) {M : eM} {B : eBd} (hb : bOk B) (hM : mB 134 135 136 137 M B) (F : Int32 → eM → Prop) {c e i : Nat} (hc : c < bC B) (he : e < 6) (hi : bAt B c = some i) (h : F (nI (bNm B i (bTr B i) e)) M) : Cal G 100 40 (2, 0, 0) kX13_numberAt [.ref (G.1 100), .ref (G.1 134), .int (nI c), .int (nI e)] M (eFI F) := by
  have h49 := hb.c49
  have h16 := hb.2.2.1
  obtain ⟨h1, h2⟩ := hb.2.2.2.1 c i hc hi
  have h3 := (hb.2.2.2.2.1 i c h1 h2).2.2
  have e1 : M 135 (nI c).toNatClampNeg = nI i := by rw [nI_clamp (show c < 2 ^ 31 by omega), hM.2.2.1 c hc, hi]; rfl
  have e2 : M 137 (nI i).toNatClampNeg = nI (bTr B i) := by rw [nI_clamp (show i < 2 ^ 31 by omega), hM.2.2.2.2.1 i c h1 h2]
  refine C_X13_numberAt_134 G M F (nI c) (nI e) ⟨vp_in_nI (by omega) (by decide), vp_in_nI (by omega) (by decide), ?_⟩
  rw [e1, e2]
  exact ⟨vp_in_nI (by omega) (by decide), S_numberOf G hb hM _ h1 h3 he h⟩
theorem S_against_134 (G : eG) {M : eM} {B : eBd} (hb : bOk B) (hM : mB 134 135 136 137 M B) (F : Int32 → eM → Prop) {i c u : Nat} (hi : i < bN B) (hc : c < bC B) (hu : u < 6) (h : F (eO (bAgainst B i c u)) M) : Cal G 100 40 (4, 0, 0) kX13_against [.ref (G.1 100), .ref (G.1 134), .int (nI i), .int (nI c), .int (nI u)] M (eFI F) := by
  refine C_X13_against_134 G M F (nI i) (nI c) (nI u) ?_
  have h16 := hb.2.2.1
  have key : ∀ e, e ≤ 6 → (∀ j, j < e → bClash B i u c j = false) → Ev (eZ G 100 40 0 0 (eFI F)) G 100 40 (4, 0, 0) kX13_against 3 [(0, .ref (G.1 100)), (1, .ref (G.1 134)), (2, .int (nI i)), (3, .int (nI c)), (4, .int (nI u)), (5, .int (nI e))] [] M 0 0 := by
    refine eDown (P := fun e => (∀ j, j < e → bClash B i u c j = false) → Ev (eZ G 100 40 0 0 (eFI F)) G 100 40 (4, 0, 0) kX13_against 3 [(0, .ref (G.1 100)), (1, .ref (G.1 134)), (2, .int (nI i)), (3, .int (nI c)), (4, .int (nI u)), (5, .int (nI e))] [] M 0 0) ?_ ?_
    · intro hj
      unfold bAgainst at h
      rw [zFf_none hj] at h
      exact B_X13_against_134_3 G M F _ _ _ _ ⟨fun _ => h, fun q => absurd (Int32.le_refl 6) q⟩
    · intro e he hn hj
      have go : bClash B i u c e = false → Ev (eZ G 100 40 0 0 (eFI F)) G 100 40 (4, 0, 0) kX13_against 61 [(0, .ref (G.1 100)), (1, .ref (G.1 134)), (2, .int (nI i)), (3, .int (nI c)), (4, .int (nI u)), (5, .int (nI e))] [] M 0 0 := by
        intro hf
        rw [nI_succ e] at hn
        refine B_X13_against_134_61 G M F _ _ _ _ (hn (fun j hje => ?_))
        by_cases hq : j = e
        · subst hq; exact hf
        · exact hj j (by omega)
      refine B_X13_against_134_3 G M F _ _ _ _ ⟨fun q => absurd q (nI_ge he (by decide)), fun _ => ?_⟩
      refine S_tileBeside_134 G hb hM _ hc he ?_
      cases h1 : bTile B c e with
      | none => exact ⟨fun _ => go (by unfold bClash bFace; rw [h1]), fun q => absurd rfl q⟩
      | some k =>
        obtain ⟨d, hd, hbd, had, hk, hck, htk⟩ := hb.tile hc he h1
        have e3 : (e + 3) % 6 < 6 := Nat.mod_lt _ (by decide)
        have e2 : M 137 (nI k).toNatClampNeg = nI (bTr B k) := by rw [nI_clamp (show k < 2 ^ 31 by omega), hM.2.2.2.2.1 k d hk hck]
        have e4 : (nI e + 3) - (nI e + 3) / 6 * 6 = nI ((e + 3) % 6) := by rw [eL3, eL6, nI_add, nI_rem (by omega) (by decide) (by decide)]
        have hcl : bClash B i u c e = decide (bNm B k (bTr B k) ((e + 3) % 6) ≠ bNm B i u e) := by unfold bClash bFace; rw [h1]
        have hx := hb.nm hk htk e3
        have hy := hb.nm hi hu he
        refine ⟨fun q => absurd q (eNeg k (by omega)), fun _ => ⟨vp_in_nI (show k < 16 by omega) (by decide), ?_⟩⟩
        rw [eO_some, e2, e4]
        refine S_numberOf G hb hM _ hk htk e3 ?_
        refine S_numberOf G hb hM _ hi hu he ⟨fun q => go ?_, fun q => ?_⟩
        · rw [hcl, (nI_eq (by omega) (by omega)).mp q]
          exact decide_eq_false (fun z => z rfl)
        · unfold bAgainst at h
          rw [zFf_some he (by rw [hcl]; exact decide_eq_true (fun z => q (by rw [z]))) hj] at h
          exact h
  exact key 0 (Nat.zero_le _) (fun j hj => absurd hj (by omega))
theorem S_fits_134 (G : eG) {M : eM} {B : eBd} (hb : bOk B) (hM : mB 134 135 136 137 M B) (F : Bool → eM → Prop) {i c u : Nat} (hi : i < bN B) (hc : c < bC B) (hu : u < 6) (h : F (bFits B i c u) M) : Cal G 100 40 (5, 0, 0) kX13_fits [.ref (G.1 100), .ref (G.1 134), .int (nI i), .int (nI c), .int (nI u)] M (eFZ F) := by
  have h16 := hb.2.2.1
  have h49 := hb.c49
  refine C_X13_fits_134 G M F (nI i) (nI c) (nI u) ⟨vp_in_nI (by omega) (by decide), ?_⟩
  rw [nI_clamp (show i < 2 ^ 31 by omega), hM.2.2.2.1 i hi]
  unfold bFits at h
  cases h1 : bCe B i with
  | some c' =>
    rw [h1] at h
    have := (hb.2.2.2.2.1 i c' hi h1).1
    exact ⟨fun _ => h, fun q => absurd q (eNeg c' (by omega))⟩
  | none =>
    refine ⟨fun q => absurd rfl q, fun _ => ⟨vp_in_nI (by omega) (by decide), ?_⟩⟩
    rw [nI_clamp (show c < 2 ^ 31 by omega), hM.2.2.1 c hc]
    cases h2 : bAt B c with
    | some k =>
      rw [h1, h2] at h
      have := (hb.2.2.2.1 c k hc h2).1
      exact ⟨fun q => absurd q (eNeg k (by omega)), fun _ => h⟩
    | none =>
      refine ⟨fun _ => ?_, fun q => absurd rfl q⟩
      rw [h1, h2] at h
      have hP : bP B ≤ 16 := by
        rw [hb.2.2.2.2.2.2]
        have := zSm_le (f := fun k => if (bCe B k).isSome then 1 else 0) (k := 1) (n := bN B) (fun i _ => by split <;> omega)
        omega
      rw [hM.2.2.2.2.2]
      refine ⟨fun q => ?_, fun q => ?_⟩
      · have hp : ¬ bP B = 0 := fun z => q (by rw [z]; rfl)
        rw [decide_eq_false hp] at h
        have h6 := bTb_le B c
        refine S_tb_134 G hb hM _ hc ⟨fun q2 => ?_, fun q2 => ?_⟩
        · have : bTb B c ≤ 0 := (nI_leI (by omega) (by decide)).mp q2
          rw [decide_eq_false (show ¬ 0 < bTb B c by omega)] at h
          exact h
        · have hlt : 0 < bTb B c := by
            refine Decidable.byContradiction fun z => q2 ?_
            rw [show bTb B c = 0 by omega]
            exact Int32.le_refl _
          rw [decide_eq_true hlt] at h
          refine S_against_134 G hb hM _ hi hc hu ?_
          cases h3 : bAgainst B i c u with
          | none => rw [h3] at h; exact ⟨fun q => absurd rfl q, fun _ => h⟩
          | some e =>
            rw [h3] at h
            exact ⟨fun _ => h, fun q => absurd q (eNeg e (by have := (zFf_some' h3).1; omega))⟩
      · have hp : bP B = 0 := (nI_eq (by omega) (by decide)).mp q
        rw [decide_eq_true hp] at h
        exact h
