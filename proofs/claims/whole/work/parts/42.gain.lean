/-! ===== what a way brings; the best way ===== -/
theorem bNone_of0 {B : eBd} (hb : bOk B) (h0 : bP B = 0) {c : Nat} (hc : c < bC B) : bAt B c = none := by
  cases h1 : bAt B c with
  | none => rfl
  | some k =>
    obtain ⟨h2, h3⟩ := hb.2.2.2.1 c k hc h1
    have := hb.2.2.2.2.2.2
    rw [h0] at this
    have h4 := zSm_of0 this.symm k h2
    try dsimp only at h4
    rw [h3] at h4
    exact absurd h4 (by simp)
theorem bTile_of0 {B : eBd} (hb : bOk B) (h0 : bP B = 0) {c e : Nat} (hc : c < bC B) (he : e < 6) : bTile B c e = none := by
  unfold bTile
  cases h1 : bBes B c e with
  | none => rfl
  | some d => exact bNone_of0 hb h0 (hb.bes hc he h1).1
theorem bTb_of0 {B : eBd} (hb : bOk B) (h0 : bP B = 0) {c : Nat} (hc : c < bC B) : bTb B c = 0 := zSm_zero (fun e he => by rw [bTile_of0 hb h0 hc he]; rfl)
theorem bGain_of0 {B : eBd} (hb : bOk B) (h0 : bP B = 0) {c : Nat} (hc : c < bC B) : bGain B c = 0 := by
  refine zSm_zero (fun e he => ?_)
  unfold bGainE bFace
  rw [bTile_of0 hb h0 hc he]
  cases h1 : bBes B c e with
  | none => rfl
  | some d =>
    try dsimp only
    rw [bTb_of0 hb h0 (hb.bes hc he h1).1]
    rfl
theorem bTb_two {B : eBd} {d a b : Nat} (ha : a < 6) (hb : b < 6) (hab : a ≠ b) (h1 : bTile B d a = none) (h2 : bTile B d b = none) : bTb B d ≤ 4 := by
  have e1 := zSm_diff (f := fun e => if (bTile B d e).isSome then 1 else 0) (g := fun e => if e = a then 1 else if (bTile B d e).isSome then 1 else 0) (k := a) (a := 1) (n := 6) ha (by rw [if_pos rfl, h1]; rfl) (fun i _ hi => by rw [if_neg hi])
  have e2 := zSm_diff (f := fun e => if e = a then 1 else if (bTile B d e).isSome then 1 else 0) (g := fun e => if e = b then 1 else if e = a then 1 else if (bTile B d e).isSome then 1 else 0) (k := b) (a := 1) (n := 6) hb (by rw [if_pos rfl, if_neg (fun z => hab z.symm), h2]; rfl) (fun i _ hi => by rw [if_neg hi])
  have e3 := zSm_le (f := fun e => if e = b then 1 else if e = a then 1 else if (bTile B d e).isSome then 1 else 0) (k := 1) (n := 6) (fun i _ => by repeat (first | split | omega))
  unfold bTb
  omega
theorem bInside {B : eBd} (hb : bOk B) {c e d : Nat} (hc : c < bC B) (he : e < 6) (h : bBes B c e = some d) (h1 : bAt B c = none) (h5 : bTb B d = 5) : zFf (fun e => (bBes B d e).isNone) 6 = none := by
  obtain ⟨hd, h2, -⟩ := hb.bes hc he h
  refine zFf_none (fun a ha => ?_)
  cases h3 : bBes B d a with
  | some x => rfl
  | none =>
    have h4 : a ≠ (e + 3) % 6 := fun z => by rw [z, h2] at h3; cases h3
    have := bTb_two ha (Nat.mod_lt (e + 3) (by decide)) h4 (by unfold bTile; rw [h3]) (by unfold bTile; rw [h2]; exact h1)
    omega
theorem bFits_face {B : eBd} {k c u : Nat} (h : bFits B k c u = true) : bCe B k = none ∧ bAt B c = none ∧ (bP B = 0 ∨ (∀ e x, e < 6 → bFace B c e = some x → x = bNm B k u e)) := by
  unfold bFits at h
  simp only [Bool.and_eq_true, Bool.or_eq_true, decide_eq_true_eq, Option.isNone_iff_eq_none] at h
  refine ⟨h.1.1, h.1.2, ?_⟩
  rcases h.2 with h0 | ⟨-, h1⟩
  · exact Or.inl h0
  · refine Or.inr (fun e x he hx => ?_)
    have h2 := zFf_none' h1 e he
    unfold bClash at h2
    rw [hx] at h2
    exact Decidable.byContradiction fun z => absurd h2 (by try dsimp only; rw [decide_eq_true z]; decide)
/-- the best way after so many cells, and after so many turns of the next -/
def hbS (B : eBd) (k c : Nat) : Option (Nat × Nat) := match zBest (fun c => (bAny B k c).isSome) (bGain B) c with
  | none => none
  | some b => some (b, (bAny B k b).getD 0)
def hbT (B : eBd) (k c u : Nat) : Option (Nat × Nat) := match zFf (bFits B k c) u with
  | none => hbS B k c
  | some t => match zBest (fun c => (bAny B k c).isSome) (bGain B) c with
    | none => some (c, t)
    | some b => if bGain B b < bGain B c then some (c, t) else hbS B k c
theorem hbT_6 (B : eBd) (k c : Nat) : hbT B k c 6 = hbS B k (c + 1) := by
  unfold hbT hbS
  rw [zBest]
  cases h1 : zFf (bFits B k c) 6 with
  | none =>
    have e1 : (bAny B k c).isSome = false := by unfold bAny; rw [h1]; rfl
    cases h2 : zBest (fun c => (bAny B k c).isSome) (bGain B) c with
    | none => try dsimp only; rw [e1]; rfl
    | some b => try dsimp only; rw [e1]; rfl
  | some t =>
    have e0 : bAny B k c = some t := h1
    have e2 : (bAny B k c).isSome = true := by rw [e0]; rfl
    cases h2 : zBest (fun c => (bAny B k c).isSome) (bGain B) c with
    | none =>
      dsimp only
      rw [if_pos e2]
      dsimp only
      rw [e0]
      rfl
    | some b =>
      dsimp only
      by_cases hq : bGain B b < bGain B c
      · rw [if_pos hq, e2, decide_eq_true hq, if_pos (show (true && true) = true from rfl)]
        dsimp only
        rw [e0]
        rfl
      · rw [if_neg hq, e2, decide_eq_false hq, if_neg (show ¬ (true && false) = true by decide)]
def hbI (M M1 : eM) (B : eBd) (o : Option (Nat × Nat)) : Prop := (∀ j, j ≠ 100 → M1 j = M j) ∧ (∀ j, j ≠ 21 → j ≠ 22 → j ≠ 23 → M1 100 j = M 100 j) ∧ (match o with
  | none => M1 100 21 = -1
  | some (b, u) => M1 100 21 = nI (bGain B b) ∧ M1 100 22 = nI b ∧ M1 100 23 = nI u)
theorem S_gain_130 (G : eG) {M : eM} {B : eBd} (hb : bOk B) (hM : mB 130 131 132 133 M B) (F : Int32 → eM → Prop) {k c u : Nat} (hk : k < bN B) (hc : c < bC B) (hu : u < 6) (hf : bFits B k c u = true) (h : F (nI (bGain B c)) M) : Cal G 100 40 (5, 0, 0) kX13_gain [.ref (G.1 100), .ref (G.1 130), .int (nI k), .int (nI c), .int (nI u)] M (eFI F) := by
  have h49 := hb.c49
  have h16 := hb.2.2.1
  obtain ⟨f1, f2, f3⟩ := bFits_face hf
  have hP : bP B ≤ 16 := by
    rw [hb.2.2.2.2.2.2]
    have := zSm_le (f := fun k => if (bCe B k).isSome then 1 else 0) (k := 1) (n := bN B) (fun i _ => by split <;> omega)
    omega
  refine C_X13_gain_130 G M F (nI k) (nI c) (nI u) ⟨fun q => ?_, fun q => ?_⟩
  · have hp : ¬ bP B = 0 := fun z => q (by rw [hM.2.2.2.2.2, z]; rfl)
    have f4 := f3.resolve_left hp
    have hat : M 131 (nI c).toNatClampNeg = -1 := by rw [nI_clamp (show c < 2 ^ 31 by omega), hM.2.2.1 c hc, f2]; rfl
    refine eDown (P := fun e => Ev (eZ G 100 40 0 0 (eFI F)) G 100 40 (5, 0, 0) kX13_gain 15 [(0, .ref (G.1 100)), (1, .ref (G.1 130)), (2, .int (nI k)), (3, .int (nI c)), (4, .int (nI u)), (5, .int (nI (zSm (bGainE B c) e))), (6, .int (nI e))] [] M 0 0) (N := 6) ?_ ?_ 0 (Nat.zero_le _)
    · exact B_X13_gain_130_15 G M F _ _ _ _ _ ⟨fun _ => h, fun q => absurd (Int32.le_refl 6) q⟩
    · intro e he hn
      try dsimp only at hn
      rw [zSm, nI_succ e] at hn
      refine B_X13_gain_130_15 G M F _ _ _ _ _ ⟨fun q => absurd q (nI_ge he (by decide)), fun _ => S_beside G hb hM _ hc he ?_⟩
      cases h1 : bBes B c e with
      | none =>
        have e1 : bFace B c e = none := by unfold bFace bTile; rw [h1]
        rw [bGainE_none h1, e1] at hn
        exact ⟨fun q => absurd rfl q, fun _ => B_X13_gain_130_110 G M F _ _ _ _ _ hn⟩
      | some d =>
        obtain ⟨hd, -, -⟩ := hb.bes hc he h1
        have h6 := bTb_le B d
        rw [bGainE_some h1] at hn
        refine ⟨fun _ => ⟨vp_in_nI (by omega) (by decide), ?_⟩, fun q => absurd q (eNeg d (by omega))⟩
        rw [eO_some, nI_clamp (show d < 2 ^ 31 by omega), hM.2.2.1 d hd]
        have go : ∀ (x0 : Int32), x0 = nI (zSm (bGainE B c) e + (bFace B c e).getD 0) → Cal G 100 40 (4, 0, 0) kX13_tilesBeside [.ref (G.1 100), .ref (G.1 130), .int (nI d)] M (eFI (fun (r3 : Int32) (M3 : eM) => ((¬ r3 = 5) → Ev (eZ G 100 40 0 0 (eFI F)) G 100 40 (5, 0, 0) kX13_gain 110 [(0, .ref (G.1 100)), (1, .ref (G.1 130)), (2, .int (nI k)), (3, .int (nI c)), (4, .int (nI u)), (5, .int (x0 + 0)), (6, .int (nI e))] [] M3 0 0) ∧ ((r3 = 5) → vp_in (nI c) 49 ∧ (((¬ (M3 131 (nI c).toNatClampNeg) = (-1)) → Ev (eZ G 100 40 0 0 (eFI F)) G 100 40 (5, 0, 0) kX13_gain 110 [(0, .ref (G.1 100)), (1, .ref (G.1 130)), (2, .int (nI k)), (3, .int (nI c)), (4, .int (nI u)), (5, .int (x0 + 0)), (6, .int (nI e))] [] M3 0 0) ∧ (((M3 131 (nI c).toNatClampNeg) = (-1)) → Cal G 100 40 (3, 0, 0) kX13_isInside [.ref (G.1 100), .int (nI d)] M3 (eFZ (fun (r4 : Bool) (M4 : eM) => ((r4 = false) → Ev (eZ G 100 40 0 0 (eFI F)) G 100 40 (5, 0, 0) kX13_gain 110 [(0, .ref (G.1 100)), (1, .ref (G.1 130)), (2, .int (nI k)), (3, .int (nI c)), (4, .int (nI u)), (5, .int (x0 + 0)), (6, .int (nI e))] [] M4 0 0) ∧ ((r4 = true) → Ev (eZ G 100 40 0 0 (eFI F)) G 100 40 (5, 0, 0) kX13_gain 110 [(0, .ref (G.1 100)), (1, .ref (G.1 130)), (2, .int (nI k)), (3, .int (nI c)), (4, .int (nI u)), (5, .int (x0 + 10)), (6, .int (nI e))] [] M4 0 0)))))))) := by
          intro x0 hx0
          subst hx0
          refine S_tb_130 G hb hM _ hd ⟨fun q5 => ?_, fun q5 => ⟨vp_in_nI (by omega) (by decide), fun q6 => absurd hat q6, fun _ => ?_⟩⟩
          · rw [if_neg (fun z => q5 (by rw [z]; rfl)), ← Nat.add_assoc] at hn
            rw [eL0, nI_add]
            exact B_X13_gain_130_110 G M F _ _ _ _ _ hn
          · have h5 : bTb B d = 5 := (nI_eq (by omega) (by decide)).mp q5
            rw [if_pos h5, ← Nat.add_assoc] at hn
            refine S_isInside G hb hM _ hd ?_
            rw [bInside hb hc he h1 f2 h5]
            refine ⟨fun q7 => absurd q7 (by decide), fun _ => ?_⟩
            rw [eL10, nI_add]
            exact B_X13_gain_130_110 G M F _ _ _ _ _ hn
        cases h2 : bAt B d with
        | none =>
          have e1 : bFace B c e = none := by unfold bFace bTile; rw [h1]; try dsimp only; rw [h2]
          refine ⟨fun q => absurd rfl q, fun _ => go _ ?_⟩
          rw [e1, eL0, nI_add]
          rfl
        | some k2 =>
          obtain ⟨hk2, -⟩ := hb.2.2.2.1 d k2 hd h2
          have e2 : bTile B c e = some k2 := by unfold bTile; rw [h1]; exact h2
          have e3 : ∃ x, bFace B c e = some x := by unfold bFace; rw [e2]; exact ⟨_, rfl⟩
          obtain ⟨x, e4⟩ := e3
          have e5 := f4 e x he e4
          refine ⟨fun _ => S_numberOf G hb hM _ hk hu he (go _ ?_), fun q => absurd q (eNeg k2 (by omega))⟩
          rw [e4, nI_add, ← e5]
          rfl
  · have hp : bP B = 0 := (nI_eq (by omega) (by decide)).mp (by rw [← hM.2.2.2.2.2]; exact q)
    rw [bGain_of0 hb hp hc] at h
    exact h
theorem S_hasBest_130 (G : eG) {M : eM} {B : eBd} (hb : bOk B) (hM : mB 130 131 132 133 M B) (F : Bool → eM → Prop) {k : Nat} (hk : k < bN B) (h : ∀ M1, hbI M M1 B (hbS B k (bC B)) → F (bRich B k).isSome M1) : Cal G 100 40 (6, 0, 0) kX13_hasBest [.ref (G.1 100), .ref (G.1 130), .int (nI k)] M (eFZ F) := by
  have h49 := hb.c49
  have h16 := hb.2.2.1
  have hm : ∀ M1 o, hbI M M1 B o → mB 130 131 132 133 M1 B := fun M1 o hI => hM.of (hI.1 _ (by decide)) (hI.1 _ (by decide)) (hI.1 _ (by decide)) (hI.1 _ (by decide)) (hI.1 _ (by decide)) (hI.1 _ (by decide))
  refine C_X13_hasBest_130 G M F (nI k) ?_
  have key : ∀ c, c ≤ bC B → ∀ M1, hbI M M1 B (hbS B k c) → Ev (eZ G 100 40 0 0 (eFZ F)) G 100 40 (6, 0, 0) kX13_hasBest 7 [(0, .ref (G.1 100)), (1, .ref (G.1 130)), (2, .int (nI k)), (3, .int (nI c))] [] M1 0 0 := by
    refine eDown (P := fun c => ∀ M1, hbI M M1 B (hbS B k c) → Ev (eZ G 100 40 0 0 (eFZ F)) G 100 40 (6, 0, 0) kX13_hasBest 7 [(0, .ref (G.1 100)), (1, .ref (G.1 130)), (2, .int (nI k)), (3, .int (nI c))] [] M1 0 0) ?_ ?_
    · intro M1 hI
      have h0 := h M1 hI
      refine B_X13_hasBest_130_7 G M1 F _ _ (S_cells G (hm _ _ hI) _ ⟨fun _ => ?_, fun q => absurd (Int32.le_refl _) q⟩)
      have h1 := hI.2.2
      unfold hbS at h1
      unfold bRich at h0
      cases h2 : zBest (fun c => (bAny B k c).isSome) (bGain B) (bC B) with
      | none =>
        rw [h2] at h1 h0
        exact ⟨fun _ => h0, fun q => absurd h1 q⟩
      | some b =>
        rw [h2] at h1 h0
        have hg := bGain_le hb (zBest_lt h2).1
        refine ⟨fun q => absurd ?_ (eNeg (bGain B b) (by omega)), fun _ => h0⟩
        rw [← h1.1]
        exact q
    · intro c hc hn M1 hI
      have hg := bGain_le hb hc
      refine B_X13_hasBest_130_7 G M1 F _ _ (S_cells G (hm _ _ hI) _ ⟨fun q => absurd q (nI_ge hc (by omega)), fun _ => ?_⟩)
      have key2 : ∀ u, u ≤ 6 → ∀ M2, hbI M M2 B (hbT B k c u) → Ev (eZ G 100 40 0 0 (eFZ F)) G 100 40 (6, 0, 0) kX13_hasBest 18 [(0, .ref (G.1 100)), (1, .ref (G.1 130)), (2, .int (nI k)), (3, .int (nI c)), (4, .int (nI u))] [] M2 0 0 := by
        refine eDown (P := fun u => ∀ M2, hbI M M2 B (hbT B k c u) → Ev (eZ G 100 40 0 0 (eFZ F)) G 100 40 (6, 0, 0) kX13_hasBest 18 [(0, .ref (G.1 100)), (1, .ref (G.1 130)), (2, .int (nI k)), (3, .int (nI c)), (4, .int (nI u))] [] M2 0 0) ?_ ?_
        · intro M2 hJ
          rw [hbT_6] at hJ
          refine B_X13_hasBest_130_18 G M2 F _ _ _ ⟨fun _ => ?_, fun q => absurd (Int32.le_refl 6) q⟩
          rw [← nI_succ]
          exact hn M2 hJ
        · intro u hu hn2 M2 hJ
          have go : ∀ M3, hbI M M3 B (hbT B k c (u + 1)) → Ev (eZ G 100 40 0 0 (eFZ F)) G 100 40 (6, 0, 0) kX13_hasBest 80 [(0, .ref (G.1 100)), (1, .ref (G.1 130)), (2, .int (nI k)), (3, .int (nI c)), (4, .int (nI u))] [] M3 0 0 := by
            intro M3 h3
            refine B_X13_hasBest_130_80 G M3 F _ _ _ ?_
            rw [← nI_succ]
            exact hn2 M3 h3
          refine B_X13_hasBest_130_18 G M2 F _ _ _ ⟨fun q => absurd q (nI_ge hu (by decide)), fun _ => ?_⟩
          refine S_fits_130 G hb (hm _ _ hJ) _ hk hc hu ⟨fun q => ?_, fun q => go M2 ?_⟩
          · refine S_gain_130 G hb (hm _ _ hJ) _ hk hc hu q ?_
            cases h1 : zFf (bFits B k c) u with
            | some t =>
              have e1 : zFf (bFits B k c) (u + 1) = some t := by rw [zFf, h1]; rfl
              have e2 : hbT B k c (u + 1) = hbT B k c u := by unfold hbT; rw [e1, h1]
              refine ⟨fun q2 => absurd q2 ?_, fun _ => go M2 (by rw [e2]; exact hJ)⟩
              have h2 := hJ.2.2
              unfold hbT at h2
              rw [h1] at h2
              cases h3 : zBest (fun c => (bAny B k c).isSome) (bGain B) c with
              | none =>
                rw [h3] at h2
                try dsimp only at h2
                rw [h2.1]
                exact Int32.not_lt.mpr (Int32.le_refl _)
              | some b =>
                rw [h3] at h2
                try dsimp only at h2
                have hgb := bGain_le hb (show b < bC B by have := (zBest_lt h3).1; omega)
                by_cases hq : bGain B b < bGain B c
                · rw [if_pos hq] at h2
                  rw [h2.1]
                  exact Int32.not_lt.mpr (Int32.le_refl _)
                · rw [if_neg hq] at h2
                  unfold hbS at h2
                  rw [h3] at h2
                  try dsimp only at h2
                  rw [h2.1]
                  exact Int32.not_lt.mpr (nI_le (by omega) (by omega))
            | none =>
              have e1 : zFf (bFits B k c) (u + 1) = some u := by rw [zFf, h1, q]; rfl
              have h2 := hJ.2.2
              unfold hbT at h2
              rw [h1] at h2
              unfold hbS at h2
              have hset : hbT B k c (u + 1) = some (c, u) → hbI M (eU (eU (eU M2 100 21 (nI (bGain B c))) 100 22 (nI c)) 100 23 (nI u)) B (hbT B k c (u + 1)) := by
                intro e2
                rw [e2]
                refine ⟨fun j hj => by rw [eU_other _ _ _ hj, eU_other _ _ _ hj, eU_other _ _ _ hj]; exact hJ.1 j hj, fun j a1 a2 a3 => by rw [eU_place _ _ _ _ a3, eU_place _ _ _ _ a2, eU_place _ _ _ _ a1]; exact hJ.2.1 j a1 a2 a3, ?_⟩
                refine ⟨?_, ?_, ?_⟩
                · rw [eU_place _ _ _ _ (by decide), eU_place _ _ _ _ (by decide), eU_same]
                · rw [eU_place _ _ _ _ (by decide), eU_same]
                · rw [eU_same]
              cases h3 : zBest (fun c => (bAny B k c).isSome) (bGain B) c with
              | none =>
                rw [h3] at h2
                try dsimp only at h2
                have e2 : hbT B k c (u + 1) = some (c, u) := by unfold hbT; rw [e1, h3]
                refine ⟨fun _ => go _ (hset e2), fun q2 => absurd ?_ q2⟩
                rw [h2]
                exact Int32.lt_of_lt_of_le eM1lt (nI_pos' (by omega))
              | some b =>
                rw [h3] at h2
                try dsimp only at h2
                have hgb := bGain_le hb (show b < bC B by have := (zBest_lt h3).1; omega)
                by_cases hq : bGain B b < bGain B c
                · have e2 : hbT B k c (u + 1) = some (c, u) := by unfold hbT; rw [e1, h3]; try dsimp only; rw [if_pos hq]
                  refine ⟨fun _ => go _ (hset e2), fun q2 => absurd ?_ q2⟩
                  rw [h2.1]
                  exact nI_lt hq (by omega)
                · have e2 : hbT B k c (u + 1) = hbT B k c u := by
                    unfold hbT
                    rw [e1, h1, h3]
                    try dsimp only
                    rw [if_neg hq]
                  refine ⟨fun q2 => absurd q2 ?_, fun _ => go M2 (by rw [e2]; exact hJ)⟩
                  rw [h2.1]
                  exact Int32.not_lt.mpr (nI_le (by omega) (by omega))
          · have e1 : zFf (bFits B k c) (u + 1) = zFf (bFits B k c) u := by
              rw [zFf, q]
              cases zFf (bFits B k c) u <;> rfl
            have e2 : hbT B k c (u + 1) = hbT B k c u := by unfold hbT; rw [e1]
            rw [e2]
            exact hJ
      exact key2 0 (Nat.zero_le _) M1 hI
  refine key 0 (Nat.zero_le _) _ ⟨fun j hj => eU_other _ _ _ hj, fun j a1 _ _ => eU_place _ _ _ _ a1, ?_⟩
  show eU M 100 21 (-1) 100 21 = -1
  exact eU_same _ _ _ _
theorem S_gain_134 (G : eG) {M : eM} {B : eBd} (hb : bOk B) (hM : mB 134 135 136 137 M B) (F : Int32 → eM → Prop) {k c u : Nat} (hk : k < bN B) (hc : c < bC B) (hu : u < 6) (hf : bFits B k c u = true) (h : F (nI (bGain B c)) M) : Cal G 100 40 (5, 0, 0) kX13_gain [.ref (G.1 100), .ref (G.1 134), .int (nI k), .int (nI c), .int (nI u)] M (eFI F) := by
  have h49 := hb.c49
  have h16 := hb.2.2.1
  obtain ⟨f1, f2, f3⟩ := bFits_face hf
  have hP : bP B ≤ 16 := by
    rw [hb.2.2.2.2.2.2]
    have := zSm_le (f := fun k => if (bCe B k).isSome then 1 else 0) (k := 1) (n := bN B) (fun i _ => by split <;> omega)
    omega
  refine C_X13_gain_134 G M F (nI k) (nI c) (nI u) ⟨fun q => ?_, fun q => ?_⟩
  · have hp : ¬ bP B = 0 := fun z => q (by rw [hM.2.2.2.2.2, z]; rfl)
    have f4 := f3.resolve_left hp
    have hat : M 135 (nI c).toNatClampNeg = -1 := by rw [nI_clamp (show c < 2 ^ 31 by omega), hM.2.2.1 c hc, f2]; rfl
    refine eDown (P := fun e => Ev (eZ G 100 40 0 0 (eFI F)) G 100 40 (5, 0, 0) kX13_gain 15 [(0, .ref (G.1 100)), (1, .ref (G.1 134)), (2, .int (nI k)), (3, .int (nI c)), (4, .int (nI u)), (5, .int (nI (zSm (bGainE B c) e))), (6, .int (nI e))] [] M 0 0) (N := 6) ?_ ?_ 0 (Nat.zero_le _)
    · exact B_X13_gain_134_15 G M F _ _ _ _ _ ⟨fun _ => h, fun q => absurd (Int32.le_refl 6) q⟩
    · intro e he hn
      try dsimp only at hn
      rw [zSm, nI_succ e] at hn
      refine B_X13_gain_134_15 G M F _ _ _ _ _ ⟨fun q => absurd q (nI_ge he (by decide)), fun _ => S_beside G hb hM _ hc he ?_⟩
      cases h1 : bBes B c e with
      | none =>
        have e1 : bFace B c e = none := by unfold bFace bTile; rw [h1]
        rw [bGainE_none h1, e1] at hn
        exact ⟨fun q => absurd rfl q, fun _ => B_X13_gain_134_110 G M F _ _ _ _ _ hn⟩
      | some d =>
        obtain ⟨hd, -, -⟩ := hb.bes hc he h1
        have h6 := bTb_le B d
        rw [bGainE_some h1] at hn
        refine ⟨fun _ => ⟨vp_in_nI (by omega) (by decide), ?_⟩, fun q => absurd q (eNeg d (by omega))⟩
        rw [eO_some, nI_clamp (show d < 2 ^ 31 by omega), hM.2.2.1 d hd]
        have go : ∀ (x0 : Int32), x0 = nI (zSm (bGainE B c) e + (bFace B c e).getD 0) → Cal G 100 40 (4, 0, 0) kX13_tilesBeside [.ref (G.1 100), .ref (G.1 134), .int (nI d)] M (eFI (fun (r3 : Int32) (M3 : eM) => ((¬ r3 = 5) → Ev (eZ G 100 40 0 0 (eFI F)) G 100 40 (5, 0, 0) kX13_gain 110 [(0, .ref (G.1 100)), (1, .ref (G.1 134)), (2, .int (nI k)), (3, .int (nI c)), (4, .int (nI u)), (5, .int (x0 + 0)), (6, .int (nI e))] [] M3 0 0) ∧ ((r3 = 5) → vp_in (nI c) 49 ∧ (((¬ (M3 135 (nI c).toNatClampNeg) = (-1)) → Ev (eZ G 100 40 0 0 (eFI F)) G 100 40 (5, 0, 0) kX13_gain 110 [(0, .ref (G.1 100)), (1, .ref (G.1 134)), (2, .int (nI k)), (3, .int (nI c)), (4, .int (nI u)), (5, .int (x0 + 0)), (6, .int (nI e))] [] M3 0 0) ∧ (((M3 135 (nI c).toNatClampNeg) = (-1)) → Cal G 100 40 (3, 0, 0) kX13_isInside [.ref (G.1 100), .int (nI d)] M3 (eFZ (fun (r4 : Bool) (M4 : eM) => ((r4 = false) → Ev (eZ G 100 40 0 0 (eFI F)) G 100 40 (5, 0, 0) kX13_gain 110 [(0, .ref (G.1 100)), (1, .ref (G.1 134)), (2, .int (nI k)), (3, .int (nI c)), (4, .int (nI u)), (5, .int (x0 + 0)), (6, .int (nI e))] [] M4 0 0) ∧ ((r4 = true) → Ev (eZ G 100 40 0 0 (eFI F)) G 100 40 (5, 0, 0) kX13_gain 110 [(0, .ref (G.1 100)), (1, .ref (G.1 134)), (2, .int (nI k)), (3, .int (nI c)), (4, .int (nI u)), (5, .int (x0 + 10)), (6, .int (nI e))] [] M4 0 0)))))))) := by
          intro x0 hx0
          subst hx0
          refine S_tb_134 G hb hM _ hd ⟨fun q5 => ?_, fun q5 => ⟨vp_in_nI (by omega) (by decide), fun q6 => absurd hat q6, fun _ => ?_⟩⟩
          · rw [if_neg (fun z => q5 (by rw [z]; rfl)), ← Nat.add_assoc] at hn
            rw [eL0, nI_add]
            exact B_X13_gain_134_110 G M F _ _ _ _ _ hn
          · have h5 : bTb B d = 5 := (nI_eq (by omega) (by decide)).mp q5
            rw [if_pos h5, ← Nat.add_assoc] at hn
            refine S_isInside G hb hM _ hd ?_
            rw [bInside hb hc he h1 f2 h5]
            refine ⟨fun q7 => absurd q7 (by decide), fun _ => ?_⟩
            rw [eL10, nI_add]
            exact B_X13_gain_134_110 G M F _ _ _ _ _ hn
        cases h2 : bAt B d with
        | none =>
          have e1 : bFace B c e = none := by unfold bFace bTile; rw [h1]; try dsimp only; rw [h2]
          refine ⟨fun q => absurd rfl q, fun _ => go _ ?_⟩
          rw [e1, eL0, nI_add]
          rfl
        | some k2 =>
          obtain ⟨hk2, -⟩ := hb.2.2.2.1 d k2 hd h2
          have e2 : bTile B c e = some k2 := by unfold bTile; rw [h1]; exact h2
          have e3 : ∃ x, bFace B c e = some x := by unfold bFace; rw [e2]; exact ⟨_, rfl⟩
          obtain ⟨x, e4⟩ := e3
          have e5 := f4 e x he e4
          refine ⟨fun _ => S_numberOf G hb hM _ hk hu he (go _ ?_), fun q => absurd q (eNeg k2 (by omega))⟩
          rw [e4, nI_add, ← e5]
          rfl
  · have hp : bP B = 0 := (nI_eq (by omega) (by decide)).mp (by rw [← hM.2.2.2.2.2]; exact q)
    rw [bGain_of0 hb hp hc] at h
    exact h
theorem S_hasBest_134 (G : eG) {M : eM} {B : eBd} (hb : bOk B) (hM : mB 134 135 136 137 M B) (F : Bool → eM → Prop) {k : Nat} (hk : k < bN B) (h : ∀ M1, hbI M M1 B (hbS B k (bC B)) → F (bRich B k).isSome M1) : Cal G 100 40 (6, 0, 0) kX13_hasBest [.ref (G.1 100), .ref (G.1 134), .int (nI k)] M (eFZ F) := by
  have h49 := hb.c49
  have h16 := hb.2.2.1
  have hm : ∀ M1 o, hbI M M1 B o → mB 134 135 136 137 M1 B := fun M1 o hI => hM.of (hI.1 _ (by decide)) (hI.1 _ (by decide)) (hI.1 _ (by decide)) (hI.1 _ (by decide)) (hI.1 _ (by decide)) (hI.1 _ (by decide))
  refine C_X13_hasBest_134 G M F (nI k) ?_
  have key : ∀ c, c ≤ bC B → ∀ M1, hbI M M1 B (hbS B k c) → Ev (eZ G 100 40 0 0 (eFZ F)) G 100 40 (6, 0, 0) kX13_hasBest 7 [(0, .ref (G.1 100)), (1, .ref (G.1 134)), (2, .int (nI k)), (3, .int (nI c))] [] M1 0 0 := by
    refine eDown (P := fun c => ∀ M1, hbI M M1 B (hbS B k c) → Ev (eZ G 100 40 0 0 (eFZ F)) G 100 40 (6, 0, 0) kX13_hasBest 7 [(0, .ref (G.1 100)), (1, .ref (G.1 134)), (2, .int (nI k)), (3, .int (nI c))] [] M1 0 0) ?_ ?_
    · intro M1 hI
      have h0 := h M1 hI
      refine B_X13_hasBest_134_7 G M1 F _ _ (S_cells G (hm _ _ hI) _ ⟨fun _ => ?_, fun q => absurd (Int32.le_refl _) q⟩)
      have h1 := hI.2.2
      unfold hbS at h1
      unfold bRich at h0
      cases h2 : zBest (fun c => (bAny B k c).isSome) (bGain B) (bC B) with
      | none =>
        rw [h2] at h1 h0
        exact ⟨fun _ => h0, fun q => absurd h1 q⟩
      | some b =>
        rw [h2] at h1 h0
        have hg := bGain_le hb (zBest_lt h2).1
        refine ⟨fun q => absurd ?_ (eNeg (bGain B b) (by omega)), fun _ => h0⟩
        rw [← h1.1]
        exact q
    · intro c hc hn M1 hI
      have hg := bGain_le hb hc
      refine B_X13_hasBest_134_7 G M1 F _ _ (S_cells G (hm _ _ hI) _ ⟨fun q => absurd q (nI_ge hc (by omega)), fun _ => ?_⟩)
      have key2 : ∀ u, u ≤ 6 → ∀ M2, hbI M M2 B (hbT B k c u) → Ev (eZ G 100 40 0 0 (eFZ F)) G 100 40 (6, 0, 0) kX13_hasBest 18 [(0, .ref (G.1 100)), (1, .ref (G.1 134)), (2, .int (nI k)), (3, .int (nI c)), (4, .int (nI u))] [] M2 0 0 := by
        refine eDown (P := fun u => ∀ M2, hbI M M2 B (hbT B k c u) → Ev (eZ G 100 40 0 0 (eFZ F)) G 100 40 (6, 0, 0) kX13_hasBest 18 [(0, .ref (G.1 100)), (1, .ref (G.1 134)), (2, .int (nI k)), (3, .int (nI c)), (4, .int (nI u))] [] M2 0 0) ?_ ?_
        · intro M2 hJ
          rw [hbT_6] at hJ
          refine B_X13_hasBest_134_18 G M2 F _ _ _ ⟨fun _ => ?_, fun q => absurd (Int32.le_refl 6) q⟩
          rw [← nI_succ]
          exact hn M2 hJ
        · intro u hu hn2 M2 hJ
          have go : ∀ M3, hbI M M3 B (hbT B k c (u + 1)) → Ev (eZ G 100 40 0 0 (eFZ F)) G 100 40 (6, 0, 0) kX13_hasBest 80 [(0, .ref (G.1 100)), (1, .ref (G.1 134)), (2, .int (nI k)), (3, .int (nI c)), (4, .int (nI u))] [] M3 0 0 := by
            intro M3 h3
            refine B_X13_hasBest_134_80 G M3 F _ _ _ ?_
            rw [← nI_succ]
            exact hn2 M3 h3
          refine B_X13_hasBest_134_18 G M2 F _ _ _ ⟨fun q => absurd q (nI_ge hu (by decide)), fun _ => ?_⟩
          refine S_fits_134 G hb (hm _ _ hJ) _ hk hc hu ⟨fun q => ?_, fun q => go M2 ?_⟩
          · refine S_gain_134 G hb (hm _ _ hJ) _ hk hc hu q ?_
            cases h1 : zFf (bFits B k c) u with
            | some t =>
              have e1 : zFf (bFits B k c) (u + 1) = some t := by rw [zFf, h1]; rfl
              have e2 : hbT B k c (u + 1) = hbT B k c u := by unfold hbT; rw [e1, h1]
              refine ⟨fun q2 => absurd q2 ?_, fun _ => go M2 (by rw [e2]; exact hJ)⟩
              have h2 := hJ.2.2
              unfold hbT at h2
              rw [h1] at h2
              cases h3 : zBest (fun c => (bAny B k c).isSome) (bGain B) c with
              | none =>
                rw [h3] at h2
                try dsimp only at h2
                rw [h2.1]
                exact Int32.not_lt.mpr (Int32.le_refl _)
              | some b =>
                rw [h3] at h2
                try dsimp only at h2
                have hgb := bGain_le hb (show b < bC B by have := (zBest_lt h3).1; omega)
                by_cases hq : bGain B b < bGain B c
                · rw [if_pos hq] at h2
                  rw [h2.1]
                  exact Int32.not_lt.mpr (Int32.le_refl _)
                · rw [if_neg hq] at h2
                  unfold hbS at h2
                  rw [h3] at h2
                  try dsimp only at h2
                  rw [h2.1]
                  exact Int32.not_lt.mpr (nI_le (by omega) (by omega))
            | none =>
              have e1 : zFf (bFits B k c) (u + 1) = some u := by rw [zFf, h1, q]; rfl
              have h2 := hJ.2.2
              unfold hbT at h2
              rw [h1] at h2
              unfold hbS at h2
              have hset : hbT B k c (u + 1) = some (c, u) → hbI M (eU (eU (eU M2 100 21 (nI (bGain B c))) 100 22 (nI c)) 100 23 (nI u)) B (hbT B k c (u + 1)) := by
                intro e2
                rw [e2]
                refine ⟨fun j hj => by rw [eU_other _ _ _ hj, eU_other _ _ _ hj, eU_other _ _ _ hj]; exact hJ.1 j hj, fun j a1 a2 a3 => by rw [eU_place _ _ _ _ a3, eU_place _ _ _ _ a2, eU_place _ _ _ _ a1]; exact hJ.2.1 j a1 a2 a3, ?_⟩
                refine ⟨?_, ?_, ?_⟩
                · rw [eU_place _ _ _ _ (by decide), eU_place _ _ _ _ (by decide), eU_same]
                · rw [eU_place _ _ _ _ (by decide), eU_same]
                · rw [eU_same]
              cases h3 : zBest (fun c => (bAny B k c).isSome) (bGain B) c with
              | none =>
                rw [h3] at h2
                try dsimp only at h2
                have e2 : hbT B k c (u + 1) = some (c, u) := by unfold hbT; rw [e1, h3]
                refine ⟨fun _ => go _ (hset e2), fun q2 => absurd ?_ q2⟩
                rw [h2]
                exact Int32.lt_of_lt_of_le eM1lt (nI_pos' (by omega))
              | some b =>
                rw [h3] at h2
                try dsimp only at h2
                have hgb := bGain_le hb (show b < bC B by have := (zBest_lt h3).1; omega)
                by_cases hq : bGain B b < bGain B c
                · have e2 : hbT B k c (u + 1) = some (c, u) := by unfold hbT; rw [e1, h3]; try dsimp only; rw [if_pos hq]
                  refine ⟨fun _ => go _ (hset e2), fun q2 => absurd ?_ q2⟩
                  rw [h2.1]
                  exact nI_lt hq (by omega)
                · have e2 : hbT B k c (u + 1) = hbT B k c u := by
                    unfold hbT
                    rw [e1, h1, h3]
                    try dsimp only
                    rw [if_neg hq]
                  refine ⟨fun q2 => absurd q2 ?_, fun _ => go M2 (by rw [e2]; exact hJ)⟩
                  rw [h2.1]
                  exact Int32.not_lt.mpr (nI_le (by omega) (by omega))
          · have e1 : zFf (bFits B k c) (u + 1) = zFf (bFits B k c) u := by
              rw [zFf, q]
              cases zFf (bFits B k c) u <;> rfl
            have e2 : hbT B k c (u + 1) = hbT B k c u := by unfold hbT; rw [e1]
            rw [e2]
            exact hJ
      exact key2 0 (Nat.zero_le _) M1 hI
  refine key 0 (Nat.zero_le _) _ ⟨fun j hj => eU_other _ _ _ hj, fun j a1 _ _ => eU_place _ _ _ _ a1, ?_⟩
  show eU M 100 21 (-1) 100 21 = -1
  exact eU_same _ _ _ _
