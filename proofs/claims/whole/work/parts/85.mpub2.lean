/-! ===== the model's public calls, on ===== -/
theorem dRn_dec (a : Int32) : (1 ≤ a ∧ a ≤ 20) ↔ dRn a := Iff.rfl
theorem qFm.sm {M M' : eM} (h : qFm 134 M M') : sFm M M' := ⟨fun c hc => h.1 c (by omega) (Or.inl (by omega)), by rw [h.1 100 (by decide) (Or.inl (by decide))], by rw [h.1 100 (by decide) (Or.inl (by decide))]⟩
section PubM2
variable {G : eG}
theorem S_ahead {M : eM} {B : eBd} (hb : bOk B) (hB : mB 130 131 132 133 M B) (F : eM → Prop) (h : ∀ M', (∀ c, c < 134 ∨ 137 < c → M' c = M c) → mB 134 135 136 137 M' B → M' 134 4 = M 130 4 → F M') : Cal G 100 40 (2, 0, 0) kX11_become [.ref (G.1 134), .ref (G.1 130)] M (eFV F) := by
  have h49 := hb.c49
  have h16 := hb.2.2.1
  refine C_X11_become G M F (Z_cp_131 _ (fun M1 f1 g1 => Z_cp_132 _ (fun M2 f2 g2 => Z_cp_133 _ (fun M3 f3 g3 => ?_))))
  have fr : ∀ c, c < 134 ∨ 137 < c → M3 c = M c := fun c hc => by rw [f3 c (by omega), f2 c (by omega), f1 c (by omega)]
  have e135 : M3 135 = M1 135 := by rw [f3 135 (by decide), f2 135 (by decide)]
  have e136 : M3 136 = M2 136 := f3 136 (by decide)
  have e3 : M3 130 = M 130 := fr 130 (by decide)
  obtain ⟨⟨w1, w2, w3⟩, b1, b2, b3, b4, b5⟩ := hB
  refine h _ (fun c hc => ?_) ⟨⟨?_, ?_, ?_⟩, fun i hi => ?_, fun c hc => ?_, fun i hi => ?_, fun i c hi hc => ?_, ?_⟩ ?_
  · rw [eU_other _ _ _ (by omega), eU_other _ _ _ (by omega)]; exact fr c hc
  · rw [eU_other _ _ _ (by decide), eU_other _ _ _ (by decide), fr 107 (by decide)]; exact w1
  · rw [eU_other _ _ _ (by decide), eU_other _ _ _ (by decide), fr 107 (by decide)]; exact w2
  · rw [eU_other _ _ _ (by decide), eU_other _ _ _ (by decide), fr 107 (by decide)]; exact w3
  · rw [eU_other _ _ _ (by decide), eU_other _ _ _ (by decide), fr 108 (by decide)]; exact b1 i hi
  · rw [eU_other _ _ _ (by decide), eU_other _ _ _ (by decide), e135, g1 c (by omega)]; exact b2 c hc
  · rw [eU_other _ _ _ (by decide), eU_other _ _ _ (by decide), e136, g2 i (by omega), f1 132 (by decide)]; exact b3 i hi
  · rw [eU_other _ _ _ (by decide), eU_other _ _ _ (by decide), g3 i (by omega), f2 133 (by decide), f1 133 (by decide)]; exact b4 i c hi hc
  · rw [eU_place _ _ _ _ (by decide), eU_same, e3]; exact b5
  · rw [eU_same, eU_other _ _ _ (by decide), e3]
theorem V_play {tv : Nat → Nat} {os : List pOrd} (F : Int32 → eM → Prop) {m : Nat} (hm : m ≤ 20) : ∀ (n i : Nat) (x : gX) (v : Int32) (M : eM), i + n = m → bGm x.1 → gPrg (bN x.1) tv os → mPg M tv os → mB 130 131 132 133 M x.1 → M 130 4 = x.2 → (∀ M', qFm 130 M M' → mB 130 131 132 133 M' (gPl tv os n x).1 → M' 130 4 = (gPl tv os n x).2 → F (gPc tv os n x v) M') → Ev (eZ G 100 40 0 0 (eFI F)) G 100 40 (11, 0, 0) kX13_playRounds 25 [(0, .ref (G.1 100)), (1, .int (nI m)), (2, .int v), (3, .int (nI i))] [] M 0 0
  | 0, i, x, v, M, hi, _, _, _, hB, hr, hF => by
    have hi' : i = m := hi
    subst hi'
    exact B_X13_playRounds_25 G M F _ _ _ ⟨fun _ => hF M (qFm.refl 130 M) hB hr, fun q => absurd (Int32.le_refl _) q⟩
  | n + 1, i, x, v, M, hi, hg, hp, hP, hB, hr, hF => by
    refine B_X13_playRounds_25 G M F _ _ _ ⟨fun q => absurd q (nI_ge (by omega) (by omega)), fun _ => M_round_130 hg hp hP hB _ (fun M1 f1 b1 r1 => ?_)⟩
    rw [hr] at b1 r1
    rw [← nI_succ, hr]
    obtain ⟨h1, h2⟩ := gNx_gm hg hp
    exact V_play F hm n (i + 1) (gNx tv os x) _ M1 (by omega) h1 (by rw [h2.2.2.1]; exact hp) (hP.q f1 (by decide)) b1 r1 (fun M2 f2 b2 r2 => hF M2 (f1.trans f2) b2 r2)
theorem V_points {tv : Nat → Nat} {os : List pOrd} (F : Int32 → eM → Prop) {m : Nat} (hm : m ≤ 20) : ∀ (n i : Nat) (x : gX) (M : eM), i + n = m → bGm x.1 → gPrg (bN x.1) tv os → mPg M tv os → mB 134 135 136 137 M x.1 → M 134 4 = x.2 → (∀ M', qFm 134 M M' → F (nI (bPoints (gPl tv os n x).1)) M') → Ev (eZ G 100 40 0 0 (eFI F)) G 100 40 (11, 0, 0) kX13_pointsAfter 34 [(0, .ref (G.1 100)), (1, .int (nI m)), (2, .int (nI i))] [] M 0 0
  | 0, i, x, M, hi, hg, _, _, hB, _, hF => by
    have hi' : i = m := hi
    subst hi'
    exact B_X13_pointsAfter_34 G M F _ _ ⟨fun _ => S_points_134 G hg.1 hB _ (hF M (qFm.refl 134 M)), fun q => absurd (Int32.le_refl _) q⟩
  | n + 1, i, x, M, hi, hg, hp, hP, hB, hr, hF => by
    refine B_X13_pointsAfter_34 G M F _ _ ⟨fun q => absurd q (nI_ge (by omega) (by omega)), fun _ => M_round_134 hg hp hP hB _ (fun M1 f1 b1 r1 => ?_)⟩
    rw [hr] at b1 r1
    rw [← nI_succ]
    obtain ⟨h1, h2⟩ := gNx_gm hg hp
    exact V_points F hm n (i + 1) (gNx tv os x) M1 (by omega) h1 (by rw [h2.2.2.1]; exact hp) (hP.q f1 (by decide)) b1 r1 (fun M2 f2 => hF M2 (f1.trans f2))
theorem bRings_le {B : eBd} (hb : bOk B) : bRings B < 2 ^ 31 := by
  have h49 := hb.c49
  have := zSm_le (f := fun c => if bRing B c then 1 else 0) (k := 1) (n := bC B) (fun i _ => by split <;> omega)
  unfold bRings
  omega
theorem V_until {tv : Nat → Nat} {os : List pOrd} (F : Int32 → eM → Prop) : ∀ (n i : Nat) (x : gX) (M : eM), i + n = 20 → bGm x.1 → gPrg (bN x.1) tv os → mPg M tv os → mB 134 135 136 137 M x.1 → M 134 4 = x.2 → (∀ M', qFm 134 M M' → F (eO (gUr tv os n i x)) M') → Ev (eZ G 100 40 0 0 (eFI F)) G 100 40 (11, 0, 0) kX13_roundsUntilRing 18 [(0, .ref (G.1 100)), (1, .int (nI i))] [] M 0 0
  | n, i, x, M, hi, hg, hp, hP, hB, hr, hF => by
    have hr31 := bRings_le hg.1
    refine B_X13_roundsUntilRing_18 G M F _ ⟨fun q => absurd q (nI_nlt (a := 20) (by omega) (by decide)), fun _ => S_rings_134 G hg.1 hB _ ⟨fun q => ?_, fun q => ?_⟩⟩
    · have h0 : ¬ 0 < bRings x.1 := fun z => absurd q (nI_ge (a := 0) z hr31)
      refine M_round_134 hg hp hP hB _ (fun M1 f1 b1 r1 => ?_)
      rw [hr] at b1 r1
      rw [← nI_succ]
      cases n with
      | zero =>
        have hi' : i = 20 := hi
        subst hi'
        refine B_X13_roundsUntilRing_18 G M1 F _ ⟨fun _ => ?_, fun z => absurd (by decide) z⟩
        have e := hF M1 f1
        have e2 : gUr tv os 0 20 x = none := if_neg h0
        rw [e2] at e
        exact e
      | succ n =>
        obtain ⟨h1, h2⟩ := gNx_gm hg hp
        refine V_until F n (i + 1) (gNx tv os x) M1 (by omega) h1 (by rw [h2.2.2.1]; exact hp) (hP.q f1 (by decide)) b1 r1 (fun M2 f2 => ?_)
        have e := hF M2 (f1.trans f2)
        have e2 : gUr tv os (n + 1) i x = gUr tv os n (i + 1) (gNx tv os x) := if_neg h0
        rw [e2] at e
        exact e
    · have h0 : 0 < bRings x.1 := by
        rcases Nat.eq_zero_or_pos (bRings x.1) with z | z
        · rw [z] at q; exact absurd (by decide) q
        · exact z
      have e := hF M (qFm.refl 134 M)
      have e2 : gUr tv os n i x = some i := by
        cases n with
        | zero => exact if_pos h0
        | succ n => exact if_pos h0
      rw [e2] at e
      exact e
theorem V_best {M : eM} {B : eBd} (hb : bOk B) (hM : mB 130 131 132 133 M B) (F : Int32 → eM → Prop) (h : ∀ M1, sFm M M1 → M1 100 0 = M 100 0 → F (eO (bBestT B)) M1) : Cal G 100 40 (7, 0, 0) kX13_best [.ref (G.1 100)] M (eFI F) := by
  have h49 := hb.c49
  have h16 := hb.2.2.1
  refine C_X13_best G M F ?_
  have key : ∀ k, k ≤ bN B → ∀ M1, sFm M M1 → M1 100 0 = M 100 0 → Ev (eZ G 100 40 0 0 (eFI F)) G 100 40 (7, 0, 0) kX13_best 6 [(0, .ref (G.1 100)), (1, .int (eO (zBest (fun k => (bRich B k).isSome) (bRichG B) k))), (2, .int (eOg (bRichG B) (zBest (fun k => (bRich B k).isSome) (bRichG B) k))), (3, .int (nI k))] [] M1 0 0 := by
    refine eDown (P := fun k => ∀ M1, sFm M M1 → M1 100 0 = M 100 0 → Ev (eZ G 100 40 0 0 (eFI F)) G 100 40 (7, 0, 0) kX13_best 6 [(0, .ref (G.1 100)), (1, .int (eO (zBest (fun k => (bRich B k).isSome) (bRichG B) k))), (2, .int (eOg (bRichG B) (zBest (fun k => (bRich B k).isSome) (bRichG B) k))), (3, .int (nI k))] [] M1 0 0) ?_ ?_
    · intro M1 s1 t1
      have e2 : M1 107 2 = nI (bN B) := by rw [s1.1 107 (by omega)]; exact hM.1.2.2
      exact B_X13_best_6 G M1 F _ _ _ ⟨fun _ => h M1 s1 t1, fun q => absurd (by rw [e2]; exact Int32.le_refl _) q⟩
    · intro k hk hn M1 s1 t1
      have e2 : M1 107 2 = nI (bN B) := by rw [s1.1 107 (by omega)]; exact hM.1.2.2
      have hM1 : mB 130 131 132 133 M1 B := hM.of (s1.1 107 (by omega)) (s1.1 108 (by omega)) (s1.1 131 (by omega)) (s1.1 132 (by omega)) (s1.1 133 (by omega)) (s1.1 130 (by omega))
      refine B_X13_best_6 G M1 F _ _ _ ⟨fun q => absurd (by rw [e2] at q; exact q) (nI_ge hk (by omega)), fun _ => S_hasBest_130 G hb hM1 _ hk (fun M2 i2 => ?_)⟩
      have s2 := s1.trans i2.s.1
      have t2 := i2.s.2.trans t1
      have hn2 := hn M2 s2 t2
      rw [nI_succ k, zBest] at hn2
      have e := i2.2.2
      unfold hbS at e
      cases h1 : bRich B k with
      | none =>
        refine ⟨fun _ => B_X13_best_47 G M2 F _ _ _ ?_, fun q => (by cases q)⟩
        rw [h1] at hn2
        cases h2 : zBest (fun k => (bRich B k).isSome) (bRichG B) k with
        | none => rw [h2] at hn2; exact hn2
        | some b => rw [h2] at hn2; exact hn2
      | some c =>
        have hc := (zBest_lt h1).1
        have hg := bGain_le hb hc
        have e1 : bRichG B k = bGain B c := by unfold bRichG; rw [h1]
        have h3 : zBest (fun c => (bAny B k c).isSome) (bGain B) (bC B) = some c := h1
        rw [h3] at e
        have e21 : M2 100 21 = nI (bGain B c) := e.1
        rw [h1] at hn2
        refine ⟨fun q => (by cases q), fun _ => ?_⟩
        rw [e21]
        cases h2 : zBest (fun k => (bRich B k).isSome) (bRichG B) k with
        | none =>
          rw [h2] at hn2
          refine ⟨fun _ => B_X13_best_47 G M2 F _ _ _ ?_, fun q => absurd (Int32.lt_of_lt_of_le eM1lt (nI_pos' (by omega))) q⟩
          rw [← e1]
          exact hn2
        | some b =>
          rw [h2] at hn2
          try dsimp only at hn2
          have hgb := bRichG_le hb b
          rw [show ((some c : Option Nat).isSome && decide (bRichG B b < bRichG B k)) = decide (bRichG B b < bGain B c) by rw [e1]; rfl] at hn2
          refine ⟨fun q2 => B_X13_best_47 G M2 F _ _ _ ?_, fun q2 => B_X13_best_47 G M2 F _ _ _ ?_⟩
          · have : ¬ bGain B c ≤ bRichG B b := fun z => (Int32.not_le.mpr (show nI (bRichG B b) < nI (bGain B c) from q2)) ((nI_leI (by omega) (by omega)).mpr z)
            rw [decide_eq_true (show bRichG B b < bGain B c by omega)] at hn2
            rw [← e1]
            exact hn2
          · have := (nI_leI (by omega) (by omega)).mp (Int32.not_lt.mp (show ¬ nI (bRichG B b) < nI (bGain B c) from q2))
            rw [decide_eq_false (show ¬ bRichG B b < bGain B c by omega)] at hn2
            exact hn2
  exact key 0 (Nat.zero_le _) M (sFm.refl M) rfl
theorem U_playRounds {M : eM} {S : gS} (hs : sOk S) (hm : sM M S) (a : Int32) (F : Int32 → eM → Prop) (hF : ∀ r M', sM M' (z_playRounds S a).2.2 → M' 100 0 = nI (z_playRounds S a).1 → ((z_playRounds S a).1 = 0 → r = (z_playRounds S a).2.1) → F r M') : Cal G 100 40 (11, 0, 0) kX13_playRounds [.ref (G.1 100), .int a] M (eFI F) := by
  have h0 := hm.th 0
  unfold z_playRounds at hF
  refine C_X13_playRounds G M F a (S_isIn G _ _ a 1 20 ?_)
  by_cases h : dRn a
  · rw [if_pos h] at hF
    rw [decide_eq_true h]
    obtain ⟨k, hk, rfl⟩ := dRn_nat h
    rw [nI_clamp (show k < 2 ^ 31 by omega)] at hF
    refine ⟨fun _ => V_play F hk.2 k 0 (gB S, gR S) 0 _ (Nat.zero_add _) hs.2.2.1 hs.2.2.2 h0.2.2.2.1 h0.2.2.2.2.1 h0.2.2.2.2.2 (fun M1 f1 b1 r1 => ?_), fun q => (by cases q)⟩
    exact hF _ M1 (h0.q f1 b1 r1) (by rw [f1.1 100 (by decide) (Or.inl (by decide))]; exact eU_same _ _ _ _) (fun _ => rfl)
  · rw [if_neg h] at hF
    rw [decide_eq_false h]
    exact ⟨fun q => (by cases q), fun _ => (C_X13_no G _ _ _ (hF _ _ (h0.th 1) (eU_same _ _ _ _) (fun z => absurd z (Nat.succ_ne_zero _))))⟩
theorem U_pointsAfter {M : eM} {S : gS} (hs : sOk S) (hm : sM M S) (a : Int32) (F : Int32 → eM → Prop) (hF : ∀ r M', sM M' (z_pointsAfter S a).2.2 → M' 100 0 = nI (z_pointsAfter S a).1 → ((z_pointsAfter S a).1 = 0 → r = (z_pointsAfter S a).2.1) → F r M') : Cal G 100 40 (11, 0, 0) kX13_pointsAfter [.ref (G.1 100), .int a] M (eFI F) := by
  have h0 := hm.th 0
  unfold z_pointsAfter at hF
  refine C_X13_pointsAfter G M F a (S_isIn G _ _ a 1 20 ?_)
  by_cases h : dRn a
  · rw [if_pos h] at hF
    rw [decide_eq_true h]
    obtain ⟨k, hk, rfl⟩ := dRn_nat h
    rw [nI_clamp (show k < 2 ^ 31 by omega)] at hF
    refine ⟨fun _ => S_ahead hs.2.2.1.1 h0.2.2.2.2.1 _ (fun M1 f1 b1 r1 => ?_), fun q => (by cases q)⟩
    have s1 : sFm (eU M 100 0 0) M1 := ⟨fun c hc => f1 c (by omega), by rw [f1 100 (by decide)], by rw [f1 100 (by decide)]⟩
    refine V_points F hk.2 k 0 (gB S, gR S) M1 (Nat.zero_add _) hs.2.2.1 hs.2.2.2 (h0.2.2.2.1.fr (fun c c1 c2 => f1 c (by omega))) b1 (r1.trans h0.2.2.2.2.2) (fun M2 f2 => ?_)
    refine hF _ M2 (h0.fr (s1.trans f2.sm)) ?_ (fun _ => rfl)
    rw [f2.1 100 (by decide) (Or.inl (by decide)), f1 100 (by decide)]
    exact eU_same _ _ _ _
  · rw [if_neg h] at hF
    rw [decide_eq_false h]
    exact ⟨fun q => (by cases q), fun _ => (C_X13_no G _ _ _ (hF _ _ (h0.th 1) (eU_same _ _ _ _) (fun z => absurd z (Nat.succ_ne_zero _))))⟩
theorem U_until {M : eM} {S : gS} (hs : sOk S) (hm : sM M S) (F : Int32 → eM → Prop) (hF : ∀ M', sM M' S → F (z_until S) M') : Cal G 100 40 (11, 0, 0) kX13_roundsUntilRing [.ref (G.1 100)] M (eFI F) := by
  have h0 := hm.th 0
  refine C_X13_roundsUntilRing G M F (S_ahead hs.2.2.1.1 h0.2.2.2.2.1 _ (fun M1 f1 b1 r1 => ?_))
  have s1 : sFm (eU M 100 0 0) M1 := ⟨fun c hc => f1 c (by omega), by rw [f1 100 (by decide)], by rw [f1 100 (by decide)]⟩
  exact V_until F 20 0 (gB S, gR S) M1 rfl hs.2.2.1 hs.2.2.2 (h0.2.2.2.1.fr (fun c c1 c2 => f1 c (by omega))) b1 (r1.trans h0.2.2.2.2.2) (fun M2 f2 => hF M2 (h0.fr (s1.trans f2.sm)))
theorem U_bestTile {M : eM} {S : gS} (hs : sOk S) (hm : sM M S) (F : Int32 → eM → Prop) (hF : ∀ M', sM M' S → F (eO (bBestT (gB S))) M') : Cal G 100 40 (8, 0, 0) kX13_bestTile [.ref (G.1 100)] M (eFI F) :=
  C_X13_bestTile G M F (V_best hs.2.2.1.1 hm.2.2.2.2.1 _ (fun M1 s1 _ => C_X13_ok G _ _ _ (hF _ ((hm.fr s1).th 0))))
theorem U_meanMatch {M : eM} {S : gS} (hs : sOk S) (hm : sM M S) (F : UInt64 → eM → Prop) (hF : ∀ M', sM M' S → F (z_mean S) M') : Cal G 100 40 (6, 0, 0) kX13_meanMatch [.ref (G.1 100)] M (eFD F) := by
  have hb := hs.2.2.1.1
  have h0 := hm.th 0
  have hB0 := h0.2.2.2.2.1
  have h31 := bMatch_le hb
  have hF' := hF _ h0
  unfold z_mean at hF'
  refine C_X13_meanMatch G M F (S_matches_130 G hb hB0 _ ⟨fun q => S_matched_130 G hb hB0 _ (S_matches_130 G hb hB0 _ ?_), fun q => ?_⟩)
  · have h1 : ¬ bMatch (gB S) = 0 := fun z => q (by rw [z]; rfl)
    rw [if_neg h1] at hF'
    exact ⟨eNaN (bMatched_le hs.2.2.1) (by omega) (bMatch_147 hb), hF'⟩
  · have h1 : bMatch (gB S) = 0 := (nI_eq (b := 0) h31 (by decide)).mp q
    rw [if_pos h1] at hF'
    exact hF'
theorem U_looks {M : eM} {S : gS} (hs : sOk S) (hm : sM M S) (a : Int32) (F : Int32 → eM → Prop) (hF : ∀ r M', sM M' (z_looks S a).2.2 → M' 100 0 = nI (z_looks S a).1 → ((z_looks S a).1 = 0 → r = (z_looks S a).2.1) → F r M') : Cal G 100 40 (8, 0, 0) kX13_looksToProve [.ref (G.1 100), .int a] M (eFI F) := by
  have hb := hs.2.2.1.1
  have h0 := hm.th 0
  have hB0 := h0.2.2.2.2.1
  have h49 := hb.c49
  have h16 := hb.2.2.1
  unfold z_looks at hF
  refine C_X13_looksToProve G M F a (D_tile hb hB0 a _ ?_)
  by_cases h : dIn a (bN (gB S))
  · rw [if_pos h] at hF
    rw [decide_eq_true h]
    obtain ⟨k, hk, rfl⟩ := dIn_nat (by omega) h
    rw [nI_clamp (show k < 2 ^ 31 by omega)] at hF
    refine ⟨fun _ => D_left hb hB0 hk _ ?_, fun q => (by cases q)⟩
    cases hl : bLeft (gB S) k with
    | false =>
      rw [hl] at hF
      exact ⟨fun q => (by cases q), fun _ => (C_X13_no G _ _ _ (hF _ _ (h0.th 2) (eU_same _ _ _ _) (fun z => absurd z (Nat.succ_ne_zero _))))⟩
    | true =>
      rw [hl] at hF
      refine ⟨fun _ => ?_, fun q => (by cases q)⟩
      have fin : F (nI (bOpen (gB S)) * (if bSame (gB S) k then 1 else 6)) (eU M 100 0 0) := hF _ _ h0 (eU_same _ _ _ _) (fun _ => rfl)
      have n1 := hB0.2.1 (3 * k) (by omega)
      have n2 := hB0.2.1 (3 * k + 1) (by omega)
      have n3 := hB0.2.1 (3 * k + 2) (by omega)
      have l1 := hb.2.2.2.2.2.1 (3 * k) (by omega)
      have l2 := hb.2.2.2.2.2.1 (3 * k + 1) (by omega)
      have l3 := hb.2.2.2.2.2.1 (3 * k + 2) (by omega)
      refine eDown (P := fun c => Ev (eZ G 100 40 0 0 (eFI F)) G 100 40 (8, 0, 0) kX13_looksToProve 37 [(0, .ref (G.1 100)), (1, .int (nI k)), (2, .int (nI (zSm (fun c => if (bAt (gB S) c).isNone && decide (0 < bTb (gB S) c) then 1 else 0) c))), (3, .int (nI c))] [] (eU M 100 0 0) 0 0) (N := bC (gB S)) ?_ ?_ 0 (Nat.zero_le _)
      · refine B_X13_looksToProve_37 G _ F _ _ _ (S_cells G hB0 _ ⟨fun _ => ?_, fun q => absurd (Int32.le_refl _) q⟩)
        rw [eL3, eL1, eL2, nI_mul, nI_add, nI_add, nI_clamp (show 3 * k < 2 ^ 31 by omega), nI_clamp (show 3 * k + 1 < 2 ^ 31 by omega), nI_clamp (show 3 * k + 2 < 2 ^ 31 by omega), n1, n2, n3]
        have six : bSame (gB S) k = false → Ev (eZ G 100 40 0 0 (eFI F)) G 100 40 (8, 0, 0) kX13_looksToProve 142 [(2, .int (nI (zSm (fun c => if (bAt (gB S) c).isNone && decide (0 < bTb (gB S) c) then 1 else 0) (bC (gB S)))))] [] (eU M 100 0 0) 0 0 := fun z => by
          refine B_X13_looksToProve_142 G _ F _ ⟨fun _ => ?_, fun q => absurd rfl q⟩
          rw [z] at fin
          rw [Int32.mul_comm]
          exact fin
        refine ⟨vp_in_nI (by omega) (by decide), vp_in_nI (by omega) (by decide), fun q => six ?_, fun q => ⟨vp_in_nI (by omega) (by decide), vp_in_nI (by omega) (by decide), fun q2 => six ?_, fun q2 => ⟨fun z => absurd z (by decide), fun _ => ?_⟩⟩⟩
        · unfold bSame
          rw [decide_eq_false (fun z => q (by rw [z]))]
          rfl
        · unfold bSame
          rw [decide_eq_false (p := bNu (gB S) (3 * k) = bNu (gB S) (3 * k + 2)) (fun z => q2 (by rw [z])), Bool.and_false]
        · have z1 := (nI_eq (by omega) (by omega)).mp q
          have z2 := (nI_eq (by omega) (by omega)).mp q2
          have z3 : bSame (gB S) k = true := by unfold bSame; rw [decide_eq_true z1, decide_eq_true z2]; rfl
          rw [z3] at fin
          have z4 : nI (bOpen (gB S)) * (if (true = true) then 1 else 6) = nI (bOpen (gB S)) := Int32.mul_one _
          rw [z4] at fin
          exact fin
      · intro c hc hn
        try dsimp only at hn
        rw [nI_succ c, zSm] at hn
        refine B_X13_looksToProve_37 G _ F _ _ _ (S_cells G hB0 _ ⟨fun q => absurd q (nI_ge hc (by omega)), fun _ => ⟨vp_in_nI (by omega) (by decide), ?_⟩⟩)
        rw [nI_clamp (show c < 2 ^ 31 by omega), hB0.2.2.1 c hc]
        cases h1 : bAt (gB S) c with
        | some t =>
          have ht := (hb.2.2.2.1 c t hc h1).1
          rw [h1] at hn
          refine ⟨fun _ => ?_, fun q => absurd q (eNeg t (by omega))⟩
          rw [Int32.add_zero]
          exact hn
        | none =>
          rw [h1] at hn
          have htb := bTb_le (gB S) c
          refine ⟨fun q => absurd rfl q, fun _ => S_tb_130 G hb hB0 _ hc ⟨fun q => ?_, fun q => ?_⟩⟩
          · have z : bTb (gB S) c = 0 := by
              have := (nI_leI (b := 0) (by omega) (by decide)).mp q
              omega
            rw [z] at hn
            rw [Int32.add_zero]
            exact hn
          · have z : 0 < bTb (gB S) c := by
              rcases Nat.eq_zero_or_pos (bTb (gB S) c) with z | z
              · rw [z] at q; exact absurd (by decide) q
              · exact z
            rw [decide_eq_true z] at hn
            rw [show (1 : Int32) = nI 1 from rfl, nI_add]
            exact hn
  · rw [if_neg h] at hF
    rw [decide_eq_false h]
    exact ⟨fun q => (by cases q), fun _ => (C_X13_no G _ _ _ (hF _ _ (h0.th 1) (eU_same _ _ _ _) (fun z => absurd z (Nat.succ_ne_zero _))))⟩
theorem sFm.of101 {M M' : eM} (h : M' 101 = M 101) : ∀ i, M' 101 i = M 101 i := fun i => by rw [h]
theorem U_teach' {M : eM} {S : gS} (hs : sOk S) (hm : sM M S) (F : Int32 → eM → Prop) (hF : ∀ M', sM M' (z_taught S) → F (z_taughtV S) M') : Cal G 100 40 (104, 0, 0) kX13_teach [.ref (G.1 100)] M (eFI F) := by
  obtain ⟨h1, h2, h3, h4, h5, h6⟩ := hm
  unfold z_taught z_taughtV at hF
  refine U_teach hs.1 h1 hs.2.1 h2 F (fun h0 M' f' z' e' t' => ?_) (fun h0 M' f' z' e' t' p' b' r' => ?_)
  · rw [if_neg h0] at hF
    refine hF M' ⟨z', fun i hi => ?_, e', h4.fr (fun c c1 c2 => f' c (by omega)), h5.of (f' 107 (by decide)) (f' 108 (by decide)) (f' 131 (by decide)) (f' 132 (by decide)) (f' 133 (by decide)) (f' 130 (by decide)), ?_⟩
    · rw [f' 101 (by decide)]; exact h2 i hi
    · rw [f' 130 (by decide)]; exact h6
  · rw [if_pos h0, h0] at hF
    exact hF M' ⟨z', fun i hi => by rw [f']; exact h2 i hi, e', p', b', r'⟩
end PubM2
