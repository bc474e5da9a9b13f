/-! ===== the class's readings are the spec's ===== -/
theorem pCd.snoc {M1 M2 : eM} {b : Nat} {c1 : List pSt} {s : pSt} (h : pCd M1 b c1) (hf : pFr M1 M2 (b + c1.length)) (w1 : M2 11 (b + c1.length) = nI s.1) (w2 : pTok s.1 → M2 12 (b + c1.length) = nI s.2.1) : pCd M2 b (c1 ++ [s]) := (h.keep hf (Nat.le_refl _)).append (pCd.one w1 w2)
theorem cRd.cast {tk : Nat → Nat} {T : Nat} {M : eM} {p b b' : Nat} (h : cRd tk T M p b) (e : b = b') : cRd tk T M p b' := e ▸ h
/-- how deep calls nest from here -/
def pNest (m d : Nat) : Nat := (8 - d) * 7 + (match m with
  | 0 => 1
  | 1 => 2
  | 2 => 2
  | 3 => 3
  | 4 => 3
  | 5 => 4
  | 6 => 5
  | 7 => 5
  | _ => 6)
def cAt (G : eG) (tk : Nat → Nat) (d p D : Nat) (M : eM) (F : Bool → eM → Prop) (m : Nat) : Prop := match m with
  | 0 => Cal G 0 68 (D + 5, 0, 0) kX3_readsValue [.ref (G.1 13), .int (nI d)] M (eFZ F)
  | 1 => Cal G 0 68 (D + 5, 0, 0) kX3_readsProduct [.ref (G.1 13), .int (nI d)] M (eFZ F)
  | 2 => ∀ c, c + 1 ≤ p → Ev (eZ G 0 68 0 0 (eFZ F)) G 0 68 (D + 5, 0, 0) kX3_readsProduct 14 [(0, .ref (G.1 13)), (1, .int (nI d)), (2, .int (eZi true)), (3, eV G 1 (nI (tk p))), (4, .int (nI c))] [] M 0 0
  | 3 => Cal G 0 68 (D + 5, 0, 0) kX3_readsSum [.ref (G.1 13), .int (nI d)] M (eFZ F)
  | 4 => ∀ c, c + 1 ≤ p → Ev (eZ G 0 68 0 0 (eFZ F)) G 0 68 (D + 5, 0, 0) kX3_readsSum 14 [(0, .ref (G.1 13)), (1, .int (nI d)), (2, .int (eZi true)), (3, eV G 1 (nI (tk p))), (4, .int (nI c))] [] M 0 0
  | 5 => Cal G 0 68 (D + 5, 0, 0) kX3_readsSingle [.ref (G.1 13), .int (nI d)] M (eFZ F)
  | 6 => Cal G 0 68 (D + 5, 0, 0) kX3_readsBoth [.ref (G.1 13), .int (nI d)] M (eFZ F)
  | 7 => ∀ c, c + 1 ≤ p → Ev (eZ G 0 68 0 0 (eFZ F)) G 0 68 (D + 5, 0, 0) kX3_readsBoth 8 [(0, .ref (G.1 13)), (1, .int (nI d)), (2, .int (eZi true)), (3, .int (nI c))] [] M 0 0
  | 8 => Cal G 0 68 (D + 5, 0, 0) kX3_readsTest [.ref (G.1 13), .int (nI d)] M (eFZ F)
  | _ => ∀ c, c + 1 ≤ p → Ev (eZ G 0 68 0 0 (eFZ F)) G 0 68 (D + 5, 0, 0) kX3_readsTest 8 [(0, .ref (G.1 13)), (1, .int (nI d)), (2, .int (eZi true)), (3, .int (nI c))] [] M 0 0
def cGoal (G : eG) (tk : Nat → Nat) (T n : Nat) : Prop := ∀ (m d p b D : Nat) (M : eM) (F : Bool → eM → Prop) (x : Nat ⊕ (Nat × List pSt)), m ≤ 9 → d ≤ 8 → p ≤ T → b ≤ p → cRd tk T M p b → pE tk n m d p b = some x → cRes tk T F M b x → pNest m d ≤ D → cAt G tk d p D M F m
theorem cTF {P : Prop} : (true = false → P) := fun q => absurd q (by decide)
theorem cFT {P : Prop} : (false = true → P) := fun q => absurd q (by decide)
section CParse
variable {G : eG} {tk : Nat → Nat} {T n : Nat}
theorem cP_value (ht : pTk tk T) (ih : cGoal G tk T n) {d p b D : Nat} {M : eM} {F : Bool → eM → Prop} {x : Nat ⊕ (Nat × List pSt)} (hd : d ≤ 8) (hp : p ≤ T) (hb : b ≤ p) (hM : cRd tk T M p b) (hx : pVal tk (pE tk n) d p b = some x) (hF : cRes tk T F M b x) (hD : pNest 0 d ≤ D) : cAt G tk d p D M F 0 := by
  have h400 := ht.1
  have hk := ht.2.1 p hp
  have hD1 : (8 - d) * 7 + 1 ≤ D := hD
  obtain ⟨D', rfl⟩ : ∃ D', D = D' + 1 := ⟨D - 1, by omega⟩
  have e13 : nI (tk p) - 1 = nI (tk p - 1) := nI_sub hk.1
  have simple : (tk p = 40 ∨ (10 ≤ tk p ∧ tk p ≤ 15)) → Ev (eZ G 0 68 0 0 (eFZ F)) G 0 68 (D' + 1 + 5, 0, 0) kX3_readsValue 76 [(0, .ref (G.1 13)), (2, eV G 1 (nI (tk p)))] [] M 0 0 := by
    intro hs
    unfold pVal at hx
    rw [if_pos hs] at hx
    cases hx
    have hpT := ht.lt hp (by omega) (by omega)
    refine B_X3_readsValue_76 G (D' + 1) M F _ ?_
    rw [hM.2.2.2.1]
    refine S_add G hM (show b < 400 by omega) _ (tk p) p (fun M1 f1 r1 w1 w2 => ⟨cTF, fun _ => ?_⟩)
    refine S_accept G ht r1 hp _ (tk p) ⟨hk.1, by omega⟩ (fun _ M2 f2 r2 e2 => ⟨cTF, fun _ => hF M2 (f1.trans f2 (by omega)) r2 ?_⟩) (fun z => absurd rfl z)
    exact pCd.one (by rw [e2.1]; exact w1) (fun _ => by rw [e2.2]; exact w2)
  refine C_X3_readsValue G (D' + 1) M F (nI d) ?_
  rw [hM.2.2.1, e13, nI_clamp (show tk p - 1 < 2 ^ 31 by omega)]
  refine ⟨⟨nI_le (a := 1) hk.1 (by omega), nI_le (b := 44) (by omega) (by decide)⟩, vp_in_nI (by omega) (by decide), fun q => ?_, fun q => simple ?_, fun q => simple ?_, fun q => simple ?_, fun q => simple ?_, fun q => simple ?_, fun q => simple ?_, fun q => simple ?_, fun q => ?_, fun q => ?_, fun q => ?_, fun q => ?_, fun q => ?_⟩
  · have hn : tk p ≠ 40 ∧ ¬ (10 ≤ tk p ∧ tk p ≤ 15) ∧ tk p ≠ 16 ∧ tk p ≠ 32 ∧ tk p ≠ 25 ∧ tk p ≠ 23 ∧ tk p ≠ 24 := by
      have h := (by decide : ∀ k, k < 43 → ((eSw k).toInt < 5 ∨ 16 < (eSw k).toInt) → k ≠ 39 ∧ ¬ (9 ≤ k ∧ k ≤ 14) ∧ k ≠ 15 ∧ k ≠ 31 ∧ k ≠ 24 ∧ k ≠ 22 ∧ k ≠ 23) (tk p - 1) (by omega) q
      omega
    unfold pVal at hx
    rw [if_neg (by omega), if_neg (by omega), if_neg (by omega), if_neg (by omega), if_neg (by omega)] at hx
    cases hx
    exact hF M (pFr.refl _ _) hM.2.2.2.1
  · have h := (by decide : ∀ k, k < 43 → eSw k = 5 → k = 39) (tk p - 1) (by omega) q
    omega
  · have h := (by decide : ∀ k, k < 43 → eSw k = 6 → k = 9) (tk p - 1) (by omega) q
    omega
  · have h := (by decide : ∀ k, k < 43 → eSw k = 7 → k = 10) (tk p - 1) (by omega) q
    omega
  · have h := (by decide : ∀ k, k < 43 → eSw k = 8 → k = 11) (tk p - 1) (by omega) q
    omega
  · have h := (by decide : ∀ k, k < 43 → eSw k = 9 → k = 12) (tk p - 1) (by omega) q
    omega
  · have h := (by decide : ∀ k, k < 43 → eSw k = 10 → k = 13) (tk p - 1) (by omega) q
    omega
  · have h := (by decide : ∀ k, k < 43 → eSw k = 11 → k = 14) (tk p - 1) (by omega) q
    omega
  · have h := (by decide : ∀ k, k < 43 → eSw k = 12 → k = 15) (tk p - 1) (by omega) q
    have h16 : tk p = 16 := by omega
    unfold pVal at hx
    rw [if_neg (by omega), if_pos h16] at hx
    refine B_X3_readsValue_105 G (D' + 1) M F ?_
    refine S_accept G ht hM hp _ 16 (by decide) (fun _ M1 f1 r1 _ => ⟨cTF, fun _ => ?_⟩) (fun z => absurd h16 z)
    have hp1 := ht.lt hp (by omega) (by omega)
    rcases pEat_on hx with ⟨h17, hx⟩ | ⟨h17, rfl⟩
    · refine S_accept G ht r1 hp1 _ 17 (by decide) (fun _ M2 f2 r2 _ => ⟨cTF, fun _ => ?_⟩) (fun z => absurd h17 z)
      have hp2 := ht.lt (p := p + 1) hp1 (by omega) (by omega)
      rw [r2.2.2.2.1]
      refine S_add G r2 (show b < 400 by omega) _ 16 (p + 2) (fun M3 f3 r3 w1 w2 => ⟨cTF, fun _ => ?_⟩)
      have g3 := (f1.trans f2 (Nat.le_refl _)).trans f3 (Nat.le_refl _)
      rcases pEat_on hx with ⟨h41, hx⟩ | ⟨h41, rfl⟩
      · cases hx
        refine S_accept G ht r3 hp2 _ 41 (by decide) (fun _ M4 f4 r4 e4 => ⟨cTF, fun _ => hF M4 (g3.trans f4 (by omega)) r4 ?_⟩) (fun z => absurd h41 z)
        exact pCd.one (by rw [e4.1]; exact w1) (fun _ => by rw [e4.2]; exact w2)
      · exact S_accept G ht r3 hp2 _ 41 (by decide) (fun z => absurd z h41) (fun _ => ⟨fun _ => hF M3 g3 r3.2.2.2.1, cFT⟩)
    · exact S_accept G ht r1 hp1 _ 17 (by decide) (fun z => absurd z h17) (fun _ => ⟨fun _ => hF M1 f1 r1.2.2.2.1, cFT⟩)
  · have h := (by decide : ∀ k, k < 43 → eSw k = 13 → k = 31) (tk p - 1) (by omega) q
    have h32 : tk p = 32 := by omega
    unfold pVal at hx
    rw [if_neg (by omega), if_neg (by omega), if_pos h32] at hx
    refine B_X3_readsValue_158 G (D' + 1) M F _ ?_
    by_cases h8 : d < 8
    · rw [if_pos h8] at hx
      refine ⟨fun z => absurd z (nI_ge h8 (by decide)), fun _ => ?_⟩
      refine S_accept G ht hM hp _ 32 (by decide) (fun _ M1 f1 r1 _ => ⟨cTF, fun _ => ?_⟩) (fun z => absurd h32 z)
      have hp1 := ht.lt hp (by omega) (by omega)
      rw [← nI_succ]
      rcases pThen_on hx with ⟨e, hr, rfl⟩ | ⟨p1, c1, hr, hx⟩
      · exact ih 0 (d + 1) (p + 1) b D' M1 _ _ (by decide) (by omega) hp1 (by omega) r1 hr (fun M2 f2 n2 => ⟨fun _ => hF M2 (f1.trans f2 (Nat.le_refl _)) n2, cFT⟩) (by show (8 - (d + 1)) * 7 + 1 ≤ D'; omega)
      · cases hx
        obtain ⟨a1, a2, -⟩ := pE_fine ht _ _ _ _ _ _ hp1 hr
        refine ih 0 (d + 1) (p + 1) b D' M1 _ _ (by decide) (by omega) hp1 (by omega) r1 hr (fun M2 f2 r2 k2 => ⟨cTF, fun _ => ?_⟩) (by show (8 - (d + 1)) * 7 + 1 ≤ D'; omega)
        rw [r2.2.2.2.1]
        refine S_add G r2 (show b + c1.length < 400 by omega) _ 44 p1 (fun M3 f3 r3 w1 w2 => ⟨cTF, fun _ => ?_⟩)
        exact hF M3 ((f1.trans f2 (Nat.le_refl _)).trans f3 (by omega)) (r3.cast (by rw [List.length_append]; rfl)) (k2.snoc f3 w1 (fun z => by rcases z with z | z | z | z <;> cases z))
    · rw [if_neg h8] at hx
      cases hx
      refine ⟨fun _ => hF M (pFr.refl _ _) hM.2.2.2.1, fun z => absurd (nI_le (a := 8) (by omega) (by omega)) z⟩
  · have h := (by decide : ∀ k, k < 43 → eSw k = 14 → k = 24) (tk p - 1) (by omega) q
    have h25 : tk p = 25 := by omega
    unfold pVal at hx
    rw [if_neg (by omega), if_neg (by omega), if_neg (by omega), if_pos h25] at hx
    refine B_X3_readsValue_207 G (D' + 1) M F _ ?_
    by_cases h8 : d < 8
    · rw [if_pos h8] at hx
      refine ⟨fun z => absurd z (nI_ge h8 (by decide)), fun _ => ?_⟩
      refine S_accept G ht hM hp _ 25 (by decide) (fun _ M1 f1 r1 _ => ⟨cTF, fun _ => ?_⟩) (fun z => absurd h25 z)
      have hp1 := ht.lt hp (by omega) (by omega)
      rw [← nI_succ]
      rcases pThen_on hx with ⟨e, hr, rfl⟩ | ⟨p1, c1, hr, hx⟩
      · exact ih 3 (d + 1) (p + 1) b D' M1 _ _ (by decide) (by omega) hp1 (by omega) r1 hr (fun M2 f2 n2 => ⟨fun _ => hF M2 (f1.trans f2 (Nat.le_refl _)) n2, cFT⟩) (by show (8 - (d + 1)) * 7 + 3 ≤ D'; omega)
      · obtain ⟨a1, a2, -⟩ := pE_fine ht _ _ _ _ _ _ hp1 hr
        refine ih 3 (d + 1) (p + 1) b D' M1 _ _ (by decide) (by omega) hp1 (by omega) r1 hr (fun M2 f2 r2 k2 => ⟨cTF, fun _ => ?_⟩) (by show (8 - (d + 1)) * 7 + 3 ≤ D'; omega)
        have g2 := f1.trans f2 (Nat.le_refl _)
        rcases pEat_on hx with ⟨h26, hx⟩ | ⟨h26, rfl⟩
        · cases hx
          exact S_accept G ht r2 a1 _ 26 (by decide) (fun _ M3 f3 r3 _ => ⟨cTF, fun _ => hF M3 (g2.trans f3 (by omega)) r3 (k2.keep f3 (Nat.le_refl _))⟩) (fun z => absurd h26 z)
        · exact S_accept G ht r2 a1 _ 26 (by decide) (fun z => absurd z h26) (fun _ => ⟨fun _ => hF M2 g2 r2.2.2.2.1, cFT⟩)
    · rw [if_neg h8] at hx
      cases hx
      refine ⟨fun _ => hF M (pFr.refl _ _) hM.2.2.2.1, fun z => absurd (nI_le (a := 8) (by omega) (by omega)) z⟩
  · have h := (by decide : ∀ k, k < 43 → eSw k = 15 → k = 22) (tk p - 1) (by omega) q
    have hmm : tk p = 23 := by omega
    unfold pVal at hx
    rw [if_neg (by omega), if_neg (by omega), if_neg (by omega), if_neg (by omega), if_pos (by omega)] at hx
    refine B_X3_readsValue_249 G (D' + 1) M F _ _ ?_
    refine S_accept G ht hM hp _ (tk p) ⟨hk.1, by omega⟩ (fun _ M1 f1 r1 _ => ⟨cTF, fun _ => ?_⟩) (fun z => absurd rfl z)
    have hp1 := ht.lt hp (by omega) (by omega)
    rcases pEat_on hx with ⟨h25, hx⟩ | ⟨h25, rfl⟩
    · by_cases h8 : d < 8
      · rw [if_pos h8] at hx
        refine ⟨fun z => absurd z (nI_ge h8 (by decide)), fun _ => ?_⟩
        refine S_accept G ht r1 hp1 _ 25 (by decide) (fun _ M2 f2 r2 _ => ⟨cTF, fun _ => ?_⟩) (fun z => absurd h25 z)
        have hp2 := ht.lt (p := p + 1) hp1 (by omega) (by omega)
        have g2 := f1.trans f2 (Nat.le_refl _)
        rw [← nI_succ]
        rcases pThen_on hx with ⟨e, hr, rfl⟩ | ⟨p1, c1, hr, hx⟩
        · exact ih 3 (d + 1) (p + 1 + 1) b D' M2 _ _ (by decide) (by omega) hp2 (by omega) r2 hr (fun M3 f3 n3 => ⟨fun _ => hF M3 (g2.trans f3 (Nat.le_refl _)) n3, cFT⟩) (by show (8 - (d + 1)) * 7 + 3 ≤ D'; omega)
        · obtain ⟨a1, a2, -⟩ := pE_fine ht _ _ _ _ _ _ hp2 hr
          refine ih 3 (d + 1) (p + 1 + 1) b D' M2 _ _ (by decide) (by omega) hp2 (by omega) r2 hr (fun M3 f3 r3 k3 => ⟨cTF, fun _ => ?_⟩) (by show (8 - (d + 1)) * 7 + 3 ≤ D'; omega)
          have g3 := g2.trans f3 (Nat.le_refl _)
          rcases pEat_on hx with ⟨h30, hx⟩ | ⟨h30, rfl⟩
          · refine S_accept G ht r3 a1 _ 30 (by decide) (fun _ M4 f4 r4 _ => ⟨cTF, fun _ => ?_⟩) (fun z => absurd h30 z)
            have hp3 := ht.lt a1 (by omega) (by omega)
            have g4 := g3.trans f4 (by omega)
            rcases pThen_on hx with ⟨e, hr2, rfl⟩ | ⟨p2, c2, hr2, hx⟩
            · exact ih 3 (d + 1) (p1 + 1) (b + c1.length) D' M4 _ _ (by decide) (by omega) hp3 (by omega) r4 hr2 (fun M5 f5 n5 => ⟨fun _ => hF M5 (g4.trans f5 (by omega)) n5, cFT⟩) (by show (8 - (d + 1)) * 7 + 3 ≤ D'; omega)
            · obtain ⟨b1, b2, -⟩ := pE_fine ht _ _ _ _ _ _ hp3 hr2
              refine ih 3 (d + 1) (p1 + 1) (b + c1.length) D' M4 _ _ (by decide) (by omega) hp3 (by omega) r4 hr2 (fun M5 f5 r5 k5 => ⟨cTF, fun _ => ?_⟩) (by show (8 - (d + 1)) * 7 + 3 ≤ D'; omega)
              have g5 := g4.trans f5 (by omega)
              rcases pEat_on hx with ⟨h26, hx⟩ | ⟨h26, rfl⟩
              · cases hx
                refine S_accept G ht r5 b1 _ 26 (by decide) (fun _ M6 f6 r6 e6 => ⟨cTF, fun _ => ?_⟩) (fun z => absurd h26 z)
                have hp4 := ht.lt b1 (by omega) (by omega)
                rw [r6.2.2.2.1]
                refine S_add G r6 (show b + c1.length + c2.length < 400 by omega) _ (tk p) (p2 + 1) (fun M7 f7 r7 w1 w2 => ⟨cTF, fun _ => ?_⟩)
                refine hF M7 ((g5.trans f6 (by omega)).trans f7 (by omega)) (r7.cast (by rw [List.length_append, List.length_append]; show b + c1.length + c2.length + 1 = b + (c1.length + (c2.length + 1)); omega)) ?_
                refine pCd.append (k3.keep (((f4.trans f5 (Nat.le_refl _)).trans f6 (by omega)).trans f7 (by omega)) (Nat.le_refl _)) ((k5.keep f6 (Nat.le_refl _)).snoc f7 w1 (fun z => ?_))
                have z' : tk p = 40 ∨ tk p = 16 ∨ tk p = 18 ∨ tk p = 19 := z
                omega
              · exact S_accept G ht r5 b1 _ 26 (by decide) (fun z => absurd z h26) (fun _ => ⟨fun _ => hF M5 g5 r5.2.2.2.1, cFT⟩)
          · exact S_accept G ht r3 a1 _ 30 (by decide) (fun z => absurd z h30) (fun _ => ⟨fun _ => hF M3 g3 r3.2.2.2.1, cFT⟩)
      · rw [if_neg h8] at hx
        cases hx
        exact ⟨fun _ => hF M1 f1 r1.2.2.2.1, fun z => absurd (nI_le (a := 8) (by omega) (by omega)) z⟩
    · refine ⟨fun _ => hF M1 f1 r1.2.2.2.1, fun _ => ?_⟩
      exact S_accept G ht r1 hp1 _ 25 (by decide) (fun z => absurd z h25) (fun _ => ⟨fun _ => hF M1 f1 r1.2.2.2.1, cFT⟩)
  · have h := (by decide : ∀ k, k < 43 → eSw k = 16 → k = 23) (tk p - 1) (by omega) q
    have hmm : tk p = 24 := by omega
    unfold pVal at hx
    rw [if_neg (by omega), if_neg (by omega), if_neg (by omega), if_neg (by omega), if_pos (by omega)] at hx
    refine B_X3_readsValue_249 G (D' + 1) M F _ _ ?_
    refine S_accept G ht hM hp _ (tk p) ⟨hk.1, by omega⟩ (fun _ M1 f1 r1 _ => ⟨cTF, fun _ => ?_⟩) (fun z => absurd rfl z)
    have hp1 := ht.lt hp (by omega) (by omega)
    rcases pEat_on hx with ⟨h25, hx⟩ | ⟨h25, rfl⟩
    · by_cases h8 : d < 8
      · rw [if_pos h8] at hx
        refine ⟨fun z => absurd z (nI_ge h8 (by decide)), fun _ => ?_⟩
        refine S_accept G ht r1 hp1 _ 25 (by decide) (fun _ M2 f2 r2 _ => ⟨cTF, fun _ => ?_⟩) (fun z => absurd h25 z)
        have hp2 := ht.lt (p := p + 1) hp1 (by omega) (by omega)
        have g2 := f1.trans f2 (Nat.le_refl _)
        rw [← nI_succ]
        rcases pThen_on hx with ⟨e, hr, rfl⟩ | ⟨p1, c1, hr, hx⟩
        · exact ih 3 (d + 1) (p + 1 + 1) b D' M2 _ _ (by decide) (by omega) hp2 (by omega) r2 hr (fun M3 f3 n3 => ⟨fun _ => hF M3 (g2.trans f3 (Nat.le_refl _)) n3, cFT⟩) (by show (8 - (d + 1)) * 7 + 3 ≤ D'; omega)
        · obtain ⟨a1, a2, -⟩ := pE_fine ht _ _ _ _ _ _ hp2 hr
          refine ih 3 (d + 1) (p + 1 + 1) b D' M2 _ _ (by decide) (by omega) hp2 (by omega) r2 hr (fun M3 f3 r3 k3 => ⟨cTF, fun _ => ?_⟩) (by show (8 - (d + 1)) * 7 + 3 ≤ D'; omega)
          have g3 := g2.trans f3 (Nat.le_refl _)
          rcases pEat_on hx with ⟨h30, hx⟩ | ⟨h30, rfl⟩
          · refine S_accept G ht r3 a1 _ 30 (by decide) (fun _ M4 f4 r4 _ => ⟨cTF, fun _ => ?_⟩) (fun z => absurd h30 z)
            have hp3 := ht.lt a1 (by omega) (by omega)
            have g4 := g3.trans f4 (by omega)
            rcases pThen_on hx with ⟨e, hr2, rfl⟩ | ⟨p2, c2, hr2, hx⟩
            · exact ih 3 (d + 1) (p1 + 1) (b + c1.length) D' M4 _ _ (by decide) (by omega) hp3 (by omega) r4 hr2 (fun M5 f5 n5 => ⟨fun _ => hF M5 (g4.trans f5 (by omega)) n5, cFT⟩) (by show (8 - (d + 1)) * 7 + 3 ≤ D'; omega)
            · obtain ⟨b1, b2, -⟩ := pE_fine ht _ _ _ _ _ _ hp3 hr2
              refine ih 3 (d + 1) (p1 + 1) (b + c1.length) D' M4 _ _ (by decide) (by omega) hp3 (by omega) r4 hr2 (fun M5 f5 r5 k5 => ⟨cTF, fun _ => ?_⟩) (by show (8 - (d + 1)) * 7 + 3 ≤ D'; omega)
              have g5 := g4.trans f5 (by omega)
              rcases pEat_on hx with ⟨h26, hx⟩ | ⟨h26, rfl⟩
              · cases hx
                refine S_accept G ht r5 b1 _ 26 (by decide) (fun _ M6 f6 r6 e6 => ⟨cTF, fun _ => ?_⟩) (fun z => absurd h26 z)
                have hp4 := ht.lt b1 (by omega) (by omega)
                rw [r6.2.2.2.1]
                refine S_add G r6 (show b + c1.length + c2.length < 400 by omega) _ (tk p) (p2 + 1) (fun M7 f7 r7 w1 w2 => ⟨cTF, fun _ => ?_⟩)
                refine hF M7 ((g5.trans f6 (by omega)).trans f7 (by omega)) (r7.cast (by rw [List.length_append, List.length_append]; show b + c1.length + c2.length + 1 = b + (c1.length + (c2.length + 1)); omega)) ?_
                refine pCd.append (k3.keep (((f4.trans f5 (Nat.le_refl _)).trans f6 (by omega)).trans f7 (by omega)) (Nat.le_refl _)) ((k5.keep f6 (Nat.le_refl _)).snoc f7 w1 (fun z => ?_))
                have z' : tk p = 40 ∨ tk p = 16 ∨ tk p = 18 ∨ tk p = 19 := z
                omega
              · exact S_accept G ht r5 b1 _ 26 (by decide) (fun z => absurd z h26) (fun _ => ⟨fun _ => hF M5 g5 r5.2.2.2.1, cFT⟩)
          · exact S_accept G ht r3 a1 _ 30 (by decide) (fun z => absurd z h30) (fun _ => ⟨fun _ => hF M3 g3 r3.2.2.2.1, cFT⟩)
      · rw [if_neg h8] at hx
        cases hx
        exact ⟨fun _ => hF M1 f1 r1.2.2.2.1, fun z => absurd (nI_le (a := 8) (by omega) (by omega)) z⟩
    · refine ⟨fun _ => hF M1 f1 r1.2.2.2.1, fun _ => ?_⟩
      exact S_accept G ht r1 hp1 _ 25 (by decide) (fun z => absurd z h25) (fun _ => ⟨fun _ => hF M1 f1 r1.2.2.2.1, cFT⟩)
theorem cP_single (ht : pTk tk T) (ih : cGoal G tk T n) {d p b D : Nat} {M : eM} {F : Bool → eM → Prop} {x : Nat ⊕ (Nat × List pSt)} (hd : d ≤ 8) (hp : p ≤ T) (hb : b ≤ p) (hM : cRd tk T M p b) (hx : pSin tk (pE tk n) d p b = some x) (hF : cRes tk T F M b x) (hD : pNest 5 d ≤ D) : cAt G tk d p D M F 5 := by
  have h400 := ht.1
  have hk := ht.2.1 p hp
  have hD1 : (8 - d) * 7 + 4 ≤ D := hD
  obtain ⟨D', rfl⟩ : ∃ D', D = D' + 1 := ⟨D - 1, by omega⟩
  have e13 : nI (tk p) - 1 = nI (tk p - 1) := nI_sub hk.1
  refine C_X3_readsSingle G (D' + 1) M F (nI d) ?_
  rw [hM.2.2.1, e13, nI_clamp (show tk p - 1 < 2 ^ 31 by omega)]
  have onfits : tk p = 18 ∨ tk p = 19 → Cal G 0 68 (2, 0, 0) kX3_accept [.ref (G.1 13), eV G 1 (nI (tk p))] M (eFZ (fun (r13 : Bool) (M13 : eM) => ((r13 = false) → F false M13) ∧ ((r13 = true) → Cal G 0 68 (1, 0, 0) kX7_add [.ref (G.1 8), eV G 1 (nI (tk p)), .int (M13 13 3)] M13 (eFZ (fun (r14 : Bool) (M14 : eM) => ((r14 = false) → F false M14) ∧ ((r14 = true) → Cal G 0 68 (2, 0, 0) kX3_accept [.ref (G.1 13), eV G 1 41] M14 (eFZ (fun (r15 : Bool) (M15 : eM) => ((r15 = false) → F false M15) ∧ ((r15 = true) → F true M15))))))))) := by
    intro hs
    unfold pSin at hx
    rw [if_neg (by omega), if_neg (by omega), if_pos hs] at hx
    have hp1 := ht.lt hp (by omega) (by omega)
    refine S_accept G ht hM hp _ (tk p) ⟨hk.1, by omega⟩ (fun _ M1 f1 r1 _ => ⟨cTF, fun _ => ?_⟩) (fun z => absurd rfl z)
    rw [r1.2.2.2.1]
    refine S_add G r1 (show b < 400 by omega) _ (tk p) (p + 1) (fun M2 f2 r2 w1 w2 => ⟨cTF, fun _ => ?_⟩)
    have g2 := f1.trans f2 (Nat.le_refl _)
    rcases pEat_on hx with ⟨h41, hx⟩ | ⟨h41, rfl⟩
    · cases hx
      refine S_accept G ht r2 hp1 _ 41 (by decide) (fun _ M4 f4 r4 e4 => ⟨cTF, fun _ => hF M4 (g2.trans f4 (by omega)) r4 ?_⟩) (fun z => absurd h41 z)
      exact pCd.one (by rw [e4.1]; exact w1) (fun _ => by rw [e4.2]; exact w2)
    · exact S_accept G ht r2 hp1 _ 41 (by decide) (fun z => absurd z h41) (fun _ => ⟨fun _ => hF M2 g2 r2.2.2.2.1, cFT⟩)
  refine ⟨⟨nI_le (a := 1) hk.1 (by omega), nI_le (b := 44) (by omega) (by decide)⟩, vp_in_nI (by omega) (by decide), fun q => ?_, fun q => ?_, fun q => ?_, fun q => onfits ?_, fun q => onfits ?_⟩
  · have hn : tk p ≠ 20 ∧ tk p ≠ 27 ∧ tk p ≠ 18 ∧ tk p ≠ 19 := by
      have h := (by decide : ∀ k, k < 43 → ((eSw k).toInt < 1 ∨ 4 < (eSw k).toInt) → k ≠ 19 ∧ k ≠ 26 ∧ k ≠ 17 ∧ k ≠ 18) (tk p - 1) (by omega) q
      omega
    unfold pSin at hx
    rw [if_neg (by omega), if_neg (by omega), if_neg (by omega)] at hx
    rcases pThen_on hx with ⟨e, hr, rfl⟩ | ⟨p1, c1, hr, hx⟩
    · exact ih 3 d p b D' M _ _ (by decide) hd hp hb hM hr (fun M2 f2 n2 => ⟨cFT, fun _ => hF M2 f2 n2⟩) (by show (8 - d) * 7 + 3 ≤ D'; omega)
    · obtain ⟨a1, a2, -⟩ := pE_fine ht _ _ _ _ _ _ hp hr
      refine ih 3 d p b D' M _ _ (by decide) hd hp hb hM hr (fun M1 f1 r1 k1 => ⟨fun _ => ?_, cTF⟩) (by show (8 - d) * 7 + 3 ≤ D'; omega)
      have hk1 := ht.2.1 p1 a1
      have yes : 35 ≤ tk p1 ∧ tk p1 ≤ 39 → ∀ M2, pFr M1 M2 (b + c1.length) → cRd tk T M2 (p1 + 1) (b + c1.length) → (M2 11 = M1 11 ∧ M2 12 = M1 12) → Ev (eZ G 0 68 0 0 (eFZ F)) G 0 68 (D' + 1 + 5, 0, 0) kX3_readsSingle 239 [(0, .ref (G.1 13)), (1, .int (nI d)), (3, eV G 1 (M1 13 2))] [] M2 0 0 := by
        intro hop M2 f2 r2 _
        have hp1 := ht.lt a1 (by omega) (by omega)
        rw [if_pos hop] at hx
        rw [r1.2.2.1]
        refine B_X3_readsSingle_239 G (D' + 1) M2 F _ _ ?_
        have g2 := f1.trans f2 (by omega)
        rcases pThen_on hx with ⟨e, hr2, rfl⟩ | ⟨p2, c2, hr2, hx⟩
        · exact ih 3 d (p1 + 1) (b + c1.length) D' M2 _ _ (by decide) hd hp1 (by omega) r2 hr2 (fun M3 f3 n3 => ⟨fun _ => hF M3 (g2.trans f3 (by omega)) n3, cFT⟩) (by show (8 - d) * 7 + 3 ≤ D'; omega)
        · cases hx
          obtain ⟨b1, b2, -⟩ := pE_fine ht _ _ _ _ _ _ hp1 hr2
          refine ih 3 d (p1 + 1) (b + c1.length) D' M2 _ _ (by decide) hd hp1 (by omega) r2 hr2 (fun M3 f3 r3 k3 => ⟨cTF, fun _ => ?_⟩) (by show (8 - d) * 7 + 3 ≤ D'; omega)
          rw [r3.2.2.2.1]
          refine S_add G r3 (show b + c1.length + c2.length < 400 by omega) _ (tk p1) p2 (fun M4 f4 r4 w1 w2 => ⟨cTF, fun _ => ?_⟩)
          refine hF M4 ((g2.trans f3 (by omega)).trans f4 (by omega)) (r4.cast (by rw [List.length_append, List.length_append]; show b + c1.length + c2.length + 1 = b + (c1.length + (c2.length + 1)); omega)) ?_
          refine pCd.append ((k1.keep f2 (Nat.le_refl _)).keep (f3.trans f4 (by omega)) (Nat.le_refl _)) (k3.snoc f4 w1 (fun z => ?_))
          have z' : tk p1 = 40 ∨ tk p1 = 16 ∨ tk p1 = 18 ∨ tk p1 = 19 := z
          omega
      have r2' : ∀ k, tk p1 = k → M1 13 2 = nI k := fun k hk => by rw [r1.2.2.1, hk]
      refine S_accept G ht r1 a1 _ 35 (by decide) (fun z M2 f2 r2 e2 => ⟨fun _ => yes (by omega) M2 f2 r2 e2, cTF⟩) (fun z1 => ⟨cFT, fun _ => ?_⟩)
      refine S_accept G ht r1 a1 _ 36 (by decide) (fun z M2 f2 r2 e2 => ⟨fun _ => yes (by omega) M2 f2 r2 e2, cTF⟩) (fun z2 => ⟨cFT, fun _ => ?_⟩)
      refine S_accept G ht r1 a1 _ 37 (by decide) (fun z M2 f2 r2 e2 => ⟨fun _ => yes (by omega) M2 f2 r2 e2, cTF⟩) (fun z3 => ⟨cFT, fun _ => ?_⟩)
      refine S_accept G ht r1 a1 _ 38 (by decide) (fun z M2 f2 r2 e2 => ⟨fun _ => yes (by omega) M2 f2 r2 e2, cTF⟩) (fun z4 => ⟨cFT, fun _ => ?_⟩)
      refine S_accept G ht r1 a1 _ 39 (by decide) (fun z M2 f2 r2 e2 => ⟨cTF, fun _ => yes (by omega) M2 f2 r2 e2⟩) (fun z5 => ⟨fun _ => ?_, cFT⟩)
      rw [if_neg (by omega)] at hx
      cases hx
      exact hF M1 f1 r1.2.2.2.1
  · have h := (by decide : ∀ k, k < 43 → eSw k = 1 → k = 19) (tk p - 1) (by omega) q
    have h20 : tk p = 20 := by omega
    unfold pSin at hx
    rw [if_pos h20] at hx
    by_cases h8 : d < 8
    · rw [if_pos h8] at hx
      refine ⟨fun z => absurd z (nI_ge h8 (by decide)), fun _ => ?_⟩
      refine S_accept G ht hM hp _ 20 (by decide) (fun _ M1 f1 r1 _ => ⟨cTF, fun _ => ?_⟩) (fun z => absurd h20 z)
      have hp1 := ht.lt hp (by omega) (by omega)
      rw [← nI_succ]
      rcases pThen_on hx with ⟨e, hr, rfl⟩ | ⟨p1, c1, hr, hx⟩
      · exact ih 5 (d + 1) (p + 1) b D' M1 _ _ (by decide) (by omega) hp1 (by omega) r1 hr (fun M2 f2 n2 => ⟨fun _ => hF M2 (f1.trans f2 (Nat.le_refl _)) n2, cFT⟩) (by show (8 - (d + 1)) * 7 + 4 ≤ D'; omega)
      · cases hx
        obtain ⟨a1, a2, -⟩ := pE_fine ht _ _ _ _ _ _ hp1 hr
        refine ih 5 (d + 1) (p + 1) b D' M1 _ _ (by decide) (by omega) hp1 (by omega) r1 hr (fun M2 f2 r2 k2 => ⟨cTF, fun _ => ?_⟩) (by show (8 - (d + 1)) * 7 + 4 ≤ D'; omega)
        rw [r2.2.2.2.1]
        refine S_add G r2 (show b + c1.length < 400 by omega) _ 20 p1 (fun M3 f3 r3 w1 w2 => ⟨cTF, fun _ => ?_⟩)
        exact hF M3 ((f1.trans f2 (Nat.le_refl _)).trans f3 (by omega)) (r3.cast (by rw [List.length_append]; rfl)) (k2.snoc f3 w1 (fun z => by rcases z with z | z | z | z <;> cases z))
    · rw [if_neg h8] at hx
      cases hx
      refine ⟨fun _ => hF M (pFr.refl _ _) hM.2.2.2.1, fun z => absurd (nI_le (a := 8) (by omega) (by omega)) z⟩
  · have h := (by decide : ∀ k, k < 43 → eSw k = 2 → k = 26) (tk p - 1) (by omega) q
    have h27 : tk p = 27 := by omega
    unfold pSin at hx
    rw [if_neg (by omega), if_pos h27] at hx
    by_cases h8 : d < 8
    · rw [if_pos h8] at hx
      refine ⟨fun z => absurd z (nI_ge h8 (by decide)), fun _ => ?_⟩
      refine S_accept G ht hM hp _ 27 (by decide) (fun _ M1 f1 r1 _ => ⟨cTF, fun _ => ?_⟩) (fun z => absurd h27 z)
      have hp1 := ht.lt hp (by omega) (by omega)
      rw [← nI_succ]
      rcases pThen_on hx with ⟨e, hr, rfl⟩ | ⟨p1, c1, hr, hx⟩
      · exact ih 8 (d + 1) (p + 1) b D' M1 _ _ (by decide) (by omega) hp1 (by omega) r1 hr (fun M2 f2 n2 => ⟨fun _ => hF M2 (f1.trans f2 (Nat.le_refl _)) n2, cFT⟩) (by show (8 - (d + 1)) * 7 + 6 ≤ D'; omega)
      · obtain ⟨a1, a2, -⟩ := pE_fine ht _ _ _ _ _ _ hp1 hr
        refine ih 8 (d + 1) (p + 1) b D' M1 _ _ (by decide) (by omega) hp1 (by omega) r1 hr (fun M2 f2 r2 k2 => ⟨cTF, fun _ => ?_⟩) (by show (8 - (d + 1)) * 7 + 6 ≤ D'; omega)
        have g2 := f1.trans f2 (Nat.le_refl _)
        rcases pEat_on hx with ⟨h28, hx⟩ | ⟨h28, rfl⟩
        · cases hx
          exact S_accept G ht r2 a1 _ 28 (by decide) (fun _ M3 f3 r3 _ => ⟨cTF, fun _ => hF M3 (g2.trans f3 (by omega)) r3 (k2.keep f3 (Nat.le_refl _))⟩) (fun z => absurd h28 z)
        · exact S_accept G ht r2 a1 _ 28 (by decide) (fun z => absurd z h28) (fun _ => ⟨fun _ => hF M2 g2 r2.2.2.2.1, cFT⟩)
    · rw [if_neg h8] at hx
      cases hx
      refine ⟨fun _ => hF M (pFr.refl _ _) hM.2.2.2.1, fun z => absurd (nI_le (a := 8) (by omega) (by omega)) z⟩
  · have h := (by decide : ∀ k, k < 43 → eSw k = 3 → k = 17) (tk p - 1) (by omega) q
    omega
  · have h := (by decide : ∀ k, k < 43 → eSw k = 4 → k = 18) (tk p - 1) (by omega) q
    omega
theorem cP_product (ht : pTk tk T) (ih : cGoal G tk T n) {d p b D : Nat} {M : eM} {F : Bool → eM → Prop} {x : Nat ⊕ (Nat × List pSt)} (hd : d ≤ 8) (hp : p ≤ T) (hb : b ≤ p) (hM : cRd tk T M p b) (hx : pHead (pE tk n) 0 2 d p b = some x) (hF : cRes tk T F M b x) (hD : pNest 1 d ≤ D) : cAt G tk d p D M F 1 := by
  have hD1 : (8 - d) * 7 + 2 ≤ D := hD
  obtain ⟨D', rfl⟩ : ∃ D', D = D' + 1 := ⟨D - 1, by omega⟩
  refine C_X3_readsProduct G (D' + 1) M F (nI d) ?_
  rcases pThen_on hx with ⟨e, hr, rfl⟩ | ⟨p1, c1, hr, hx⟩
  · refine ih 0 d p b D' M _ _ (by decide) hd hp hb hM hr (fun M2 f2 n2 => ?_) (by show (8 - d) * 7 + 1 ≤ D'; omega)
    have h0 := hF M2 f2 n2
    exact B_X3_readsProduct_14 G (D' + 1) M2 F _ _ _ _ ⟨fun _ => h0, fun _ => ⟨fun _ => h0, cFT⟩⟩
  · obtain ⟨a1, a2, a3⟩ := pE_fine ht _ _ _ _ _ _ hp hr
    have a3' := a3 rfl
    refine ih 0 d p b D' M _ _ (by decide) hd hp hb hM hr (fun M1 f1 r1 k1 => ?_) (by show (8 - d) * 7 + 1 ≤ D'; omega)
    rw [r1.2.2.1]
    rcases pThen_on hx with ⟨e, hr2, rfl⟩ | ⟨p2, c2, hr2, hx⟩
    · exact ih 2 d p1 (b + c1.length) (D' + 1) M1 F _ (by decide) hd a1 (by omega) r1 hr2 (fun M2 f2 n2 => hF M2 (f1.trans f2 (by omega)) n2) (by show (8 - d) * 7 + 2 ≤ D' + 1; omega) 0 (by omega)
    · cases hx
      refine ih 2 d p1 (b + c1.length) (D' + 1) M1 F _ (by decide) hd a1 (by omega) r1 hr2 (fun M2 f2 r2 k2 => ?_) (by show (8 - d) * 7 + 2 ≤ D' + 1; omega) 0 (by omega)
      exact hF M2 (f1.trans f2 (by omega)) (r2.cast (by rw [List.length_append]; omega)) ((k1.keep f2 (Nat.le_refl _)).append k2)
theorem cP_productl (ht : pTk tk T) (ih : cGoal G tk T n) {d p b D : Nat} {M : eM} {F : Bool → eM → Prop} {x : Nat ⊕ (Nat × List pSt)} (hd : d ≤ 8) (hp : p ≤ T) (hb : b ≤ p) (hM : cRd tk T M p b) (hx : pLoop tk (pE tk n) 0 2 pOpM d p b = some x) (hF : cRes tk T F M b x) (hD : pNest 2 d ≤ D) : cAt G tk d p D M F 2 := by
  have h400 := ht.1
  have hk := ht.2.1 p hp
  have hD1 : (8 - d) * 7 + 2 ≤ D := hD
  obtain ⟨D', rfl⟩ : ∃ D', D = D' + 1 := ⟨D - 1, by omega⟩
  intro c hc
  have yes : tk p = 33 ∨ tk p = 34 → ∀ M1, pFr M M1 b → cRd tk T M1 (p + 1) b → Ev (eZ G 0 68 0 0 (eFZ F)) G 0 68 (D' + 1 + 5, 0, 0) kX3_readsProduct 46 [(0, .ref (G.1 13)), (1, .int (nI d)), (3, eV G 1 (nI (tk p))), (4, .int (nI c))] [] M1 0 0 := by
    intro hop M1 f1 r1
    have hp1 := ht.lt hp (by omega) (by omega)
    have hob : pOpM (tk p) = true := by rcases hop with z | z <;> (rw [z]; rfl)
    unfold pLoop at hx
    rw [hob, if_pos rfl] at hx
    refine B_X3_readsProduct_46 G (D' + 1) M1 F _ _ _ ?_
    rcases pThen_on hx with ⟨e, hr, rfl⟩ | ⟨p1, c1, hr, hx⟩
    · refine ih 0 d (p + 1) b D' M1 _ _ (by decide) hd hp1 (by omega) r1 hr (fun M2 f2 n2 => ⟨fun _ => ?_, cFT⟩) (by show (8 - d) * 7 + 1 ≤ D'; omega)
      have h0 := hF M2 (f1.trans f2 (Nat.le_refl _)) n2
      exact B_X3_readsProduct_73 G (D' + 1) M2 F _ _ (B_X3_readsProduct_14 G (D' + 1) M2 F _ _ _ _ ⟨fun _ => h0, fun _ => ⟨fun _ => h0, cFT⟩⟩)
    · obtain ⟨a1, a2, a3⟩ := pE_fine ht _ _ _ _ _ _ hp1 hr
      have a3' := a3 rfl
      refine ih 0 d (p + 1) b D' M1 _ _ (by decide) hd hp1 (by omega) r1 hr (fun M2 f2 r2 k2 => ⟨cTF, fun _ => ?_⟩) (by show (8 - d) * 7 + 1 ≤ D'; omega)
      rw [r2.2.2.2.1]
      refine S_add G r2 (show b + c1.length < 400 by omega) _ (tk p) p1 (fun M3 f3 r3 w1 w2 => ⟨cTF, fun _ => ?_⟩)
      have g3 := (f1.trans f2 (Nat.le_refl _)).trans f3 (by omega)
      have k3 : pCd M3 b (c1 ++ [(tk p, 0, b - 1, b + c1.length - 1)]) := k2.snoc f3 w1 (fun z => by
        have z' : tk p = 40 ∨ tk p = 16 ∨ tk p = 18 ∨ tk p = 19 := z
        omega)
      rw [r3.2.2.1, ← nI_succ]
      rcases pThen_on hx with ⟨e, hr2, rfl⟩ | ⟨p2, c2, hr2, hx⟩
      · exact ih 2 d p1 (b + c1.length + 1) (D' + 1) M3 F _ (by decide) hd a1 (by omega) r3 hr2 (fun M4 f4 n4 => hF M4 (g3.trans f4 (by omega)) n4) hD (c + 1) (by omega)
      · cases hx
        refine ih 2 d p1 (b + c1.length + 1) (D' + 1) M3 F _ (by decide) hd a1 (by omega) r3 hr2 (fun M4 f4 r4 k4 => ?_) hD (c + 1) (by omega)
        refine hF M4 (g3.trans f4 (by omega)) (r4.cast (by rw [List.length_append, List.length_cons]; omega)) ?_
        rw [List.append_cons]
        refine (k3.keep f4 (by rw [List.length_append]; exact Nat.le_refl _)).append ?_
        rw [List.length_append]
        exact k4
  refine B_X3_readsProduct_14 G (D' + 1) M F _ _ _ _ ⟨fun z => absurd z (nI_ge (b := 400) (by omega) (by decide)), fun _ => ⟨cTF, fun _ => ?_⟩⟩
  refine S_accept G ht hM hp _ 33 (by decide) (fun z M1 f1 r1 _ => ⟨fun _ => yes (Or.inl z) M1 f1 r1, cTF⟩) (fun z1 => ⟨cFT, fun _ => ?_⟩)
  refine S_accept G ht hM hp _ 34 (by decide) (fun z M1 f1 r1 _ => ⟨cTF, fun _ => yes (Or.inr z) M1 f1 r1⟩) (fun z2 => ⟨fun _ => ?_, cFT⟩)
  have hob : pOpM (tk p) = false := by
    unfold pOpM
    rw [beq_false_of_ne z1, beq_false_of_ne z2]
    rfl
  unfold pLoop at hx
  rw [hob, if_neg (by decide)] at hx
  cases hx
  exact hF M (pFr.refl _ _) hM (pCd.nil _ _)
theorem cP_sum (ht : pTk tk T) (ih : cGoal G tk T n) {d p b D : Nat} {M : eM} {F : Bool → eM → Prop} {x : Nat ⊕ (Nat × List pSt)} (hd : d ≤ 8) (hp : p ≤ T) (hb : b ≤ p) (hM : cRd tk T M p b) (hx : pHead (pE tk n) 1 4 d p b = some x) (hF : cRes tk T F M b x) (hD : pNest 3 d ≤ D) : cAt G tk d p D M F 3 := by
  have hD1 : (8 - d) * 7 + 3 ≤ D := hD
  obtain ⟨D', rfl⟩ : ∃ D', D = D' + 1 := ⟨D - 1, by omega⟩
  refine C_X3_readsSum G (D' + 1) M F (nI d) ?_
  rcases pThen_on hx with ⟨e, hr, rfl⟩ | ⟨p1, c1, hr, hx⟩
  · refine ih 1 d p b D' M _ _ (by decide) hd hp hb hM hr (fun M2 f2 n2 => ?_) (by show (8 - d) * 7 + 2 ≤ D'; omega)
    have h0 := hF M2 f2 n2
    exact B_X3_readsSum_14 G (D' + 1) M2 F _ _ _ _ ⟨fun _ => h0, fun _ => ⟨fun _ => h0, cFT⟩⟩
  · obtain ⟨a1, a2, a3⟩ := pE_fine ht _ _ _ _ _ _ hp hr
    have a3' := a3 rfl
    refine ih 1 d p b D' M _ _ (by decide) hd hp hb hM hr (fun M1 f1 r1 k1 => ?_) (by show (8 - d) * 7 + 2 ≤ D'; omega)
    rw [r1.2.2.1]
    rcases pThen_on hx with ⟨e, hr2, rfl⟩ | ⟨p2, c2, hr2, hx⟩
    · exact ih 4 d p1 (b + c1.length) (D' + 1) M1 F _ (by decide) hd a1 (by omega) r1 hr2 (fun M2 f2 n2 => hF M2 (f1.trans f2 (by omega)) n2) (by show (8 - d) * 7 + 3 ≤ D' + 1; omega) 0 (by omega)
    · cases hx
      refine ih 4 d p1 (b + c1.length) (D' + 1) M1 F _ (by decide) hd a1 (by omega) r1 hr2 (fun M2 f2 r2 k2 => ?_) (by show (8 - d) * 7 + 3 ≤ D' + 1; omega) 0 (by omega)
      exact hF M2 (f1.trans f2 (by omega)) (r2.cast (by rw [List.length_append]; omega)) ((k1.keep f2 (Nat.le_refl _)).append k2)
theorem cP_suml (ht : pTk tk T) (ih : cGoal G tk T n) {d p b D : Nat} {M : eM} {F : Bool → eM → Prop} {x : Nat ⊕ (Nat × List pSt)} (hd : d ≤ 8) (hp : p ≤ T) (hb : b ≤ p) (hM : cRd tk T M p b) (hx : pLoop tk (pE tk n) 1 4 pOpA d p b = some x) (hF : cRes tk T F M b x) (hD : pNest 4 d ≤ D) : cAt G tk d p D M F 4 := by
  have h400 := ht.1
  have hk := ht.2.1 p hp
  have hD1 : (8 - d) * 7 + 3 ≤ D := hD
  obtain ⟨D', rfl⟩ : ∃ D', D = D' + 1 := ⟨D - 1, by omega⟩
  intro c hc
  have yes : tk p = 31 ∨ tk p = 32 → ∀ M1, pFr M M1 b → cRd tk T M1 (p + 1) b → Ev (eZ G 0 68 0 0 (eFZ F)) G 0 68 (D' + 1 + 5, 0, 0) kX3_readsSum 46 [(0, .ref (G.1 13)), (1, .int (nI d)), (3, eV G 1 (nI (tk p))), (4, .int (nI c))] [] M1 0 0 := by
    intro hop M1 f1 r1
    have hp1 := ht.lt hp (by omega) (by omega)
    have hob : pOpA (tk p) = true := by rcases hop with z | z <;> (rw [z]; rfl)
    unfold pLoop at hx
    rw [hob, if_pos rfl] at hx
    refine B_X3_readsSum_46 G (D' + 1) M1 F _ _ _ ?_
    rcases pThen_on hx with ⟨e, hr, rfl⟩ | ⟨p1, c1, hr, hx⟩
    · refine ih 1 d (p + 1) b D' M1 _ _ (by decide) hd hp1 (by omega) r1 hr (fun M2 f2 n2 => ⟨fun _ => ?_, cFT⟩) (by show (8 - d) * 7 + 2 ≤ D'; omega)
      have h0 := hF M2 (f1.trans f2 (Nat.le_refl _)) n2
      exact B_X3_readsSum_73 G (D' + 1) M2 F _ _ (B_X3_readsSum_14 G (D' + 1) M2 F _ _ _ _ ⟨fun _ => h0, fun _ => ⟨fun _ => h0, cFT⟩⟩)
    · obtain ⟨a1, a2, a3⟩ := pE_fine ht _ _ _ _ _ _ hp1 hr
      have a3' := a3 rfl
      refine ih 1 d (p + 1) b D' M1 _ _ (by decide) hd hp1 (by omega) r1 hr (fun M2 f2 r2 k2 => ⟨cTF, fun _ => ?_⟩) (by show (8 - d) * 7 + 2 ≤ D'; omega)
      rw [r2.2.2.2.1]
      refine S_add G r2 (show b + c1.length < 400 by omega) _ (tk p) p1 (fun M3 f3 r3 w1 w2 => ⟨cTF, fun _ => ?_⟩)
      have g3 := (f1.trans f2 (Nat.le_refl _)).trans f3 (by omega)
      have k3 : pCd M3 b (c1 ++ [(tk p, 0, b - 1, b + c1.length - 1)]) := k2.snoc f3 w1 (fun z => by
        have z' : tk p = 40 ∨ tk p = 16 ∨ tk p = 18 ∨ tk p = 19 := z
        omega)
      rw [r3.2.2.1, ← nI_succ]
      rcases pThen_on hx with ⟨e, hr2, rfl⟩ | ⟨p2, c2, hr2, hx⟩
      · exact ih 4 d p1 (b + c1.length + 1) (D' + 1) M3 F _ (by decide) hd a1 (by omega) r3 hr2 (fun M4 f4 n4 => hF M4 (g3.trans f4 (by omega)) n4) hD (c + 1) (by omega)
      · cases hx
        refine ih 4 d p1 (b + c1.length + 1) (D' + 1) M3 F _ (by decide) hd a1 (by omega) r3 hr2 (fun M4 f4 r4 k4 => ?_) hD (c + 1) (by omega)
        refine hF M4 (g3.trans f4 (by omega)) (r4.cast (by rw [List.length_append, List.length_cons]; omega)) ?_
        rw [List.append_cons]
        refine (k3.keep f4 (by rw [List.length_append]; exact Nat.le_refl _)).append ?_
        rw [List.length_append]
        exact k4
  refine B_X3_readsSum_14 G (D' + 1) M F _ _ _ _ ⟨fun z => absurd z (nI_ge (b := 400) (by omega) (by decide)), fun _ => ⟨cTF, fun _ => ?_⟩⟩
  refine S_accept G ht hM hp _ 31 (by decide) (fun z M1 f1 r1 _ => ⟨fun _ => yes (Or.inl z) M1 f1 r1, cTF⟩) (fun z1 => ⟨cFT, fun _ => ?_⟩)
  refine S_accept G ht hM hp _ 32 (by decide) (fun z M1 f1 r1 _ => ⟨cTF, fun _ => yes (Or.inr z) M1 f1 r1⟩) (fun z2 => ⟨fun _ => ?_, cFT⟩)
  have hob : pOpA (tk p) = false := by
    unfold pOpA
    rw [beq_false_of_ne z1, beq_false_of_ne z2]
    rfl
  unfold pLoop at hx
  rw [hob, if_neg (by decide)] at hx
  cases hx
  exact hF M (pFr.refl _ _) hM (pCd.nil _ _)
theorem cP_both (ht : pTk tk T) (ih : cGoal G tk T n) {d p b D : Nat} {M : eM} {F : Bool → eM → Prop} {x : Nat ⊕ (Nat × List pSt)} (hd : d ≤ 8) (hp : p ≤ T) (hb : b ≤ p) (hM : cRd tk T M p b) (hx : pHead (pE tk n) 5 7 d p b = some x) (hF : cRes tk T F M b x) (hD : pNest 6 d ≤ D) : cAt G tk d p D M F 6 := by
  have hD1 : (8 - d) * 7 + 5 ≤ D := hD
  obtain ⟨D', rfl⟩ : ∃ D', D = D' + 1 := ⟨D - 1, by omega⟩
  refine C_X3_readsBoth G (D' + 1) M F (nI d) ?_
  rcases pThen_on hx with ⟨e, hr, rfl⟩ | ⟨p1, c1, hr, hx⟩
  · refine ih 5 d p b D' M _ _ (by decide) hd hp hb hM hr (fun M2 f2 n2 => ?_) (by show (8 - d) * 7 + 4 ≤ D'; omega)
    have h0 := hF M2 f2 n2
    exact B_X3_readsBoth_8 G (D' + 1) M2 F _ _ _ ⟨fun _ => h0, fun _ => ⟨fun _ => h0, cFT⟩⟩
  · obtain ⟨a1, a2, a3⟩ := pE_fine ht _ _ _ _ _ _ hp hr
    have a3' := a3 rfl
    refine ih 5 d p b D' M _ _ (by decide) hd hp hb hM hr (fun M1 f1 r1 k1 => ?_) (by show (8 - d) * 7 + 4 ≤ D'; omega)
    skip
    rcases pThen_on hx with ⟨e, hr2, rfl⟩ | ⟨p2, c2, hr2, hx⟩
    · exact ih 7 d p1 (b + c1.length) (D' + 1) M1 F _ (by decide) hd a1 (by omega) r1 hr2 (fun M2 f2 n2 => hF M2 (f1.trans f2 (by omega)) n2) (by show (8 - d) * 7 + 5 ≤ D' + 1; omega) 0 (by omega)
    · cases hx
      refine ih 7 d p1 (b + c1.length) (D' + 1) M1 F _ (by decide) hd a1 (by omega) r1 hr2 (fun M2 f2 r2 k2 => ?_) (by show (8 - d) * 7 + 5 ≤ D' + 1; omega) 0 (by omega)
      exact hF M2 (f1.trans f2 (by omega)) (r2.cast (by rw [List.length_append]; omega)) ((k1.keep f2 (Nat.le_refl _)).append k2)
theorem cP_bothl (ht : pTk tk T) (ih : cGoal G tk T n) {d p b D : Nat} {M : eM} {F : Bool → eM → Prop} {x : Nat ⊕ (Nat × List pSt)} (hd : d ≤ 8) (hp : p ≤ T) (hb : b ≤ p) (hM : cRd tk T M p b) (hx : pLoop tk (pE tk n) 5 7 pOpN d p b = some x) (hF : cRes tk T F M b x) (hD : pNest 7 d ≤ D) : cAt G tk d p D M F 7 := by
  have h400 := ht.1
  have hk := ht.2.1 p hp
  have hD1 : (8 - d) * 7 + 5 ≤ D := hD
  obtain ⟨D', rfl⟩ : ∃ D', D = D' + 1 := ⟨D - 1, by omega⟩
  intro c hc
  refine B_X3_readsBoth_8 G (D' + 1) M F _ _ _ ⟨fun z => absurd z (nI_ge (b := 400) (by omega) (by decide)), fun _ => ⟨cTF, fun _ => ?_⟩⟩
  refine S_accept G ht hM hp _ 21 (by decide) (fun hop M1 f1 r1 _ => ⟨cTF, fun _ => ?_⟩) (fun z1 => ⟨fun _ => ?_, cFT⟩)
  · have hp1 := ht.lt hp (by omega) (by omega)
    have hob : pOpN (tk p) = true := by rw [hop]; rfl
    unfold pLoop at hx
    rw [hob, if_pos rfl] at hx
    rcases pThen_on hx with ⟨e, hr, rfl⟩ | ⟨p1, c1, hr, hx⟩
    · refine ih 5 d (p + 1) b D' M1 _ _ (by decide) hd hp1 (by omega) r1 hr (fun M2 f2 n2 => ⟨fun _ => ?_, cFT⟩) (by show (8 - d) * 7 + 4 ≤ D'; omega)
      have h0 := hF M2 (f1.trans f2 (Nat.le_refl _)) n2
      exact B_X3_readsBoth_58 G (D' + 1) M2 F _ _ (B_X3_readsBoth_8 G (D' + 1) M2 F _ _ _ ⟨fun _ => h0, fun _ => ⟨fun _ => h0, cFT⟩⟩)
    · obtain ⟨a1, a2, a3⟩ := pE_fine ht _ _ _ _ _ _ hp1 hr
      have a3' := a3 rfl
      refine ih 5 d (p + 1) b D' M1 _ _ (by decide) hd hp1 (by omega) r1 hr (fun M2 f2 r2 k2 => ⟨cTF, fun _ => ?_⟩) (by show (8 - d) * 7 + 4 ≤ D'; omega)
      rw [r2.2.2.2.1]
      refine S_add G r2 (show b + c1.length < 400 by omega) _ 21 p1 (fun M3 f3 r3 w1 w2 => ⟨cTF, fun _ => ?_⟩)
      have g3 := (f1.trans f2 (Nat.le_refl _)).trans f3 (by omega)
      have k3 : pCd M3 b (c1 ++ [(tk p, 0, b - 1, b + c1.length - 1)]) := k2.snoc f3 (by rw [hop]; exact w1) (fun z => by
        have z' : tk p = 40 ∨ tk p = 16 ∨ tk p = 18 ∨ tk p = 19 := z
        omega)
      rw [← nI_succ]
      rcases pThen_on hx with ⟨e, hr2, rfl⟩ | ⟨p2, c2, hr2, hx⟩
      · exact ih 7 d p1 (b + c1.length + 1) (D' + 1) M3 F _ (by decide) hd a1 (by omega) r3 hr2 (fun M4 f4 n4 => hF M4 (g3.trans f4 (by omega)) n4) hD (c + 1) (by omega)
      · cases hx
        refine ih 7 d p1 (b + c1.length + 1) (D' + 1) M3 F _ (by decide) hd a1 (by omega) r3 hr2 (fun M4 f4 r4 k4 => ?_) hD (c + 1) (by omega)
        refine hF M4 (g3.trans f4 (by omega)) (r4.cast (by rw [List.length_append, List.length_cons]; omega)) ?_
        rw [List.append_cons]
        refine (k3.keep f4 (by rw [List.length_append]; exact Nat.le_refl _)).append ?_
        rw [List.length_append]
        exact k4
  · have hob : pOpN (tk p) = false := by
      unfold pOpN
      exact beq_false_of_ne z1
    unfold pLoop at hx
    rw [hob, if_neg (by decide)] at hx
    cases hx
    exact hF M (pFr.refl _ _) hM (pCd.nil _ _)
theorem cP_test (ht : pTk tk T) (ih : cGoal G tk T n) {d p b D : Nat} {M : eM} {F : Bool → eM → Prop} {x : Nat ⊕ (Nat × List pSt)} (hd : d ≤ 8) (hp : p ≤ T) (hb : b ≤ p) (hM : cRd tk T M p b) (hx : pHead (pE tk n) 6 9 d p b = some x) (hF : cRes tk T F M b x) (hD : pNest 8 d ≤ D) : cAt G tk d p D M F 8 := by
  have hD1 : (8 - d) * 7 + 6 ≤ D := hD
  obtain ⟨D', rfl⟩ : ∃ D', D = D' + 1 := ⟨D - 1, by omega⟩
  refine C_X3_readsTest G (D' + 1) M F (nI d) ?_
  rcases pThen_on hx with ⟨e, hr, rfl⟩ | ⟨p1, c1, hr, hx⟩
  · refine ih 6 d p b D' M _ _ (by decide) hd hp hb hM hr (fun M2 f2 n2 => ?_) (by show (8 - d) * 7 + 5 ≤ D'; omega)
    have h0 := hF M2 f2 n2
    exact B_X3_readsTest_8 G (D' + 1) M2 F _ _ _ ⟨fun _ => h0, fun _ => ⟨fun _ => h0, cFT⟩⟩
  · obtain ⟨a1, a2, a3⟩ := pE_fine ht _ _ _ _ _ _ hp hr
    have a3' := a3 rfl
    refine ih 6 d p b D' M _ _ (by decide) hd hp hb hM hr (fun M1 f1 r1 k1 => ?_) (by show (8 - d) * 7 + 5 ≤ D'; omega)
    skip
    rcases pThen_on hx with ⟨e, hr2, rfl⟩ | ⟨p2, c2, hr2, hx⟩
    · exact ih 9 d p1 (b + c1.length) (D' + 1) M1 F _ (by decide) hd a1 (by omega) r1 hr2 (fun M2 f2 n2 => hF M2 (f1.trans f2 (by omega)) n2) (by show (8 - d) * 7 + 6 ≤ D' + 1; omega) 0 (by omega)
    · cases hx
      refine ih 9 d p1 (b + c1.length) (D' + 1) M1 F _ (by decide) hd a1 (by omega) r1 hr2 (fun M2 f2 r2 k2 => ?_) (by show (8 - d) * 7 + 6 ≤ D' + 1; omega) 0 (by omega)
      exact hF M2 (f1.trans f2 (by omega)) (r2.cast (by rw [List.length_append]; omega)) ((k1.keep f2 (Nat.le_refl _)).append k2)
theorem cP_testl (ht : pTk tk T) (ih : cGoal G tk T n) {d p b D : Nat} {M : eM} {F : Bool → eM → Prop} {x : Nat ⊕ (Nat × List pSt)} (hd : d ≤ 8) (hp : p ≤ T) (hb : b ≤ p) (hM : cRd tk T M p b) (hx : pLoop tk (pE tk n) 6 9 pOpO d p b = some x) (hF : cRes tk T F M b x) (hD : pNest 9 d ≤ D) : cAt G tk d p D M F 9 := by
  have h400 := ht.1
  have hk := ht.2.1 p hp
  have hD1 : (8 - d) * 7 + 6 ≤ D := hD
  obtain ⟨D', rfl⟩ : ∃ D', D = D' + 1 := ⟨D - 1, by omega⟩
  intro c hc
  refine B_X3_readsTest_8 G (D' + 1) M F _ _ _ ⟨fun z => absurd z (nI_ge (b := 400) (by omega) (by decide)), fun _ => ⟨cTF, fun _ => ?_⟩⟩
  refine S_accept G ht hM hp _ 22 (by decide) (fun hop M1 f1 r1 _ => ⟨cTF, fun _ => ?_⟩) (fun z1 => ⟨fun _ => ?_, cFT⟩)
  · have hp1 := ht.lt hp (by omega) (by omega)
    have hob : pOpO (tk p) = true := by rw [hop]; rfl
    unfold pLoop at hx
    rw [hob, if_pos rfl] at hx
    rcases pThen_on hx with ⟨e, hr, rfl⟩ | ⟨p1, c1, hr, hx⟩
    · refine ih 6 d (p + 1) b D' M1 _ _ (by decide) hd hp1 (by omega) r1 hr (fun M2 f2 n2 => ⟨fun _ => ?_, cFT⟩) (by show (8 - d) * 7 + 5 ≤ D'; omega)
      have h0 := hF M2 (f1.trans f2 (Nat.le_refl _)) n2
      exact B_X3_readsTest_58 G (D' + 1) M2 F _ _ (B_X3_readsTest_8 G (D' + 1) M2 F _ _ _ ⟨fun _ => h0, fun _ => ⟨fun _ => h0, cFT⟩⟩)
    · obtain ⟨a1, a2, a3⟩ := pE_fine ht _ _ _ _ _ _ hp1 hr
      have a3' := a3 rfl
      refine ih 6 d (p + 1) b D' M1 _ _ (by decide) hd hp1 (by omega) r1 hr (fun M2 f2 r2 k2 => ⟨cTF, fun _ => ?_⟩) (by show (8 - d) * 7 + 5 ≤ D'; omega)
      rw [r2.2.2.2.1]
      refine S_add G r2 (show b + c1.length < 400 by omega) _ 22 p1 (fun M3 f3 r3 w1 w2 => ⟨cTF, fun _ => ?_⟩)
      have g3 := (f1.trans f2 (Nat.le_refl _)).trans f3 (by omega)
      have k3 : pCd M3 b (c1 ++ [(tk p, 0, b - 1, b + c1.length - 1)]) := k2.snoc f3 (by rw [hop]; exact w1) (fun z => by
        have z' : tk p = 40 ∨ tk p = 16 ∨ tk p = 18 ∨ tk p = 19 := z
        omega)
      rw [← nI_succ]
      rcases pThen_on hx with ⟨e, hr2, rfl⟩ | ⟨p2, c2, hr2, hx⟩
      · exact ih 9 d p1 (b + c1.length + 1) (D' + 1) M3 F _ (by decide) hd a1 (by omega) r3 hr2 (fun M4 f4 n4 => hF M4 (g3.trans f4 (by omega)) n4) hD (c + 1) (by omega)
      · cases hx
        refine ih 9 d p1 (b + c1.length + 1) (D' + 1) M3 F _ (by decide) hd a1 (by omega) r3 hr2 (fun M4 f4 r4 k4 => ?_) hD (c + 1) (by omega)
        refine hF M4 (g3.trans f4 (by omega)) (r4.cast (by rw [List.length_append, List.length_cons]; omega)) ?_
        rw [List.append_cons]
        refine (k3.keep f4 (by rw [List.length_append]; exact Nat.le_refl _)).append ?_
        rw [List.length_append]
        exact k4
  · have hob : pOpO (tk p) = false := by
      unfold pOpO
      exact beq_false_of_ne z1
    unfold pLoop at hx
    rw [hob, if_neg (by decide)] at hx
    cases hx
    exact hF M (pFr.refl _ _) hM (pCd.nil _ _)
theorem cP_all (ht : pTk tk T) : cGoal G tk T n := by
  induction n with
  | zero => intro m d p b D M F x _ _ _ _ _ hx; cases hx
  | succ n ih =>
    intro m d p b D M F x hm hd hp hb hM hx hF hD
    match m, hm, hx, hD with
    | 0, _, hx, hD => exact cP_value ht ih hd hp hb hM hx hF hD
    | 1, _, hx, hD => exact cP_product ht ih hd hp hb hM hx hF hD
    | 2, _, hx, hD => exact cP_productl ht ih hd hp hb hM hx hF hD
    | 3, _, hx, hD => exact cP_sum ht ih hd hp hb hM hx hF hD
    | 4, _, hx, hD => exact cP_suml ht ih hd hp hb hM hx hF hD
    | 5, _, hx, hD => exact cP_single ht ih hd hp hb hM hx hF hD
    | 6, _, hx, hD => exact cP_both ht ih hd hp hb hM hx hF hD
    | 7, _, hx, hD => exact cP_bothl ht ih hd hp hb hM hx hF hD
    | 8, _, hx, hD => exact cP_test ht ih hd hp hb hM hx hF hD
    | 9, _, hx, hD => exact cP_testl ht ih hd hp hb hM hx hF hD
    | k + 10, h, _, _ => exact absurd h (by omega)
end CParse
