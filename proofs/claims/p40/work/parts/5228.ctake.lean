/-! ===== the class takes a game over; keeps a position and brings it back ===== -/
/-- the orders of a draft, resolved -/
def dPg (M : eM) (tv : Nat → Nat) (os : List pOrd) : Prop := M 8 6 = nI os.length ∧ M 8 9 = nI (osCode os).length ∧ (∀ i o, os[i]? = some o → M (36 + i) 0 = nI (oKind o) ∧ M (36 + i) 1 = nI (tv (oName o)) ∧ M (36 + i) 2 = nI (oFrom o) ∧ M (36 + i) 3 = nI (oMid o) ∧ M (36 + i) 4 = nI (oEnd o)) ∧ (∀ i s, (osCode os)[i]? = some s → M 11 i = nI s.1 ∧ (pTok s.1 → M 12 i = nI (tv s.2.1)))
section CTake
variable {G : eG}
theorem Z_copyOrder {M : eM} {k : Nat} (hk : k < 16) (F : eM → Prop) (h : ∀ M', (∀ c j, ¬ (c = 52 + k ∧ j < 5) → M' c j = M c j) → (∀ j, j < 5 → M' (52 + k) j = M (36 + k) j) → F M') : Cal G 0 68 (1, 0, 0) kX6_copy [.ref (G.1 (52 + k)), .ref (G.1 (36 + k))] M (eFV F) := by
  have ek : (nI k).toNatClampNeg = k := nI_clamp (by omega)
  have hc := C_X6_copy G (i := nI k) (vp_in_nI hk (by decide)) M F
  rw [ek] at hc
  refine hc ?_
  have hne : 36 + k ≠ 52 + k := by omega
  simp only [eU_cell _ _ _ _ hne]
  refine h _ (fun c j hx => ?_) (fun j hj => ?_)
  · show (if c = 52 + k ∧ j = 4 then _ else (if c = 52 + k ∧ j = 3 then _ else (if c = 52 + k ∧ j = 2 then _ else (if c = 52 + k ∧ j = 1 then _ else (if c = 52 + k ∧ j = 0 then _ else M c j))))) = M c j
    rw [if_neg (fun z => hx ⟨z.1, by omega⟩), if_neg (fun z => hx ⟨z.1, by omega⟩), if_neg (fun z => hx ⟨z.1, by omega⟩), if_neg (fun z => hx ⟨z.1, by omega⟩), if_neg (fun z => hx ⟨z.1, by omega⟩)]
  · have hj' : j = 0 ∨ j = 1 ∨ j = 2 ∨ j = 3 ∨ j = 4 := by omega
    rcases hj' with rfl | rfl | rfl | rfl | rfl
    · rw [eU_place _ _ _ _ (by decide), eU_place _ _ _ _ (by decide), eU_place _ _ _ _ (by decide), eU_place _ _ _ _ (by decide), eU_same]
    · rw [eU_place _ _ _ _ (by decide), eU_place _ _ _ _ (by decide), eU_place _ _ _ _ (by decide), eU_same]
    · rw [eU_place _ _ _ _ (by decide), eU_place _ _ _ _ (by decide), eU_same]
    · rw [eU_place _ _ _ _ (by decide), eU_same]
    · rw [eU_same]
theorem Z_copy {M : eM} {tv : Nat → Nat} {os : List pOrd} (hp : os.length ≤ 16) (hc : (osCode os).length ≤ 400) (hd : dPg M tv os) (F : eM → Prop) (h : ∀ M', cPg M' tv os → M' 21 0 = M 8 0 → M' 21 1 = M 8 1 → M' 21 4 = M 8 4 → (∀ j, j < 48 → M' 22 j = M 9 j) → (∀ c, (c < 19 ∨ 22 < c) → c < 52 → M' c = M c) → F M') : Cal G 0 68 (2, 0, 0) kX7_copy [.ref (G.1 21), .ref (G.1 8)] M (eFV F) := by
  obtain ⟨d1, d2, d3, d4⟩ := hd
  refine C_X7_copy G M F ⟨by decide, ?_⟩
  obtain ⟨Ma, hMa⟩ : ∃ Ma, Ma = eU (eU (eU M 21 0 (M 8 0)) 21 1 ((eU M 21 0 (M 8 0)) 8 1)) 21 4 ((eU (eU M 21 0 (M 8 0)) 21 1 ((eU M 21 0 (M 8 0)) 8 1)) 8 4) := ⟨_, rfl⟩
  rw [← hMa]
  have fa : ∀ x, x ≠ 21 → Ma x = M x := fun x hx => by rw [hMa, eU_other _ _ _ hx, eU_other _ _ _ hx, eU_other _ _ _ hx]
  have ga : Ma 21 0 = M 8 0 ∧ Ma 21 1 = M 8 1 ∧ Ma 21 4 = M 8 4 := by
    rw [hMa]
    refine ⟨?_, ?_, ?_⟩
    · rw [eU_place _ _ _ _ (by decide), eU_place _ _ _ _ (by decide), eU_same]
    · rw [eU_place _ _ _ _ (by decide), eU_same, eU_cell _ _ _ _ (by decide)]
    · rw [eU_same, eU_cell _ _ _ _ (by decide), eU_cell _ _ _ _ (by decide)]
  obtain ⟨Mb, hMb⟩ : ∃ Mb, Mb = eCp Ma 9 22 (0 : Int32).toNatClampNeg (0 : Int32).toNatClampNeg (48 : Int32).toNatClampNeg := ⟨_, rfl⟩
  rw [← hMb]
  have hMb' : Mb = eCp Ma 9 22 0 0 48 := hMb
  have fb : ∀ x, x ≠ 21 → x ≠ 22 → Mb x = M x := fun x h1 h2 => by rw [hMb', eCp_other _ _ _ _ _ _ h2]; exact fa x h1
  have gb : ∀ j, j < 48 → Mb 22 j = M 9 j := fun j hj => by rw [hMb', eCp_in _ _ _ _ _ hj, fa 9 (by decide)]
  have e21 : Mb 21 = Ma 21 := by rw [hMb', eCp_other _ _ _ _ _ _ (by decide)]
  obtain ⟨Mc, hMc⟩ : ∃ Mc, Mc = eU Mb 21 6 (Mb 8 6) := ⟨_, rfl⟩
  rw [← hMc]
  have fc : ∀ x, x ≠ 21 → x ≠ 22 → Mc x = M x := fun x h1 h2 => by rw [hMc, eU_other _ _ _ h1]; exact fb x h1 h2
  have gc22 : ∀ j, j < 48 → Mc 22 j = M 9 j := fun j hj => by rw [hMc, eU_cell _ _ _ _ (by decide)]; exact gb j hj
  have gc : Mc 21 0 = M 8 0 ∧ Mc 21 1 = M 8 1 ∧ Mc 21 4 = M 8 4 ∧ Mc 21 6 = nI os.length := by
    rw [hMc]
    refine ⟨?_, ?_, ?_, ?_⟩
    · rw [eU_place _ _ _ _ (by decide), e21]; exact ga.1
    · rw [eU_place _ _ _ _ (by decide), e21]; exact ga.2.1
    · rw [eU_place _ _ _ _ (by decide), e21]; exact ga.2.2
    · rw [eU_same, fb 8 (by decide) (by decide)]; exact d1
  -- the steps
  have steps : ∀ M0 : eM, (∀ c, c < 52 → c ≠ 21 → M0 c = Mc c) → (∀ j, j ≠ 9 → M0 21 j = Mc 21 j) → M0 21 9 = nI (osCode os).length → (∀ k j, k < 16 → j < 5 → M0 (52 + k) j = M (36 + k) j) → ∀ i, i ≤ (osCode os).length → ∀ M1 : eM, (∀ c, c ≠ 19 → c ≠ 20 → M1 c = M0 c) → (∀ j, j < i → M1 19 j = M 11 j ∧ M1 20 j = M 12 j) → Ev (eZ G 0 68 0 0 (eFV F)) G 0 68 (2, 0, 0) kX7_copy 92 [(0, .ref (G.1 21)), (1, .ref (G.1 8)), (2, .int (nI i))] [] M1 0 0 := by
    intro M0 f0 g0 n0 o0
    refine eDown (P := fun i => ∀ M1 : eM, (∀ c, c ≠ 19 → c ≠ 20 → M1 c = M0 c) → (∀ j, j < i → M1 19 j = M 11 j ∧ M1 20 j = M 12 j) → Ev (eZ G 0 68 0 0 (eFV F)) G 0 68 (2, 0, 0) kX7_copy 92 [(0, .ref (G.1 21)), (1, .ref (G.1 8)), (2, .int (nI i))] [] M1 0 0) ?_ ?_
    · intro M1 f1 g1
      have e21' : M1 21 = M0 21 := f1 21 (by decide) (by decide)
      refine B_X7_copy_92 G M1 F _ ⟨fun _ => h M1 ⟨?_, ?_, fun i o ho => ?_, fun i s hs => ?_⟩ ?_ ?_ ?_ (fun j hj => ?_) (fun c hc h52 => ?_), fun q => absurd ?_ q⟩
      · rw [e21', g0 6 (by decide)]; exact gc.2.2.2
      · rw [e21']; exact n0
      · have hi : i < 16 := by
          rcases Nat.lt_or_ge i os.length with h1 | h1
          · omega
          · rw [List.getElem?_eq_none h1] at ho; cases ho
        rw [f1 (52 + i) (by omega) (by omega), o0 i 0 hi (by decide), o0 i 1 hi (by decide), o0 i 2 hi (by decide), o0 i 3 hi (by decide), o0 i 4 hi (by decide)]
        exact d3 i o ho
      · have hi : i < (osCode os).length := by
          rcases Nat.lt_or_ge i (osCode os).length with h1 | h1
          · exact h1
          · rw [List.getElem?_eq_none h1] at hs; cases hs
        rw [(g1 i hi).1, (g1 i hi).2]
        exact d4 i s hs
      · rw [e21', g0 0 (by decide)]; exact gc.1
      · rw [e21', g0 1 (by decide)]; exact gc.2.1
      · rw [e21', g0 4 (by decide)]; exact gc.2.2.1
      · rw [f1 22 (by decide) (by decide), f0 22 (by decide) (by decide)]; exact gc22 j hj
      · rw [f1 c (by omega) (by omega), f0 c h52 (by omega)]; exact fc c (by omega) (by omega)
      · rw [e21', n0]; exact Int32.le_refl _
    · intro i hi hn M1 f1 g1
      have vi : vp_in (nI i) 400 := vp_in_nI (by omega) (by decide)
      refine B_X7_copy_92 G M1 F _ ⟨fun q => absurd q ?_, fun _ => ⟨vi, vi, vi, vi, ?_⟩⟩
      · rw [f1 21 (by decide) (by decide), n0]; exact nI_ge hi (by omega)
      · rw [nI_clamp (show i < 2 ^ 31 by omega), ← nI_succ]
        refine hn _ (fun c c1 c2 => by rw [eU_other _ _ _ c2, eU_other _ _ _ c1]; exact f1 c c1 c2) (fun j hj => ?_)
        by_cases hq : j = i
        · subst hq
          rw [eU_cell _ _ _ _ (by decide : 19 ≠ 20), eU_same, eU_same, eU_cell _ _ _ _ (by decide : 12 ≠ 19), f1 11 (by decide) (by decide), f1 12 (by decide) (by decide), f0 11 (by decide) (by decide), f0 12 (by decide) (by decide), fc 11 (by decide) (by decide), fc 12 (by decide) (by decide)]
          exact ⟨rfl, rfl⟩
        · rw [eU_cell _ _ _ _ (by decide : 19 ≠ 20), eU_place _ _ _ _ hq, eU_place _ _ _ _ hq, eU_cell _ _ _ _ (by decide : 20 ≠ 19)]
          exact g1 j (by omega)
  -- the orders
  have ords : ∀ i, i ≤ 16 → ∀ M1 : eM, (∀ c, c < 52 → M1 c = Mc c) → (∀ k j, k < i → j < 5 → M1 (52 + k) j = M (36 + k) j) → Ev (eZ G 0 68 0 0 (eFV F)) G 0 68 (2, 0, 0) kX7_copy 52 [(0, .ref (G.1 21)), (1, .ref (G.1 8)), (2, .int (nI i))] [] M1 0 0 := by
    refine eDown (P := fun i => ∀ M1 : eM, (∀ c, c < 52 → M1 c = Mc c) → (∀ k j, k < i → j < 5 → M1 (52 + k) j = M (36 + k) j) → Ev (eZ G 0 68 0 0 (eFV F)) G 0 68 (2, 0, 0) kX7_copy 52 [(0, .ref (G.1 21)), (1, .ref (G.1 8)), (2, .int (nI i))] [] M1 0 0) ?_ ?_
    · intro M1 f1 g1
      refine B_X7_copy_52 G M1 F _ ⟨fun _ => ?_, fun q => absurd (Int32.le_refl 16) q⟩
      have e8 : M1 8 9 = nI (osCode os).length := by rw [f1 8 (by decide), fc 8 (by decide) (by decide)]; exact d2
      rw [e8]
      refine steps _ (fun c c1 c2 => by rw [eU_other _ _ _ c2]; exact f1 c c1) (fun j hj => by rw [eU_place _ _ _ _ hj, f1 21 (by decide)]) (eU_same _ _ _ _) (fun k j hk hj => by rw [eU_cell _ _ _ _ (by omega)]; exact g1 k j hk hj) 0 (Nat.zero_le _) _ (fun _ _ _ => rfl) (fun j hj => absurd hj (Nat.not_lt_zero _))
    · intro i hi hn M1 f1 g1
      have vi : vp_in (nI i) 16 := vp_in_nI hi (by decide)
      refine B_X7_copy_52 G M1 F _ ⟨fun q => absurd q (nI_ge (b := 16) hi (by decide)), fun _ => ⟨vi, vi, ?_⟩⟩
      rw [nI_clamp (show i < 2 ^ 31 by omega)]
      refine Z_copyOrder hi _ (fun M2 f2 g2 => ?_)
      rw [← nI_succ]
      refine hn M2 (fun c hc => ?_) (fun k j hk hj => ?_)
      · rw [← f1 c hc]
        exact funext fun j => f2 c j (fun z => by omega)
      · by_cases hq : k = i
        · subst hq
          rw [g2 j hj, f1 (36 + k) (by omega), fc (36 + k) (by omega) (by omega)]
        · rw [f2 (52 + k) j (fun z => hq (by omega))]
          exact g1 k j (by omega) hj
  exact ords 0 (Nat.zero_le _) Mc (fun _ _ => rfl) (fun k j hk => absurd hk (Nat.not_lt_zero _))
theorem S_gbegin {M : eM} {tv : Nat → Nat} {os : List pOrd} {wd r n : Nat} {nu : Nat → Nat} (hp : os.length ≤ 16) (hc : (osCode os).length ≤ 400) (hd : dPg M tv os) (hw : 3 ≤ wd ∧ wd ≤ 7) (hr : 3 ≤ r ∧ r ≤ 7) (hn : n ≤ 16) (hnu : ∀ j, j < 3 * n → nu j < 10) (h0 : M 8 0 = nI wd) (h1 : M 8 1 = nI r) (h4 : M 8 4 = nI (3 * n)) (h9 : ∀ j, j < 3 * n → M 9 j = nI (nu j)) (F : eM → Prop) (h : ∀ M', cPg M' tv os → cB M' (b0 wd r n nu) → M' 16 5 = 0 → (∀ c, c < 16 → M' c = M c) → F M') : Cal G 0 68 (4, 0, 0) kX2_begin [.ref (G.1 16), .ref (G.1 8)] M (eFV F) := by
  refine C_X2_begin G M F (Z_copy hp hc hd _ (fun M1 p1 e0 e1 e4 e22 f1 => ?_))
  refine S_begin hw hr hn hnu (by rw [e0]; exact h0) (by rw [e1]; exact h1) (by rw [e4]; exact h4) (fun j hj => by rw [e22 j (by omega)]; exact h9 j hj) _ (fun M2 b2 f2 => ?_)
  refine h _ (p1.fr (fun c hcc => ?_)) (b2.fr (fun c c1 c2 => eU_other _ _ _ (by omega))) (eU_same _ _ _ _) (fun c hcc => ?_)
  · rw [eU_other _ _ _ (by omega)]; exact f2 c (by omega)
  · rw [eU_other _ _ _ (by omega), f2 c (by omega)]; exact f1 c (by omega) (by omega)
/-! keeping and bringing back -/
def bEq (B C : eBd) : Prop := bSz B C ∧ (∀ c, c < bC B → bAt C c = bAt B c) ∧ (∀ k, k < bN B → bCe C k = bCe B k) ∧ (∀ k c, k < bN B → bCe B k = some c → bTr C k = bTr B k)
theorem bSz.cells {B C : eBd} (h : bSz B C) : bC C = bC B := by
  show bW C * bR C = bW B * bR B
  rw [h.1, h.2.1]
theorem bSz.bes {B C : eBd} (h : bSz B C) (c e : Nat) : bBes C c e = bBes B c e := by
  show bBesW (bW C) (bR C) c e = bBesW (bW B) (bR B) c e
  rw [h.1, h.2.1]
theorem bSz.nm {B C : eBd} (h : bSz B C) (k t e : Nat) : bNm C k t e = bNm B k t e := by
  show bNu C _ = bNu B _
  rw [h.2.2.2]
theorem bEq.tile {B C : eBd} (hb : bOk B) (h : bEq B C) {c e : Nat} (hc : c < bC B) (he : e < 6) : bTile C c e = bTile B c e := by
  unfold bTile
  rw [h.1.bes]
  cases h1 : bBes B c e with
  | none => rfl
  | some d => exact h.2.1 d (hb.bes hc he h1).1
theorem bEq.face {B C : eBd} (hb : bOk B) (h : bEq B C) {c e : Nat} (hc : c < bC B) (he : e < 6) : bFace C c e = bFace B c e := by
  unfold bFace
  rw [h.tile hb hc he]
  cases h1 : bTile B c e with
  | none => rfl
  | some k =>
    obtain ⟨d, -, -, -, hk, hce, -⟩ := hb.tile hc he h1
    show some (bNm C k (bTr C k) ((e + 3) % 6)) = some (bNm B k (bTr B k) ((e + 3) % 6))
    rw [h.1.nm, h.2.2.2 k d hk hce]
theorem bEq.tb {B C : eBd} (hb : bOk B) (h : bEq B C) {c : Nat} (hc : c < bC B) : bTb C c = bTb B c := zSm_ext (fun e he => by rw [h.tile hb hc he])
theorem bEq.p {B C : eBd} (hb : bOk B) (hc : bOk C) (h : bEq B C) : bP C = bP B := by
  rw [hb.2.2.2.2.2.2, hc.2.2.2.2.2.2, h.1.2.2.1]
  exact zSm_ext (fun k hk => by rw [h.2.2.1 k hk])
theorem cB.eq {M : eM} {B C : eBd} (hb : bOk B) (hc : bOk C) (h : bEq B C) (hM : cB M C) : cB M B := by
  obtain ⟨⟨m1, m2, m3, m4, m5⟩, m6, m7, m8, m9, m10, m11, m12, m13⟩ := hM
  obtain ⟨s1, s2, s3, s4⟩ := h.1
  have hcells := h.1.cells
  refine ⟨⟨by rw [m1, s1], by rw [m2, s2], by rw [m3, hcells], by rw [m4, s3], by rw [m5, h.p hb hc]⟩, fun c hx => ?_, fun k hk => ?_, fun k c hk hx => ?_, fun i hi => ?_, fun k e n hk he hn => ?_, fun c e hx he => ?_, fun c e hx he => ?_, fun c hx => ?_⟩
  · rw [m6 c (by rw [hcells]; exact hx), h.2.1 c hx]
  · rw [m7 k (by rw [s3]; exact hk), h.2.2.1 k hk]
  · rw [m8 k c (by rw [s3]; exact hk) (by rw [h.2.2.1 k hk]; exact hx), h.2.2.2 k c hk hx]
  · rw [m9 i (by rw [s3]; exact hi), s4]
  · rw [m10 k e n (by rw [s3]; exact hk) he hn]
    exact zMask_ext (fun t _ => by rw [h.1.nm])
  · rw [m11 c e (by rw [hcells]; exact hx) he, h.1.bes]
  · rw [m12 c e (by rw [hcells]; exact hx) he, h.face hb hx he]
  · rw [m13 c (by rw [hcells]; exact hx), h.tb hb hx]
/-- what is kept -/
def cKp (M : eM) (B : eBd) : Prop := (∀ k, k < bN B → M 32 k = eO (bCe B k)) ∧ ∀ k c, k < bN B → bCe B k = some c → M 33 k = nI (bTr B k)
theorem S_keep {M : eM} {B : eBd} (hb : bOk B) (hM : cB M B) (F : eM → Prop) (h : ∀ M', cB M' B → cKp M' B → M' 16 4 = M 16 5 → (∀ c, c ≠ 16 → c ≠ 32 → c ≠ 33 → M' c = M c) → (∀ j, j ≠ 4 → M' 16 j = M 16 j) → F M') : Cal G 0 68 (2, 0, 0) kX2_keep [.ref (G.1 16)] M (eFV F) := by
  have h16 := hb.2.2.1
  refine C_X2_keep G M F (C_X1_keep G _ _ ⟨by decide, by decide, ?_⟩)
  obtain ⟨M', hM'⟩ : ∃ M', M' = eCp (eCp (eU M 16 4 (M 16 5)) 25 32 (0 : Int32).toNatClampNeg (0 : Int32).toNatClampNeg (16 : Int32).toNatClampNeg) 26 33 (0 : Int32).toNatClampNeg (0 : Int32).toNatClampNeg (16 : Int32).toNatClampNeg := ⟨_, rfl⟩
  rw [← hM']
  have hM2 : M' = eCp (eCp (eU M 16 4 (M 16 5)) 25 32 0 0 16) 26 33 0 0 16 := hM'
  have f' : ∀ c, c ≠ 16 → c ≠ 32 → c ≠ 33 → M' c = M c := fun c c1 c2 c3 => by rw [hM2, eCp_other _ _ _ _ _ _ c3, eCp_other _ _ _ _ _ _ c2, eU_other _ _ _ c1]
  refine h M' (hM.fr (fun c c1 c2 => f' c (by omega) (by omega) (by omega))) ⟨fun k hk => ?_, fun k c hk hc => ?_⟩ ?_ f' (fun j hj => ?_)
  · rw [hM2, eCp_other _ _ _ _ _ _ (by decide), eCp_in _ _ _ _ _ (by omega), eU_cell _ _ _ _ (by decide)]
    exact hM.ce hk
  · rw [hM2, eCp_in _ _ _ _ _ (by omega), eCp_other _ _ _ _ _ _ (by decide), eU_cell _ _ _ _ (by decide)]
    exact hM.tr hk hc
  · rw [hM2, eCp_other _ _ _ _ _ _ (by decide), eCp_other _ _ _ _ _ _ (by decide), eU_same]
  · rw [hM2, eCp_other _ _ _ _ _ _ (by decide), eCp_other _ _ _ _ _ _ (by decide), eU_place _ _ _ _ hj]
theorem S_bringBack {M : eM} {B B1 : eBd} (hb : bOk B) (hb1 : bOk B1) (hs : bSz B B1) (hM : cB M B1) (hk : cKp M B) (F : eM → Prop) (h : ∀ M', cB M' B → M' 16 5 = M 16 4 → (∀ c, c ≠ 16 → c < 23 ∨ 31 < c → M' c = M c) → (∀ j, j ≠ 5 → M' 16 j = M 16 j) → F M') : Cal G 0 68 (4, 0, 0) kX2_bringBack [.ref (G.1 16)] M (eFV F) := by
  have h16 := hb.2.2.1
  have h49 := hb.c49
  have k32 : ∀ x : eM, (∀ c, c < 23 ∨ 31 < c → x c = (eU M 16 5 (M 16 4)) c) → cKp x B := fun x hx => by
    unfold cKp
    rw [hx 32 (by decide), hx 33 (by decide), eU_other _ _ _ (by decide), eU_other _ _ _ (by decide)]
    exact hk
  have fin : ∀ x : eM, (∀ c, c < 23 ∨ 31 < c → x c = (eU M 16 5 (M 16 4)) c) → cB x B → F x := fun x hx hB => h x hB (by rw [hx 16 (by decide), eU_same]) (fun c c1 c2 => by rw [hx c c2, eU_other _ _ _ c1]) (fun j hj => by rw [hx 16 (by decide), eU_place _ _ _ _ hj])
  refine C_X2_bringBack G M F (C_X1_bringBack G _ _ ?_)
  -- the kept tiles are put again
  have puts : ∀ i, i ≤ bN B → ∀ (M1 : eM) (C : eBd), (∀ c, c < 23 ∨ 31 < c → M1 c = (eU M 16 5 (M 16 4)) c) → cB M1 C → bOk C → bSz B C → (∀ k, k < i → bCe C k = bCe B k) → (∀ k, i ≤ k → k < bN B → bCe C k = none) → (∀ k c, k < i → bCe B k = some c → bTr C k = bTr B k) → Ev (eZ G 0 68 0 0 (eFV (fun M1 => F M1))) G 0 68 (3, 0, 0) kX1_bringBack 23 [(0, .ref (G.1 23)), (1, .int (nI i))] [] M1 0 0 := by
    refine eDown (P := fun i => ∀ (M1 : eM) (C : eBd), (∀ c, c < 23 ∨ 31 < c → M1 c = (eU M 16 5 (M 16 4)) c) → cB M1 C → bOk C → bSz B C → (∀ k, k < i → bCe C k = bCe B k) → (∀ k, i ≤ k → k < bN B → bCe C k = none) → (∀ k c, k < i → bCe B k = some c → bTr C k = bTr B k) → Ev (eZ G 0 68 0 0 (eFV (fun M1 => F M1))) G 0 68 (3, 0, 0) kX1_bringBack 23 [(0, .ref (G.1 23)), (1, .int (nI i))] [] M1 0 0) ?_ ?_
    · intro M1 C f1 hC oC sC e1 _ e3
      refine B_X1_bringBack_23 G M1 _ _ ⟨fun _ => fin M1 f1 (cB.eq hb oC ⟨sC, fun c hc => ?_, e1, e3⟩ hC), fun q => absurd ?_ q⟩
      · have hcc : c < bC C := by rw [sC.cells]; exact hc
        cases h1 : bAt C c with
        | some k =>
          obtain ⟨q1, q2⟩ := oC.2.2.2.1 c k hcc h1
          have q1' : k < bN B := by rw [← sC.2.2.1]; exact q1
          have := (hb.2.2.2.2.1 k c q1' (by rw [← e1 k q1']; exact q2)).2.1
          exact this.symm
        | none =>
          cases h2 : bAt B c with
          | none => rfl
          | some k =>
            obtain ⟨q1, q2⟩ := hb.2.2.2.1 c k hc h2
            have := (oC.2.2.2.2.1 k c (by rw [sC.2.2.1]; exact q1) (by rw [e1 k q1]; exact q2)).2.1
            rw [h1] at this
            exact this
      · rw [hC.nn, sC.2.2.1]; exact Int32.le_refl _
    · intro i hi hn M1 C f1 hC oC sC e1 e2 e3
      obtain ⟨k1, k2⟩ := k32 M1 f1
      have hiC : i < bN C := by rw [sC.2.2.1]; exact hi
      have vi : vp_in (nI i) 16 := vp_in_nI (by omega) (by decide)
      refine B_X1_bringBack_23 G M1 _ _ ⟨fun q => absurd q ?_, fun _ => ⟨vi, ?_⟩⟩
      · rw [hC.nn, sC.2.2.1]; exact nI_ge hi (by omega)
      · rw [nI_clamp (show i < 2 ^ 31 by omega), k1 i hi]
        cases hce : bCe B i with
        | none =>
          refine ⟨fun _ => B_X1_bringBack_57 G M1 _ _ ?_, fun q => absurd (by decide) q⟩
          rw [← nI_succ]
          refine hn M1 C f1 hC oC sC (fun k hk2 => ?_) (fun k hk2 hk3 => e2 k (by omega) hk3) (fun k c hk2 hc2 => ?_)
          · by_cases hq : k = i
            · rw [hq, e2 i (Nat.le_refl _) hi, hce]
            · exact e1 k (by omega)
          · by_cases hq : k = i
            · rw [hq, hce] at hc2; cases hc2
            · exact e3 k c (by omega) hc2
        | some c =>
          obtain ⟨b1, b2, b3⟩ := hb.2.2.2.2.1 i c hi hce
          have hcC : c < bC C := by rw [sC.cells]; exact b1
          have hfree : bAt C c = none := by
            cases h1 : bAt C c with
            | none => rfl
            | some k =>
              obtain ⟨q1, q2⟩ := oC.2.2.2.1 c k hcC h1
              have q1' : k < bN B := by rw [← sC.2.2.1]; exact q1
              by_cases hki : k < i
              · have q3 := (hb.2.2.2.2.1 k c q1' (by rw [← e1 k hki]; exact q2)).2.1
                rw [b2] at q3
                have : i = k := Option.some.inj q3
                omega
              · rw [e2 k (by omega) q1'] at q2; cases q2
          have hnone : bCe C i = none := e2 i (Nat.le_refl _) hi
          refine ⟨fun q => absurd q (nI_pos (by omega)), fun _ => ⟨vi, vi, ?_⟩⟩
          rw [k2 i c hi hce]
          refine S_put G oC hC _ hiC hcC b3 hfree hnone (fun M2 hC2 f2 => B_X1_bringBack_57 G M2 _ _ ?_)
          rw [← nI_succ]
          refine hn M2 (bPut C i c (bTr B i)) (fun x hx => by rw [f2 x hx]; exact f1 x hx) hC2 (oC.put hiC hcC b3 hfree hnone) (sC.trans (bSz.put _ _ _ _)) (fun k hk2 => ?_) (fun k hk2 hk3 => ?_) (fun k c2 hk2 hc2 => ?_)
          · show zU (bCe C) i (some c) k = bCe B k
            by_cases hq : k = i
            · rw [hq, zU_same, hce]
            · rw [zU_ne _ _ hq]; exact e1 k (by omega)
          · show zU (bCe C) i (some c) k = none
            rw [zU_ne _ _ (by omega)]
            exact e2 k (by omega) hk3
          · show zU (bTr C) i (bTr B i) k = bTr B k
            by_cases hq : k = i
            · rw [hq, zU_same]
            · rw [zU_ne _ _ hq]; exact e3 k c2 (by omega) hc2
  -- all tiles are lifted
  have lifts : ∀ i, i ≤ bN B → ∀ (M1 : eM) (C : eBd), (∀ c, c < 23 ∨ 31 < c → M1 c = (eU M 16 5 (M 16 4)) c) → cB M1 C → bOk C → bSz B C → (∀ k, k < i → bCe C k = none) → Ev (eZ G 0 68 0 0 (eFV (fun M1 => F M1))) G 0 68 (3, 0, 0) kX1_bringBack 2 [(0, .ref (G.1 23)), (1, .int (nI i))] [] M1 0 0 := by
    refine eDown (P := fun i => ∀ (M1 : eM) (C : eBd), (∀ c, c < 23 ∨ 31 < c → M1 c = (eU M 16 5 (M 16 4)) c) → cB M1 C → bOk C → bSz B C → (∀ k, k < i → bCe C k = none) → Ev (eZ G 0 68 0 0 (eFV (fun M1 => F M1))) G 0 68 (3, 0, 0) kX1_bringBack 2 [(0, .ref (G.1 23)), (1, .int (nI i))] [] M1 0 0) ?_ ?_
    · intro M1 C f1 hC oC sC e1
      refine B_X1_bringBack_2 G M1 _ _ ⟨fun _ => ?_, fun q => absurd ?_ q⟩
      · exact puts 0 (Nat.zero_le _) M1 C f1 hC oC sC (fun k hk2 => absurd hk2 (Nat.not_lt_zero _)) (fun k _ hk2 => e1 k hk2) (fun k c hk2 => absurd hk2 (Nat.not_lt_zero _))
      · rw [hC.nn, sC.2.2.1]; exact Int32.le_refl _
    · intro i hi hn M1 C f1 hC oC sC e1
      have hiC : i < bN C := by rw [sC.2.2.1]; exact hi
      refine B_X1_bringBack_2 G M1 _ _ ⟨fun q => absurd q ?_, fun _ => ?_⟩
      · rw [hC.nn, sC.2.2.1]; exact nI_ge hi (by omega)
      · cases hce : bCe C i with
        | none =>
          refine S_lift0 G oC hC _ hiC hce ?_
          rw [← nI_succ]
          refine hn M1 C f1 hC oC sC (fun k hk2 => ?_)
          by_cases hq : k = i
          · rw [hq]; exact hce
          · exact e1 k (by omega)
        | some c =>
          refine S_lift G oC hC _ hiC hce (fun M2 hC2 f2 => ?_)
          rw [← nI_succ]
          refine hn M2 (bLift C i c) (fun x hx => by rw [f2 x hx]; exact f1 x hx) hC2 (oC.lift hiC hce) (sC.trans (bSz.lift _ _ _)) (fun k hk2 => ?_)
          show zU (bCe C) i none k = none
          by_cases hq : k = i
          · rw [hq, zU_same]
          · rw [zU_ne _ _ hq]; exact e1 k (by omega)
  exact lifts 0 (Nat.zero_le _) _ B1 (fun _ _ => rfl) (hM.fr (fun c c1 c2 => eU_other _ _ _ (by omega))) hb1 hs (fun k hk2 => absurd hk2 (Nat.not_lt_zero _))
end CTake
