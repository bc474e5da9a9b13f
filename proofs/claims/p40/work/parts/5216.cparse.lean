/-! ===== the class reads sums and tests ===== -/
/-- the grammar at token p, with b steps written -/
def cRd (tk : Nat → Nat) (T : Nat) (M : eM) (p b : Nat) : Prop := (∀ j, j ≤ T → M 4 j = nI (tk j)) ∧ M 3 5 = nI (T + 1) ∧ M 13 2 = nI (tk p) ∧ M 13 3 = nI p ∧ M 8 9 = nI b
/-- what reading may write -/
def pFr (M M' : eM) (b : Nat) : Prop := ∀ c j, M' c j = M c j ∨ (c = 13 ∧ (j = 2 ∨ j = 3)) ∨ (c = 8 ∧ j = 9) ∨ ((c = 11 ∨ c = 12) ∧ b ≤ j)
theorem pFr.refl (M : eM) (b : Nat) : pFr M M b := fun _ _ => Or.inl rfl
theorem pFr.trans {M M1 M2 : eM} {b b1 : Nat} (h : pFr M M1 b) (h1 : pFr M1 M2 b1) (hb : b ≤ b1) : pFr M M2 b := by
  intro c j
  rcases h1 c j with z | z | z | z
  · rcases h c j with y | y | y | y
    · exact Or.inl (z.trans y)
    · exact Or.inr (Or.inl y)
    · exact Or.inr (Or.inr (Or.inl y))
    · exact Or.inr (Or.inr (Or.inr y))
  · exact Or.inr (Or.inl z)
  · exact Or.inr (Or.inr (Or.inl z))
  · exact Or.inr (Or.inr (Or.inr ⟨z.1, Nat.le_trans hb z.2⟩))
theorem pFr.other {M M' : eM} {b c : Nat} (h : pFr M M' b) (h1 : c ≠ 13) (h2 : c ≠ 8) (h3 : c ≠ 11) (h4 : c ≠ 12) : M' c = M c := by
  funext j
  rcases h c j with z | z | z | z
  · exact z
  · exact absurd z.1 h1
  · exact absurd z.1 h2
  · rcases z.1 with y | y
    · exact absurd y h3
    · exact absurd y h4
/-- steps as they are written from place b -/
def pCd (M : eM) (b : Nat) (cd : List pSt) : Prop := ∀ i s, cd[i]? = some s → M 11 (b + i) = nI s.1 ∧ (pTok s.1 → M 12 (b + i) = nI s.2.1)
theorem pCd.nil (M : eM) (b : Nat) : pCd M b [] := fun i s h => by simp at h
theorem pCd.keep {M M' : eM} {b b1 : Nat} {cd : List pSt} (h : pCd M b cd) (hf : pFr M M' b1) (hb : b + cd.length ≤ b1) : pCd M' b cd := by
  intro i s hs
  have hi : i < cd.length := (List.getElem?_eq_some_iff.mp hs).1
  obtain ⟨h1, h2⟩ := h i s hs
  have e : ∀ c, c = 11 ∨ c = 12 → M' c (b + i) = M c (b + i) := fun c hc => by
    rcases hf c (b + i) with z | z | z | z
    · exact z
    · omega
    · omega
    · omega
  rw [e 11 (Or.inl rfl), e 12 (Or.inr rfl)]
  exact ⟨h1, h2⟩
theorem pCd.append {M : eM} {b : Nat} {c1 c2 : List pSt} (h1 : pCd M b c1) (h2 : pCd M (b + c1.length) c2) : pCd M b (c1 ++ c2) := by
  intro i s hs
  by_cases hi : i < c1.length
  · rw [List.getElem?_append_left hi] at hs
    exact h1 i s hs
  · rw [List.getElem?_append_right (by omega)] at hs
    have := h2 _ s hs
    rw [show b + c1.length + (i - c1.length) = b + i by omega] at this
    exact this
theorem pCd.one {M : eM} {b : Nat} {s : pSt} (h1 : M 11 b = nI s.1) (h2 : pTok s.1 → M 12 b = nI s.2.1) : pCd M b [s] := by
  intro i t ht
  match i, ht with
  | 0, ht =>
    cases ht
    exact ⟨h1, h2⟩
  | i + 1, ht => simp at ht
/-- what a reading must bring -/
def cRes (tk : Nat → Nat) (T : Nat) (F : Bool → eM → Prop) (M : eM) (b : Nat) (x : Nat ⊕ (Nat × List pSt)) : Prop := match x with
  | .inl e => ∀ M', pFr M M' b → M' 13 3 = nI e → F false M'
  | .inr (q, cd) => ∀ M', pFr M M' b → cRd tk T M' q (b + cd.length) → pCd M' b cd → F true M'
theorem S_kindOf (G : eG) {tk : Nat → Nat} {T : Nat} (ht : pTk tk T) {M : eM} (h4 : ∀ j, j ≤ T → M 4 j = nI (tk j)) (h3 : M 3 5 = nI (T + 1)) (F : Int32 → eM → Prop) {p : Nat} (hp : p ≤ T) (h : F (nI (tk p)) M) : Cal G 0 68 (1, 0, 0) kX9_kindOf [.ref (G.1 3), .int (nI p)] M (eFK G F) := by
  have h400 := ht.1
  refine C_X9_kindOf G M F (nI p) ?_
  rw [h3, nI_clamp (show p < 2 ^ 31 by omega), h4 p hp]
  first
    | exact ⟨fun q => absurd q (nI_pos (by omega)), fun _ => ⟨fun q => absurd q (nI_ge (by omega) (by omega)), fun _ => ⟨vp_in_nI (by omega) (by decide), h⟩⟩⟩
theorem S_accept (G : eG) {tk : Nat → Nat} {T : Nat} (ht : pTk tk T) {M : eM} {p b : Nat} (hM : cRd tk T M p b) (hp : p ≤ T) (F : Bool → eM → Prop) (k : Nat) (hk : 1 ≤ k ∧ k ≤ 41) (h1 : tk p = k → ∀ M', pFr M M' b → cRd tk T M' (p + 1) b → (M' 11 = M 11 ∧ M' 12 = M 12) → F true M') (h0 : tk p ≠ k → F false M) : Cal G 0 68 (2, 0, 0) kX3_accept [.ref (G.1 13), eV G 1 (nI k)] M (eFZ F) := by
  have h400 := ht.1
  obtain ⟨m1, m2, m3, m4, m5⟩ := hM
  have hkp := ht.2.1 p hp
  refine C_X3_accept G M F (nI k) ?_
  rw [m3, eKn1_nI hkp.1 (by omega), eKn1_nI hk.1 (by omega), eU_same, m4]
  refine ⟨fun q => ?_, fun q => h0 (fun z => q (by rw [z]))⟩
  have hq : tk p = k := (nI_eq (by omega) (by omega)).mp q
  have hp1 : p + 1 ≤ T := ht.lt hp (by omega) (by omega)
  rw [← nI_succ]
  refine S_kindOf G ht (fun j hj => ?_) ?_ _ hp1 (h1 hq _ ?_ ⟨fun j hj => ?_, ?_, ?_, ?_, ?_⟩ ⟨?_, ?_⟩)
  · rw [eU_cell _ _ _ _ (by decide)]; exact m1 j hj
  · rw [eU_cell _ _ _ _ (by decide)]; exact m2
  · intro c j
    by_cases hc : c = 13 ∧ (j = 2 ∨ j = 3)
    · exact Or.inr (Or.inl hc)
    · refine Or.inl ?_
      by_cases h13 : c = 13
      · subst h13
        rw [eU_place _ _ _ _ (fun z => hc ⟨rfl, Or.inl z⟩), eU_place _ _ _ _ (fun z => hc ⟨rfl, Or.inr z⟩)]
      · rw [eU_cell _ _ _ _ h13, eU_cell _ _ _ _ h13]
  · rw [eU_cell _ _ _ _ (by decide), eU_cell _ _ _ _ (by decide)]; exact m1 j hj
  · rw [eU_cell _ _ _ _ (by decide), eU_cell _ _ _ _ (by decide)]; exact m2
  · exact eU_same _ _ _ _
  · rw [eU_place _ _ _ _ (by decide), eU_same]
  · rw [eU_cell _ _ _ _ (by decide), eU_cell _ _ _ _ (by decide)]; exact m5
  · rw [eU_other _ _ _ (by decide), eU_other _ _ _ (by decide)]
  · rw [eU_other _ _ _ (by decide), eU_other _ _ _ (by decide)]
theorem S_add (G : eG) {tk : Nat → Nat} {T : Nat} {M : eM} {p b : Nat} (hM : cRd tk T M p b) (hb : b < 400) (F : Bool → eM → Prop) (k : Nat) (t : Nat) (h : ∀ M', pFr M M' b → cRd tk T M' p (b + 1) → M' 11 b = nI k → M' 12 b = nI t → F true M') : Cal G 0 68 (1, 0, 0) kX7_add [.ref (G.1 8), eV G 1 (nI k), .int (nI t)] M (eFZ F) := by
  obtain ⟨m1, m2, m3, m4, m5⟩ := hM
  refine C_X7_add G M F (nI k) (nI t) ?_
  rw [eU_cell _ _ _ _ (by decide), eU_cell (eU M 11 _ _) _ _ _ (by decide), eU_cell _ _ _ _ (by decide), m5, nI_clamp (show b < 2 ^ 31 by omega)]
  refine ⟨fun _ => ⟨vp_in_nI hb (by decide), vp_in_nI hb (by decide), h _ ?_ ⟨fun j hj => ?_, ?_, ?_, ?_, ?_⟩ ?_ ?_⟩, fun q => absurd (nI_lt (b := 400) hb (by decide)) q⟩
  · intro c j
    by_cases h8 : c = 8 ∧ j = 9
    · exact Or.inr (Or.inr (Or.inl h8))
    by_cases h11 : c = 11 ∧ j = b
    · exact Or.inr (Or.inr (Or.inr ⟨Or.inl h11.1, by omega⟩))
    by_cases h12 : c = 12 ∧ j = b
    · exact Or.inr (Or.inr (Or.inr ⟨Or.inr h12.1, by omega⟩))
    · refine Or.inl ?_
      show (if c = 8 ∧ j = 9 then _ else (if c = 12 ∧ j = b then _ else (if c = 11 ∧ j = b then _ else M c j))) = M c j
      rw [if_neg h8, if_neg h12, if_neg h11]
  · rw [eU_cell _ _ _ _ (by decide), eU_cell _ _ _ _ (by decide), eU_cell _ _ _ _ (by decide)]; exact m1 j hj
  · rw [eU_cell _ _ _ _ (by decide), eU_cell _ _ _ _ (by decide), eU_cell _ _ _ _ (by decide)]; exact m2
  · rw [eU_cell _ _ _ _ (by decide), eU_cell _ _ _ _ (by decide), eU_cell _ _ _ _ (by decide)]; exact m3
  · rw [eU_cell _ _ _ _ (by decide), eU_cell _ _ _ _ (by decide), eU_cell _ _ _ _ (by decide)]; exact m4
  · rw [eU_same]; exact (nI_succ b).symm
  · rw [eU_cell _ _ _ _ (by decide), eU_cell _ _ _ _ (by decide), eU_same]
  · rw [eU_cell _ _ _ _ (by decide), eU_same]

