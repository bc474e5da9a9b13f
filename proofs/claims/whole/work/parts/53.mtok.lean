/-! ===== the model at its tokens ===== -/
def mk (k : Nat) : Nat := ([99, 0, 1, 2, 3, 4, 5, 6, 7, 8, 9, 10, 11, 12, 13, 14, 15, 16, 17, 18, 19, 20, 21, 22, 23, 49, 50, 51, 52, 53, 54, 40, 41, 42, 43, 44, 45, 46, 47, 48, 31, 30, 33, 32, 60] : List Nat).getD k 99
theorem mk_lt : ∀ k, k < 45 → mk k < 100 := by decide
theorem mk_inj' : ∀ a, a < 45 → ∀ b, b < 45 → mk a = mk b → a = b := by decide +kernel
theorem mk_inj {a b : Nat} (ha : a ≤ 44) (hb : b ≤ 44) (h : mk a = mk b) : a = b := mk_inj' a (by omega) b (by omega) h
/-- the words that the model compares: where they begin, their lengths, and the tape -/
abbrev mWd : Type := (Nat → Nat) × (Nat → Nat) × (Nat → Int32)
def mSame (w : mWd) (a b : Nat) : Bool := decide (w.2.1 a = w.2.1 b) && (zFf (fun x => decide (w.2.2 (w.1 a + x) ≠ w.2.2 (w.1 b + x))) (w.2.1 a)).isNone
/-- the tile that a token names: the tiles told have the tokens nk 0 .. nk (nt - 1) -/
def mKn (w : mWd) (nt : Nat) (nk : Nat → Nat) (p : Nat) : Option Nat := zFf (fun i => mSame w (nk i) p) nt
/-- what stays while a sum or a test is read -/
def mSta (tk : Nat → Nat) (T : Nat) (w : mWd) (nt : Nat) (nk : Nat → Nat) (nb : Nat → Int32) (M : eM) : Prop :=
  (∀ j, j ≤ T → M 102 j = nI (mk (tk j))) ∧ (M 118 2 = nI nt ∧ nt ≤ 16) ∧ (∀ i, i < nt → M 106 i = nI (nk i) ∧ nk i ≤ T ∧ tk (nk i) = 41) ∧ (∀ j, j ≤ T → tk j = 41 → M 104 j = nI (w.1 j) ∧ M 105 j = nI (w.2.1 j) ∧ w.1 j + w.2.1 j ≤ 2000) ∧ (∀ i, i < 2000 → M 101 i = w.2.2 i) ∧ (∀ j, j ≤ T → tk j = 40 → M 103 j = nb j)
def mFr (M M' : eM) (b : Nat) : Prop := ∀ c j, M' c j = M c j ∨ (c = 100 ∧ 8 ≤ j ∧ j ≤ 12) ∨ (c = 118 ∧ j = 11) ∨ ((c = 126 ∨ c = 127 ∨ c = 128) ∧ b ≤ j)
theorem mFr.refl (M : eM) (b : Nat) : mFr M M b := fun _ _ => Or.inl rfl
theorem mFr.trans {M M1 M2 : eM} {b b1 : Nat} (h : mFr M M1 b) (h1 : mFr M1 M2 b1) (hb : b ≤ b1) : mFr M M2 b := by
  intro c j
  rcases h1 c j with z | z | z | z
  · rcases h c j with y | y | y | y
    · exact Or.inl (z.trans y)
    · exact Or.inr (Or.inl y)
    · exact Or.inr (Or.inr (Or.inl y))
    · exact Or.inr (Or.inr (Or.inr y))
  · exact Or.inr (Or.inl z)
  · exact Or.inr (Or.inr (Or.inl z))
  · exact Or.inr (Or.inr (Or.inr ⟨z.1, Nat.le_trans hb z.2⟩))
theorem mFr.at {M M' : eM} {b : Nat} (h : mFr M M' b) {c j : Nat} (h1 : ¬ (c = 100 ∧ 8 ≤ j ∧ j ≤ 12)) (h2 : ¬ (c = 118 ∧ j = 11)) (h3 : ¬ ((c = 126 ∨ c = 127 ∨ c = 128) ∧ b ≤ j)) : M' c j = M c j := by
  rcases h c j with z | z | z | z
  · exact z
  · exact absurd z h1
  · exact absurd z h2
  · exact absurd z h3
theorem mSta.keep {tk : Nat → Nat} {T : Nat} {w : mWd} {nt : Nat} {nk : Nat → Nat} {nb : Nat → Int32} {M M' : eM} {b : Nat} (h : mSta tk T w nt nk nb M) (hf : mFr M M' b) : mSta tk T w nt nk nb M' := by
  obtain ⟨h1, h2, h3, h4, h5, h6⟩ := h
  refine ⟨fun j hj => ?_, ⟨?_, h2.2⟩, fun i hi => ⟨?_, (h3 i hi).2⟩, fun j hj hk => ⟨?_, ?_, (h4 j hj hk).2.2⟩, fun i hi => ?_, fun j hj hk => ?_⟩
  · rw [hf.at (by omega) (by omega) (by omega)]; exact h1 j hj
  · rw [hf.at (by omega) (by omega) (by omega)]; exact h2.1
  · rw [hf.at (by omega) (by omega) (by omega)]; exact (h3 i hi).1
  · rw [hf.at (by omega) (by omega) (by omega)]; exact (h4 j hj hk).1
  · rw [hf.at (by omega) (by omega) (by omega)]; exact (h4 j hj hk).2.1
  · rw [hf.at (by omega) (by omega) (by omega)]; exact h5 i hi
  · rw [hf.at (by omega) (by omega) (by omega)]; exact h6 j hj hk
/-- the model at token p with b nodes, d deep; its error so far -/
def mRd (tk : Nat → Nat) (T : Nat) (w : mWd) (nt : Nat) (nk : Nat → Nat) (nb : Nat → Int32) (M : eM) (p b d : Nat) (er : Nat × Nat) : Prop :=
  mSta tk T w nt nk nb M ∧ M 100 8 = nI p ∧ M 100 9 = 0 ∧ (M 100 10 = nI er.1 ∧ (er.1 ≠ 0 → M 100 11 = nI er.2) ∧ er.1 ≤ 5) ∧ M 100 12 = nI d ∧ M 118 11 = nI b
/-- the model behind a wrong token -/
def mBad (M : eM) (e b d : Nat) : Prop := M 100 8 = nI e ∧ M 100 9 = 1 ∧ (M 100 10 = 1 ∧ M 100 11 = nI e) ∧ M 100 12 = nI d ∧ M 118 11 = nI b
theorem mBad.ne {M : eM} {e b d : Nat} (h : mBad M e b d) : ¬ M 100 9 = 0 := by rw [h.2.1]; decide
section MTok
variable {G : eG} {tk : Nat → Nat} {T : Nat} {w : mWd} {nt : Nat} {nk : Nat → Nat} {nb : Nat → Int32}
theorem S_is (ht : pTk tk T) {M : eM} {p b d : Nat} {er : Nat × Nat} (hM : mRd tk T w nt nk nb M p b d er) (hp : p ≤ T) (F : Bool → eM → Prop) (k a : Nat) (hk : k ≤ 44) (ha : mk k = a) (h1 : tk p = k → F true M) (h0 : tk p ≠ k → F false M) : Cal G 100 40 (1, 0, 0) kX13_is [.ref (G.1 100), .int (nI a)] M (eFZ F) := by
  have h400 := ht.1
  have hkp := ht.2.1 p hp
  subst ha
  refine C_X13_is G M F _ ⟨fun q => absurd hM.2.2.1 q, fun _ => ?_⟩
  rw [hM.2.1]
  refine ⟨vp_in_nI (by omega) (by decide), ?_⟩
  rw [nI_clamp (show p < 2 ^ 31 by omega), hM.1.1 p hp]
  refine ⟨fun q => h0 (fun z => q (by rw [z])), fun q => h1 ?_⟩
  have l1 := mk_lt (tk p) (by omega)
  have l2 := mk_lt k (by omega)
  exact mk_inj (by omega) hk ((nI_eq (by omega) (by omega)).mp q)
theorem W_is {M : eM} (hM : ¬ M 100 9 = 0) (F : Bool → eM → Prop) (a : Int32) (h : F false M) : Cal G 100 40 (1, 0, 0) kX13_is [.ref (G.1 100), .int a] M (eFZ F) := C_X13_is G M F a ⟨fun _ => h, fun q => absurd q hM⟩
theorem W_wrong {M : eM} (hM : ¬ M 100 9 = 0) (F : eM → Prop) (h : F M) : Cal G 100 40 (1, 0, 0) kX13_wrong [.ref (G.1 100)] M (eFV F) := C_X13_wrong G M F ⟨fun q => absurd q hM, fun _ => h⟩
theorem W_takes {M : eM} (hM : ¬ M 100 9 = 0) (F : Bool → eM → Prop) (a : Int32) (h : F false M) : Cal G 100 40 (2, 0, 0) kX13_takes [.ref (G.1 100), .int a] M (eFZ F) := C_X13_takes G M F a (W_is hM _ a ⟨cFT, fun _ => h⟩)
theorem W_take {M : eM} (hM : ¬ M 100 9 = 0) (F : eM → Prop) (a : Int32) (h : F M) : Cal G 100 40 (2, 0, 0) kX13_take [.ref (G.1 100), .int a] M (eFV F) := C_X13_take G M F a (W_is hM _ a ⟨fun _ => W_wrong hM _ h, cFT⟩)
theorem S_wrong {M : eM} {p b d : Nat} {er : Nat × Nat} (hM : mRd tk T w nt nk nb M p b d er) (F : eM → Prop) (h : ∀ M', mFr M M' b → mBad M' p b d → F M') : Cal G 100 40 (1, 0, 0) kX13_wrong [.ref (G.1 100)] M (eFV F) := by
  obtain ⟨m1, m2, m3, m4, m5, m6⟩ := hM
  refine C_X13_wrong G M F ⟨fun _ => ?_, fun q => absurd m3 q⟩
  rw [eU_place _ _ _ _ (show 8 ≠ 10 by decide), eU_place _ _ _ _ (show 8 ≠ 9 by decide), m2]
  refine h _ (fun c j => ?_) ⟨?_, ?_, ⟨?_, ?_⟩, ?_, ?_⟩
  · by_cases hc : c = 100 ∧ 8 ≤ j ∧ j ≤ 12
    · exact Or.inr (Or.inl hc)
    · refine Or.inl ?_
      show (if c = 100 ∧ j = 11 then _ else (if c = 100 ∧ j = 10 then _ else (if c = 100 ∧ j = 9 then _ else M c j))) = M c j
      rw [if_neg (by omega), if_neg (by omega), if_neg (by omega)]
  · rw [eU_place _ _ _ _ (by decide), eU_place _ _ _ _ (by decide), eU_place _ _ _ _ (by decide)]; exact m2
  · rw [eU_place _ _ _ _ (by decide), eU_place _ _ _ _ (by decide), eU_same]
  · rw [eU_place _ _ _ _ (by decide), eU_same]
  · rw [eU_same]
  · rw [eU_place _ _ _ _ (by decide), eU_place _ _ _ _ (by decide), eU_place _ _ _ _ (by decide)]; exact m5
  · rw [eU_cell _ _ _ _ (by decide), eU_cell _ _ _ _ (by decide), eU_cell _ _ _ _ (by decide)]; exact m6
/-- on by one token -/
theorem mRd.step {M : eM} {p b d : Nat} {er : Nat × Nat} (hM : mRd tk T w nt nk nb M p b d er) : mFr M (eU M 100 8 (M 100 8 + 1)) b ∧ mRd tk T w nt nk nb (eU M 100 8 (M 100 8 + 1)) (p + 1) b d er := by
  have hf : mFr M (eU M 100 8 (M 100 8 + 1)) b := fun c j => by
    by_cases hc : c = 100 ∧ j = 8
    · exact Or.inr (Or.inl ⟨hc.1, by omega, by omega⟩)
    · exact Or.inl (if_neg hc)
  obtain ⟨m1, m2, m3, m4, m5, m6⟩ := hM
  refine ⟨hf, m1.keep hf, ?_, ?_, ⟨?_, ?_, m4.2.2⟩, ?_, ?_⟩
  · rw [eU_same, m2]; exact (nI_succ p).symm
  · rw [eU_place _ _ _ _ (by decide)]; exact m3
  · rw [eU_place _ _ _ _ (by decide)]; exact m4.1
  · rw [eU_place _ _ _ _ (by decide)]; exact m4.2.1
  · rw [eU_place _ _ _ _ (by decide)]; exact m5
  · rw [eU_cell _ _ _ _ (by decide)]; exact m6
theorem S_takes (ht : pTk tk T) {M : eM} {p b d : Nat} {er : Nat × Nat} (hM : mRd tk T w nt nk nb M p b d er) (hp : p ≤ T) (F : Bool → eM → Prop) (k a : Nat) (hk : k ≤ 44) (ha : mk k = a) (h1 : tk p = k → ∀ M', mFr M M' b → mRd tk T w nt nk nb M' (p + 1) b d er → F true M') (h0 : tk p ≠ k → F false M) : Cal G 100 40 (2, 0, 0) kX13_takes [.ref (G.1 100), .int (nI a)] M (eFZ F) :=
  C_X13_takes G M F _ (S_is ht hM hp _ k a hk ha (fun z => ⟨fun _ => h1 z _ hM.step.1 hM.step.2, cTF⟩) (fun z => ⟨cFT, fun _ => h0 z⟩))
theorem S_take (ht : pTk tk T) {M : eM} {p b d : Nat} {er : Nat × Nat} (hM : mRd tk T w nt nk nb M p b d er) (hp : p ≤ T) (F : eM → Prop) (k a : Nat) (hk : k ≤ 44) (ha : mk k = a) (h1 : tk p = k → ∀ M', mFr M M' b → mRd tk T w nt nk nb M' (p + 1) b d er → F M') (h0 : tk p ≠ k → ∀ M', mFr M M' b → mBad M' p b d → F M') : Cal G 100 40 (2, 0, 0) kX13_take [.ref (G.1 100), .int (nI a)] M (eFV F) :=
  C_X13_take G M F _ (S_is ht hM hp _ k a hk ha (fun z => ⟨cTF, fun _ => h1 z _ hM.step.1 hM.step.2⟩) (fun z => ⟨fun _ => S_wrong hM _ (h0 z), cFT⟩))
theorem S_node {M : eM} {b : Nat} (hb : M 118 11 = nI b) (h8 : b < 800) (F : Int32 → eM → Prop) (a1 a2 a3 : Int32) (h : ∀ M', mFr M M' b → (∀ j, M' 100 j = M 100 j) → M' 118 11 = nI (b + 1) → (M' 126 b = a1 ∧ M' 127 b = a2 ∧ M' 128 b = a3) → F (nI b) M') : Cal G 100 40 (1, 0, 0) kX13_node [.ref (G.1 100), .int a1, .int a2, .int a3] M (eFI F) := by
  refine C_X13_node G M F a1 a2 a3 ?_
  have e : (eU (eU (eU M 126 b a1) 127 b a2) 128 b a3) 118 11 = nI b := by
    rw [eU_cell _ _ _ _ (by decide), eU_cell _ _ _ _ (by decide), eU_cell _ _ _ _ (by decide)]; exact hb
  rw [hb, nI_clamp (show b < 2 ^ 31 by omega), e]
  refine ⟨vp_in_nI h8 (by decide), vp_in_nI h8 (by decide), vp_in_nI h8 (by decide), h _ (fun c j => ?_) (fun j => ?_) ?_ ⟨?_, ?_, ?_⟩⟩
  · by_cases h1 : c = 118 ∧ j = 11
    · exact Or.inr (Or.inr (Or.inl h1))
    by_cases h2 : (c = 126 ∨ c = 127 ∨ c = 128) ∧ b ≤ j
    · exact Or.inr (Or.inr (Or.inr h2))
    · refine Or.inl ?_
      show (if c = 118 ∧ j = 11 then _ else (if c = 128 ∧ j = b then _ else (if c = 127 ∧ j = b then _ else (if c = 126 ∧ j = b then _ else M c j)))) = M c j
      rw [if_neg h1, if_neg (by omega), if_neg (by omega), if_neg (by omega)]
  · rw [eU_cell _ _ _ _ (by decide), eU_cell _ _ _ _ (by decide), eU_cell _ _ _ _ (by decide), eU_cell _ _ _ _ (by decide)]
  · rw [eU_same]; exact (nI_succ b).symm
  · rw [eU_cell _ _ _ _ (by decide), eU_cell _ _ _ _ (by decide), eU_cell _ _ _ _ (by decide), eU_same]
  · rw [eU_cell _ _ _ _ (by decide), eU_cell _ _ _ _ (by decide), eU_same]
  · rw [eU_cell _ _ _ _ (by decide), eU_same]
/-- deeper: on, or wrong where it is too deep -/
theorem S_deeper {M : eM} {p b d : Nat} {er : Nat × Nat} (hM : mRd tk T w nt nk nb M p b d er) (hd : d ≤ 8) (F : eM → Prop) (h1 : d < 8 → ∀ M', mFr M M' b → mRd tk T w nt nk nb M' (p + 1) b (d + 1) er → F M') (h0 : d = 8 → ∀ M', mFr M M' b → mBad M' p b (d + 1) → F M') : Cal G 100 40 (2, 0, 0) kX13_deeper [.ref (G.1 100)] M (eFV F) := by
  refine C_X13_deeper G M F ?_
  have hst := hM.step
  refine ⟨fun q => ?_, fun q => ?_⟩
  · have hd8 : d < 8 := by
      refine Decidable.byContradiction fun z => q ?_
      rw [hM.2.2.2.2.1, show d = 8 by omega]
      rfl
    refine B_X13_deeper_26 G _ F ?_
    have hf : mFr (eU M 100 8 (M 100 8 + 1)) (eU (eU M 100 8 (M 100 8 + 1)) 100 12 ((eU M 100 8 (M 100 8 + 1)) 100 12 + 1)) b := fun c j => by
      by_cases hc : c = 100 ∧ j = 12
      · exact Or.inr (Or.inl ⟨hc.1, by omega, by omega⟩)
      · exact Or.inl (if_neg hc)
    obtain ⟨m1, m2, m3, m4, m5, m6⟩ := hst.2
    refine h1 hd8 _ (hst.1.trans hf (Nat.le_refl _)) ⟨m1.keep hf, ?_, ?_, ⟨?_, ?_, m4.2.2⟩, ?_, ?_⟩
    · rw [eU_place _ _ _ _ (by decide)]; exact m2
    · rw [eU_place _ _ _ _ (by decide)]; exact m3
    · rw [eU_place _ _ _ _ (by decide)]; exact m4.1
    · rw [eU_place _ _ _ _ (by decide)]; exact m4.2.1
    · rw [eU_same, m5]; exact (nI_succ d).symm
    · rw [eU_cell _ _ _ _ (by decide)]; exact m6
  · have hd8 : d = 8 := by
      rw [hM.2.2.2.2.1] at q
      exact (nI_eq (b := 8) (by omega) (by decide)).mp q
    refine S_wrong hM _ (fun M1 f1 b1 => B_X13_deeper_26 G M1 F ?_)
    have hf : mFr M1 (eU M1 100 12 (M1 100 12 + 1)) b := fun c j => by
      by_cases hc : c = 100 ∧ j = 12
      · exact Or.inr (Or.inl ⟨hc.1, by omega, by omega⟩)
      · exact Or.inl (if_neg hc)
    obtain ⟨n1, n2, n3, n4, n5⟩ := b1
    refine h0 hd8 _ (f1.trans hf (Nat.le_refl _)) ⟨?_, ?_, ⟨?_, ?_⟩, ?_, ?_⟩
    · rw [eU_place _ _ _ _ (by decide)]; exact n1
    · rw [eU_place _ _ _ _ (by decide)]; exact n2
    · rw [eU_place _ _ _ _ (by decide)]; exact n3.1
    · rw [eU_place _ _ _ _ (by decide)]; exact n3.2
    · rw [eU_same, n4]; exact (nI_succ d).symm
    · rw [eU_cell _ _ _ _ (by decide)]; exact n5
theorem S_sameName (ht : pTk tk T) {M : eM} (hM : mSta tk T w nt nk nb M) {a c : Nat} (ha : a ≤ T) (hc : c ≤ T) (ka : tk a = 41) (kc : tk c = 41) (F : Bool → eM → Prop) (h : F (mSame w a c) M) : Cal G 100 40 (1, 0, 0) kX13_isSameName [.ref (G.1 100), .int (nI a), .int (nI c)] M (eFZ F) := by
  have h400 := ht.1
  obtain ⟨a1, a2, a3⟩ := hM.2.2.2.1 a ha ka
  obtain ⟨c1, c2, c3⟩ := hM.2.2.2.1 c hc kc
  refine C_X13_isSameName G M F _ _ ⟨vp_in_nI (by omega) (by decide), vp_in_nI (by omega) (by decide), ?_⟩
  rw [nI_clamp (show a < 2 ^ 31 by omega), nI_clamp (show c < 2 ^ 31 by omega), a2, c2]
  unfold mSame at h
  refine ⟨fun q => ?_, fun q => ?_⟩
  · have hl : w.2.1 a = w.2.1 c := (nI_eq (by omega) (by omega)).mp q
    rw [decide_eq_true hl, Bool.true_and] at h
    have key : ∀ x, x ≤ w.2.1 a → (∀ j, j < x → decide (w.2.2 (w.1 a + j) ≠ w.2.2 (w.1 c + j)) = false) → Ev (eZ G 100 40 0 0 (eFZ F)) G 100 40 (1, 0, 0) kX13_isSameName 19 [(0, .ref (G.1 100)), (1, .int (nI a)), (2, .int (nI c)), (3, .int (nI x))] [] M 0 0 := by
      refine eDown (P := fun x => (∀ j, j < x → decide (w.2.2 (w.1 a + j) ≠ w.2.2 (w.1 c + j)) = false) → Ev (eZ G 100 40 0 0 (eFZ F)) G 100 40 (1, 0, 0) kX13_isSameName 19 [(0, .ref (G.1 100)), (1, .int (nI a)), (2, .int (nI c)), (3, .int (nI x))] [] M 0 0) ?_ ?_
      · intro hj
        rw [zFf_none hj] at h
        refine B_X13_isSameName_19 G M F _ _ _ ⟨vp_in_nI (by omega) (by decide), ?_⟩
        rw [nI_clamp (show a < 2 ^ 31 by omega), a2]
        exact ⟨fun _ => h, fun z => absurd (Int32.le_refl _) z⟩
      · intro x hx hn hj
        refine B_X13_isSameName_19 G M F _ _ _ ⟨vp_in_nI (by omega) (by decide), ?_⟩
        rw [nI_clamp (show a < 2 ^ 31 by omega), nI_clamp (show c < 2 ^ 31 by omega), a2, a1, c1, nI_add, nI_add, nI_clamp (show w.1 a + x < 2 ^ 31 by omega), nI_clamp (show w.1 c + x < 2 ^ 31 by omega), hM.2.2.2.2.1 _ (show w.1 a + x < 2000 by omega), hM.2.2.2.2.1 _ (show w.1 c + x < 2000 by omega)]
        refine ⟨fun z => absurd z (nI_ge hx (by omega)), fun _ => ⟨vp_in_nI (by omega) (by decide), vp_in_nI (by omega) (by decide), vp_in_nI (by omega) (by decide), vp_in_nI (by omega) (by decide), fun z => ?_, fun z => ?_⟩⟩
        · rw [← nI_succ]
          refine hn (fun j hjx => ?_)
          by_cases hq : j = x
          · subst hq; exact decide_eq_false (fun y => y z)
          · exact hj j (by omega)
        · rw [zFf_some hx (decide_eq_true z) hj] at h
          exact h
    exact key 0 (Nat.zero_le _) (fun j hj => absurd hj (by omega))
  · rw [decide_eq_false (fun z => q (by rw [z]))] at h
    exact h
theorem S_known (ht : pTk tk T) {M : eM} {p b d : Nat} {er : Nat × Nat} (hM : mRd tk T w nt nk nb M p b d er) (hp : p ≤ T) (kp : tk p = 41) (F : Int32 → eM → Prop) (h : F (eO (mKn w nt nk p)) M) : Cal G 100 40 (2, 0, 0) kX13_known [.ref (G.1 100)] M (eFI F) := by
  have h400 := ht.1
  have h16 := hM.1.2.1.2
  refine C_X13_known G M F ?_
  unfold mKn at h
  have key : ∀ i, i ≤ nt → (∀ j, j < i → mSame w (nk j) p = false) → Ev (eZ G 100 40 0 0 (eFI F)) G 100 40 (2, 0, 0) kX13_known 2 [(0, .ref (G.1 100)), (1, .int (nI i))] [] M 0 0 := by
    refine eDown (P := fun i => (∀ j, j < i → mSame w (nk j) p = false) → Ev (eZ G 100 40 0 0 (eFI F)) G 100 40 (2, 0, 0) kX13_known 2 [(0, .ref (G.1 100)), (1, .int (nI i))] [] M 0 0) ?_ ?_
    · intro hj
      rw [zFf_none hj] at h
      exact B_X13_known_2 G M F _ ⟨fun _ => h, fun z => absurd (by rw [hM.1.2.1.1]; exact Int32.le_refl _) z⟩
    · intro i hi hn hj
      obtain ⟨k1, k2, k3⟩ := hM.1.2.2.1 i hi
      refine B_X13_known_2 G M F _ ⟨fun z => absurd (by rw [hM.1.2.1.1] at z; exact z) (nI_ge hi (by omega)), fun _ => ⟨vp_in_nI (by omega) (by decide), ?_⟩⟩
      rw [nI_clamp (show i < 2 ^ 31 by omega), k1, hM.2.1]
      refine S_sameName ht hM.1 k2 hp k3 kp _ ⟨fun z => ?_, fun z => ?_⟩
      · rw [← nI_succ]
        refine hn (fun j hji => ?_)
        by_cases hq : j = i
        · subst hq; exact z
        · exact hj j (by omega)
      · rw [zFf_some hi z hj] at h
        exact h
  exact key 0 (Nat.zero_le _) (fun j hj => absurd hj (by omega))
/-- the error after a name at p -/
def mErN (kn : Nat → Option Nat) (er : Nat × Nat) (p : Nat) : Nat × Nat := if er.1 = 0 ∧ kn p = none then (3, p) else er
theorem S_mark {M : eM} {p b d : Nat} {er : Nat × Nat} (hM : mRd tk T w nt nk nb M p b d er) (F : eM → Prop) (c : Nat) (hc : 1 ≤ c ∧ c ≤ 5) (h : ∀ M', mFr M M' b → mRd tk T w nt nk nb M' p b d (if er.1 = 0 then (c, p) else er) → F M') : Cal G 100 40 (1, 0, 0) kX13_mark [.ref (G.1 100), .int (nI c)] M (eFV F) := by
  obtain ⟨m1, m2, m3, m4, m5, m6⟩ := hM
  refine C_X13_mark G M F _ ⟨fun q => absurd m3 q, fun _ => ⟨fun q => ?_, fun q => ?_⟩⟩
  · have h0 : er.1 = 0 := by
      rw [m4.1] at q
      exact (nI_eq (b := 0) (by omega) (by decide)).mp q
    rw [if_pos h0] at h
    rw [eU_place _ _ _ _ (show 8 ≠ 10 by decide), m2]
    have hf : mFr M (eU (eU M 100 10 (nI c)) 100 11 (nI p)) b := fun x j => by
      by_cases hx : x = 100 ∧ 8 ≤ j ∧ j ≤ 12
      · exact Or.inr (Or.inl hx)
      · refine Or.inl ?_
        show (if x = 100 ∧ j = 11 then _ else (if x = 100 ∧ j = 10 then _ else M x j)) = M x j
        rw [if_neg (by omega), if_neg (by omega)]
    refine h _ hf ⟨m1.keep hf, ?_, ?_, ⟨?_, ?_, hc.2⟩, ?_, ?_⟩
    · rw [eU_place _ _ _ _ (by decide), eU_place _ _ _ _ (by decide)]; exact m2
    · rw [eU_place _ _ _ _ (by decide), eU_place _ _ _ _ (by decide)]; exact m3
    · rw [eU_place _ _ _ _ (by decide), eU_same]
    · intro _; rw [eU_same]
    · rw [eU_place _ _ _ _ (by decide), eU_place _ _ _ _ (by decide)]; exact m5
    · rw [eU_cell _ _ _ _ (by decide), eU_cell _ _ _ _ (by decide)]; exact m6
  · have h0 : ¬ er.1 = 0 := fun z => q (by rw [m4.1, z]; rfl)
    rw [if_neg h0] at h
    exact h M (mFr.refl _ _) ⟨m1, m2, m3, m4, m5, m6⟩
theorem W_name {M : eM} (hM : ¬ M 100 9 = 0) (F : Int32 → eM → Prop) (h : F 0 M) : Cal G 100 40 (3, 0, 0) kX13_name [.ref (G.1 100)] M (eFI F) := by
  refine C_X13_name G M F (W_is hM _ _ ⟨fun _ => ⟨fun _ => B_X13_name_28 G M F 0 (W_take hM _ _ ?_), fun q => absurd q (by decide)⟩, cFT⟩)
  rw [if_neg (by decide)]
  exact h
theorem S_name (ht : pTk tk T) {M : eM} {p b d : Nat} {er : Nat × Nat} (hM : mRd tk T w nt nk nb M p b d er) (hp : p ≤ T) (F : Int32 → eM → Prop) (h1 : tk p = 41 → ∀ M', mFr M M' b → mRd tk T w nt nk nb M' (p + 1) b d (mErN (mKn w nt nk) er p) → F (nI ((mKn w nt nk p).getD 0)) M') (h0 : tk p ≠ 41 → ∀ M', mFr M M' b → mBad M' p b d → F 0 M') : Cal G 100 40 (3, 0, 0) kX13_name [.ref (G.1 100)] M (eFI F) := by
  have h16 := hM.1.2.1.2
  refine C_X13_name G M F (S_is ht hM hp _ 41 30 (by decide) rfl (fun z => ⟨cTF, fun _ => ?_⟩) (fun z => ⟨fun _ => ⟨fun _ => B_X13_name_28 G M F 0 (S_take ht hM hp _ 41 30 (by decide) rfl (fun y => absurd y z) (fun _ M1 f1 b1 => ?_)), fun q => absurd q (by decide)⟩, cFT⟩))
  · refine S_known ht hM hp z _ ?_
    cases hk : mKn w nt nk p with
    | none =>
      refine ⟨fun q => absurd rfl q, fun _ => ?_⟩
      refine S_mark hM _ 3 (by decide) (fun M1 f1 r1 => B_X13_name_28 G M1 F _ ?_)
      refine S_take ht r1 hp _ 41 30 (by decide) rfl (fun _ M2 f2 r2 => ?_) (fun y => absurd z y)
      have e : (if 0 < eO none then eO none else 0) = nI ((mKn w nt nk p).getD 0) := by rw [hk]; decide
      rw [e]
      refine h1 z M2 (f1.trans f2 (Nat.le_refl _)) ?_
      unfold mErN
      rw [hk]
      by_cases h0' : er.1 = 0
      · rw [if_pos h0'] at r2
        rw [if_pos ⟨h0', rfl⟩]
        exact r2
      · rw [if_neg h0'] at r2
        rw [if_neg (fun y => h0' y.1)]
        exact r2
    | some i =>
      have hi : i < nt := (zFf_some' hk).1
      refine ⟨fun _ => B_X13_name_28 G M F _ ?_, fun q => absurd q (eNeg i (by omega))⟩
      refine S_take ht hM hp _ 41 30 (by decide) rfl (fun _ M2 f2 r2 => ?_) (fun y => absurd z y)
      have e : (if 0 < eO (some i) then eO (some i) else 0) = nI ((mKn w nt nk p).getD 0) := by
        rw [hk]
        show (if 0 < nI i then nI i else 0) = nI i
        by_cases h0' : i = 0
        · subst h0'; decide
        · rw [if_pos (show (0 : Int32) < nI i from nI_lt (a := 0) (b := i) (by omega) (by omega))]
      rw [e]
      refine h1 z M2 f2 ?_
      unfold mErN
      rw [hk, if_neg (fun y => by cases y.2)]
      exact r2
  · rw [if_neg (by decide)]
    exact h0 z M1 f1 b1
theorem W_value (D : Nat) {M : eM} (hM : ¬ M 100 9 = 0) (F : Int32 → eM → Prop) (h : F 0 M) : Cal G 100 40 (D + 5, 0, 0) kX13_value [.ref (G.1 100)] M (eFI F) := by
  refine C_X13_value G D M F (W_is hM _ _ ⟨fun _ => ?_, cFT⟩)
  refine eDown (P := fun i => Ev (eZ G 100 40 0 0 (eFI F)) G 100 40 (D + 5, 0, 0) kX13_value 41 [(0, .ref (G.1 100)), (1, .int (nI i))] [] M 0 0) (N := 15) ?_ ?_ 9 (by decide)
  · refine B_X13_value_41 G D M F _ ⟨fun _ => W_takes hM _ _ ⟨fun _ => W_is hM _ _ ⟨cFT, fun _ => W_is hM _ _ ⟨fun _ => W_is hM _ _ ⟨fun _ => W_is hM _ _ ⟨cFT, fun _ => W_wrong hM _ h⟩, cFT⟩, cFT⟩⟩, cFT⟩, fun q => absurd ?_ q⟩
    exact nI_lt (a := 14) (b := 15) (by decide) (by decide)
  · intro i hi hn
    refine B_X13_value_41 G D M F _ ⟨fun q => absurd q (nI_nlt (b := i) (a := 14) (by omega) (by decide)), fun _ => W_takes hM _ _ ⟨fun _ => ?_, cFT⟩⟩
    rw [← nI_succ]
    exact hn
theorem W_product (D : Nat) {M : eM} (hM : ¬ M 100 9 = 0) (F : Int32 → eM → Prop) (x : Int32) (h : F x M) : Ev (eZ G 100 40 0 0 (eFI F)) G 100 40 (D + 5, 0, 0) kX13_product 5 [(0, .ref (G.1 100)), (1, .int x)] [] M 0 0 :=
  B_X13_product_5 G D M F x (W_is hM _ _ ⟨cFT, fun _ => W_is hM _ _ ⟨fun _ => h, cFT⟩⟩)
theorem W_productC (D : Nat) {M : eM} (hM : ¬ M 100 9 = 0) (F : Int32 → eM → Prop) (h : F 0 M) : Cal G 100 40 (D + 1 + 5, 0, 0) kX13_product [.ref (G.1 100)] M (eFI F) :=
  C_X13_product G (D + 1) M F (W_value D hM _ (W_product (D + 1) hM F 0 h))
theorem W_sum (D : Nat) {M : eM} (hM : ¬ M 100 9 = 0) (F : Int32 → eM → Prop) (x : Int32) (h : F x M) : Ev (eZ G 100 40 0 0 (eFI F)) G 100 40 (D + 5, 0, 0) kX13_sum 5 [(0, .ref (G.1 100)), (1, .int x)] [] M 0 0 :=
  B_X13_sum_5 G D M F x (W_is hM _ _ ⟨cFT, fun _ => W_is hM _ _ ⟨fun _ => h, cFT⟩⟩)
theorem W_sumC (D : Nat) {M : eM} (hM : ¬ M 100 9 = 0) (F : Int32 → eM → Prop) (h : F 0 M) : Cal G 100 40 (D + 2 + 5, 0, 0) kX13_sum [.ref (G.1 100)] M (eFI F) :=
  C_X13_sum G (D + 2) M F (W_productC D hM _ (W_sum (D + 2) hM F 0 h))
theorem W_comparison (D : Nat) {M : eM} (hM : ¬ M 100 9 = 0) (h8 : vp_in (M 100 8) 402) (F : Int32 → eM → Prop) (h : F 0 M) : Cal G 100 40 (D + 3 + 5, 0, 0) kX13_comparison [.ref (G.1 100)] M (eFI F) :=
  C_X13_comparison G (D + 3) M F (W_sumC D hM _ ⟨h8, fun _ => W_wrong hM _ h, fun q => absurd q hM⟩)
theorem W_single (D : Nat) {M : eM} (hM : ¬ M 100 9 = 0) (h8 : vp_in (M 100 8) 402) (F : Int32 → eM → Prop) (h : F 0 M) : Cal G 100 40 (D + 4 + 5, 0, 0) kX13_single [.ref (G.1 100)] M (eFI F) :=
  C_X13_single G (D + 4) M F (W_is hM _ _ ⟨fun _ => W_is hM _ _ ⟨fun _ => W_takes hM _ _ ⟨fun _ => W_takes hM _ _ ⟨fun _ => W_comparison D hM h8 _ h, cFT⟩, cFT⟩, cFT⟩, cFT⟩)
theorem W_both (D : Nat) {M : eM} (hM : ¬ M 100 9 = 0) (F : Int32 → eM → Prop) (x : Int32) (h : F x M) : Ev (eZ G 100 40 0 0 (eFI F)) G 100 40 (D + 5, 0, 0) kX13_both 5 [(0, .ref (G.1 100)), (1, .int x)] [] M 0 0 :=
  B_X13_both_5 G D M F x (W_takes hM _ _ ⟨fun _ => h, cFT⟩)
theorem W_bothC (D : Nat) {M : eM} (hM : ¬ M 100 9 = 0) (h8 : vp_in (M 100 8) 402) (F : Int32 → eM → Prop) (h : F 0 M) : Cal G 100 40 (D + 5 + 5, 0, 0) kX13_both [.ref (G.1 100)] M (eFI F) :=
  C_X13_both G (D + 5) M F (W_single D hM h8 _ (W_both (D + 5) hM F 0 h))
theorem W_test (D : Nat) {M : eM} (hM : ¬ M 100 9 = 0) (F : Int32 → eM → Prop) (x : Int32) (h : F x M) : Ev (eZ G 100 40 0 0 (eFI F)) G 100 40 (D + 5, 0, 0) kX13_test 5 [(0, .ref (G.1 100)), (1, .int x)] [] M 0 0 :=
  B_X13_test_5 G D M F x (W_takes hM _ _ ⟨fun _ => h, cFT⟩)
theorem W_testC (D : Nat) {M : eM} (hM : ¬ M 100 9 = 0) (h8 : vp_in (M 100 8) 402) (F : Int32 → eM → Prop) (h : F 0 M) : Cal G 100 40 (D + 6 + 5, 0, 0) kX13_test [.ref (G.1 100)] M (eFI F) :=
  C_X13_test G (D + 6) M F (W_bothC D hM h8 _ (W_test (D + 6) hM F 0 h))
end MTok
