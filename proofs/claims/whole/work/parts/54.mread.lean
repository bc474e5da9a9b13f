/-! ===== the model's readings are the spec's ===== -/
/-- the error at each token: a name that is not told makes one -/
def mErr (tk : Nat → Nat) (kn : Nat → Option Nat) (p0 : Nat) (eR : Nat → Nat × Nat) : Prop := ∀ j, p0 ≤ j → eR (j + 1) = if tk j = 41 then mErN kn (eR j) j else eR j
theorem mErr.ne {tk : Nat → Nat} {kn : Nat → Option Nat} {p0 : Nat} {eR : Nat → Nat × Nat} (h : mErr tk kn p0 eR) {j : Nat} (h0 : p0 ≤ j) (hj : tk j ≠ 41) : eR (j + 1) = eR j := (h j h0).trans (if_neg hj)
theorem mErr.eq {tk : Nat → Nat} {kn : Nat → Option Nat} {p0 : Nat} {eR : Nat → Nat × Nat} (h : mErr tk kn p0 eR) {j : Nat} (h0 : p0 ≤ j) (hj : tk j = 41) : eR (j + 1) = mErN kn (eR j) j := (h j h0).trans (if_pos hj)
/-- what a node takes first -/
def mLeft (kn : Nat → Option Nat) (nb : Nat → Int32) (s : pSt) : Int32 := if s.1 = 40 then nb s.2.1 else if s.1 = 16 ∨ s.1 = 18 ∨ s.1 = 19 then nI ((kn s.2.1).getD 0) else nI s.2.2.1
theorem mLeft_num {kn : Nat → Option Nat} {nb : Nat → Int32} {s : pSt} (h : s.1 = 40) : mLeft kn nb s = nb s.2.1 := if_pos h
theorem mLeft_nam {kn : Nat → Option Nat} {nb : Nat → Int32} {s : pSt} (h : s.1 = 16 ∨ s.1 = 18 ∨ s.1 = 19) : mLeft kn nb s = nI ((kn s.2.1).getD 0) := by
  unfold mLeft
  rw [if_neg (by omega), if_pos h]
theorem mLeft_op {kn : Nat → Option Nat} {nb : Nat → Int32} {s : pSt} (h : s.1 ≠ 40) (h1 : ¬ (s.1 = 16 ∨ s.1 = 18 ∨ s.1 = 19)) : mLeft kn nb s = nI s.2.2.1 := by
  unfold mLeft
  rw [if_neg h, if_neg h1]
def mCd (kn : Nat → Option Nat) (nb : Nat → Int32) (M : eM) (b : Nat) (cd : List pSt) : Prop := ∀ i s, cd[i]? = some s → M 126 (b + i) = nI (mk s.1) ∧ M 127 (b + i) = mLeft kn nb s ∧ M 128 (b + i) = nI s.2.2.2
section MCd
variable {kn : Nat → Option Nat} {nb : Nat → Int32}
theorem mCd.nil (M : eM) (b : Nat) : mCd kn nb M b [] := fun i s h => by simp at h
theorem mCd.keep {M M' : eM} {b b1 : Nat} {cd : List pSt} (h : mCd kn nb M b cd) (hf : mFr M M' b1) (hb : b + cd.length ≤ b1) : mCd kn nb M' b cd := by
  intro i s hs
  have hi : i < cd.length := (List.getElem?_eq_some_iff.mp hs).1
  obtain ⟨h1, h2, h3⟩ := h i s hs
  rw [hf.at (by omega) (by omega) (by omega), hf.at (by omega) (by omega) (by omega), hf.at (by omega) (by omega) (by omega)]
  exact ⟨h1, h2, h3⟩
theorem mCd.append {M : eM} {b : Nat} {c1 c2 : List pSt} (h1 : mCd kn nb M b c1) (h2 : mCd kn nb M (b + c1.length) c2) : mCd kn nb M b (c1 ++ c2) := by
  intro i s hs
  by_cases hi : i < c1.length
  · rw [List.getElem?_append_left hi] at hs
    exact h1 i s hs
  · rw [List.getElem?_append_right (by omega)] at hs
    have := h2 _ s hs
    rw [show b + c1.length + (i - c1.length) = b + i by omega] at this
    exact this
theorem mCd.one {M : eM} {b : Nat} {s : pSt} (h : M 126 b = nI (mk s.1) ∧ M 127 b = mLeft kn nb s ∧ M 128 b = nI s.2.2.2) : mCd kn nb M b [s] := by
  intro i t ht
  match i, ht with
  | 0, ht =>
    cases ht
    exact h
  | i + 1, ht => simp at ht
theorem mCd.snoc {M1 M2 : eM} {b : Nat} {c1 : List pSt} {s : pSt} (h : mCd kn nb M1 b c1) (hf : mFr M1 M2 (b + c1.length)) (w : M2 126 (b + c1.length) = nI (mk s.1) ∧ M2 127 (b + c1.length) = mLeft kn nb s ∧ M2 128 (b + c1.length) = nI s.2.2.2) : mCd kn nb M2 b (c1 ++ [s]) := (h.keep hf (Nat.le_refl _)).append (mCd.one w)
theorem mCd.bin {M2 M3 M4 : eM} {b : Nat} {c1 c2 : List pSt} {s : pSt} (h : mCd kn nb M2 b c1) (hf : mFr M2 M3 (b + c1.length)) (w : M3 126 (b + c1.length) = nI (mk s.1) ∧ M3 127 (b + c1.length) = mLeft kn nb s ∧ M3 128 (b + c1.length) = nI s.2.2.2) (f4 : mFr M3 M4 (b + c1.length + 1)) (k4 : mCd kn nb M4 (b + c1.length + 1) c2) : mCd kn nb M4 b (c1 ++ s :: c2) := by
  have h1 := (h.snoc hf w).keep f4 (by rw [List.length_append]; exact Nat.le_refl _)
  have h2 := h1.append (c2 := c2) (by rw [List.length_append]; exact k4)
  rw [List.append_assoc] at h2
  exact h2
end MCd
def mNest (m d : Nat) : Nat := (8 - d) * 9 + (match m with
  | 0 => 7
  | 1 => 8
  | 2 => 8
  | 3 => 9
  | 4 => 9
  | 5 => 11
  | 6 => 12
  | 7 => 12
  | _ => 13)
def mAt (G : eG) (b D : Nat) (M : eM) (F : Int32 → eM → Prop) (m : Nat) : Prop := match m with
  | 0 => Cal G 100 40 (D + 5, 0, 0) kX13_value [.ref (G.1 100)] M (eFI F)
  | 1 => Cal G 100 40 (D + 5, 0, 0) kX13_product [.ref (G.1 100)] M (eFI F)
  | 2 => Ev (eZ G 100 40 0 0 (eFI F)) G 100 40 (D + 5, 0, 0) kX13_product 5 [(0, .ref (G.1 100)), (1, .int (nI (b - 1)))] [] M 0 0
  | 3 => Cal G 100 40 (D + 5, 0, 0) kX13_sum [.ref (G.1 100)] M (eFI F)
  | 4 => Ev (eZ G 100 40 0 0 (eFI F)) G 100 40 (D + 5, 0, 0) kX13_sum 5 [(0, .ref (G.1 100)), (1, .int (nI (b - 1)))] [] M 0 0
  | 5 => Cal G 100 40 (D + 5, 0, 0) kX13_single [.ref (G.1 100)] M (eFI F)
  | 6 => Cal G 100 40 (D + 5, 0, 0) kX13_both [.ref (G.1 100)] M (eFI F)
  | 7 => Ev (eZ G 100 40 0 0 (eFI F)) G 100 40 (D + 5, 0, 0) kX13_both 5 [(0, .ref (G.1 100)), (1, .int (nI (b - 1)))] [] M 0 0
  | 8 => Cal G 100 40 (D + 5, 0, 0) kX13_test [.ref (G.1 100)] M (eFI F)
  | _ => Ev (eZ G 100 40 0 0 (eFI F)) G 100 40 (D + 5, 0, 0) kX13_test 5 [(0, .ref (G.1 100)), (1, .int (nI (b - 1)))] [] M 0 0
def mRx (tk : Nat → Nat) (T : Nat) (w : mWd) (nt : Nat) (nk : Nat → Nat) (nb : Nat → Int32) (eR : Nat → Nat × Nat) (M : eM) (p b d : Nat) : Prop := mRd tk T w nt nk nb M p b d (eR p)
def mRes (tk : Nat → Nat) (T : Nat) (w : mWd) (nt : Nat) (nk : Nat → Nat) (nb : Nat → Int32) (eR : Nat → Nat × Nat) (F : Int32 → eM → Prop) (M : eM) (b p d : Nat) (x : Nat ⊕ (Nat × List pSt)) : Prop := match x with
  | .inl e => ∀ M' r n', mFr M M' b → mBad M' e n' d → b ≤ n' → n' ≤ b + (e - p) + 1 → F r M'
  | .inr (q, cd) => ∀ M', mFr M M' b → mRx tk T w nt nk nb eR M' q (b + cd.length) d → mCd (mKn w nt nk) nb M' b cd → F (nI (b + cd.length - 1)) M'
def mGoal (G : eG) (tk : Nat → Nat) (T : Nat) (w : mWd) (nt : Nat) (nk : Nat → Nat) (nb : Nat → Int32) (p0 : Nat) (eR : Nat → Nat × Nat) (n : Nat) : Prop := ∀ (m d p b D : Nat) (M : eM) (F : Int32 → eM → Prop) (x : Nat ⊕ (Nat × List pSt)), m ≤ 9 → d ≤ 8 → p0 ≤ p → p ≤ T → b ≤ p → (pLp m = true → 1 ≤ b) → mRx tk T w nt nk nb eR M p b d → pE tk n m d p b = some x → mRes tk T w nt nk nb eR F M b p d x → mNest m d ≤ D → mAt G b D M F m
theorem mFr.less {M M' : eM} {b b' : Nat} (h : mFr M M' b') (hb : b ≤ b') : mFr M M' b := (mFr.refl M b).trans h hb
section MRead
variable {G : eG} {tk : Nat → Nat} {T n p0 : Nat} {w : mWd} {nt : Nat} {nk : Nat → Nat} {nb : Nat → Int32} {eR : Nat → Nat × Nat}
theorem mRx.up {M : eM} {p b d : Nat} (hM : mRx tk T w nt nk nb eR M p b (d + 1)) : mFr M (eU M 100 12 (M 100 12 - 1)) b ∧ mRx tk T w nt nk nb eR (eU M 100 12 (M 100 12 - 1)) p b d := by
  have hf : mFr M (eU M 100 12 (M 100 12 - 1)) b := fun c j => by
    by_cases hc : c = 100 ∧ j = 12
    · exact Or.inr (Or.inl ⟨hc.1, by omega, by omega⟩)
    · exact Or.inl (if_neg hc)
  obtain ⟨m1, m2, m3, m4, m5, m6⟩ := hM
  refine ⟨hf, m1.keep hf, ?_, ?_, ⟨?_, ?_, m4.2.2⟩, ?_, ?_⟩
  · rw [eU_place _ _ _ _ (by decide)]; exact m2
  · rw [eU_place _ _ _ _ (by decide)]; exact m3
  · rw [eU_place _ _ _ _ (by decide)]; exact m4.1
  · rw [eU_place _ _ _ _ (by decide)]; exact m4.2.1
  · rw [eU_same, m5]; exact nI_pred d
  · rw [eU_cell _ _ _ _ (by decide)]; exact m6
theorem mBad.up {M : eM} {e b d : Nat} (hM : mBad M e b (d + 1)) : mFr M (eU M 100 12 (M 100 12 - 1)) b ∧ mBad (eU M 100 12 (M 100 12 - 1)) e b d := by
  have hf : mFr M (eU M 100 12 (M 100 12 - 1)) b := fun c j => by
    by_cases hc : c = 100 ∧ j = 12
    · exact Or.inr (Or.inl ⟨hc.1, by omega, by omega⟩)
    · exact Or.inl (if_neg hc)
  obtain ⟨n1, n2, n3, n4, n5⟩ := hM
  refine ⟨hf, ?_, ?_, ⟨?_, ?_⟩, ?_, ?_⟩
  · rw [eU_place _ _ _ _ (by decide)]; exact n1
  · rw [eU_place _ _ _ _ (by decide)]; exact n2
  · rw [eU_place _ _ _ _ (by decide)]; exact n3.1
  · rw [eU_place _ _ _ _ (by decide)]; exact n3.2
  · rw [eU_same, n4]; exact nI_pred d
  · rw [eU_cell _ _ _ _ (by decide)]; exact n5
/-- a node behind a wrong token -/
theorem N_bad {M : eM} {e b d : Nat} (hM : mBad M e b d) (h8 : b < 800) (F : Int32 → eM → Prop) (a1 a2 a3 : Int32) (h : ∀ r M', mFr M M' b → mBad M' e (b + 1) d → F r M') : Cal G 100 40 (1, 0, 0) kX13_node [.ref (G.1 100), .int a1, .int a2, .int a3] M (eFI F) := by
  obtain ⟨n1, n2, n3, n4, n5⟩ := hM
  refine S_node n5 h8 F a1 a2 a3 (fun M1 f1 k1 m1 _ => h _ M1 f1 ⟨?_, ?_, ⟨?_, ?_⟩, ?_, m1⟩)
  · rw [k1]; exact n1
  · rw [k1]; exact n2
  · rw [k1]; exact n3.1
  · rw [k1]; exact n3.2
  · rw [k1]; exact n4
/-- a node where the reading is good -/
theorem N_ok {M : eM} {p b d : Nat} (hM : mRx tk T w nt nk nb eR M p b d) (h8 : b < 800) (F : Int32 → eM → Prop) (a1 a2 a3 : Int32) (h : ∀ M', mFr M M' b → mRx tk T w nt nk nb eR M' p (b + 1) d → (M' 126 b = a1 ∧ M' 127 b = a2 ∧ M' 128 b = a3) → F (nI b) M') : Cal G 100 40 (1, 0, 0) kX13_node [.ref (G.1 100), .int a1, .int a2, .int a3] M (eFI F) := by
  obtain ⟨m1, m2, m3, m4, m5, m6⟩ := hM
  refine S_node m6 h8 F a1 a2 a3 (fun M1 f1 k1 c1 w1 => h M1 f1 ⟨m1.keep f1, ?_, ?_, ⟨?_, ?_, m4.2.2⟩, ?_, c1⟩ w1)
  · rw [k1]; exact m2
  · rw [k1]; exact m3
  · rw [k1]; exact m4.1
  · rw [k1]; exact m4.2.1
  · rw [k1]; exact m5
theorem mRx.cast {M : eM} {p b b' d : Nat} (h : mRx tk T w nt nk nb eR M p b d) (e : b = b') : mRx tk T w nt nk nb eR M p b' d := by subst e; exact h
theorem mBad.tok {M : eM} {e b d : Nat} (h : mBad M e b d) (he : e ≤ 400) : vp_in (M 100 8) 402 := by rw [h.1]; exact vp_in_nI (by omega) (by decide)
theorem mRx.tok (ht : pTk tk T) {M : eM} {p b d : Nat} (h : mRx tk T w nt nk nb eR M p b d) (hp : p ≤ T) : vp_in (M 100 8) 402 := by rw [h.2.1]; exact vp_in_nI (by have := ht.1; omega) (by decide)
theorem mRx.kind (ht : pTk tk T) {M : eM} {p b d : Nat} (h : mRx tk T w nt nk nb eR M p b d) (hp : p ≤ T) : M 102 (M 100 8).toNatClampNeg = nI (mk (tk p)) := by
  rw [h.2.1, nI_clamp (by have := ht.1; omega)]
  exact h.1.1 p hp
theorem mRx.er {M : eM} {p q b d : Nat} (h : mRd tk T w nt nk nb M q b d (eR p)) (e : eR q = eR p) : mRx tk T w nt nk nb eR M q b d := by
  unfold mRx
  rw [e]
  exact h
theorem mRx.step (hE : mErr tk (mKn w nt nk) p0 eR) {M : eM} {p b d : Nat} (hM : mRx tk T w nt nk nb eR M p b d) (h0 : p0 ≤ p) (hn : tk p ≠ 41) : mFr M (eU M 100 8 (M 100 8 + 1)) b ∧ mRx tk T w nt nk nb eR (eU M 100 8 (M 100 8 + 1)) (p + 1) b d := ⟨(mRd.step hM).1, mRx.er (mRd.step hM).2 (hE.ne h0 hn)⟩
theorem X_takes (ht : pTk tk T) (hE : mErr tk (mKn w nt nk) p0 eR) {M : eM} {p b d : Nat} (hM : mRx tk T w nt nk nb eR M p b d) (h0 : p0 ≤ p) (hp : p ≤ T) (F : Bool → eM → Prop) (k a : Nat) (hk : k ≤ 40) (ha : mk k = a) (h1 : tk p = k → ∀ M', mFr M M' b → mRx tk T w nt nk nb eR M' (p + 1) b d → F true M') (h2 : tk p ≠ k → F false M) : Cal G 100 40 (2, 0, 0) kX13_takes [.ref (G.1 100), .int (nI a)] M (eFZ F) :=
  S_takes ht hM hp F k a (by omega) ha (fun z M' f r => h1 z M' f (mRx.er r (hE.ne h0 (by omega)))) h2
theorem X_take (ht : pTk tk T) (hE : mErr tk (mKn w nt nk) p0 eR) {M : eM} {p b d : Nat} (hM : mRx tk T w nt nk nb eR M p b d) (h0 : p0 ≤ p) (hp : p ≤ T) (F : eM → Prop) (k a : Nat) (hk : k ≤ 40) (ha : mk k = a) (h1 : tk p = k → ∀ M', mFr M M' b → mRx tk T w nt nk nb eR M' (p + 1) b d → F M') (h2 : tk p ≠ k → ∀ M', mFr M M' b → mBad M' p b d → F M') : Cal G 100 40 (2, 0, 0) kX13_take [.ref (G.1 100), .int (nI a)] M (eFV F) :=
  S_take ht hM hp F k a (by omega) ha (fun z M' f r => h1 z M' f (mRx.er r (hE.ne h0 (by omega)))) h2
theorem X_deeper (hE : mErr tk (mKn w nt nk) p0 eR) {M : eM} {p b d : Nat} (hM : mRx tk T w nt nk nb eR M p b d) (h0 : p0 ≤ p) (hn : tk p ≠ 41) (hd : d ≤ 8) (F : eM → Prop) (h1 : d < 8 → ∀ M', mFr M M' b → mRx tk T w nt nk nb eR M' (p + 1) b (d + 1) → F M') (h2 : d = 8 → ∀ M', mFr M M' b → mBad M' p b (d + 1) → F M') : Cal G 100 40 (2, 0, 0) kX13_deeper [.ref (G.1 100)] M (eFV F) :=
  S_deeper hM hd F (fun z M' f r => h1 z M' f (mRx.er r (hE.ne h0 hn))) h2
theorem X_name (ht : pTk tk T) (hE : mErr tk (mKn w nt nk) p0 eR) {M : eM} {p b d : Nat} (hM : mRx tk T w nt nk nb eR M p b d) (h0 : p0 ≤ p) (hp : p ≤ T) (F : Int32 → eM → Prop) (h1 : tk p = 41 → ∀ M', mFr M M' b → mRx tk T w nt nk nb eR M' (p + 1) b d → F (nI ((mKn w nt nk p).getD 0)) M') (h2 : tk p ≠ 41 → ∀ M', mFr M M' b → mBad M' p b d → F 0 M') : Cal G 100 40 (3, 0, 0) kX13_name [.ref (G.1 100)] M (eFI F) :=
  S_name ht hM hp F (fun z M' f r => h1 z M' f (by
    unfold mRx
    rw [hE.eq h0 z]
    exact r)) h2
theorem mP_brackets (ht : pTk tk T) (hE : mErr tk (mKn w nt nk) p0 eR) (ih : mGoal G tk T w nt nk nb p0 eR n) {d p b D : Nat} {M : eM} {F : Int32 → eM → Prop} {x : Nat ⊕ (Nat × List pSt)} (hd : d ≤ 8) (h0 : p0 ≤ p) (hp : p ≤ T) (hb : b ≤ p) (hM : mRx tk T w nt nk nb eR M p b d) (h25 : tk p = 25) (hx : (if d < 8 then pThen (pE tk n 3 (d + 1) (p + 1) b) (fun p1 c1 => pEat tk 26 p1 (pOn (p1 + 1) c1)) else pBad p) = some x) (hF : mRes tk T w nt nk nb eR F M b p d x) (hD : (8 - d) * 9 + 6 ≤ D) : Cal G 100 40 (D + 5, 0, 0) kX13_inBrackets [.ref (G.1 100)] M (eFI F) := by
  have h400 := ht.1
  obtain ⟨D', rfl⟩ : ∃ D', D = D' + 3 := ⟨D - 3, by omega⟩
  refine C_X13_inBrackets G (D' + 3) M F (X_deeper hE hM h0 (by omega) hd _ (fun h8 M1 f1 r1 => ?_) (fun h8 M1 f1 b1 => ?_))
  · rw [if_pos h8] at hx
    have hp1 := ht.lt hp (by omega) (by omega)
    rcases pThen_on hx with ⟨e, hr, rfl⟩ | ⟨p1, c1, hr, hx⟩
    · obtain ⟨q1, q2⟩ := pE_fine ht _ _ _ _ _ _ hp1 hr
      refine ih 3 (d + 1) (p + 1) b (D' + 2) M1 _ _ (by decide) (by omega) (by omega) hp1 (by omega) (fun z => by cases z) r1 hr (fun M2 r n' f2 b2 l1 l2 => ?_) (by show (8 - (d + 1)) * 9 + 9 ≤ D' + 2; omega)
      refine W_take b2.ne _ _ ?_
      exact hF _ r n' ((f1.trans f2 (Nat.le_refl _)).trans b2.up.1 l1) b2.up.2 l1 (by omega)
    · obtain ⟨a1, a2, -⟩ := pE_fine ht _ _ _ _ _ _ hp1 hr
      refine ih 3 (d + 1) (p + 1) b (D' + 2) M1 _ _ (by decide) (by omega) (by omega) hp1 (by omega) (fun z => by cases z) r1 hr (fun M2 f2 r2 k2 => ?_) (by show (8 - (d + 1)) * 9 + 9 ≤ D' + 2; omega)
      have g2 := f1.trans f2 (Nat.le_refl _)
      rcases pEat_on hx with ⟨h26, hx⟩ | ⟨h26, rfl⟩
      · cases hx
        refine X_take ht hE r2 (by omega) a1 _ 26 50 (by decide) rfl (fun _ M3 f3 r3 => ?_) (fun z => absurd h26 z)
        exact hF _ ((g2.trans f3 (by omega)).trans r3.up.1 (by omega)) r3.up.2 ((k2.keep f3 (Nat.le_refl _)).keep r3.up.1 (Nat.le_refl _))
      · refine X_take ht hE r2 (by omega) a1 _ 26 50 (by decide) rfl (fun z => absurd z h26) (fun _ M3 f3 b3 => ?_)
        exact hF _ _ _ ((g2.trans f3 (by omega)).trans b3.up.1 (by omega)) b3.up.2 (by omega) (by omega)
  · rw [if_neg (by omega)] at hx
    cases hx
    refine W_sumC D' b1.ne _ ?_
    exact W_take b1.ne _ _ (hF _ 0 b (f1.trans b1.up.1 (Nat.le_refl _)) b1.up.2 (Nat.le_refl _) (by omega))
theorem mP_ofTwo (ht : pTk tk T) (hE : mErr tk (mKn w nt nk) p0 eR) (ih : mGoal G tk T w nt nk nb p0 eR n) {d p b D : Nat} {M : eM} {F : Int32 → eM → Prop} {x : Nat ⊕ (Nat × List pSt)} (hd : d ≤ 8) (h0 : p0 ≤ p) (hp : p ≤ T) (hb : b ≤ p) (hM : mRx tk T w nt nk nb eR M p b d) (hmm : tk p = 23 ∨ tk p = 24) (hx : pEat tk 25 (p + 1) (if d < 8 then pThen (pE tk n 3 (d + 1) (p + 2) b) (fun p1 c1 => pEat tk 30 p1 (pThen (pE tk n 3 (d + 1) (p1 + 1) (b + c1.length)) (fun p2 c2 => pEat tk 26 p2 (pOn (p2 + 1) (c1 ++ (c2 ++ [(tk p, 0, b + c1.length - 1, b + c1.length + c2.length - 1)])))))) else pBad (p + 1)) = some x) (hF : mRes tk T w nt nk nb eR F M b p d x) (hD : (8 - d) * 9 + 6 ≤ D) : Cal G 100 40 (D + 5, 0, 0) kX13_ofTwo [.ref (G.1 100), .int (nI (mk (tk p)))] M (eFI F) := by
  have h400 := ht.1
  obtain ⟨D', rfl⟩ : ∃ D', D = D' + 3 := ⟨D - 3, by omega⟩
  have hp1 := ht.lt hp (by omega) (by omega)
  obtain ⟨f0, r0⟩ := hM.step hE h0 (by omega)
  -- behind a wrong token: the rest of it
  have rest1 : ∀ (M2 : eM) (e n' : Nat) (r : Int32), mFr M M2 b → mBad M2 e n' (d + 1) → x = .inl e → b ≤ n' → n' ≤ b + (e - p) → e ≤ 400 → Cal G 100 40 (2, 0, 0) kX13_take [.ref (G.1 100), .int 54] M2 (eFV (fun (M4 : eM) => Cal G 100 40 (D' + 3 + 4, 0, 0) kX13_sum [.ref (G.1 100)] M4 (eFI (fun (r5 : Int32) (M5 : eM) => Cal G 100 40 (2, 0, 0) kX13_take [.ref (G.1 100), .int 50] M5 (eFV (fun (M6 : eM) => Cal G 100 40 (1, 0, 0) kX13_node [.ref (G.1 100), .int (nI (mk (tk p))), .int r, .int r5] (eU M6 100 12 ((M6 100 12) - 1)) (eFI (fun (r7 : Int32) (M7 : eM) => F r7 M7))))))))  := by
    intro M2 e n' r f2 b2 hxe l1 l2 l3
    subst hxe
    refine W_take b2.ne _ _ (W_sumC D' b2.ne _ (W_take b2.ne _ _ (N_bad b2.up.2 (by omega) _ _ _ _ (fun r7 M7 f7 b7 => ?_))))
    exact hF M7 r7 (n' + 1) ((f2.trans b2.up.1 l1).trans f7 l1) b7 (by omega) (by omega)
  have rest2 : ∀ (M5 : eM) (e n' : Nat) (r r5 : Int32), mFr M M5 b → mBad M5 e n' (d + 1) → x = .inl e → b ≤ n' → n' ≤ b + (e - p) → e ≤ 400 → Cal G 100 40 (2, 0, 0) kX13_take [.ref (G.1 100), .int 50] M5 (eFV (fun (M6 : eM) => Cal G 100 40 (1, 0, 0) kX13_node [.ref (G.1 100), .int (nI (mk (tk p))), .int r, .int r5] (eU M6 100 12 ((M6 100 12) - 1)) (eFI (fun (r7 : Int32) (M7 : eM) => F r7 M7)))) := by
    intro M5 e n' r r5 f2 b2 hxe l1 l2 l3
    subst hxe
    refine W_take b2.ne _ _ (N_bad b2.up.2 (by omega) _ _ _ _ (fun r7 M7 f7 b7 => ?_))
    exact hF M7 r7 (n' + 1) ((f2.trans b2.up.1 l1).trans f7 l1) b7 (by omega) (by omega)
  refine C_X13_ofTwo G (D' + 3) M F _ (S_is ht r0 hp1 _ 25 49 (by decide) rfl (fun h25 => ⟨fun _ => ?_, cTF⟩) (fun h25 => ⟨cFT, fun _ => ?_⟩))
  · rcases pEat_on hx with ⟨-, hx⟩ | ⟨z, -⟩
    · have hp2 := ht.lt (p := p + 1) hp1 (by omega) (by omega)
      refine X_deeper hE r0 (by omega) (by omega) hd _ (fun h8 M1 f1 r1 => ?_) (fun h8 M1 f1 b1 => ?_)
      · rw [if_pos h8] at hx
        have g1 := f0.trans f1 (Nat.le_refl _)
        rcases pThen_on hx with ⟨e, hr, hxe⟩ | ⟨p1, c1, hr, hx⟩
        · obtain ⟨q1, q2⟩ := pE_fine ht _ _ _ _ _ _ hp2 hr
          refine ih 3 (d + 1) (p + 1 + 1) b (D' + 2) M1 _ _ (by decide) (by omega) (by omega) hp2 (by omega) (fun z => by cases z) r1 hr (fun M2 r n' f2 b2 l1 l2 => ?_) (by show (8 - (d + 1)) * 9 + 9 ≤ D' + 2; omega)
          exact rest1 M2 e n' r (g1.trans f2 (Nat.le_refl _)) b2 hxe l1 (by omega) (by omega)
        · obtain ⟨a1, a2, a3⟩ := pE_fine ht _ _ _ _ _ _ hp2 hr
          refine ih 3 (d + 1) (p + 1 + 1) b (D' + 2) M1 _ _ (by decide) (by omega) (by omega) hp2 (by omega) (fun z => by cases z) r1 hr (fun M2 f2 r2 k2 => ?_) (by show (8 - (d + 1)) * 9 + 9 ≤ D' + 2; omega)
          have g2 := g1.trans f2 (Nat.le_refl _)
          rcases pEat_on hx with ⟨h30, hx⟩ | ⟨h30, hxe⟩
          · have hp3 := ht.lt a1 (by omega) (by omega)
            refine X_take ht hE r2 (by omega) a1 _ 30 54 (by decide) rfl (fun _ M3 f3 r3 => ?_) (fun z => absurd h30 z)
            have g3 := g2.trans f3 (by omega)
            rcases pThen_on hx with ⟨e, hr2, hxe⟩ | ⟨p2, c2, hr2, hx⟩
            · obtain ⟨q1, q2⟩ := pE_fine ht _ _ _ _ _ _ hp3 hr2
              refine ih 3 (d + 1) (p1 + 1) (b + c1.length) (D' + 2) M3 _ _ (by decide) (by omega) (by omega) hp3 (by omega) (fun z => by cases z) r3 hr2 (fun M4 r n' f4 b4 l1 l2 => ?_) (by show (8 - (d + 1)) * 9 + 9 ≤ D' + 2; omega)
              exact rest2 M4 e n' _ r (g3.trans f4 (by omega)) b4 hxe (by omega) (by omega) (by omega)
            · obtain ⟨b1, b2, b3⟩ := pE_fine ht _ _ _ _ _ _ hp3 hr2
              refine ih 3 (d + 1) (p1 + 1) (b + c1.length) (D' + 2) M3 _ _ (by decide) (by omega) (by omega) hp3 (by omega) (fun z => by cases z) r3 hr2 (fun M4 f4 r4 k4 => ?_) (by show (8 - (d + 1)) * 9 + 9 ≤ D' + 2; omega)
              have g4 := g3.trans f4 (by omega)
              rcases pEat_on hx with ⟨h26, hx⟩ | ⟨h26, hxe⟩
              · cases hx
                refine X_take ht hE r4 (by omega) b1 _ 26 50 (by decide) rfl (fun _ M5 f5 r5 => ?_) (fun z => absurd h26 z)
                refine N_ok r5.up.2 (by omega) _ _ _ _ (fun M6 f6 r6 w6 => ?_)
                have f56 := (f5.trans r5.up.1 (Nat.le_refl _)).trans f6 (Nat.le_refl _)
                have e6 : b + c1.length + c2.length + 1 = b + (c1 ++ (c2 ++ [(tk p, 0, b + c1.length - 1, b + c1.length + c2.length - 1)])).length := by rw [List.length_append, List.length_append, List.length_singleton]; omega
                have z6 := hF M6 (g4.trans f56 (by omega)) (r6.cast e6) ((((k2.keep f3 (Nat.le_refl _)).keep f4 (Nat.le_refl _)).keep f56 (by omega)).append (((k4.keep f5 (Nat.le_refl _)).keep r5.up.1 (Nat.le_refl _)).snoc f6 ?_))
                · rw [← e6] at z6
                  exact z6
                · exact ⟨w6.1, by rw [mLeft_op (show tk p ≠ 40 by omega) (show ¬ (tk p = 16 ∨ tk p = 18 ∨ tk p = 19) by omega)]; exact w6.2.1, w6.2.2⟩
              · refine X_take ht hE r4 (by omega) b1 _ 26 50 (by decide) rfl (fun z => absurd z h26) (fun _ M5 f5 b5 => ?_)
                subst hxe
                refine N_bad b5.up.2 (by omega) _ _ _ _ (fun r7 M7 f7 b7 => ?_)
                exact hF M7 r7 _ (((g4.trans f5 (by omega)).trans b5.up.1 (by omega)).trans f7 (by omega)) b7 (by omega) (by omega)
          · refine X_take ht hE r2 (by omega) a1 _ 30 54 (by decide) rfl (fun z => absurd z h30) (fun _ M3 f3 b3 => ?_)
            refine W_sumC D' b3.ne _ ?_
            exact rest2 M3 p1 _ _ 0 (g2.trans f3 (by omega)) b3 hxe (by omega) (by omega) (by omega)
      · rw [if_neg (by omega)] at hx
        have hxe : x = .inl (p + 1) := (Option.some.inj hx).symm
        refine W_sumC D' b1.ne _ ?_
        exact rest1 M1 (p + 1) b 0 (f0.trans f1 (Nat.le_refl _)) b1 hxe (Nat.le_refl _) (by omega) (by omega)
    · exact absurd h25 z
  · rcases pEat_on hx with ⟨z, -⟩ | ⟨-, rfl⟩
    · exact absurd z h25
    · refine S_wrong r0 _ (fun M1 f1 b1 => ?_)
      exact hF M1 0 b (f0.trans f1 (Nat.le_refl _)) b1 (Nat.le_refl _) (by omega)
theorem mP_value (ht : pTk tk T) (hE : mErr tk (mKn w nt nk) p0 eR) (ih : mGoal G tk T w nt nk nb p0 eR n) {d p b D : Nat} {M : eM} {F : Int32 → eM → Prop} {x : Nat ⊕ (Nat × List pSt)} (hd : d ≤ 8) (h0 : p0 ≤ p) (hp : p ≤ T) (hb : b ≤ p) (hM : mRx tk T w nt nk nb eR M p b d) (hx : pVal tk (pE tk n) d p b = some x) (hF : mRes tk T w nt nk nb eR F M b p d x) (hD : mNest 0 d ≤ D) : Cal G 100 40 (D + 5, 0, 0) kX13_value [.ref (G.1 100)] M (eFI F) := by
  have h400 := ht.1
  have hD1 : (8 - d) * 9 + 7 ≤ D := hD
  obtain ⟨D', rfl⟩ : ∃ D', D = D' + 1 := ⟨D - 1, by omega⟩
  unfold pVal at hx
  refine C_X13_value G (D' + 1) M F (S_is ht hM hp _ 40 31 (by decide) rfl (fun h40 => ⟨cTF, fun _ => ?_⟩) (fun h40 => ⟨fun _ => ?_, cFT⟩))
  · -- a number
    rw [if_pos (Or.inl h40)] at hx
    cases hx
    have hp1 := ht.lt hp (by omega) (by omega)
    obtain ⟨f0, r0⟩ := hM.step hE h0 (by omega)
    have e1 : (eU M 100 8 ((M 100 8) + 1)) 100 8 - 1 = nI p := by rw [r0.2.1]; exact nI_pred p
    rw [e1, nI_clamp (show p < 2 ^ 31 by omega), r0.1.2.2.2.2.2 p hp h40]
    refine ⟨vp_in_nI (by omega) (by decide), ?_⟩
    refine N_ok r0 (by omega) _ _ _ _ (fun M1 f1 r1 w1 => ?_)
    refine hF M1 (f0.trans f1 (Nat.le_refl _)) r1 (mCd.one ⟨?_, ?_, ?_⟩)
    · show M1 126 b = nI (mk (tk p))
      rw [w1.1, h40]
      rfl
    · rw [mLeft_num (show tk p = 40 from h40)]
      exact w1.2.1
    · exact w1.2.2
  · -- round to free: nine to fourteen
    have loop : ∀ i, i ≤ 15 → 9 ≤ i → (∀ k, 10 ≤ k → k ≤ i → tk p ≠ k) → Ev (eZ G 100 40 0 0 (eFI F)) G 100 40 (D' + 1 + 5, 0, 0) kX13_value 41 [(0, .ref (G.1 100)), (1, .int (nI i))] [] M 0 0 := by
      refine eDown (P := fun i => 9 ≤ i → (∀ k, 10 ≤ k → k ≤ i → tk p ≠ k) → Ev (eZ G 100 40 0 0 (eFI F)) G 100 40 (D' + 1 + 5, 0, 0) kX13_value 41 [(0, .ref (G.1 100)), (1, .int (nI i))] [] M 0 0) (N := 15) ?_ ?_
      · intro _ hno
        have n15 : ¬ (tk p = 40 ∨ (10 ≤ tk p ∧ tk p ≤ 15)) := fun z => by
          rcases z with z | z
          · exact h40 z
          · exact hno (tk p) z.1 z.2 rfl
        rw [if_neg n15] at hx
        refine B_X13_value_41 G (D' + 1) M F _ ⟨fun _ => ?_, fun q => absurd (nI_lt (a := 14) (b := 15) (by decide) (by decide)) q⟩
        refine X_takes ht hE hM h0 hp _ 16 15 (by decide) rfl (fun h16 M1 f1 r1 => ⟨cTF, fun _ => ?_⟩) (fun h16 => ⟨fun _ => ?_, cFT⟩)
        · -- ways of
          rw [if_pos h16] at hx
          have hp1 := ht.lt hp (by omega) (by omega)
          rcases pEat_on hx with ⟨h17, hx⟩ | ⟨h17, rfl⟩
          · have hp2 := ht.lt (p := p + 1) hp1 (by omega) (by omega)
            refine X_take ht hE r1 (by omega) hp1 _ 17 16 (by decide) rfl (fun _ M2 f2 r2 => ?_) (fun z => absurd h17 z)
            have g2 := f1.trans f2 (Nat.le_refl _)
            rcases pEat_on hx with ⟨h41, hx⟩ | ⟨h41, rfl⟩
            · cases hx
              have hp3 := ht.lt (p := p + 2) hp2 (by omega) (by omega)
              refine X_name ht hE r2 (by omega) hp2 _ (fun _ M3 f3 r3 => ?_) (fun z => absurd h41 z)
              refine N_ok r3 (by omega) _ _ _ _ (fun M4 f4 r4 w4 => ?_)
              refine hF M4 ((g2.trans f3 (Nat.le_refl _)).trans f4 (Nat.le_refl _)) r4 (mCd.one ⟨w4.1, ?_, w4.2.2⟩)
              rw [mLeft_nam (Or.inl rfl)]
              exact w4.2.1
            · refine X_name ht hE r2 (by omega) hp2 _ (fun z => absurd z h41) (fun _ M3 f3 b3 => ?_)
              refine N_bad b3 (by omega) _ _ _ _ (fun r4 M4 f4 b4 => ?_)
              exact hF M4 r4 (b + 1) ((g2.trans f3 (Nat.le_refl _)).trans f4 (Nat.le_refl _)) b4 (by omega) (by omega)
          · refine X_take ht hE r1 (by omega) hp1 _ 17 16 (by decide) rfl (fun z => absurd z h17) (fun _ M2 f2 b2 => ?_)
            refine W_name b2.ne _ (N_bad b2 (by omega) _ _ _ _ (fun r4 M4 f4 b4 => ?_))
            exact hF M4 r4 (b + 1) ((f1.trans f2 (Nat.le_refl _)).trans f4 (Nat.le_refl _)) b4 (by omega) (by omega)
        · rw [if_neg h16] at hx
          have two : (tk p = 23 ∨ tk p = 24) → Ev (eZ G 100 40 0 0 (eFI F)) G 100 40 (D' + 1 + 5, 0, 0) kX13_value 114 [(0, .ref (G.1 100))] [] M 0 0 := by
            intro hmm
            rw [if_neg (by omega), if_neg (by omega), if_pos hmm] at hx
            refine B_X13_value_114 G (D' + 1) M F ⟨hM.tok ht hp, ?_⟩
            rw [hM.kind ht hp]
            exact mP_ofTwo ht hE ih hd h0 hp hb hM hmm hx hF (by omega)
          refine S_is ht hM hp _ 23 22 (by decide) rfl (fun h23 => ⟨fun _ => two (Or.inl h23), cTF⟩) (fun h23 => ⟨cFT, fun _ => ?_⟩)
          refine S_is ht hM hp _ 24 23 (by decide) rfl (fun h24 => ⟨cTF, fun _ => two (Or.inr h24)⟩) (fun h24 => ⟨fun _ => ?_, cFT⟩)
          refine S_is ht hM hp _ 25 49 (by decide) rfl (fun h25 => ⟨cTF, fun _ => ?_⟩) (fun h25 => ⟨fun _ => ?_, cFT⟩)
          · rw [if_neg (by omega), if_pos h25] at hx
            exact mP_brackets ht hE ih hd h0 hp hb hM h25 hx hF (by omega)
          refine S_is ht hM hp _ 32 41 (by decide) rfl (fun h32 => ⟨fun _ => ?_, cTF⟩) (fun h32 => ⟨cFT, fun _ => ?_⟩)
          · -- minus
            rw [if_pos h32] at hx
            refine X_deeper hE hM h0 (by omega) hd _ (fun h8 M1 f1 r1 => ?_) (fun h8 M1 f1 b1 => ?_)
            · rw [if_pos h8] at hx
              have hp1 := ht.lt hp (by omega) (by omega)
              rcases pThen_on hx with ⟨e, hr, rfl⟩ | ⟨p1, c1, hr, hx⟩
              · obtain ⟨q1, q2⟩ := pE_fine ht _ _ _ _ _ _ hp1 hr
                refine ih 0 (d + 1) (p + 1) b D' M1 _ _ (by decide) (by omega) (by omega) hp1 (by omega) (fun z => by cases z) r1 hr (fun M2 r n' f2 b2 l1 l2 => ?_) (by show (8 - (d + 1)) * 9 + 7 ≤ D'; omega)
                refine N_bad b2.up.2 (by omega) _ _ _ _ (fun r3 M3 f3 b3 => ?_)
                exact hF M3 r3 (n' + 1) (((f1.trans f2 (Nat.le_refl _)).trans b2.up.1 l1).trans f3 l1) b3 (by omega) (by omega)
              · cases hx
                obtain ⟨a1, a2, a3⟩ := pE_fine ht _ _ _ _ _ _ hp1 hr
                refine ih 0 (d + 1) (p + 1) b D' M1 _ _ (by decide) (by omega) (by omega) hp1 (by omega) (fun z => by cases z) r1 hr (fun M2 f2 r2 k2 => ?_) (by show (8 - (d + 1)) * 9 + 7 ≤ D'; omega)
                refine N_ok r2.up.2 (by omega) _ _ _ _ (fun M3 f3 r3 w3 => ?_)
                have e3 : b + c1.length + 1 = b + (c1 ++ [((44, 0, b + c1.length - 1, 0) : pSt)]).length := by rw [List.length_append, List.length_singleton]; omega
                have z3 := hF M3 (((f1.trans f2 (Nat.le_refl _)).trans r2.up.1 (by omega)).trans f3 (by omega)) (r3.cast e3) ((k2.keep r2.up.1 (Nat.le_refl _)).snoc f3 ⟨w3.1, by rw [mLeft_op (show (44 : Nat) ≠ 40 by decide) (show ¬ ((44 : Nat) = 16 ∨ (44 : Nat) = 18 ∨ (44 : Nat) = 19) by decide)]; exact w3.2.1, w3.2.2⟩)
                rw [← e3] at z3
                exact z3
            · rw [if_neg (by omega)] at hx
              cases hx
              refine W_value D' b1.ne _ (N_bad b1.up.2 (by omega) _ _ _ _ (fun r3 M3 f3 b3 => ?_))
              exact hF M3 r3 (b + 1) ((f1.trans b1.up.1 (Nat.le_refl _)).trans f3 (Nat.le_refl _)) b3 (by omega) (by omega)
          · rw [if_neg h32, if_neg h25, if_neg (by omega)] at hx
            cases hx
            exact S_wrong hM _ (fun M1 f1 b1 => hF M1 0 b f1 b1 (Nat.le_refl _) (by omega))
      · intro i hi hn h9 hno
        refine B_X13_value_41 G (D' + 1) M F _ ⟨fun q => absurd q (nI_nlt (b := i) (a := 14) (by omega) (by decide)), fun _ => ?_⟩
        have hmk : mk (i + 1) = i := (by decide : ∀ i, i < 15 → 9 ≤ i → mk (i + 1) = i) i hi h9
        refine X_takes ht hE hM h0 hp _ (i + 1) i (by omega) hmk (fun hk M1 f1 r1 => ⟨cTF, fun _ => ?_⟩) (fun hk => ⟨fun _ => ?_, cFT⟩)
        · rw [if_pos (Or.inr ⟨by omega, by omega⟩)] at hx
          cases hx
          have hp1 := ht.lt hp (by omega) (by omega)
          refine N_ok r1 (by omega) _ _ _ _ (fun M2 f2 r2 w2 => ?_)
          refine hF M2 (f1.trans f2 (Nat.le_refl _)) r2 (mCd.one ⟨?_, ?_, ?_⟩)
          · show M2 126 b = nI (mk (tk p))
            rw [w2.1, hk, hmk]
          · rw [mLeft_op (show tk p ≠ 40 from h40) (show ¬ (tk p = 16 ∨ tk p = 18 ∨ tk p = 19) by omega)]
            exact w2.2.1
          · exact w2.2.2
        · rw [← nI_succ]
          refine hn (by omega) (fun k k1 k2 => ?_)
          by_cases hq : k = i + 1
          · rw [hq]; exact hk
          · exact hno k k1 (by omega)
    exact loop 9 (by decide) (Nat.le_refl _) (fun k k1 k2 => by omega)
theorem mP_product_loop (ht : pTk tk T) (hE : mErr tk (mKn w nt nk) p0 eR) (ih : mGoal G tk T w nt nk nb p0 eR n) {d p b D : Nat} {M : eM} {F : Int32 → eM → Prop} {x : Nat ⊕ (Nat × List pSt)} (hd : d ≤ 8) (h0 : p0 ≤ p) (hp : p ≤ T) (hb : b ≤ p) (hb1 : 1 ≤ b) (hM : mRx tk T w nt nk nb eR M p b d) (hx : pLoop tk (pE tk n) 0 2 pOpM d p b = some x) (hF : mRes tk T w nt nk nb eR F M b p d x) (hD : mNest 2 d ≤ D) : Ev (eZ G 100 40 0 0 (eFI F)) G 100 40 (D + 5, 0, 0) kX13_product 5 [(0, .ref (G.1 100)), (1, .int (nI (b - 1)))] [] M 0 0 := by
  have h400 := ht.1
  have hD1 : (8 - d) * 9 + 8 ≤ D := hD
  obtain ⟨D', rfl⟩ : ∃ D', D = D' + 1 := ⟨D - 1, by omega⟩
  unfold pLoop at hx
  have yes : (tk p = 33 ∨ tk p = 34) → Ev (eZ G 100 40 0 0 (eFI F)) G 100 40 (D' + 1 + 5, 0, 0) kX13_product 23 [(0, .ref (G.1 100)), (1, .int (nI (b - 1)))] [] M 0 0 := by
    intro hop
    have hop' : pOpM (tk p) = true := by rcases hop with z | z <;> (rw [z]; rfl)
    rw [hop', if_pos rfl] at hx
    have hp1 := ht.lt hp (by omega) (by omega)
    obtain ⟨f0, r0⟩ := hM.step hE h0 (by omega)
    refine B_X13_product_23 G (D' + 1) M F _ ⟨hM.tok ht hp, ?_⟩
    rw [hM.kind ht hp]
    rcases pThen_on hx with ⟨e, hr, rfl⟩ | ⟨p1, c1, hr, hx⟩
    · obtain ⟨q1, q2⟩ := pE_fine ht _ _ _ _ _ _ hp1 hr
      refine ih 0 d (p + 1) b D' _ _ _ (by decide) hd (by omega) hp1 (by omega) (fun z => by cases z) r0 hr (fun M2 r n' f2 b2 l1 l2 => ?_) (by show (8 - d) * 9 + 7 ≤ D'; omega)
      refine N_bad b2 (by omega) _ _ _ _ (fun r3 M3 f3 b3 => ?_)
      exact W_product (D' + 1) b3.ne _ _ (hF M3 r3 (n' + 1) ((f0.trans f2 (Nat.le_refl _)).trans f3 l1) b3 (by omega) (by omega))
    · obtain ⟨a1, a2, a3⟩ := pE_fine ht _ _ _ _ _ _ hp1 hr
      refine ih 0 d (p + 1) b D' _ _ _ (by decide) hd (by omega) hp1 (by omega) (fun z => by cases z) r0 hr (fun M2 f2 r2 k2 => ?_) (by show (8 - d) * 9 + 7 ≤ D'; omega)
      have g2 := f0.trans f2 (Nat.le_refl _)
      refine N_ok r2 (by omega) _ _ _ _ (fun M3 f3 r3 w3 => ?_)
      have g3 := g2.trans f3 (by omega)
      rcases pThen_on hx with ⟨e, hr2, rfl⟩ | ⟨p2, c2, hr2, hx⟩
      · obtain ⟨q1, q2⟩ := pE_fine ht _ _ _ _ _ _ a1 hr2
        exact ih 2 d p1 (b + c1.length + 1) (D' + 1) M3 F _ (by decide) hd (by omega) a1 (by omega) (fun _ => by omega) r3 hr2 (fun M4 r n' f4 b4 l1 l2 => hF M4 r n' (g3.trans f4 (by omega)) b4 (by omega) (by omega)) hD1
      · cases hx
        obtain ⟨b1, b2, -⟩ := pE_fine ht _ _ _ _ _ _ a1 hr2
        refine ih 2 d p1 (b + c1.length + 1) (D' + 1) M3 F _ (by decide) hd (by omega) a1 (by omega) (fun _ => by omega) r3 hr2 (fun M4 f4 r4 k4 => ?_) hD1
        have e4 : b + c1.length + 1 + c2.length = b + (c1 ++ (tk p, 0, b - 1, b + c1.length - 1) :: c2).length := by rw [List.length_append, List.length_cons]; omega
        have z4 := hF M4 (g3.trans f4 (by omega)) (r4.cast e4) (k2.bin f3 ⟨w3.1, by rw [mLeft_op (show tk p ≠ 40 by omega) (show ¬ (tk p = 16 ∨ tk p = 18 ∨ tk p = 19) by omega)]; exact w3.2.1, w3.2.2⟩ f4 k4)
        rw [← e4] at z4
        exact z4
  have no : ¬ (tk p = 33 ∨ tk p = 34) → F (nI (b - 1)) M := by
    intro hop
    have hop' : pOpM (tk p) = false := by
      unfold pOpM
      rw [Bool.or_eq_false_iff]
      exact ⟨beq_false_of_ne (fun z => hop (Or.inl z)), beq_false_of_ne (fun z => hop (Or.inr z))⟩
    rw [hop', if_neg (by decide)] at hx
    cases hx
    exact hF M (mFr.refl _ _) hM (mCd.nil _ _)
  refine B_X13_product_5 G (D' + 1) M F _ (S_is ht hM hp _ 33 42 (by decide) rfl (fun z => ⟨fun _ => yes (Or.inl z), cTF⟩) (fun z => ⟨cFT, fun _ => ?_⟩))
  exact S_is ht hM hp _ 34 43 (by decide) rfl (fun z2 => ⟨cTF, fun _ => yes (Or.inr z2)⟩) (fun z2 => ⟨fun _ => no (by omega), cFT⟩)
theorem mP_sum_loop (ht : pTk tk T) (hE : mErr tk (mKn w nt nk) p0 eR) (ih : mGoal G tk T w nt nk nb p0 eR n) {d p b D : Nat} {M : eM} {F : Int32 → eM → Prop} {x : Nat ⊕ (Nat × List pSt)} (hd : d ≤ 8) (h0 : p0 ≤ p) (hp : p ≤ T) (hb : b ≤ p) (hb1 : 1 ≤ b) (hM : mRx tk T w nt nk nb eR M p b d) (hx : pLoop tk (pE tk n) 1 4 pOpA d p b = some x) (hF : mRes tk T w nt nk nb eR F M b p d x) (hD : mNest 4 d ≤ D) : Ev (eZ G 100 40 0 0 (eFI F)) G 100 40 (D + 5, 0, 0) kX13_sum 5 [(0, .ref (G.1 100)), (1, .int (nI (b - 1)))] [] M 0 0 := by
  have h400 := ht.1
  have hD1 : (8 - d) * 9 + 9 ≤ D := hD
  obtain ⟨D', rfl⟩ : ∃ D', D = D' + 1 := ⟨D - 1, by omega⟩
  unfold pLoop at hx
  have yes : (tk p = 31 ∨ tk p = 32) → Ev (eZ G 100 40 0 0 (eFI F)) G 100 40 (D' + 1 + 5, 0, 0) kX13_sum 23 [(0, .ref (G.1 100)), (1, .int (nI (b - 1)))] [] M 0 0 := by
    intro hop
    have hop' : pOpA (tk p) = true := by rcases hop with z | z <;> (rw [z]; rfl)
    rw [hop', if_pos rfl] at hx
    have hp1 := ht.lt hp (by omega) (by omega)
    obtain ⟨f0, r0⟩ := hM.step hE h0 (by omega)
    refine B_X13_sum_23 G (D' + 1) M F _ ⟨hM.tok ht hp, ?_⟩
    rw [hM.kind ht hp]
    rcases pThen_on hx with ⟨e, hr, rfl⟩ | ⟨p1, c1, hr, hx⟩
    · obtain ⟨q1, q2⟩ := pE_fine ht _ _ _ _ _ _ hp1 hr
      refine ih 1 d (p + 1) b D' _ _ _ (by decide) hd (by omega) hp1 (by omega) (fun z => by cases z) r0 hr (fun M2 r n' f2 b2 l1 l2 => ?_) (by show (8 - d) * 9 + 8 ≤ D'; omega)
      refine N_bad b2 (by omega) _ _ _ _ (fun r3 M3 f3 b3 => ?_)
      exact W_sum (D' + 1) b3.ne _ _ (hF M3 r3 (n' + 1) ((f0.trans f2 (Nat.le_refl _)).trans f3 l1) b3 (by omega) (by omega))
    · obtain ⟨a1, a2, a3⟩ := pE_fine ht _ _ _ _ _ _ hp1 hr
      refine ih 1 d (p + 1) b D' _ _ _ (by decide) hd (by omega) hp1 (by omega) (fun z => by cases z) r0 hr (fun M2 f2 r2 k2 => ?_) (by show (8 - d) * 9 + 8 ≤ D'; omega)
      have g2 := f0.trans f2 (Nat.le_refl _)
      refine N_ok r2 (by omega) _ _ _ _ (fun M3 f3 r3 w3 => ?_)
      have g3 := g2.trans f3 (by omega)
      rcases pThen_on hx with ⟨e, hr2, rfl⟩ | ⟨p2, c2, hr2, hx⟩
      · obtain ⟨q1, q2⟩ := pE_fine ht _ _ _ _ _ _ a1 hr2
        exact ih 4 d p1 (b + c1.length + 1) (D' + 1) M3 F _ (by decide) hd (by omega) a1 (by omega) (fun _ => by omega) r3 hr2 (fun M4 r n' f4 b4 l1 l2 => hF M4 r n' (g3.trans f4 (by omega)) b4 (by omega) (by omega)) hD1
      · cases hx
        obtain ⟨b1, b2, -⟩ := pE_fine ht _ _ _ _ _ _ a1 hr2
        refine ih 4 d p1 (b + c1.length + 1) (D' + 1) M3 F _ (by decide) hd (by omega) a1 (by omega) (fun _ => by omega) r3 hr2 (fun M4 f4 r4 k4 => ?_) hD1
        have e4 : b + c1.length + 1 + c2.length = b + (c1 ++ (tk p, 0, b - 1, b + c1.length - 1) :: c2).length := by rw [List.length_append, List.length_cons]; omega
        have z4 := hF M4 (g3.trans f4 (by omega)) (r4.cast e4) (k2.bin f3 ⟨w3.1, by rw [mLeft_op (show tk p ≠ 40 by omega) (show ¬ (tk p = 16 ∨ tk p = 18 ∨ tk p = 19) by omega)]; exact w3.2.1, w3.2.2⟩ f4 k4)
        rw [← e4] at z4
        exact z4
  have no : ¬ (tk p = 31 ∨ tk p = 32) → F (nI (b - 1)) M := by
    intro hop
    have hop' : pOpA (tk p) = false := by
      unfold pOpA
      rw [Bool.or_eq_false_iff]
      exact ⟨beq_false_of_ne (fun z => hop (Or.inl z)), beq_false_of_ne (fun z => hop (Or.inr z))⟩
    rw [hop', if_neg (by decide)] at hx
    cases hx
    exact hF M (mFr.refl _ _) hM (mCd.nil _ _)
  refine B_X13_sum_5 G (D' + 1) M F _ (S_is ht hM hp _ 31 40 (by decide) rfl (fun z => ⟨fun _ => yes (Or.inl z), cTF⟩) (fun z => ⟨cFT, fun _ => ?_⟩))
  exact S_is ht hM hp _ 32 41 (by decide) rfl (fun z2 => ⟨cTF, fun _ => yes (Or.inr z2)⟩) (fun z2 => ⟨fun _ => no (by omega), cFT⟩)
theorem mP_product (ht : pTk tk T) (hE : mErr tk (mKn w nt nk) p0 eR) (ih : mGoal G tk T w nt nk nb p0 eR n) {d p b D : Nat} {M : eM} {F : Int32 → eM → Prop} {x : Nat ⊕ (Nat × List pSt)} (hd : d ≤ 8) (h0 : p0 ≤ p) (hp : p ≤ T) (hb : b ≤ p) (hM : mRx tk T w nt nk nb eR M p b d) (hx : pHead (pE tk n) 0 2 d p b = some x) (hF : mRes tk T w nt nk nb eR F M b p d x) (hD : mNest 1 d ≤ D) : Cal G 100 40 (D + 5, 0, 0) kX13_product [.ref (G.1 100)] M (eFI F) := by
  have h400 := ht.1
  have hD1 : (8 - d) * 9 + 8 ≤ D := hD
  obtain ⟨D', rfl⟩ : ∃ D', D = D' + 1 := ⟨D - 1, by omega⟩
  unfold pHead at hx
  refine C_X13_product G (D' + 1) M F ?_
  rcases pThen_on hx with ⟨e, hr, rfl⟩ | ⟨p1, c1, hr, hx⟩
  · refine ih 0 d p b D' _ _ _ (by decide) hd h0 hp hb (fun z => by cases z) hM hr (fun M2 r n' f2 b2 l1 l2 => ?_) (by show (8 - d) * 9 + 7 ≤ D'; omega)
    exact W_product (D' + 1) b2.ne _ _ (hF M2 r n' f2 b2 l1 l2)
  · obtain ⟨a1, a2, a3⟩ := pE_fine ht _ _ _ _ _ _ hp hr
    have hc1 : 1 ≤ c1.length := a3 rfl
    refine ih 0 d p b D' _ _ _ (by decide) hd h0 hp hb (fun z => by cases z) hM hr (fun M2 f2 r2 k2 => ?_) (by show (8 - d) * 9 + 7 ≤ D'; omega)
    rcases pThen_on hx with ⟨e, hr2, rfl⟩ | ⟨p2, c2, hr2, hx⟩
    · obtain ⟨q1, q2⟩ := pE_fine ht _ _ _ _ _ _ a1 hr2
      exact ih 2 d p1 (b + c1.length) (D' + 1) M2 F _ (by decide) hd (by omega) a1 (by omega) (fun _ => by omega) r2 hr2 (fun M4 r n' f4 b4 l1 l2 => hF M4 r n' (f2.trans f4 (by omega)) b4 (by omega) (by omega)) hD1
    · cases hx
      refine ih 2 d p1 (b + c1.length) (D' + 1) M2 F _ (by decide) hd (by omega) a1 (by omega) (fun _ => by omega) r2 hr2 (fun M4 f4 r4 k4 => ?_) hD1
      have e4 : b + c1.length + c2.length = b + (c1 ++ c2).length := by rw [List.length_append]; omega
      have z4 := hF M4 (f2.trans f4 (by omega)) (r4.cast e4) ((k2.keep f4 (Nat.le_refl _)).append k4)
      rw [← e4] at z4
      exact z4
theorem mP_sum (ht : pTk tk T) (hE : mErr tk (mKn w nt nk) p0 eR) (ih : mGoal G tk T w nt nk nb p0 eR n) {d p b D : Nat} {M : eM} {F : Int32 → eM → Prop} {x : Nat ⊕ (Nat × List pSt)} (hd : d ≤ 8) (h0 : p0 ≤ p) (hp : p ≤ T) (hb : b ≤ p) (hM : mRx tk T w nt nk nb eR M p b d) (hx : pHead (pE tk n) 1 4 d p b = some x) (hF : mRes tk T w nt nk nb eR F M b p d x) (hD : mNest 3 d ≤ D) : Cal G 100 40 (D + 5, 0, 0) kX13_sum [.ref (G.1 100)] M (eFI F) := by
  have h400 := ht.1
  have hD1 : (8 - d) * 9 + 9 ≤ D := hD
  obtain ⟨D', rfl⟩ : ∃ D', D = D' + 1 := ⟨D - 1, by omega⟩
  unfold pHead at hx
  refine C_X13_sum G (D' + 1) M F ?_
  rcases pThen_on hx with ⟨e, hr, rfl⟩ | ⟨p1, c1, hr, hx⟩
  · refine ih 1 d p b D' _ _ _ (by decide) hd h0 hp hb (fun z => by cases z) hM hr (fun M2 r n' f2 b2 l1 l2 => ?_) (by show (8 - d) * 9 + 8 ≤ D'; omega)
    exact W_sum (D' + 1) b2.ne _ _ (hF M2 r n' f2 b2 l1 l2)
  · obtain ⟨a1, a2, a3⟩ := pE_fine ht _ _ _ _ _ _ hp hr
    have hc1 : 1 ≤ c1.length := a3 rfl
    refine ih 1 d p b D' _ _ _ (by decide) hd h0 hp hb (fun z => by cases z) hM hr (fun M2 f2 r2 k2 => ?_) (by show (8 - d) * 9 + 8 ≤ D'; omega)
    rcases pThen_on hx with ⟨e, hr2, rfl⟩ | ⟨p2, c2, hr2, hx⟩
    · obtain ⟨q1, q2⟩ := pE_fine ht _ _ _ _ _ _ a1 hr2
      exact ih 4 d p1 (b + c1.length) (D' + 1) M2 F _ (by decide) hd (by omega) a1 (by omega) (fun _ => by omega) r2 hr2 (fun M4 r n' f4 b4 l1 l2 => hF M4 r n' (f2.trans f4 (by omega)) b4 (by omega) (by omega)) hD1
    · cases hx
      refine ih 4 d p1 (b + c1.length) (D' + 1) M2 F _ (by decide) hd (by omega) a1 (by omega) (fun _ => by omega) r2 hr2 (fun M4 f4 r4 k4 => ?_) hD1
      have e4 : b + c1.length + c2.length = b + (c1 ++ c2).length := by rw [List.length_append]; omega
      have z4 := hF M4 (f2.trans f4 (by omega)) (r4.cast e4) ((k2.keep f4 (Nat.le_refl _)).append k4)
      rw [← e4] at z4
      exact z4
theorem mP_comparison (ht : pTk tk T) (hE : mErr tk (mKn w nt nk) p0 eR) (ih : mGoal G tk T w nt nk nb p0 eR n) {d p b D : Nat} {M : eM} {F : Int32 → eM → Prop} {x : Nat ⊕ (Nat × List pSt)} (hd : d ≤ 8) (h0 : p0 ≤ p) (hp : p ≤ T) (hb : b ≤ p) (hM : mRx tk T w nt nk nb eR M p b d) (hx : pThen (pE tk n 3 d p b) (fun p1 c1 => if 35 ≤ tk p1 ∧ tk p1 ≤ 39 then pThen (pE tk n 3 d (p1 + 1) (b + c1.length)) (fun p2 c2 => pOn p2 (c1 ++ (c2 ++ [(tk p1, 0, b + c1.length - 1, b + c1.length + c2.length - 1)]))) else pBad p1) = some x) (hF : mRes tk T w nt nk nb eR F M b p d x) (hD : (8 - d) * 9 + 10 ≤ D) : Cal G 100 40 (D + 5, 0, 0) kX13_comparison [.ref (G.1 100)] M (eFI F) := by
  have h400 := ht.1
  obtain ⟨D', rfl⟩ : ∃ D', D = D' + 1 := ⟨D - 1, by omega⟩
  refine C_X13_comparison G (D' + 1) M F ?_
  rcases pThen_on hx with ⟨e, hr, rfl⟩ | ⟨p1, c1, hr, hx⟩
  · obtain ⟨q1, q2⟩ := pE_fine ht _ _ _ _ _ _ hp hr
    refine ih 3 d p b D' _ _ _ (by decide) hd h0 hp hb (fun z => by cases z) hM hr (fun M2 r n' f2 b2 l1 l2 => ?_) (by show (8 - d) * 9 + 9 ≤ D'; omega)
    exact ⟨b2.tok (by omega), fun _ => W_wrong b2.ne _ (hF M2 0 n' f2 b2 l1 l2), fun q => absurd q b2.ne⟩
  · obtain ⟨a1, a2, a3⟩ := pE_fine ht _ _ _ _ _ _ hp hr
    refine ih 3 d p b D' _ _ _ (by decide) hd h0 hp hb (fun z => by cases z) hM hr (fun M2 f2 r2 k2 => ?_) (by show (8 - d) * 9 + 9 ≤ D'; omega)
    refine ⟨r2.tok ht a1, fun q => absurd r2.2.2.1 q, fun _ => ?_⟩
    rw [r2.kind ht a1]
    have hk1 := ht.2.1 p1 a1
    have hop : (44 ≤ nI (mk (tk p1)) ∧ nI (mk (tk p1)) ≤ 48) ↔ (35 ≤ tk p1 ∧ tk p1 ≤ 39) := by
      have hall : ∀ k, k < 44 → ((44 ≤ mk k ∧ mk k ≤ 48) ↔ (35 ≤ k ∧ k ≤ 39)) := by decide
      have hlt := mk_lt (tk p1) (by omega)
      rw [← hall (tk p1) (by omega)]
      exact ⟨fun z => ⟨(nI_leI (a := 44) (by decide) (by omega)).mp z.1, (nI_leI (b := 48) (by omega) (by decide)).mp z.2⟩, fun z => ⟨(nI_leI (a := 44) (by decide) (by omega)).mpr z.1, (nI_leI (b := 48) (by omega) (by decide)).mpr z.2⟩⟩
    refine S_isIn G M2 _ _ _ _ ⟨fun q => ?_, fun q => ?_⟩
    · have hop1 := hop.mp (of_decide_eq_true q)
      rw [if_pos hop1] at hx
      have hp1 := ht.lt a1 (by omega) (by omega)
      obtain ⟨f3, r3⟩ := r2.step hE (by omega) (by omega)
      have g3 := f2.trans f3 (by omega)
      rcases pThen_on hx with ⟨e, hr2, rfl⟩ | ⟨p2, c2, hr2, hx⟩
      · obtain ⟨q1, q2⟩ := pE_fine ht _ _ _ _ _ _ hp1 hr2
        refine ih 3 d (p1 + 1) (b + c1.length) D' _ _ _ (by decide) hd (by omega) hp1 (by omega) (fun z => by cases z) r3 hr2 (fun M4 r n' f4 b4 l1 l2 => ?_) (by show (8 - d) * 9 + 9 ≤ D'; omega)
        refine N_bad b4 (by omega) _ _ _ _ (fun r5 M5 f5 b5 => ?_)
        exact hF M5 r5 (n' + 1) ((g3.trans f4 (by omega)).trans f5 (by omega)) b5 (by omega) (by omega)
      · cases hx
        obtain ⟨b1, b2, b3⟩ := pE_fine ht _ _ _ _ _ _ hp1 hr2
        refine ih 3 d (p1 + 1) (b + c1.length) D' _ _ _ (by decide) hd (by omega) hp1 (by omega) (fun z => by cases z) r3 hr2 (fun M4 f4 r4 k4 => ?_) (by show (8 - d) * 9 + 9 ≤ D'; omega)
        refine N_ok r4 (by omega) _ _ _ _ (fun M5 f5 r5 w5 => ?_)
        have e5 : b + c1.length + c2.length + 1 = b + (c1 ++ (c2 ++ [(tk p1, 0, b + c1.length - 1, b + c1.length + c2.length - 1)])).length := by rw [List.length_append, List.length_append, List.length_singleton]; omega
        have z5 := hF M5 ((g3.trans f4 (by omega)).trans f5 (by omega)) (r5.cast e5) ((((k2.keep f3 (Nat.le_refl _)).keep f4 (Nat.le_refl _)).keep f5 (by omega)).append (k4.snoc f5 ⟨w5.1, by rw [mLeft_op (show tk p1 ≠ 40 by omega) (show ¬ (tk p1 = 16 ∨ tk p1 = 18 ∨ tk p1 = 19) by omega)]; exact w5.2.1, w5.2.2⟩))
        rw [← e5] at z5
        exact z5
    · have hop1 : ¬ (35 ≤ tk p1 ∧ tk p1 ≤ 39) := fun z => of_decide_eq_false q (hop.mpr z)
      rw [if_neg hop1] at hx
      cases hx
      refine S_wrong r2 _ (fun M3 f3 b3 => ?_)
      exact hF M3 0 _ (f2.trans f3 (by omega)) b3 (by omega) (by omega)
theorem mP_single (ht : pTk tk T) (hE : mErr tk (mKn w nt nk) p0 eR) (ih : mGoal G tk T w nt nk nb p0 eR n) {d p b D : Nat} {M : eM} {F : Int32 → eM → Prop} {x : Nat ⊕ (Nat × List pSt)} (hd : d ≤ 8) (h0 : p0 ≤ p) (hp : p ≤ T) (hb : b ≤ p) (hM : mRx tk T w nt nk nb eR M p b d) (hx : pSin tk (pE tk n) d p b = some x) (hF : mRes tk T w nt nk nb eR F M b p d x) (hD : mNest 5 d ≤ D) : Cal G 100 40 (D + 5, 0, 0) kX13_single [.ref (G.1 100)] M (eFI F) := by
  have h400 := ht.1
  have hD1 : (8 - d) * 9 + 11 ≤ D := hD
  obtain ⟨D', rfl⟩ : ∃ D', D = D' + 7 := ⟨D - 7, by omega⟩
  unfold pSin at hx
  refine C_X13_single G (D' + 7) M F (S_is ht hM hp _ 20 19 (by decide) rfl (fun h20 => ⟨cTF, fun _ => ?_⟩) (fun h20 => ⟨fun _ => ?_, cFT⟩))
  · -- not
    rw [if_pos h20] at hx
    refine X_deeper hE hM h0 (by omega) hd _ (fun h8 M1 f1 r1 => ?_) (fun h8 M1 f1 b1 => ?_)
    · rw [if_pos h8] at hx
      have hp1 := ht.lt hp (by omega) (by omega)
      rcases pThen_on hx with ⟨e, hr, rfl⟩ | ⟨p1, c1, hr, hx⟩
      · obtain ⟨q1, q2⟩ := pE_fine ht _ _ _ _ _ _ hp1 hr
        refine ih 5 (d + 1) (p + 1) b (D' + 6) M1 _ _ (by decide) (by omega) (by omega) hp1 (by omega) (fun z => by cases z) r1 hr (fun M2 r n' f2 b2 l1 l2 => ?_) (by show (8 - (d + 1)) * 9 + 11 ≤ D' + 6; omega)
        refine N_bad b2.up.2 (by omega) _ _ _ _ (fun r3 M3 f3 b3 => ?_)
        exact hF M3 r3 (n' + 1) (((f1.trans f2 (Nat.le_refl _)).trans b2.up.1 l1).trans f3 l1) b3 (by omega) (by omega)
      · cases hx
        obtain ⟨a1, a2, a3⟩ := pE_fine ht _ _ _ _ _ _ hp1 hr
        refine ih 5 (d + 1) (p + 1) b (D' + 6) M1 _ _ (by decide) (by omega) (by omega) hp1 (by omega) (fun z => by cases z) r1 hr (fun M2 f2 r2 k2 => ?_) (by show (8 - (d + 1)) * 9 + 11 ≤ D' + 6; omega)
        refine N_ok r2.up.2 (by omega) _ _ _ _ (fun M3 f3 r3 w3 => ?_)
        have e3 : b + c1.length + 1 = b + (c1 ++ [((20, 0, b + c1.length - 1, 0) : pSt)]).length := by rw [List.length_append, List.length_singleton]; omega
        have z3 := hF M3 (((f1.trans f2 (Nat.le_refl _)).trans r2.up.1 (by omega)).trans f3 (by omega)) (r3.cast e3) ((k2.keep r2.up.1 (Nat.le_refl _)).snoc f3 ⟨w3.1, by rw [mLeft_op (show (20 : Nat) ≠ 40 by decide) (show ¬ ((20 : Nat) = 16 ∨ (20 : Nat) = 18 ∨ (20 : Nat) = 19) by decide)]; exact w3.2.1, w3.2.2⟩)
        rw [← e3] at z3
        exact z3
    · rw [if_neg (by omega)] at hx
      cases hx
      refine W_single (D' + 2) b1.ne (b1.tok (by omega)) _ (N_bad b1.up.2 (by omega) _ _ _ _ (fun r3 M3 f3 b3 => ?_))
      exact hF M3 r3 (b + 1) ((f1.trans b1.up.1 (Nat.le_refl _)).trans f3 (Nat.le_refl _)) b3 (by omega) (by omega)
  rw [if_neg h20] at hx
  refine S_is ht hM hp _ 27 51 (by decide) rfl (fun h27 => ⟨cTF, fun _ => ?_⟩) (fun h27 => ⟨fun _ => ?_, cFT⟩)
  · -- a test in brackets
    rw [if_pos h27] at hx
    refine X_deeper hE hM h0 (by omega) hd _ (fun h8 M1 f1 r1 => ?_) (fun h8 M1 f1 b1 => ?_)
    · rw [if_pos h8] at hx
      have hp1 := ht.lt hp (by omega) (by omega)
      rcases pThen_on hx with ⟨e, hr, rfl⟩ | ⟨p1, c1, hr, hx⟩
      · obtain ⟨q1, q2⟩ := pE_fine ht _ _ _ _ _ _ hp1 hr
        refine ih 8 (d + 1) (p + 1) b (D' + 6) M1 _ _ (by decide) (by omega) (by omega) hp1 (by omega) (fun z => by cases z) r1 hr (fun M2 r n' f2 b2 l1 l2 => ?_) (by show (8 - (d + 1)) * 9 + 13 ≤ D' + 6; omega)
        refine W_take b2.ne _ _ ?_
        exact hF _ r n' ((f1.trans f2 (Nat.le_refl _)).trans b2.up.1 l1) b2.up.2 l1 (by omega)
      · obtain ⟨a1, a2, -⟩ := pE_fine ht _ _ _ _ _ _ hp1 hr
        refine ih 8 (d + 1) (p + 1) b (D' + 6) M1 _ _ (by decide) (by omega) (by omega) hp1 (by omega) (fun z => by cases z) r1 hr (fun M2 f2 r2 k2 => ?_) (by show (8 - (d + 1)) * 9 + 13 ≤ D' + 6; omega)
        have g2 := f1.trans f2 (Nat.le_refl _)
        rcases pEat_on hx with ⟨h28, hx⟩ | ⟨h28, rfl⟩
        · cases hx
          refine X_take ht hE r2 (by omega) a1 _ 28 52 (by decide) rfl (fun _ M3 f3 r3 => ?_) (fun z => absurd h28 z)
          exact hF _ ((g2.trans f3 (by omega)).trans r3.up.1 (by omega)) r3.up.2 ((k2.keep f3 (Nat.le_refl _)).keep r3.up.1 (Nat.le_refl _))
        · refine X_take ht hE r2 (by omega) a1 _ 28 52 (by decide) rfl (fun z => absurd z h28) (fun _ M3 f3 b3 => ?_)
          exact hF _ _ _ ((g2.trans f3 (by omega)).trans b3.up.1 (by omega)) b3.up.2 (by omega) (by omega)
    · rw [if_neg (by omega)] at hx
      cases hx
      refine W_testC D' b1.ne (b1.tok (by omega)) _ ?_
      exact W_take b1.ne _ _ (hF _ 0 b (f1.trans b1.up.1 (Nat.le_refl _)) b1.up.2 (Nat.le_refl _) (by omega))
  rw [if_neg h27] at hx
  have named : ∀ k, (k = 18 ∨ k = 19) → tk p = k → ∀ M1, mFr M M1 b → mRx tk T w nt nk nb eR M1 (p + 1) b d → Cal G 100 40 (3, 0, 0) kX13_name [.ref (G.1 100)] M1 (eFI (fun (r8 : Int32) (M8 : eM) => Cal G 100 40 (1, 0, 0) kX13_node [.ref (G.1 100), .int (nI (k - 1)), .int r8, .int 0] M8 (eFI (fun (r9 : Int32) (M9 : eM) => F r9 M9)))) := by
    intro k hk hpk M1 f1 r1
    rw [if_pos (by omega)] at hx
    have hp1 := ht.lt hp (by omega) (by omega)
    rcases pEat_on hx with ⟨h41, hx⟩ | ⟨h41, rfl⟩
    · cases hx
      have hp2 := ht.lt (p := p + 1) hp1 (by omega) (by omega)
      refine X_name ht hE r1 (by omega) hp1 _ (fun _ M3 f3 r3 => ?_) (fun z => absurd h41 z)
      refine N_ok r3 (by omega) _ _ _ _ (fun M4 f4 r4 w4 => ?_)
      refine hF M4 ((f1.trans f3 (Nat.le_refl _)).trans f4 (Nat.le_refl _)) r4 (mCd.one ⟨?_, ?_, w4.2.2⟩)
      · show M4 126 b = nI (mk (tk p))
        rw [w4.1, hpk]
        rcases hk with rfl | rfl <;> rfl
      · rw [mLeft_nam (show tk p = 16 ∨ tk p = 18 ∨ tk p = 19 by omega)]
        exact w4.2.1
    · refine X_name ht hE r1 (by omega) hp1 _ (fun z => absurd z h41) (fun _ M3 f3 b3 => ?_)
      refine N_bad b3 (by omega) _ _ _ _ (fun r4 M4 f4 b4 => ?_)
      exact hF M4 r4 (b + 1) ((f1.trans f3 (Nat.le_refl _)).trans f4 (Nat.le_refl _)) b4 (by omega) (by omega)
  refine X_takes ht hE hM h0 hp _ 18 17 (by decide) rfl (fun h18 M1 f1 r1 => ⟨cTF, fun _ => named 18 (Or.inl rfl) h18 M1 f1 r1⟩) (fun h18 => ⟨fun _ => ?_, cFT⟩)
  refine X_takes ht hE hM h0 hp _ 19 18 (by decide) rfl (fun h19 M1 f1 r1 => ⟨cTF, fun _ => named 19 (Or.inr rfl) h19 M1 f1 r1⟩) (fun h19 => ⟨fun _ => ?_, cFT⟩)
  rw [if_neg (by omega)] at hx
  exact mP_comparison ht hE ih hd h0 hp hb hM hx hF (by show (8 - d) * 9 + 10 ≤ D' + 6; omega)
theorem mP_both_loop (ht : pTk tk T) (hE : mErr tk (mKn w nt nk) p0 eR) (ih : mGoal G tk T w nt nk nb p0 eR n) {d p b D : Nat} {M : eM} {F : Int32 → eM → Prop} {x : Nat ⊕ (Nat × List pSt)} (hd : d ≤ 8) (h0 : p0 ≤ p) (hp : p ≤ T) (hb : b ≤ p) (hb1 : 1 ≤ b) (hM : mRx tk T w nt nk nb eR M p b d) (hx : pLoop tk (pE tk n) 5 7 pOpN d p b = some x) (hF : mRes tk T w nt nk nb eR F M b p d x) (hD : mNest 7 d ≤ D) : Ev (eZ G 100 40 0 0 (eFI F)) G 100 40 (D + 5, 0, 0) kX13_both 5 [(0, .ref (G.1 100)), (1, .int (nI (b - 1)))] [] M 0 0 := by
  have h400 := ht.1
  have hD1 : (8 - d) * 9 + 12 ≤ D := hD
  obtain ⟨D', rfl⟩ : ∃ D', D = D' + 1 := ⟨D - 1, by omega⟩
  unfold pLoop at hx
  refine B_X13_both_5 G (D' + 1) M F _ (X_takes ht hE hM h0 hp _ 21 20 (by decide) rfl (fun hop M1 f1 r1 => ⟨cTF, fun _ => ?_⟩) (fun hop => ⟨fun _ => ?_, cFT⟩))
  · have hop' : pOpN (tk p) = true := by rw [hop]; rfl
    rw [hop', if_pos rfl] at hx
    have hp1 := ht.lt hp (by omega) (by omega)
    rcases pThen_on hx with ⟨e, hr, rfl⟩ | ⟨p1, c1, hr, hx⟩
    · obtain ⟨q1, q2⟩ := pE_fine ht _ _ _ _ _ _ hp1 hr
      refine ih 5 d (p + 1) b D' _ _ _ (by decide) hd (by omega) hp1 (by omega) (fun z => by cases z) r1 hr (fun M2 r n' f2 b2 l1 l2 => ?_) (by show (8 - d) * 9 + 11 ≤ D'; omega)
      refine N_bad b2 (by omega) _ _ _ _ (fun r3 M3 f3 b3 => ?_)
      exact W_both (D' + 1) b3.ne _ _ (hF M3 r3 (n' + 1) ((f1.trans f2 (Nat.le_refl _)).trans f3 l1) b3 (by omega) (by omega))
    · obtain ⟨a1, a2, a3⟩ := pE_fine ht _ _ _ _ _ _ hp1 hr
      refine ih 5 d (p + 1) b D' _ _ _ (by decide) hd (by omega) hp1 (by omega) (fun z => by cases z) r1 hr (fun M2 f2 r2 k2 => ?_) (by show (8 - d) * 9 + 11 ≤ D'; omega)
      have g2 := f1.trans f2 (Nat.le_refl _)
      refine N_ok r2 (by omega) _ _ _ _ (fun M3 f3 r3 w3 => ?_)
      have g3 := g2.trans f3 (by omega)
      rcases pThen_on hx with ⟨e, hr2, rfl⟩ | ⟨p2, c2, hr2, hx⟩
      · obtain ⟨q1, q2⟩ := pE_fine ht _ _ _ _ _ _ a1 hr2
        exact ih 7 d p1 (b + c1.length + 1) (D' + 1) M3 F _ (by decide) hd (by omega) a1 (by omega) (fun _ => by omega) r3 hr2 (fun M4 r n' f4 b4 l1 l2 => hF M4 r n' (g3.trans f4 (by omega)) b4 (by omega) (by omega)) hD1
      · cases hx
        obtain ⟨b1, b2, -⟩ := pE_fine ht _ _ _ _ _ _ a1 hr2
        refine ih 7 d p1 (b + c1.length + 1) (D' + 1) M3 F _ (by decide) hd (by omega) a1 (by omega) (fun _ => by omega) r3 hr2 (fun M4 f4 r4 k4 => ?_) hD1
        have e4 : b + c1.length + 1 + c2.length = b + (c1 ++ (tk p, 0, b - 1, b + c1.length - 1) :: c2).length := by rw [List.length_append, List.length_cons]; omega
        have z4 := hF M4 (g3.trans f4 (by omega)) (r4.cast e4) (k2.bin f3 ⟨by show M3 126 _ = nI (mk (tk p)); rw [w3.1, hop]; rfl, by rw [mLeft_op (show tk p ≠ 40 by omega) (show ¬ (tk p = 16 ∨ tk p = 18 ∨ tk p = 19) by omega)]; exact w3.2.1, w3.2.2⟩ f4 k4)
        rw [← e4] at z4
        exact z4
  · have hop' : pOpN (tk p) = false := beq_false_of_ne hop
    rw [hop', if_neg (by decide)] at hx
    cases hx
    exact hF M (mFr.refl _ _) hM (mCd.nil _ _)
theorem mP_test_loop (ht : pTk tk T) (hE : mErr tk (mKn w nt nk) p0 eR) (ih : mGoal G tk T w nt nk nb p0 eR n) {d p b D : Nat} {M : eM} {F : Int32 → eM → Prop} {x : Nat ⊕ (Nat × List pSt)} (hd : d ≤ 8) (h0 : p0 ≤ p) (hp : p ≤ T) (hb : b ≤ p) (hb1 : 1 ≤ b) (hM : mRx tk T w nt nk nb eR M p b d) (hx : pLoop tk (pE tk n) 6 9 pOpO d p b = some x) (hF : mRes tk T w nt nk nb eR F M b p d x) (hD : mNest 9 d ≤ D) : Ev (eZ G 100 40 0 0 (eFI F)) G 100 40 (D + 5, 0, 0) kX13_test 5 [(0, .ref (G.1 100)), (1, .int (nI (b - 1)))] [] M 0 0 := by
  have h400 := ht.1
  have hD1 : (8 - d) * 9 + 13 ≤ D := hD
  obtain ⟨D', rfl⟩ : ∃ D', D = D' + 1 := ⟨D - 1, by omega⟩
  unfold pLoop at hx
  refine B_X13_test_5 G (D' + 1) M F _ (X_takes ht hE hM h0 hp _ 22 21 (by decide) rfl (fun hop M1 f1 r1 => ⟨cTF, fun _ => ?_⟩) (fun hop => ⟨fun _ => ?_, cFT⟩))
  · have hop' : pOpO (tk p) = true := by rw [hop]; rfl
    rw [hop', if_pos rfl] at hx
    have hp1 := ht.lt hp (by omega) (by omega)
    rcases pThen_on hx with ⟨e, hr, rfl⟩ | ⟨p1, c1, hr, hx⟩
    · obtain ⟨q1, q2⟩ := pE_fine ht _ _ _ _ _ _ hp1 hr
      refine ih 6 d (p + 1) b D' _ _ _ (by decide) hd (by omega) hp1 (by omega) (fun z => by cases z) r1 hr (fun M2 r n' f2 b2 l1 l2 => ?_) (by show (8 - d) * 9 + 12 ≤ D'; omega)
      refine N_bad b2 (by omega) _ _ _ _ (fun r3 M3 f3 b3 => ?_)
      exact W_test (D' + 1) b3.ne _ _ (hF M3 r3 (n' + 1) ((f1.trans f2 (Nat.le_refl _)).trans f3 l1) b3 (by omega) (by omega))
    · obtain ⟨a1, a2, a3⟩ := pE_fine ht _ _ _ _ _ _ hp1 hr
      refine ih 6 d (p + 1) b D' _ _ _ (by decide) hd (by omega) hp1 (by omega) (fun z => by cases z) r1 hr (fun M2 f2 r2 k2 => ?_) (by show (8 - d) * 9 + 12 ≤ D'; omega)
      have g2 := f1.trans f2 (Nat.le_refl _)
      refine N_ok r2 (by omega) _ _ _ _ (fun M3 f3 r3 w3 => ?_)
      have g3 := g2.trans f3 (by omega)
      rcases pThen_on hx with ⟨e, hr2, rfl⟩ | ⟨p2, c2, hr2, hx⟩
      · obtain ⟨q1, q2⟩ := pE_fine ht _ _ _ _ _ _ a1 hr2
        exact ih 9 d p1 (b + c1.length + 1) (D' + 1) M3 F _ (by decide) hd (by omega) a1 (by omega) (fun _ => by omega) r3 hr2 (fun M4 r n' f4 b4 l1 l2 => hF M4 r n' (g3.trans f4 (by omega)) b4 (by omega) (by omega)) hD1
      · cases hx
        obtain ⟨b1, b2, -⟩ := pE_fine ht _ _ _ _ _ _ a1 hr2
        refine ih 9 d p1 (b + c1.length + 1) (D' + 1) M3 F _ (by decide) hd (by omega) a1 (by omega) (fun _ => by omega) r3 hr2 (fun M4 f4 r4 k4 => ?_) hD1
        have e4 : b + c1.length + 1 + c2.length = b + (c1 ++ (tk p, 0, b - 1, b + c1.length - 1) :: c2).length := by rw [List.length_append, List.length_cons]; omega
        have z4 := hF M4 (g3.trans f4 (by omega)) (r4.cast e4) (k2.bin f3 ⟨by show M3 126 _ = nI (mk (tk p)); rw [w3.1, hop]; rfl, by rw [mLeft_op (show tk p ≠ 40 by omega) (show ¬ (tk p = 16 ∨ tk p = 18 ∨ tk p = 19) by omega)]; exact w3.2.1, w3.2.2⟩ f4 k4)
        rw [← e4] at z4
        exact z4
  · have hop' : pOpO (tk p) = false := beq_false_of_ne hop
    rw [hop', if_neg (by decide)] at hx
    cases hx
    exact hF M (mFr.refl _ _) hM (mCd.nil _ _)
theorem mP_both (ht : pTk tk T) (hE : mErr tk (mKn w nt nk) p0 eR) (ih : mGoal G tk T w nt nk nb p0 eR n) {d p b D : Nat} {M : eM} {F : Int32 → eM → Prop} {x : Nat ⊕ (Nat × List pSt)} (hd : d ≤ 8) (h0 : p0 ≤ p) (hp : p ≤ T) (hb : b ≤ p) (hM : mRx tk T w nt nk nb eR M p b d) (hx : pHead (pE tk n) 5 7 d p b = some x) (hF : mRes tk T w nt nk nb eR F M b p d x) (hD : mNest 6 d ≤ D) : Cal G 100 40 (D + 5, 0, 0) kX13_both [.ref (G.1 100)] M (eFI F) := by
  have h400 := ht.1
  have hD1 : (8 - d) * 9 + 12 ≤ D := hD
  obtain ⟨D', rfl⟩ : ∃ D', D = D' + 1 := ⟨D - 1, by omega⟩
  unfold pHead at hx
  refine C_X13_both G (D' + 1) M F ?_
  rcases pThen_on hx with ⟨e, hr, rfl⟩ | ⟨p1, c1, hr, hx⟩
  · refine ih 5 d p b D' _ _ _ (by decide) hd h0 hp hb (fun z => by cases z) hM hr (fun M2 r n' f2 b2 l1 l2 => ?_) (by show (8 - d) * 9 + 11 ≤ D'; omega)
    exact W_both (D' + 1) b2.ne _ _ (hF M2 r n' f2 b2 l1 l2)
  · obtain ⟨a1, a2, a3⟩ := pE_fine ht _ _ _ _ _ _ hp hr
    have hc1 : 1 ≤ c1.length := a3 rfl
    refine ih 5 d p b D' _ _ _ (by decide) hd h0 hp hb (fun z => by cases z) hM hr (fun M2 f2 r2 k2 => ?_) (by show (8 - d) * 9 + 11 ≤ D'; omega)
    rcases pThen_on hx with ⟨e, hr2, rfl⟩ | ⟨p2, c2, hr2, hx⟩
    · obtain ⟨q1, q2⟩ := pE_fine ht _ _ _ _ _ _ a1 hr2
      exact ih 7 d p1 (b + c1.length) (D' + 1) M2 F _ (by decide) hd (by omega) a1 (by omega) (fun _ => by omega) r2 hr2 (fun M4 r n' f4 b4 l1 l2 => hF M4 r n' (f2.trans f4 (by omega)) b4 (by omega) (by omega)) hD1
    · cases hx
      refine ih 7 d p1 (b + c1.length) (D' + 1) M2 F _ (by decide) hd (by omega) a1 (by omega) (fun _ => by omega) r2 hr2 (fun M4 f4 r4 k4 => ?_) hD1
      have e4 : b + c1.length + c2.length = b + (c1 ++ c2).length := by rw [List.length_append]; omega
      have z4 := hF M4 (f2.trans f4 (by omega)) (r4.cast e4) ((k2.keep f4 (Nat.le_refl _)).append k4)
      rw [← e4] at z4
      exact z4
theorem mP_test (ht : pTk tk T) (hE : mErr tk (mKn w nt nk) p0 eR) (ih : mGoal G tk T w nt nk nb p0 eR n) {d p b D : Nat} {M : eM} {F : Int32 → eM → Prop} {x : Nat ⊕ (Nat × List pSt)} (hd : d ≤ 8) (h0 : p0 ≤ p) (hp : p ≤ T) (hb : b ≤ p) (hM : mRx tk T w nt nk nb eR M p b d) (hx : pHead (pE tk n) 6 9 d p b = some x) (hF : mRes tk T w nt nk nb eR F M b p d x) (hD : mNest 8 d ≤ D) : Cal G 100 40 (D + 5, 0, 0) kX13_test [.ref (G.1 100)] M (eFI F) := by
  have h400 := ht.1
  have hD1 : (8 - d) * 9 + 13 ≤ D := hD
  obtain ⟨D', rfl⟩ : ∃ D', D = D' + 1 := ⟨D - 1, by omega⟩
  unfold pHead at hx
  refine C_X13_test G (D' + 1) M F ?_
  rcases pThen_on hx with ⟨e, hr, rfl⟩ | ⟨p1, c1, hr, hx⟩
  · refine ih 6 d p b D' _ _ _ (by decide) hd h0 hp hb (fun z => by cases z) hM hr (fun M2 r n' f2 b2 l1 l2 => ?_) (by show (8 - d) * 9 + 12 ≤ D'; omega)
    exact W_test (D' + 1) b2.ne _ _ (hF M2 r n' f2 b2 l1 l2)
  · obtain ⟨a1, a2, a3⟩ := pE_fine ht _ _ _ _ _ _ hp hr
    have hc1 : 1 ≤ c1.length := a3 rfl
    refine ih 6 d p b D' _ _ _ (by decide) hd h0 hp hb (fun z => by cases z) hM hr (fun M2 f2 r2 k2 => ?_) (by show (8 - d) * 9 + 12 ≤ D'; omega)
    rcases pThen_on hx with ⟨e, hr2, rfl⟩ | ⟨p2, c2, hr2, hx⟩
    · obtain ⟨q1, q2⟩ := pE_fine ht _ _ _ _ _ _ a1 hr2
      exact ih 9 d p1 (b + c1.length) (D' + 1) M2 F _ (by decide) hd (by omega) a1 (by omega) (fun _ => by omega) r2 hr2 (fun M4 r n' f4 b4 l1 l2 => hF M4 r n' (f2.trans f4 (by omega)) b4 (by omega) (by omega)) hD1
    · cases hx
      refine ih 9 d p1 (b + c1.length) (D' + 1) M2 F _ (by decide) hd (by omega) a1 (by omega) (fun _ => by omega) r2 hr2 (fun M4 f4 r4 k4 => ?_) hD1
      have e4 : b + c1.length + c2.length = b + (c1 ++ c2).length := by rw [List.length_append]; omega
      have z4 := hF M4 (f2.trans f4 (by omega)) (r4.cast e4) ((k2.keep f4 (Nat.le_refl _)).append k4)
      rw [← e4] at z4
      exact z4
theorem mP_all (ht : pTk tk T) (hE : mErr tk (mKn w nt nk) p0 eR) : ∀ n, mGoal G tk T w nt nk nb p0 eR n := by
  intro n
  induction n with
  | zero => intro m d p b D M F x _ _ _ _ _ _ _ h; cases h
  | succ n ih =>
    intro m d p b D M F x hm hd h0 hp hb hb1 hM hx hF hD
    match m, hm, hb1, hx, hD with
    | 0, _, _, hx, hD => exact mP_value ht hE ih hd h0 hp hb hM hx hF hD
    | 1, _, _, hx, hD => exact mP_product ht hE ih hd h0 hp hb hM hx hF hD
    | 2, _, hb1, hx, hD => exact mP_product_loop ht hE ih hd h0 hp hb (hb1 rfl) hM hx hF hD
    | 3, _, _, hx, hD => exact mP_sum ht hE ih hd h0 hp hb hM hx hF hD
    | 4, _, hb1, hx, hD => exact mP_sum_loop ht hE ih hd h0 hp hb (hb1 rfl) hM hx hF hD
    | 5, _, _, hx, hD => exact mP_single ht hE ih hd h0 hp hb hM hx hF hD
    | 6, _, _, hx, hD => exact mP_both ht hE ih hd h0 hp hb hM hx hF hD
    | 7, _, hb1, hx, hD => exact mP_both_loop ht hE ih hd h0 hp hb (hb1 rfl) hM hx hF hD
    | 8, _, _, hx, hD => exact mP_test ht hE ih hd h0 hp hb hM hx hF hD
    | 9, _, hb1, hx, hD => exact mP_test_loop ht hE ih hd h0 hp hb (hb1 rfl) hM hx hF hD
    | k + 10, hm, _, _, _ => exact absurd hm (by omega)
end MRead
