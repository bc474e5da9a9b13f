/-! ===== the model reads the game ===== -/
section ScanLine
variable {tk : Nat → Nat} {w : mWd} {nv : Nat → Nat}
/-- a good scan's numbers -/
theorem sScan_ok : ∀ j, (sEr (sScan tk w nv j)).1 = 0 → (3 ≤ sCol (sScan tk w nv j) ∧ sCol (sScan tk w nv j) ≤ 7) ∧ (3 ≤ sRow (sScan tk w nv j) ∧ sRow (sScan tk w nv j) ≤ 7) ∧ (∀ i, i < sNn (sScan tk w nv j) → sNu (sScan tk w nv j) i ≤ 9) ∧ sNo (sScan tk w nv j) ≤ 16
  | 0, _ => ⟨(show 3 ≤ 5 ∧ 5 ≤ 7 by decide), (show 3 ≤ 5 ∧ 5 ≤ 7 by decide), fun i hi => absurd hi (Nat.not_lt_zero _), Nat.zero_le _⟩
  | j + 1, h => by
    have h0 : (sEr (sScan tk w nv j)).1 = 0 := sScan_er0 h (Nat.le_succ j)
    have ih := sScan_ok j h0
    have h' : (sEr (sStep tk w nv (sScan tk w nv j) j)).1 = 0 := h
    show (3 ≤ sCol (sStep tk w nv (sScan tk w nv j) j) ∧ sCol (sStep tk w nv (sScan tk w nv j) j) ≤ 7) ∧ (3 ≤ sRow (sStep tk w nv (sScan tk w nv j) j) ∧ sRow (sStep tk w nv (sScan tk w nv j) j) ≤ 7) ∧ (∀ i, i < sNn (sStep tk w nv (sScan tk w nv j) j) → sNu (sStep tk w nv (sScan tk w nv j) j) i ≤ 9) ∧ sNo (sStep tk w nv (sScan tk w nv j) j) ≤ 16
    clear h
    generalize sScan tk w nv j = S at h0 ih h'
    obtain ⟨h1, h2, h3, h4⟩ := ih
    revert h'
    unfold sStep
    split
    · exact fun _ => ⟨h1, h2, h3, h4⟩
    split
    · intro h'
      refine ⟨h1, h2, h3, ?_⟩
      show sNo S + 1 ≤ 16
      refine Decidable.byContradiction fun z => ?_
      have h'' : (sErr (decide (16 ≤ sNo S)) 4 j (sEr S)).1 = 0 := h'
      rw [decide_eq_true (show 16 ≤ sNo S by omega), sErr_t h0] at h''
      exact absurd h'' (Nat.succ_ne_zero _)
    split
    · intro h'
      revert h'
      unfold sName
      split
      · exact fun _ => ⟨h1, h2, h3, h4⟩
      · exact fun _ => ⟨h1, h2, h3, h4⟩
    split
    · unfold sNum
      split
      · intro h'
        have h'' : (sErr (decide (nv j < 3 ∨ 7 < nv j)) 5 j (sEr S)).1 = 0 := h'
        have hv : ¬ (nv j < 3 ∨ 7 < nv j) := fun z => by
          rw [decide_eq_true z, sErr_t h0] at h''
          exact absurd h'' (Nat.succ_ne_zero _)
        by_cases hs : sSd S = 0
        · refine ⟨?_, ?_, h3, h4⟩
          · show 3 ≤ (if sSd S = 0 then (nv j, sRow S) else (sCol S, nv j)).1 ∧ (if sSd S = 0 then (nv j, sRow S) else (sCol S, nv j)).1 ≤ 7
            rw [if_pos hs]; exact ⟨by show 3 ≤ nv j; omega, by show nv j ≤ 7; omega⟩
          · show 3 ≤ (if sSd S = 0 then (nv j, sRow S) else (sCol S, nv j)).2 ∧ (if sSd S = 0 then (nv j, sRow S) else (sCol S, nv j)).2 ≤ 7
            rw [if_pos hs]; exact h2
        · refine ⟨?_, ?_, h3, h4⟩
          · show 3 ≤ (if sSd S = 0 then (nv j, sRow S) else (sCol S, nv j)).1 ∧ (if sSd S = 0 then (nv j, sRow S) else (sCol S, nv j)).1 ≤ 7
            rw [if_neg hs]; exact h1
          · show 3 ≤ (if sSd S = 0 then (nv j, sRow S) else (sCol S, nv j)).2 ∧ (if sSd S = 0 then (nv j, sRow S) else (sCol S, nv j)).2 ≤ 7
            rw [if_neg hs]; exact ⟨by show 3 ≤ nv j; omega, by show nv j ≤ 7; omega⟩
      split
      · intro h'
        have h'' : (sErr (decide (9 < nv j)) 5 j (sEr S)).1 = 0 := h'
        have hv : ¬ 9 < nv j := fun z => by
          rw [decide_eq_true z, sErr_t h0] at h''
          exact absurd h'' (Nat.succ_ne_zero _)
        refine ⟨h1, h2, ?_, h4⟩
        show ∀ i, i < (if sNn S < 48 then sNn S + 1 else sNn S) → (if sNn S < 48 then zU (sNu S) (sNn S) (nv j) else sNu S) i ≤ 9
        intro i hi
        by_cases h48 : sNn S < 48
        · rw [if_pos h48] at hi ⊢
          by_cases hq : i = sNn S
          · rw [hq, zU_same]; omega
          · rw [zU_ne _ _ hq]; exact h3 i (by omega)
        · rw [if_neg h48] at hi ⊢
          exact h3 i hi
      · exact fun _ => ⟨h1, h2, h3, h4⟩
    · exact fun _ => ⟨h1, h2, h3, h4⟩
/-- tokens that are no lines' first words leave all but the error, in an order's line -/
theorem sStep_mid {S : sSt} {j : Nat} (hk : tk j ≠ 1 ∧ tk j ≠ 3 ∧ tk j ≠ 4 ∧ tk j ≠ 7 ∧ tk j ≠ 8) (hL : sL S ≠ 1 ∧ sL S ≠ 3) : (sStep tk w nv S j).1 = S.1 ∧ sNk (sStep tk w nv S j) = sNk S ∧ sNu (sStep tk w nv S j) = sNu S ∧ (sStep tk w nv S j).2.2.2.1 = S.2.2.2.1 ∧ sEr (sStep tk w nv S j) = (if tk j = 41 then mErN (mKn w (sNt S) (sNk S)) (sEr S) j else sEr S) := by
  unfold sStep
  rw [if_neg (by omega), if_neg (by omega)]
  by_cases h41 : tk j = 41
  · rw [if_pos h41, if_pos h41]
    unfold sName
    rw [if_neg hL.2]
    refine ⟨rfl, rfl, rfl, rfl, ?_⟩
    show sErr (sKn w S j).isNone 3 j (sEr S) = mErN (mKn w (sNt S) (sNk S)) (sEr S) j
    unfold sErr mErN sKn
    cases hh : mKn w (sNt S) (sNk S) j with
    | none =>
      by_cases h0 : (sEr S).1 = 0
      · rw [if_pos ⟨h0, rfl⟩, if_pos ⟨h0, rfl⟩]
      · rw [if_neg (fun z => h0 z.1), if_neg (fun z => h0 z.1)]
    | some i =>
      rw [if_neg (fun z => by cases z.2), if_neg (fun z => by cases z.2)]
  · rw [if_neg h41, if_neg h41]
    by_cases h40 : tk j = 40
    · rw [if_pos h40]
      unfold sNum
      rw [if_neg hL.1, if_neg hL.2]
      exact ⟨rfl, rfl, rfl, rfl, rfl⟩
    · rw [if_neg h40]
      exact ⟨rfl, rfl, rfl, rfl, rfl⟩
def eLoc (tk : Nat → Nat) (kn : Nat → Option Nat) (p0 : Nat) (er0 : Nat × Nat) : Nat → Nat × Nat
  | 0 => er0
  | d + 1 => if tk (p0 + d) = 41 then mErN kn (eLoc tk kn p0 er0 d) (p0 + d) else eLoc tk kn p0 er0 d
theorem eLoc_err (kn : Nat → Option Nat) (p0 : Nat) (er0 : Nat × Nat) : mErr tk kn p0 (fun j => eLoc tk kn p0 er0 (j - p0)) := by
  intro j hj
  show eLoc tk kn p0 er0 (j + 1 - p0) = _
  rw [show j + 1 - p0 = (j - p0) + 1 by omega, eLoc, show p0 + (j - p0) = j by omega]
theorem sScan_mid {a q : Nat} (hk : ∀ j, a ≤ j → j < q → tk j ≠ 1 ∧ tk j ≠ 3 ∧ tk j ≠ 4 ∧ tk j ≠ 7 ∧ tk j ≠ 8) (hL : sL (sScan tk w nv a) ≠ 1 ∧ sL (sScan tk w nv a) ≠ 3) : ∀ d, a + d ≤ q → (sScan tk w nv (a + d)).1 = (sScan tk w nv a).1 ∧ sNk (sScan tk w nv (a + d)) = sNk (sScan tk w nv a) ∧ sNu (sScan tk w nv (a + d)) = sNu (sScan tk w nv a) ∧ (sScan tk w nv (a + d)).2.2.2.1 = (sScan tk w nv a).2.2.2.1 ∧ sEr (sScan tk w nv (a + d)) = eLoc tk (mKn w (sNt (sScan tk w nv a)) (sNk (sScan tk w nv a))) a (sEr (sScan tk w nv a)) d
  | 0, _ => ⟨rfl, rfl, rfl, rfl, rfl⟩
  | d + 1, h => by
    obtain ⟨h1, h2, h3, h4, h5⟩ := sScan_mid hk hL d (by omega)
    have hL' : sL (sScan tk w nv (a + d)) ≠ 1 ∧ sL (sScan tk w nv (a + d)) ≠ 3 := by
      have e : sL (sScan tk w nv (a + d)) = sL (sScan tk w nv a) := congrArg (fun z => z.1) h1
      rw [e]; exact hL
    obtain ⟨k1, k2, k3, k4, k5⟩ := sStep_mid (w := w) (nv := nv) (S := sScan tk w nv (a + d)) (j := a + d) (hk (a + d) (by omega) (by omega)) hL'
    have e2 : sNt (sScan tk w nv (a + d)) = sNt (sScan tk w nv a) := congrArg (fun z => z.2.1) h1
    refine ⟨k1.trans h1, k2.trans h2, k3.trans h3, k4.trans h4, ?_⟩
    rw [eLoc, ← h5]
    rw [e2, h2] at k5
    exact k5
end ScanLine
/-- what the model's reading of lines may write: k orders, nt tiles, b nodes are there -/
def hFr (M M' : eM) (b k nt : Nat) : Prop := ∀ c j, M' c j = M c j ∨ (c = 100 ∧ 8 ≤ j ∧ j ≤ 12) ∨ (c = 106 ∧ nt ≤ j) ∨ (c = 118 ∧ (j = 0 ∨ j = 1 ∨ j = 2 ∨ j = 4 ∨ j = 11)) ∨ (c = 119 ∧ 3 * nt ≤ j) ∨ ((c = 120 ∨ c = 121 ∨ c = 122 ∨ c = 123 ∨ c = 125) ∧ k ≤ j) ∨ (c = 124 ∧ 3 * k ≤ j) ∨ ((c = 126 ∨ c = 127 ∨ c = 128) ∧ b ≤ j)
theorem hFr.refl (M : eM) (b k nt : Nat) : hFr M M b k nt := fun _ _ => Or.inl rfl
theorem hFr.trans {M M1 M2 : eM} {b k nt b1 k1 nt1 : Nat} (h : hFr M M1 b k nt) (h1 : hFr M1 M2 b1 k1 nt1) (hb : b ≤ b1) (hk : k ≤ k1) (hn : nt ≤ nt1) : hFr M M2 b k nt := by
  intro c j
  rcases h1 c j with z | z | z | z | z | z | z | z
  · rcases h c j with y | y
    · exact Or.inl (z.trans y)
    · exact Or.inr y
  · exact Or.inr (Or.inl z)
  · exact Or.inr (Or.inr (Or.inl ⟨z.1, by omega⟩))
  · exact Or.inr (Or.inr (Or.inr (Or.inl z)))
  · exact Or.inr (Or.inr (Or.inr (Or.inr (Or.inl ⟨z.1, by omega⟩))))
  · exact Or.inr (Or.inr (Or.inr (Or.inr (Or.inr (Or.inl ⟨z.1, by omega⟩)))))
  · exact Or.inr (Or.inr (Or.inr (Or.inr (Or.inr (Or.inr (Or.inl ⟨z.1, by omega⟩))))))
  · exact Or.inr (Or.inr (Or.inr (Or.inr (Or.inr (Or.inr (Or.inr ⟨z.1, by omega⟩))))))
theorem hFr.at {M M' : eM} {b k nt : Nat} (h : hFr M M' b k nt) {c j : Nat} (h1 : ¬ (c = 100 ∧ 8 ≤ j ∧ j ≤ 12)) (h2 : ¬ (c = 106 ∧ nt ≤ j)) (h3 : ¬ (c = 118 ∧ (j = 0 ∨ j = 1 ∨ j = 2 ∨ j = 4 ∨ j = 11))) (h4 : ¬ (c = 119 ∧ 3 * nt ≤ j)) (h5 : ¬ ((c = 120 ∨ c = 121 ∨ c = 122 ∨ c = 123 ∨ c = 125) ∧ k ≤ j)) (h6 : ¬ (c = 124 ∧ 3 * k ≤ j)) (h7 : ¬ ((c = 126 ∨ c = 127 ∨ c = 128) ∧ b ≤ j)) : M' c j = M c j := by
  rcases h c j with z | z | z | z | z | z | z | z
  · exact z
  · exact absurd z h1
  · exact absurd z h2
  · exact absurd z h3
  · exact absurd z h4
  · exact absurd z h5
  · exact absurd z h6
  · exact absurd z h7
theorem mFr.h {M M' : eM} {b : Nat} (h : mFr M M' b) (k nt : Nat) : hFr M M' b k nt := by
  intro c j
  rcases h c j with z | z | z | z
  · exact Or.inl z
  · exact Or.inr (Or.inl z)
  · exact Or.inr (Or.inr (Or.inr (Or.inl ⟨z.1, by omega⟩)))
  · exact Or.inr (Or.inr (Or.inr (Or.inr (Or.inr (Or.inr (Or.inr z))))))
/-- one place written -/
theorem hFr.one {M : eM} {b k nt c j : Nat} {v : Int32} (h : (c = 106 ∧ nt ≤ j) ∨ (c = 118 ∧ (j = 0 ∨ j = 1 ∨ j = 2 ∨ j = 4 ∨ j = 11)) ∨ (c = 119 ∧ 3 * nt ≤ j) ∨ ((c = 120 ∨ c = 121 ∨ c = 122 ∨ c = 123 ∨ c = 125) ∧ k ≤ j) ∨ (c = 124 ∧ 3 * k ≤ j)) : hFr M (eU M c j v) b k nt := by
  intro c' j'
  by_cases hq : c' = c ∧ j' = j
  · obtain ⟨rfl, rfl⟩ := hq
    rcases h with z | z | z | z | z
    · exact Or.inr (Or.inr (Or.inl z))
    · exact Or.inr (Or.inr (Or.inr (Or.inl z)))
    · exact Or.inr (Or.inr (Or.inr (Or.inr (Or.inl z))))
    · exact Or.inr (Or.inr (Or.inr (Or.inr (Or.inr (Or.inl z)))))
    · exact Or.inr (Or.inr (Or.inr (Or.inr (Or.inr (Or.inr (Or.inl z))))))
  · exact Or.inl (if_neg hq)
theorem eU_not (M : eM) {c j a b : Nat} (v : Int32) (h : ¬ (a = c ∧ b = j)) : eU M c j v a b = M a b := if_neg h
theorem mBad.eU {M : eM} {e b d c j : Nat} {v : Int32} (h : mBad M e b d) (h1 : c ≠ 100) (h2 : ¬ (c = 118 ∧ j = 11)) : mBad (eU M c j v) e b d := by
  obtain ⟨n1, n2, n3, n4, n5⟩ := h
  refine ⟨?_, ?_, ⟨?_, ?_⟩, ?_, ?_⟩
  · rw [eU_cell _ _ _ _ (fun z => h1 z.symm)]; exact n1
  · rw [eU_cell _ _ _ _ (fun z => h1 z.symm)]; exact n2
  · rw [eU_cell _ _ _ _ (fun z => h1 z.symm)]; exact n3.1
  · rw [eU_cell _ _ _ _ (fun z => h1 z.symm)]; exact n3.2
  · rw [eU_cell _ _ _ _ (fun z => h1 z.symm)]; exact n4
  · rw [eU_not _ _ (fun z => h2 ⟨z.1.symm, z.2.symm⟩)]; exact n5
section MGame
variable {G : eG} {bt : Nat → Nat} {sz : Nat}
/-- the tape and its tokens, in the model -/
def mTS (M : eM) (bt : Nat → Nat) (sz : Nat) : Prop := sz ≤ 2000 ∧ mToks M bt sz ∧ ∀ i, i < 2000 → M 101 i = nI (bt i)
theorem mTS.kind {M : eM} (h : mTS M bt sz) : ∀ j, j ≤ tT bt sz → M 102 j = nI (mk (tTk bt sz j)) := by
  intro j hj
  by_cases hq : j = tT bt sz
  · rw [hq]; exact h.2.1.2.1
  · exact (h.2.1.1 j (by omega)).1
theorem mTS.pos {M : eM} (h : mTS M bt sz) : ∀ j, j ≤ tT bt sz → M 104 j = nI (tAt bt sz j) := by
  intro j hj
  by_cases hq : j = tT bt sz
  · rw [hq]; exact h.2.1.2.2
  · exact (h.2.1.1 j (by omega)).2.1
theorem mTS.of {M M' : eM} (h : mTS M bt sz) (hc : ∀ c, 101 ≤ c → c ≤ 105 → M' c = M c) : mTS M' bt sz := by
  obtain ⟨h1, ⟨h2, h3, h4⟩, h5⟩ := h
  refine ⟨h1, ⟨fun j hj => ?_, ?_, ?_⟩, fun i hi => ?_⟩
  · rw [hc 102 (by decide) (by decide), hc 103 (by decide) (by decide), hc 104 (by decide) (by decide), hc 105 (by decide) (by decide)]
    exact h2 j hj
  · rw [hc 102 (by decide) (by decide)]; exact h3
  · rw [hc 104 (by decide) (by decide)]; exact h4
  · rw [hc 101 (by decide) (by decide)]; exact h5 i hi
theorem mTS.fr {M M' : eM} {b k nt : Nat} (h : mTS M bt sz) (hf : hFr M M' b k nt) : mTS M' bt sz := h.of (fun c c1 c2 => funext fun j => hf.at (by omega) (by omega) (by omega) (by omega) (by omega) (by omega) (by omega))
abbrev tNb (bt : Nat → Nat) (sz j : Nat) : Int32 := nI (tNv bt sz j)
/-- the static part as the readings ask for it -/
theorem mTS.sta {M : eM} (h : mTS M bt sz) {nt : Nat} {nk : Nat → Nat} (h1 : M 118 2 = nI nt) (h2 : nt ≤ 16) (h3 : ∀ i, i < nt → M 106 i = nI (nk i) ∧ nk i ≤ tT bt sz ∧ tTk bt sz (nk i) = 41) : mSta (tTk bt sz) (tT bt sz) (tW bt sz) nt nk (tNb bt sz) M := by
  have ht := tTk_pTk bt sz
  refine ⟨h.kind, ⟨h1, h2⟩, h3, fun j hj hk => ?_, fun i hi => h.2.2 i hi, fun j hj hk => ?_⟩
  · have hjT := ht.lt hj (by omega) (by omega)
    obtain ⟨-, a4, a5, -⟩ := h.2.1.1 j hjT
    have h4 := tTk_ok ((tT_is bt sz).2.2 j hjT)
    have h5 := tStop_in (bt := bt) h4.1
    have h6 := h.1
    exact ⟨a4, a5, by show tAt bt sz j + (tStop bt sz (tAt bt sz j) - tAt bt sz j) ≤ 2000; omega⟩
  · have hjT := ht.lt hj (by omega) (by omega)
    exact (h.2.1.1 j hjT).2.2.2 hk
/-- at a token between lines: the scan's state there -/
def mLn (M : eM) (bt : Nat → Nat) (sz p b : Nat) : Prop := mRd (tTk bt sz) (tT bt sz) (tW bt sz) (sNt (tScan bt sz p)) (sNk (tScan bt sz p)) (tNb bt sz) M p b 0 (sEr (tScan bt sz p)) ∧ M 118 4 = nI (min 16 (sNo (tScan bt sz p))) ∧ mTS M bt sz
/-- what a node takes first, by the scan -/
def gLeft (bt : Nat → Nat) (sz : Nat) (s : pSt) : Int32 := if s.1 = 40 then nI (tNv bt sz s.2.1) else if s.1 = 16 ∨ s.1 = 18 ∨ s.1 = 19 then nI (tTile bt sz s.2.1) else nI s.2.2.1
def gCd (M : eM) (bt : Nat → Nat) (sz b : Nat) (cd : List pSt) : Prop := ∀ i s, cd[i]? = some s → M 126 (b + i) = nI (mk s.1) ∧ M 127 (b + i) = gLeft bt sz s ∧ M 128 (b + i) = nI s.2.2.2
theorem gCd.keep {M M' : eM} {b b1 k nt : Nat} {cd : List pSt} (h : gCd M bt sz b cd) (hf : hFr M M' b1 k nt) (hb : b + cd.length ≤ b1) : gCd M' bt sz b cd := by
  intro i s hs
  have hi : i < cd.length := (List.getElem?_eq_some_iff.mp hs).1
  obtain ⟨h1, h2, h3⟩ := h i s hs
  rw [hf.at (by omega) (by omega) (by omega) (by omega) (by omega) (by omega) (by omega), hf.at (by omega) (by omega) (by omega) (by omega) (by omega) (by omega) (by omega), hf.at (by omega) (by omega) (by omega) (by omega) (by omega) (by omega) (by omega)]
  exact ⟨h1, h2, h3⟩
theorem gCd.append {M : eM} {b : Nat} {c1 c2 : List pSt} (h1 : gCd M bt sz b c1) (h2 : gCd M bt sz (b + c1.length) c2) : gCd M bt sz b (c1 ++ c2) := by
  intro i s hs
  by_cases hi : i < c1.length
  · rw [List.getElem?_append_left hi] at hs
    exact h1 i s hs
  · rw [List.getElem?_append_right (by omega)] at hs
    have := h2 _ s hs
    rw [show b + c1.length + (i - c1.length) = b + i by omega] at this
    exact this
def mDoes (k : Nat) : Nat := if k = 4 then 0 else if k = 7 then 1 else 2
/-- the order k as the model holds it -/
def mOrd (M : eM) (k : Nat) (o : pOrd) (tile : Nat) : Prop := M 120 k = nI (mDoes (oKind o)) ∧ M 121 k = nI tile ∧ M 122 k = nI (oFrom o) ∧ M 123 k = nI (oEnd o) ∧ (oKind o = 4 → M 124 (3 * k) = nI (oFrom o + (oS1 o).length - 1) ∧ M 124 (3 * k + 1) = nI (oFrom o + (oS1 o).length + (oS2 o).length - 1) ∧ M 124 (3 * k + 2) = nI (oMid o - 1)) ∧ M 125 k = (if oHas o = true then nI (oEnd o - 1) else -1)
theorem mOrd.fr {M M' : eM} {i b k nt : Nat} {o : pOrd} {t : Nat} (h : mOrd M i o t) (hf : hFr M M' b k nt) (hi : i < k) : mOrd M' i o t := by
  have e : ∀ c j, (c = 120 ∨ c = 121 ∨ c = 122 ∨ c = 123 ∨ c = 125) → j < k → M' c j = M c j := fun c j hc hj => hf.at (by omega) (by omega) (by omega) (by omega) (by omega) (by omega) (by omega)
  have e2 : ∀ j, j < 3 * k → M' 124 j = M 124 j := fun j hj => hf.at (by omega) (by omega) (by omega) (by omega) (by omega) (by omega) (by omega)
  obtain ⟨h1, h2, h3, h4, h5, h6⟩ := h
  refine ⟨?_, ?_, ?_, ?_, fun z => ?_, ?_⟩
  · rw [e 120 i (by omega) hi]; exact h1
  · rw [e 121 i (by omega) hi]; exact h2
  · rw [e 122 i (by omega) hi]; exact h3
  · rw [e 123 i (by omega) hi]; exact h4
  · obtain ⟨a, b, c⟩ := h5 z
    rw [e2 _ (by omega), e2 _ (by omega), e2 _ (by omega)]
    exact ⟨a, b, c⟩
  · rw [e 125 i (by omega) hi]; exact h6
/-- behind a wrong token, for good -/
def mWrong (M : eM) (e : Nat) : Prop := M 100 8 = nI e ∧ M 100 9 = 1 ∧ M 100 10 = 1 ∧ M 100 11 = nI e
theorem mBad.wrong {M : eM} {e b d : Nat} (h : mBad M e b d) : mWrong M e := ⟨h.1, h.2.1, h.2.2.1.1, h.2.2.1.2⟩
theorem mWrong.ne {M : eM} {e : Nat} (h : mWrong M e) : ¬ M 100 9 = 0 := by rw [h.2.1]; decide
theorem mWrong.eU {M : eM} {e c j : Nat} {v : Int32} (h : mWrong M e) (h1 : c ≠ 100) : mWrong (eU M c j v) e := by
  obtain ⟨n1, n2, n3, n4⟩ := h
  refine ⟨?_, ?_, ?_, ?_⟩
  · rw [eU_cell _ _ _ _ (fun z => h1 z.symm)]; exact n1
  · rw [eU_cell _ _ _ _ (fun z => h1 z.symm)]; exact n2
  · rw [eU_cell _ _ _ _ (fun z => h1 z.symm)]; exact n3
  · rw [eU_cell _ _ _ _ (fun z => h1 z.symm)]; exact n4
theorem eMin {k : Nat} (hk : k < 2 ^ 31) : (if nI k + 1 < 16 then nI k + 1 else 16) = nI (min 16 (k + 1)) ∨ 2 ^ 31 ≤ k + 1 := by
  by_cases h31 : k + 1 < 2 ^ 31
  · left
    rw [← nI_succ]
    by_cases h : k + 1 < 16
    · rw [if_pos (show nI _ < (16 : Int32) from nI_lt (b := 16) h (by decide)), show min 16 (k + 1) = k + 1 by omega]
    · rw [if_neg (show ¬ nI (k + 1) < (16 : Int32) from nI_nlt (b := 16) (by omega) h31), show min 16 (k + 1) = 16 by omega]; rfl
  · right; omega
theorem eMin' {k : Nat} (hk : k ≤ 16) : (if nI k < 16 then nI k else 16) = nI k := by
  by_cases h : k < 16
  · rw [if_pos (show nI _ < (16 : Int32) from nI_lt (b := 16) h (by decide))]
  · rw [if_neg (show ¬ nI k < (16 : Int32) from nI_nlt (b := 16) (by omega) (by omega)), show k = 16 by omega]; rfl
theorem eMinS {k : Nat} (hk : k ≤ 16) : (if nI k + 1 < 16 then nI k + 1 else 16) = nI (min 16 (k + 1)) := (eMin (k := k) (by omega)).resolve_right (by omega)
/-- the readings keep orders' rows -/
theorem mFr.row {M M' : eM} {b : Nat} (h : mFr M M' b) {c j : Nat} (hc : c ≠ 100) (hc2 : ¬ (c = 118 ∧ j = 11)) (h3 : c < 126 ∨ 128 < c) : M' c j = M c j := h.at (by omega) hc2 (by omega)
theorem mRd.row {tk : Nat → Nat} {T : Nat} {w : mWd} {nt : Nat} {nk : Nat → Nat} {nb : Nat → Int32} {M : eM} {p b d : Nat} {er : Nat × Nat} (h : mRd tk T w nt nk nb M p b d er) {c j : Nat} {v : Int32} (hc : 119 ≤ c) : mRd tk T w nt nk nb (eU M c j v) p b d er := by
  obtain ⟨m1, m2, m3, m4, m5, m6⟩ := h
  obtain ⟨h1, h2, h3, h4, h5, h6⟩ := m1
  have e : ∀ c' j', c' < 119 → eU M c j v c' j' = M c' j' := fun c' j' hc' => eU_cell _ _ _ _ (by omega)
  refine ⟨⟨fun j hj => ?_, ⟨?_, h2.2⟩, fun i hi => ⟨?_, (h3 i hi).2⟩, fun j hj hk => ⟨?_, ?_, (h4 j hj hk).2.2⟩, fun i hi => ?_, fun j hj hk => ?_⟩, ?_, ?_, ⟨?_, ?_, m4.2.2⟩, ?_, ?_⟩
  · rw [e _ _ (by decide)]; exact h1 j hj
  · rw [e _ _ (by decide)]; exact h2.1
  · rw [e _ _ (by decide)]; exact (h3 i hi).1
  · rw [e _ _ (by decide)]; exact (h4 j hj hk).1
  · rw [e _ _ (by decide)]; exact (h4 j hj hk).2.1
  · rw [e _ _ (by decide)]; exact h5 i hi
  · rw [e _ _ (by decide)]; exact h6 j hj hk
  · rw [e _ _ (by decide)]; exact m2
  · rw [e _ _ (by decide)]; exact m3
  · rw [e _ _ (by decide)]; exact m4.1
  · rw [e _ _ (by decide)]; exact m4.2.1
  · rw [e _ _ (by decide)]; exact m5
  · rw [e _ _ (by decide)]; exact m6
end MGame
