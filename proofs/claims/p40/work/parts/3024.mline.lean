/-! ===== the model reads the game ===== -/
section ScanLine
variable {tk : Nat → Nat} {w : mWd} {nv : Nat → Nat}
/-- a good scan's numbers -/
theorem sScan_ok : ∀ j, (sEr (sScan tk w nv j)).1 = 0 → (3 ≤ sCol (sScan tk w nv j) ∧ sCol (sScan tk w nv j) ≤ 7) ∧ (3 ≤ sRow (sScan tk w nv j) ∧ sRow (sScan tk w nv j) ≤ 7) ∧ (∀ i, i < sNn (sScan tk w nv j) → sNu (sScan tk w nv j) i ≤ 9) ∧ sNo (sScan tk w nv j) ≤ 16
  | 0, _ => ⟨(show 3 ≤ 5 ∧ 5 ≤ 7 by decide), (show 3 ≤ 5 ∧ 5 ≤ 7 by decide), fun i hi => absurd hi (Nat.not_lt_zero _), Nat.zero_le _⟩
  | j + 1, h => by
    have h0 : (sEr (sScan tk w nv j)).1 = 0 := sScan_er0 h (Nat.le_succ j)
    have ih := sScan_ok j h0
    have h' : (sEr (sStep tk w nv (sScan tk w nv j) j)).1 = 0 := h
    show (3 ≤ sCol (sStep tk w nv (sScan tk w nv j) j) ∧ sCol (sStep tk w nv (sScan tk w nv j) j) ≤ 7) ∧ (3 ≤ sRow (sStep tk w nv (sScan tk w nv j) j) ∧ sRow (sStep tk w nv (sScan tk w nv j) j) ≤ 7) ∧ (∀ i, i < sNn (sStep tk w nv (sScan tk w nv j) j) → sNu (sStep tk w nv (sScan tk w nv j) j) i ≤ 9) ∧ sNo (sStep tk w nv (sScan tk w nv j) j) ≤ 16
    clear h
    generalize sScan tk w nv j = S at h0 ih h'
    obtain ⟨h1, h2, h3, h4⟩ := ih
    revert h'
    unfold sStep
    split
    · exact fun _ => ⟨h1, h2, h3, h4⟩
    split
    · intro h'
      refine ⟨h1, h2, h3, ?_⟩
      show sNo S + 1 ≤ 16
      refine Decidable.byContradiction fun z => ?_
      have h'' : (sErr (decide (16 ≤ sNo S)) 4 j (sEr S)).1 = 0 := h'
      rw [decide_eq_true (show 16 ≤ sNo S by omega), sErr_t h0] at h''
      exact absurd h'' (Nat.succ_ne_zero _)
    split
    · intro h'
      revert h'
      unfold sName
      split
      · exact fun _ => ⟨h1, h2, h3, h4⟩
      · exact fun _ => ⟨h1, h2, h3, h4⟩
    split
    · unfold sNum
      split
      · intro h'
        have h'' : (sErr (decide (nv j < 3 ∨ 7 < nv j)) 5 j (sEr S)).1 = 0 := h'
        have hv : ¬ (nv j < 3 ∨ 7 < nv j) := fun z => by
          rw [decide_eq_true z, sErr_t h0] at h''
          exact absurd h'' (Nat.succ_ne_zero _)
        by_cases hs : sSd S = 0
        · refine ⟨?_, ?_, h3, h4⟩
          · show 3 ≤ (if sSd S = 0 then (nv j, sRow S) else (sCol S, nv j)).1 ∧ (if sSd S = 0 then (nv j, sRow S) else (sCol S, nv j)).1 ≤ 7
            rw [if_pos hs]; exact ⟨by show 3 ≤ nv j; omega, by show nv j ≤ 7; omega⟩
          · show 3 ≤ (if sSd S = 0 then (nv j, sRow S) else (sCol S, nv j)).2 ∧ (if sSd S = 0 then (nv j, sRow S) else (sCol S, nv j)).2 ≤ 7
            rw [if_pos hs]; exact h2
        · refine ⟨?_, ?_, h3, h4⟩
          · show 3 ≤ (if sSd S = 0 then (nv j, sRow S) else (sCol S, nv j)).1 ∧ (if sSd S = 0 then (nv j, sRow S) else (sCol S, nv j)).1 ≤ 7
            rw [if_neg hs]; exact h1
          · show 3 ≤ (if sSd S = 0 then (nv j, sRow S) else (sCol S, nv j)).2 ∧ (if sSd S = 0 then (nv j, sRow S) else (sCol S, nv j)).2 ≤ 7
            rw [if_neg hs]; exact ⟨by show 3 ≤ nv j; omega, by show nv j ≤ 7; omega⟩
      split
      · intro h'
        have h'' : (sErr (decide (9 < nv j)) 5 j (sEr S)).1 = 0 := h'
        have hv : ¬ 9 < nv j := fun z => by
          rw [decide_eq_true z, sErr_t h0] at h''
          exact absurd h'' (Nat.succ_ne_zero _)
        refine ⟨h1, h2, ?_, h4⟩
        show ∀ i, i < (if sNn S < 48 then sNn S + 1 else sNn S) → (if sNn S < 48 then zU (sNu S) (sNn S) (nv j) else sNu S) i ≤ 9
        intro i hi
        by_cases h48 : sNn S < 48
        · rw [if_pos h48] at hi ⊢
          by_cases hq : i = sNn S
          · rw [hq, zU_same]; omega
          · rw [zU_ne _ _ hq]; exact h3 i (by omega)
        · rw [if_neg h48] at hi ⊢
          exact h3 i hi
      · exact fun _ => ⟨h1, h2, h3, h4⟩
    · exact fun _ => ⟨h1, h2, h3, h4⟩
/-- tokens that are no lines' first words leave all but the error, in an order's line -/
theorem sStep_mid {S : sSt} {j : Nat} (hk : tk j ≠ 1 ∧ tk j ≠ 3 ∧ tk j ≠ 4 ∧ tk j ≠ 7 ∧ tk j ≠ 8) (hL : sL S ≠ 1 ∧ sL S ≠ 3) : (sStep tk w nv S j).1 = S.1 ∧ sNk (sStep tk w nv S j) = sNk S ∧ sNu (sStep tk w nv S j) = sNu S ∧ (sStep tk w nv S j).2.2.2.1 = S.2.2.2.1 ∧ sEr (sStep tk w nv S j) = (if tk j = 41 then mErN (mKn w (sNt S) (sNk S)) (sEr S) j else sEr S) := by
  unfold sStep
  rw [if_neg (by omega), if_neg (by omega)]
  by_cases h41 : tk j = 41
  · rw [if_pos h41, if_pos h41]
    unfold sName
    rw [if_neg hL.2]
    refine ⟨rfl, rfl, rfl, rfl, ?_⟩
    show sErr (sKn w S j).isNone 3 j (sEr S) = mErN (mKn w (sNt S) (sNk S)) (sEr S) j
    unfold sErr mErN sKn
    cases hh : mKn w (sNt S) (sNk S) j with
    | none =>
      by_cases h0 : (sEr S).1 = 0
      · rw [if_pos ⟨h0, rfl⟩, if_pos ⟨h0, rfl⟩]
      · rw [if_neg (fun z => h0 z.1), if_neg (fun z => h0 z.1)]
    | some i =>
      rw [if_neg (fun z => by cases z.2), if_neg (fun z => by cases z.2)]
  · rw [if_neg h41, if_neg h41]
    by_cases h40 : tk j = 40
    · rw [if_pos h40]
      unfold sNum
      rw [if_neg hL.1, if_neg hL.2]
      exact ⟨rfl, rfl, rfl, rfl, rfl⟩
    · rw [if_neg h40]
      exact ⟨rfl, rfl, rfl, rfl, rfl⟩
def eLoc (tk : Nat → Nat) (kn : Nat → Option Nat) (p0 : Nat) (er0 : Nat × Nat) : Nat → Nat × Nat
  | 0 => er0
  | d + 1 => if tk (p0 + d) = 41 then mErN kn (eLoc tk kn p0 er0 d) (p0 + d) else eLoc tk kn p0 er0 d
theorem sScan_mid {a q : Nat} (hk : ∀ j, a ≤ j → j < q → tk j ≠ 1 ∧ tk j ≠ 3 ∧ tk j ≠ 4 ∧ tk j ≠ 7 ∧ tk j ≠ 8) (hL : sL (sScan tk w nv a) ≠ 1 ∧ sL (sScan tk w nv a) ≠ 3) : ∀ d, a + d ≤ q → (sScan tk w nv (a + d)).1 = (sScan tk w nv a).1 ∧ sNk (sScan tk w nv (a + d)) = sNk (sScan tk w nv a) ∧ sNu (sScan tk w nv (a + d)) = sNu (sScan tk w nv a) ∧ (sScan tk w nv (a + d)).2.2.2.1 = (sScan tk w nv a).2.2.2.1 ∧ sEr (sScan tk w nv (a + d)) = eLoc tk (mKn w (sNt (sScan tk w nv a)) (sNk (sScan tk w nv a))) a (sEr (sScan tk w nv a)) d
  | 0, _ => ⟨rfl, rfl, rfl, rfl, rfl⟩
  | d + 1, h => by
    obtain ⟨h1, h2, h3, h4, h5⟩ := sScan_mid hk hL d (by omega)
    have hL' : sL (sScan tk w nv (a + d)) ≠ 1 ∧ sL (sScan tk w nv (a + d)) ≠ 3 := by
      have e : sL (sScan tk w nv (a + d)) = sL (sScan tk w nv a) := congrArg (fun z => z.1) h1
      rw [e]; exact hL
    obtain ⟨k1, k2, k3, k4, k5⟩ := sStep_mid (w := w) (nv := nv) (S := sScan tk w nv (a + d)) (j := a + d) (hk (a + d) (by omega) (by omega)) hL'
    have e2 : sNt (sScan tk w nv (a + d)) = sNt (sScan tk w nv a) := congrArg (fun z => z.2.1) h1
    refine ⟨k1.trans h1, k2.trans h2, k3.trans h3, k4.trans h4, ?_⟩
    rw [eLoc, ← h5]
    rw [e2, h2] at k5
    exact k5
end ScanLine
section MGame
variable {bt : Nat → Nat} {sz : Nat}
abbrev tNb (bt : Nat → Nat) (sz j : Nat) : Int32 := nI (tNv bt sz j)
/-- what a node takes first, by the scan -/
def gLeft (bt : Nat → Nat) (sz : Nat) (s : pSt) : Int32 := if s.1 = 40 then nI (tNv bt sz s.2.1) else if s.1 = 16 ∨ s.1 = 18 ∨ s.1 = 19 then nI (tTile bt sz s.2.1) else nI s.2.2.1
def mDoes (k : Nat) : Nat := if k = 4 then 0 else if k = 7 then 1 else 2
theorem eMin {k : Nat} (hk : k < 2 ^ 31) : (if nI k + 1 < 16 then nI k + 1 else 16) = nI (min 16 (k + 1)) ∨ 2 ^ 31 ≤ k + 1 := by
  by_cases h31 : k + 1 < 2 ^ 31
  · left
    rw [← nI_succ]
    by_cases h : k + 1 < 16
    · rw [if_pos (show nI _ < (16 : Int32) from nI_lt (b := 16) h (by decide)), show min 16 (k + 1) = k + 1 by omega]
    · rw [if_neg (show ¬ nI (k + 1) < (16 : Int32) from nI_nlt (b := 16) (by omega) h31), show min 16 (k + 1) = 16 by omega]; rfl
  · right; omega
theorem eMin' {k : Nat} (hk : k ≤ 16) : (if nI k < 16 then nI k else 16) = nI k := by
  by_cases h : k < 16
  · rw [if_pos (show nI _ < (16 : Int32) from nI_lt (b := 16) h (by decide))]
  · rw [if_neg (show ¬ nI k < (16 : Int32) from nI_nlt (b := 16) (by omega) (by omega)), show k = 16 by omega]; rfl
theorem eMinS {k : Nat} (hk : k ≤ 16) : (if nI k + 1 < 16 then nI k + 1 else 16) = nI (min 16 (k + 1)) := (eMin (k := k) (by omega)).resolve_right (by omega)
end MGame
