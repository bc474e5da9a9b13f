/-! ===== what the tokens mean, from left to right ===== -/
/-- (the line's kind, tiles named, orders, numbers of tiles, sides), the tiles' tokens, the numbers, columns and rows, the first error -/
abbrev sSt : Type := (Nat × Nat × Nat × Nat × Nat) × (Nat → Nat) × (Nat → Nat) × (Nat × Nat) × (Nat × Nat)
abbrev sL (S : sSt) : Nat := S.1.1
abbrev sNt (S : sSt) : Nat := S.1.2.1
abbrev sNo (S : sSt) : Nat := S.1.2.2.1
abbrev sNn (S : sSt) : Nat := S.1.2.2.2.1
abbrev sSd (S : sSt) : Nat := S.1.2.2.2.2
abbrev sNk (S : sSt) : Nat → Nat := S.2.1
abbrev sNu (S : sSt) : Nat → Nat := S.2.2.1
abbrev sCol (S : sSt) : Nat := S.2.2.2.1.1
abbrev sRow (S : sSt) : Nat := S.2.2.2.1.2
abbrev sEr (S : sSt) : Nat × Nat := S.2.2.2.2
def sErr (c : Bool) (k j : Nat) (er : Nat × Nat) : Nat × Nat := if er.1 = 0 ∧ c = true then (k, j) else er
def sKn (w : mWd) (S : sSt) (j : Nat) : Option Nat := mKn w (sNt S) (sNk S) j
def sName (w : mWd) (S : sSt) (j : Nat) : sSt :=
  if sL S = 3 then ((sL S, (if sNt S < 16 then sNt S + 1 else sNt S), sNo S, sNn S, sSd S), (if sNt S < 16 then zU (sNk S) (sNt S) j else sNk S), sNu S, S.2.2.2.1, sErr (decide (16 ≤ sNt S)) 4 j (sErr (sKn w S j).isSome 2 j (sEr S)))
  else (S.1, sNk S, sNu S, S.2.2.2.1, sErr (sKn w S j).isNone 3 j (sEr S))
def sNum (v : Nat) (S : sSt) (j : Nat) : sSt :=
  if sL S = 1 then ((sL S, sNt S, sNo S, sNn S, sSd S + 1), sNk S, sNu S, (if sSd S = 0 then (v, sRow S) else (sCol S, v)), sErr (decide (v < 3 ∨ 7 < v)) 5 j (sEr S))
  else if sL S = 3 then ((sL S, sNt S, sNo S, (if sNn S < 48 then sNn S + 1 else sNn S), sSd S), sNk S, (if sNn S < 48 then zU (sNu S) (sNn S) v else sNu S), S.2.2.2.1, sErr (decide (9 < v)) 5 j (sEr S))
  else S
def sStep (tk : Nat → Nat) (w : mWd) (nv : Nat → Nat) (S : sSt) (j : Nat) : sSt :=
  if tk j = 1 ∨ tk j = 3 then ((tk j, S.1.2), S.2)
  else if tk j = 4 ∨ tk j = 7 ∨ tk j = 8 then ((tk j, sNt S, sNo S + 1, sNn S, sSd S), sNk S, sNu S, S.2.2.2.1, sErr (decide (16 ≤ sNo S)) 4 j (sEr S))
  else if tk j = 41 then sName w S j
  else if tk j = 40 then sNum (nv j) S j
  else S
def sInit : sSt := ((0, 0, 0, 0, 0), fun _ => 0, fun _ => 0, (5, 5), (0, 0))
def sScan (tk : Nat → Nat) (w : mWd) (nv : Nat → Nat) : Nat → sSt
  | 0 => sInit
  | j + 1 => sStep tk w nv (sScan tk w nv j) j
theorem sErr_keep {c : Bool} {k j : Nat} {er : Nat × Nat} (h : er.1 ≠ 0) : sErr c k j er = er := if_neg (fun z => h z.1)
theorem sErr_f {k j : Nat} {er : Nat × Nat} : sErr false k j er = er := if_neg (fun z => by cases z.2)
theorem sErr_t {k j : Nat} {er : Nat × Nat} (h : er.1 = 0) : sErr true k j er = (k, j) := if_pos ⟨h, rfl⟩
theorem sErr_5 {c : Bool} {k j : Nat} {er : Nat × Nat} (hk : k ≤ 5) (h : er.1 ≤ 5) : (sErr c k j er).1 ≤ 5 := by
  unfold sErr
  split
  · exact hk
  · exact h
theorem sErr_at {c : Bool} {k j : Nat} {er : Nat × Nat} (h : er.1 = 0) (h1 : (sErr c k j er).1 ≠ 0) : sErr c k j er = (k, j) := by
  unfold sErr at h1 ⊢
  split at h1
  · rename_i z; rw [if_pos z]
  · exact absurd h h1
section Scan
variable {tk : Nat → Nat} {w : mWd} {nv : Nat → Nat}
theorem sStep_er (S : sSt) (j : Nat) (h : (sEr S).1 ≠ 0) : sEr (sStep tk w nv S j) = sEr S := by
  unfold sStep
  split
  · rfl
  split
  · exact sErr_keep h
  split
  · unfold sName
    split
    · show sErr _ 4 j (sErr _ 2 j (sEr S)) = sEr S
      rw [sErr_keep (c := (sKn w S j).isSome) h, sErr_keep h]
    · exact sErr_keep h
  split
  · unfold sNum
    split
    · exact sErr_keep h
    split
    · exact sErr_keep h
    · rfl
  · rfl
theorem sScan_er {j : Nat} (h : (sEr (sScan tk w nv j)).1 ≠ 0) : ∀ d, sEr (sScan tk w nv (j + d)) = sEr (sScan tk w nv j)
  | 0 => rfl
  | d + 1 => by
    have h1 := sScan_er h d
    show sEr (sStep tk w nv (sScan tk w nv (j + d)) (j + d)) = _
    rw [sStep_er _ _ (by rw [h1]; exact h), h1]
theorem sScan_er0 {j q : Nat} (h : (sEr (sScan tk w nv q)).1 = 0) (hj : j ≤ q) : (sEr (sScan tk w nv j)).1 = 0 := by
  refine Decidable.byContradiction fun z => ?_
  have := sScan_er z (q - j)
  rw [show j + (q - j) = q by omega] at this
  rw [this] at h
  exact z h
theorem sStep_at (S : sSt) (j : Nat) (h : (sEr S).1 = 0) (h1 : (sEr (sStep tk w nv S j)).1 ≠ 0) : (sEr (sStep tk w nv S j)).2 = j := by
  revert h1
  unfold sStep
  split
  · exact fun h1 => absurd h h1
  split
  · intro h1
    have := sErr_at h h1
    show (sErr _ 4 j (sEr S)).2 = j
    rw [this]
  split
  · unfold sName
    split
    · intro h1
      show (sErr _ 4 j (sErr _ 2 j (sEr S))).2 = j
      by_cases h2 : (sErr (sKn w S j).isSome 2 j (sEr S)).1 = 0
      · rw [sErr_at h2 h1]
      · rw [sErr_keep h2, sErr_at h h2]
    · intro h1
      have := sErr_at h h1
      show (sErr _ 3 j (sEr S)).2 = j
      rw [this]
  split
  · unfold sNum
    split
    · intro h1
      have := sErr_at h h1
      show (sErr _ 5 j (sEr S)).2 = j
      rw [this]
    split
    · intro h1
      have := sErr_at h h1
      show (sErr _ 5 j (sEr S)).2 = j
      rw [this]
    · exact fun h1 => absurd h h1
  · exact fun h1 => absurd h h1
theorem sScan_5 : ∀ j, (sEr (sScan tk w nv j)).1 ≤ 5
  | 0 => Nat.zero_le _
  | j + 1 => by
    have h := sScan_5 j
    show (sEr (sStep tk w nv (sScan tk w nv j) j)).1 ≤ 5
    generalize sScan tk w nv j = S at h
    unfold sStep
    split
    · exact h
    split
    · exact sErr_5 (by decide) h
    split
    · unfold sName
      split
      · exact sErr_5 (by decide) (sErr_5 (by decide) h)
      · exact sErr_5 (by decide) h
    split
    · unfold sNum
      split
      · exact sErr_5 (by decide) h
      split
      · exact sErr_5 (by decide) h
      · exact h
    · exact h
/-- bounds that always hold -/
theorem sScan_in (ht : ∀ j, 1 ≤ tk j) : ∀ j, sNt (sScan tk w nv j) ≤ 16 ∧ sNn (sScan tk w nv j) ≤ 48 ∧ sNo (sScan tk w nv j) ≤ j ∧ sSd (sScan tk w nv j) ≤ j ∧ (sL (sScan tk w nv j) = 0 ∨ sL (sScan tk w nv j) = 1 ∨ sL (sScan tk w nv j) = 3 ∨ sL (sScan tk w nv j) = 4 ∨ sL (sScan tk w nv j) = 7 ∨ sL (sScan tk w nv j) = 8) ∧ (∀ i, i < sNt (sScan tk w nv j) → sNk (sScan tk w nv j) i < j ∧ tk (sNk (sScan tk w nv j) i) = 41)
  | 0 => ⟨Nat.zero_le _, Nat.zero_le _, Nat.zero_le _, Nat.zero_le _, Or.inl rfl, fun i hi => absurd hi (Nat.not_lt_zero _)⟩
  | j + 1 => by
    obtain ⟨h1, h2, h3, h4, h5, h6⟩ := sScan_in ht j
    show sNt (sStep tk w nv (sScan tk w nv j) j) ≤ 16 ∧ sNn (sStep tk w nv (sScan tk w nv j) j) ≤ 48 ∧ sNo (sStep tk w nv (sScan tk w nv j) j) ≤ j + 1 ∧ sSd (sStep tk w nv (sScan tk w nv j) j) ≤ j + 1 ∧ (sL (sStep tk w nv (sScan tk w nv j) j) = 0 ∨ sL (sStep tk w nv (sScan tk w nv j) j) = 1 ∨ sL (sStep tk w nv (sScan tk w nv j) j) = 3 ∨ sL (sStep tk w nv (sScan tk w nv j) j) = 4 ∨ sL (sStep tk w nv (sScan tk w nv j) j) = 7 ∨ sL (sStep tk w nv (sScan tk w nv j) j) = 8) ∧ (∀ i, i < sNt (sStep tk w nv (sScan tk w nv j) j) → sNk (sStep tk w nv (sScan tk w nv j) j) i < j + 1 ∧ tk (sNk (sStep tk w nv (sScan tk w nv j) j) i) = 41)
    generalize sScan tk w nv j = S at h1 h2 h3 h4 h5 h6
    have h6' : ∀ i, i < sNt S → sNk S i < j + 1 ∧ tk (sNk S i) = 41 := fun i hi => ⟨by have := (h6 i hi).1; omega, (h6 i hi).2⟩
    unfold sStep
    split
    · rename_i z; exact ⟨h1, h2, by show sNo S ≤ j + 1; omega, by show sSd S ≤ j + 1; omega, by show tk j = 0 ∨ tk j = 1 ∨ tk j = 3 ∨ tk j = 4 ∨ tk j = 7 ∨ tk j = 8; omega, h6'⟩
    split
    · rename_i z; exact ⟨h1, h2, by show sNo S + 1 ≤ j + 1; omega, by show sSd S ≤ j + 1; omega, by show tk j = 0 ∨ tk j = 1 ∨ tk j = 3 ∨ tk j = 4 ∨ tk j = 7 ∨ tk j = 8; omega, h6'⟩
    split
    · rename_i z
      unfold sName
      split
      · refine ⟨?_, h2, by show sNo S ≤ j + 1; omega, by show sSd S ≤ j + 1; omega, h5, ?_⟩
        · show (if sNt S < 16 then sNt S + 1 else sNt S) ≤ 16
          split <;> omega
        · show ∀ i, i < (if sNt S < 16 then sNt S + 1 else sNt S) → (if sNt S < 16 then zU (sNk S) (sNt S) j else sNk S) i < j + 1 ∧ tk ((if sNt S < 16 then zU (sNk S) (sNt S) j else sNk S) i) = 41
          intro i hi
          by_cases h16 : sNt S < 16
          · rw [if_pos h16] at hi ⊢
            by_cases hq : i = sNt S
            · rw [hq, zU_same]; exact ⟨Nat.lt_succ_self j, z⟩
            · rw [zU_ne _ _ hq]; exact h6' i (by omega)
          · rw [if_neg h16] at hi ⊢
            exact h6' i hi
      · exact ⟨h1, h2, by show sNo S ≤ j + 1; omega, by show sSd S ≤ j + 1; omega, h5, h6'⟩
    split
    · unfold sNum
      split
      · exact ⟨h1, h2, by show sNo S ≤ j + 1; omega, by show sSd S + 1 ≤ j + 1; omega, h5, h6'⟩
      split
      · refine ⟨h1, ?_, by show sNo S ≤ j + 1; omega, by show sSd S ≤ j + 1; omega, h5, h6'⟩
        show (if sNn S < 48 then sNn S + 1 else sNn S) ≤ 48
        split <;> omega
      · exact ⟨h1, h2, by omega, by omega, h5, h6'⟩
    · exact ⟨h1, h2, by omega, by omega, h5, h6'⟩
end Scan
theorem mSame_comm (w : mWd) (a b : Nat) : mSame w a b = mSame w b a := by
  unfold mSame
  by_cases h : w.2.1 a = w.2.1 b
  · have e := zFf_ext (p := fun x => decide (w.2.2 (w.1 a + x) ≠ w.2.2 (w.1 b + x))) (q := fun x => decide (w.2.2 (w.1 b + x) ≠ w.2.2 (w.1 a + x))) (n := w.2.1 b) (fun x _ => by
      show decide (w.2.2 (w.1 a + x) ≠ w.2.2 (w.1 b + x)) = decide (w.2.2 (w.1 b + x) ≠ w.2.2 (w.1 a + x))
      exact decide_eq_decide.mpr ⟨Ne.symm, Ne.symm⟩)
    rw [decide_eq_true h, decide_eq_true h.symm, h, e]
  · rw [decide_eq_false h, decide_eq_false (fun z => h z.symm), Bool.false_and, Bool.false_and]
/-- the words on the tape -/
def tW (bt : Nat → Nat) (sz : Nat) : mWd := (tAt bt sz, (fun j => tStop bt sz (tAt bt sz j) - tAt bt sz j), fun i => nI (bt i))
def tNv (bt : Nat → Nat) (sz j : Nat) : Nat := tVal bt (tAt bt sz j) (tStop bt sz (tAt bt sz j) - tAt bt sz j)
section CMean
variable {bt : Nat → Nat} {sz : Nat}
abbrev tScan (bt : Nat → Nat) (sz : Nat) : Nat → sSt := sScan (tTk bt sz) (tW bt sz) (tNv bt sz)
theorem tScan_5 (bt : Nat → Nat) (sz j : Nat) : (sEr (tScan bt sz j)).1 ≤ 5 := sScan_5 (tk := tTk bt sz) (w := tW bt sz) (nv := tNv bt sz) j
theorem tScan_in (bt : Nat → Nat) (sz j : Nat) : sNt (tScan bt sz j) ≤ 16 ∧ sNn (tScan bt sz j) ≤ 48 ∧ sNo (tScan bt sz j) ≤ j ∧ sSd (tScan bt sz j) ≤ j ∧ (sL (tScan bt sz j) = 0 ∨ sL (tScan bt sz j) = 1 ∨ sL (tScan bt sz j) = 3 ∨ sL (tScan bt sz j) = 4 ∨ sL (tScan bt sz j) = 7 ∨ sL (tScan bt sz j) = 8) ∧ (∀ i, i < sNt (tScan bt sz j) → sNk (tScan bt sz j) i < j ∧ tTk bt sz (sNk (tScan bt sz j) i) = 41) := sScan_in (tk := tTk bt sz) (w := tW bt sz) (nv := tNv bt sz) (fun j => (tTk_in bt sz j).1) j
/-- the tiles that names in orders mean -/
def tTile (bt : Nat → Nat) (sz j : Nat) : Nat := (sKn (tW bt sz) (tScan bt sz j) j).getD 0
theorem nL (S : sSt) (hL : sL S = 0 ∨ sL S = 1 ∨ sL S = 3 ∨ sL S = 4 ∨ sL S = 7 ∨ sL S = 8) {k : Nat} (hk : k = 1 ∨ k = 3) : eKn1 (nI (if sL S = 0 then 42 else sL S)) = eKn1 (nI k) ↔ sL S = k := by
  have e : ∀ a, a = 0 ∨ a = 1 ∨ a = 3 ∨ a = 4 ∨ a = 7 ∨ a = 8 → 1 ≤ (if a = 0 then 42 else a) ∧ (if a = 0 then 42 else a) ≤ 44 := fun a ha => by
    by_cases h0 : a = 0
    · rw [if_pos h0]; decide
    · rw [if_neg h0]; omega
  have e1 := e (sL S) hL
  rw [eKn1_nI e1.1 e1.2, eKn1_nI (by omega) (by omega)]
  refine (nI_eq (by omega) (by omega)).trans ?_
  by_cases h0 : sL S = 0
  · rw [if_pos h0]; omega
  · rw [if_neg h0]
end CMean
