/-! ===== what a told game is ===== -/
theorem pTile_bad {tk : Nat → Nat} {T : Nat} (ht : pTk tk T) {p e : Nat} (hp : p < T) (hx : pTile tk p = some (.inl e)) : e ≤ T := by
  unfold pTile at hx
  rcases gEat_on hx with ⟨h1, hx⟩ | ⟨-, z⟩
  rotate_left
  · cases z; omega
  have g1 := ht.lt (show p + 1 ≤ T by omega) (by omega) (by omega)
  rcases gEat_on hx with ⟨h2, hx⟩ | ⟨-, z⟩
  rotate_left
  · cases z; omega
  have g2 := ht.lt (show p + 2 ≤ T by omega) (by omega) (by omega)
  rcases gEat_on hx with ⟨h3, hx⟩ | ⟨-, z⟩
  rotate_left
  · cases z; omega
  have g3 := ht.lt (show p + 3 ≤ T by omega) (by omega) (by omega)
  rcases gEat_on hx with ⟨h4, hx⟩ | ⟨-, z⟩
  rotate_left
  · cases z; omega
  cases hx
theorem sStep_mono {tk : Nat → Nat} {w : mWd} {nv : Nat → Nat} (S : sSt) (j : Nat) : sNt S ≤ sNt (sStep tk w nv S j) := by
  unfold sStep
  split
  · exact Nat.le_refl _
  split
  · exact Nat.le_refl _
  split
  · unfold sName
    split
    · show sNt S ≤ (if sNt S < 16 then sNt S + 1 else sNt S)
      split <;> omega
    · exact Nat.le_refl _
  split
  · unfold sNum
    split
    · exact Nat.le_refl _
    split
    · exact Nat.le_refl _
    · exact Nat.le_refl _
  · exact Nat.le_refl _
theorem sScan_mono {tk : Nat → Nat} {w : mWd} {nv : Nat → Nat} (j : Nat) : ∀ d, sNt (sScan tk w nv j) ≤ sNt (sScan tk w nv (j + d))
  | 0 => Nat.le_refl _
  | d + 1 => Nat.le_trans (sScan_mono j d) (sStep_mono (sScan tk w nv (j + d)) (j + d))
theorem sErr_n1 {c : Bool} {k j : Nat} {er : Nat × Nat} (hk : k ≠ 1) (h : er.1 ≠ 1) : (sErr c k j er).1 ≠ 1 := by
  unfold sErr
  split
  · exact hk
  · exact h
theorem sScan_n1 {tk : Nat → Nat} {w : mWd} {nv : Nat → Nat} : ∀ j, (sEr (sScan tk w nv j)).1 ≠ 1
  | 0 => by show (0 : Nat) ≠ 1; decide
  | j + 1 => by
    have h := sScan_n1 (tk := tk) (w := w) (nv := nv) j
    show (sEr (sStep tk w nv (sScan tk w nv j) j)).1 ≠ 1
    generalize sScan tk w nv j = S at h
    unfold sStep
    split
    · exact h
    split
    · exact sErr_n1 (by decide) h
    split
    · unfold sName
      split
      · exact sErr_n1 (by decide) (sErr_n1 (by decide) h)
      · exact sErr_n1 (by decide) h
    split
    · unfold sNum
      split
      · exact sErr_n1 (by decide) h
      split
      · exact sErr_n1 (by decide) h
      · exact h
    · exact h
theorem b0_N (wd r n : Nat) (nu : Nat → Nat) : bN (b0 wd r n nu) = n := rfl
section Told
variable {bt : Nat → Nat} {sz : Nat}
theorem tScan_er0 {j q : Nat} (h : (sEr (tScan bt sz q)).1 = 0) (hj : j ≤ q) : (sEr (tScan bt sz j)).1 = 0 := sScan_er0 (tk := tTk bt sz) (w := tW bt sz) (nv := tNv bt sz) h hj
theorem tScan_ok {q : Nat} (h : (sEr (tScan bt sz q)).1 = 0) : (3 ≤ sCol (tScan bt sz q) ∧ sCol (tScan bt sz q) ≤ 7) ∧ (3 ≤ sRow (tScan bt sz q) ∧ sRow (tScan bt sz q) ≤ 7) ∧ (∀ i, i < sNn (tScan bt sz q) → sNu (tScan bt sz q) i ≤ 9) ∧ sNo (tScan bt sz q) ≤ 16 := sScan_ok (tk := tTk bt sz) (w := tW bt sz) (nv := tNv bt sz) q h
theorem tScan_mono {j q : Nat} (h : j ≤ q) : sNt (tScan bt sz j) ≤ sNt (tScan bt sz q) := by
  obtain ⟨d, rfl⟩ : ∃ d, q = j + d := ⟨q - j, by omega⟩
  exact sScan_mono (tk := tTk bt sz) (w := tW bt sz) (nv := tNv bt sz) j d
/-- what a token means -/
def tV (bt : Nat → Nat) (sz t : Nat) : Nat := if tTk bt sz t = 40 then tNv bt sz t else tTile bt sz t
def qOrd (bt : Nat → Nat) (sz : Nat) (o : pOrd) : Prop := ∃ p q, p < tT bt sz ∧ (tTk bt sz p = 4 ∨ tTk bt sz p = 7 ∨ tTk bt sz p = 8) ∧ pOk (tTk bt sz) (tT bt sz) p (oFrom o) q o
def qOs (bt : Nat → Nat) (sz : Nat) (os : List pOrd) : Prop := ∀ o, o ∈ os → qOrd bt sz o ∧ oEnd o ≤ (osCode os).length ∧ ∀ j s, (oCode o)[j]? = some s → (osCode os)[oFrom o + j]? = some s
theorem qOs.app {os : List pOrd} {o : pOrd} (h : qOs bt sz os) (ho : qOrd bt sz o) (hb : oFrom o = (osCode os).length) : qOs bt sz (os ++ [o]) := by
  intro o' h'
  have hl : (osCode (os ++ [o])).length = (osCode os).length + (oCode o).length := by rw [osCode_app, List.length_append]
  rcases List.mem_append.mp h' with z | z
  · obtain ⟨a1, a2, a3⟩ := h o' z
    refine ⟨a1, by omega, fun j s hs => ?_⟩
    have h1 := a3 j s hs
    have hj : oFrom o' + j < (osCode os).length := by
      rcases Nat.lt_or_ge (oFrom o' + j) (osCode os).length with h2 | h2
      · exact h2
      · rw [List.getElem?_eq_none h2] at h1; cases h1
    rw [osCode_app, List.getElem?_append_left hj]
    exact h1
  · rw [List.mem_singleton.mp z]
    refine ⟨ho, ?_, fun j s hs => ?_⟩
    · rw [hl, ← hb, oCode_len]
      exact Nat.le_refl _
    · rw [osCode_app, List.getElem?_append_right (by omega), hb, Nat.add_sub_cancel_left]
      exact hs
/-- a tile's line in the scan -/
theorem tScan_tile {p : Nat} (h3 : tTk bt sz p = 3) (h41 : tTk bt sz (p + 1) = 41) (a : tTk bt sz (p + 2) = 40) (b : tTk bt sz (p + 3) = 40) (c : tTk bt sz (p + 4) = 40) (h0 : (sEr (tScan bt sz (p + 5))).1 = 0) (hn : sNn (tScan bt sz p) = 3 * sNt (tScan bt sz p)) : sNn (tScan bt sz (p + 5)) = 3 * sNt (tScan bt sz (p + 5)) := by
  obtain ⟨s1, -⟩ := tScan_in bt sz p
  have e1 : tScan bt sz (p + 1) = ((3, (tScan bt sz p).1.2), (tScan bt sz p).2) := by
    show sStep (tTk bt sz) (tW bt sz) (tNv bt sz) (tScan bt sz p) p = _
    unfold sStep
    rw [if_pos (Or.inr h3), h3]
  generalize tScan bt sz p = S at e1 hn s1
  have e2 : tScan bt sz (p + 2) = ((3, (if sNt S < 16 then sNt S + 1 else sNt S), sNo S, sNn S, sSd S), (if sNt S < 16 then zU (sNk S) (sNt S) (p + 1) else sNk S), sNu S, S.2.2.2.1, sErr (decide (16 ≤ sNt S)) 4 (p + 1) (sErr (sKn (tW bt sz) (tScan bt sz (p + 1)) (p + 1)).isSome 2 (p + 1) (sEr S))) := by
    show sStep (tTk bt sz) (tW bt sz) (tNv bt sz) (tScan bt sz (p + 1)) (p + 1) = _
    unfold sStep
    rw [if_neg (by omega), if_neg (by omega), if_pos h41]
    unfold sName
    rw [e1, if_pos rfl]
  have z2 : (sEr (tScan bt sz (p + 2))).1 = 0 := tScan_er0 h0 (by omega)
  have h16 : sNt S < 16 := by
    rcases Nat.lt_or_ge (sNt S) 16 with h | h
    · exact h
    · rw [e2] at z2
      have z2' : (sErr (decide (16 ≤ sNt S)) 4 (p + 1) (sErr (sKn (tW bt sz) (tScan bt sz (p + 1)) (p + 1)).isSome 2 (p + 1) (sEr S))).1 = 0 := z2
      rw [decide_eq_true h] at z2'
      by_cases y : (sErr (sKn (tW bt sz) (tScan bt sz (p + 1)) (p + 1)).isSome 2 (p + 1) (sEr S)).1 = 0
      · rw [sErr_t y] at z2'
        exact absurd z2' (Nat.succ_ne_zero _)
      · rw [sErr_keep y] at z2'
        exact absurd z2' y
  rw [if_pos h16, if_pos h16] at e2
  have num : ∀ q, tTk bt sz q = 40 → sL (tScan bt sz q) = 3 → sNn (tScan bt sz q) < 48 → sL (tScan bt sz (q + 1)) = 3 ∧ sNt (tScan bt sz (q + 1)) = sNt (tScan bt sz q) ∧ sNn (tScan bt sz (q + 1)) = sNn (tScan bt sz q) + 1 := by
    intro q hq hl hn48
    have e : tScan bt sz (q + 1) = ((sL (tScan bt sz q), sNt (tScan bt sz q), sNo (tScan bt sz q), (if sNn (tScan bt sz q) < 48 then sNn (tScan bt sz q) + 1 else sNn (tScan bt sz q)), sSd (tScan bt sz q)), sNk (tScan bt sz q), (if sNn (tScan bt sz q) < 48 then zU (sNu (tScan bt sz q)) (sNn (tScan bt sz q)) (tNv bt sz q) else sNu (tScan bt sz q)), (tScan bt sz q).2.2.2.1, sErr (decide (9 < tNv bt sz q)) 5 q (sEr (tScan bt sz q))) := by
      show sStep (tTk bt sz) (tW bt sz) (tNv bt sz) (tScan bt sz q) q = _
      unfold sStep
      rw [if_neg (by omega), if_neg (by omega), if_neg (by omega), if_pos hq]
      unfold sNum
      rw [if_neg (by omega), if_pos hl]
    rw [e]
    refine ⟨hl, rfl, ?_⟩
    show (if sNn (tScan bt sz q) < 48 then sNn (tScan bt sz q) + 1 else sNn (tScan bt sz q)) = _
    rw [if_pos hn48]
  have l2 : sL (tScan bt sz (p + 2)) = 3 := by rw [e2]
  have t2 : sNt (tScan bt sz (p + 2)) = sNt S + 1 := by rw [e2]
  have n2 : sNn (tScan bt sz (p + 2)) = sNn S := by rw [e2]
  obtain ⟨l3, t3, n3⟩ := num (p + 2) a l2 (by omega)
  have n3' : sNn (tScan bt sz (p + 3)) = sNn (tScan bt sz (p + 2)) + 1 := n3
  obtain ⟨l4, t4, n4⟩ := num (p + 3) b l3 (by omega)
  have n4' : sNn (tScan bt sz (p + 4)) = sNn (tScan bt sz (p + 3)) + 1 := n4
  obtain ⟨l5, t5, n5⟩ := num (p + 4) c l4 (by omega)
  have t5' : sNt (tScan bt sz (p + 5)) = sNt (tScan bt sz (p + 4)) := t5
  have n5' : sNn (tScan bt sz (p + 5)) = sNn (tScan bt sz (p + 4)) + 1 := n5
  have t4' : sNt (tScan bt sz (p + 4)) = sNt (tScan bt sz (p + 3)) := t4
  have t3' : sNt (tScan bt sz (p + 3)) = sNt (tScan bt sz (p + 2)) := t3
  omega
theorem tScan_tileNo {p : Nat} (h3 : tTk bt sz p = 3) (h41 : tTk bt sz (p + 1) = 41) (a : tTk bt sz (p + 2) = 40) (b : tTk bt sz (p + 3) = 40) (c : tTk bt sz (p + 4) = 40) : sNo (tScan bt sz (p + 5)) = sNo (tScan bt sz p) := by
  have one : ∀ q, tTk bt sz q = 3 ∨ tTk bt sz q = 40 ∨ tTk bt sz q = 41 → sNo (tScan bt sz (q + 1)) = sNo (tScan bt sz q) := by
    intro q hq
    show sNo (sStep (tTk bt sz) (tW bt sz) (tNv bt sz) (tScan bt sz q) q) = _
    unfold sStep
    split
    · rfl
    split
    · rename_i z; omega
    split
    · unfold sName
      split
      · rfl
      · rfl
    split
    · unfold sNum
      split
      · rfl
      split
      · rfl
      · rfl
    · rfl
  have e1 := one p (Or.inl h3)
  have e2 := one (p + 1) (Or.inr (Or.inr h41))
  have e3 := one (p + 2) (Or.inr (Or.inl a))
  have e4 := one (p + 3) (Or.inr (Or.inl b))
  have e5 := one (p + 4) (Or.inr (Or.inl c))
  have e2' : sNo (tScan bt sz (p + 2)) = sNo (tScan bt sz (p + 1)) := e2
  have e3' : sNo (tScan bt sz (p + 3)) = sNo (tScan bt sz (p + 2)) := e3
  have e4' : sNo (tScan bt sz (p + 4)) = sNo (tScan bt sz (p + 3)) := e4
  have e5' : sNo (tScan bt sz (p + 5)) = sNo (tScan bt sz (p + 4)) := e5
  omega
/-- the end changes nothing -/
theorem tScan_end (h : tTk bt sz (tT bt sz) = 42) : tScan bt sz (tT bt sz + 1) = tScan bt sz (tT bt sz) := by
  show sStep (tTk bt sz) (tW bt sz) (tNv bt sz) (tScan bt sz (tT bt sz)) (tT bt sz) = _
  unfold sStep
  rw [if_neg (by omega), if_neg (by omega), if_neg (by omega), if_neg (by omega)]
/-- the outcome of a tape: its error and the token, and the orders -/
def tEr (bt : Nat → Nat) (sz : Nat) : Nat × Nat := match pGame (tTk bt sz) 2500 with
  | some (.inl e) => (1, e)
  | _ => sEr (tScan bt sz (tT bt sz))
def tOs (bt : Nat → Nat) (sz : Nat) : List pOrd := match pGame (tTk bt sz) 2500 with
  | some (.inr os) => os
  | _ => []
def tB0 (bt : Nat → Nat) (sz : Nat) : eBd := b0 (sCol (tScan bt sz (tT bt sz))) (sRow (tScan bt sz (tT bt sz))) (sNt (tScan bt sz (tT bt sz))) (sNu (tScan bt sz (tT bt sz)))
end Told
