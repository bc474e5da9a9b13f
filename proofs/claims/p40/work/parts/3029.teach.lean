/-! ===== teaching, on both sides ===== -/
theorem sErr_le {c : Bool} {k j : Nat} {er : Nat × Nat} (h : er.2 ≤ j) : (sErr c k j er).2 ≤ j := by
  unfold sErr
  split
  · exact Nat.le_refl j
  · exact h
theorem sScan_tok {tk : Nat → Nat} {w : mWd} {nv : Nat → Nat} : ∀ j, (sEr (sScan tk w nv j)).2 ≤ j
  | 0 => Nat.le_refl 0
  | j + 1 => by
    have h := sScan_tok (tk := tk) (w := w) (nv := nv) j
    show (sEr (sStep tk w nv (sScan tk w nv j) j)).2 ≤ j + 1
    generalize sScan tk w nv j = S at h
    have h' : (sEr (sStep tk w nv S j)).2 ≤ j := by
      unfold sStep
      split
      · exact h
      split
      · exact sErr_le h
      split
      · unfold sName
        split
        · exact sErr_le (sErr_le h)
        · exact sErr_le h
      split
      · unfold sNum
        split
        · exact sErr_le h
        split
        · exact sErr_le h
        · exact h
      · exact h
    omega
theorem tScan_tok (bt : Nat → Nat) (sz j : Nat) : (sEr (tScan bt sz j)).2 ≤ j := sScan_tok (tk := tTk bt sz) (w := tW bt sz) (nv := tNv bt sz) j
theorem tScan_n1 (bt : Nat → Nat) (sz j : Nat) : (sEr (tScan bt sz j)).1 ≠ 1 := sScan_n1 (tk := tTk bt sz) (w := tW bt sz) (nv := tNv bt sz) j
section Teach
variable {bt : Nat → Nat} {sz : Nat}
theorem tEr_bad {e : Nat} (h : pGame (tTk bt sz) 2500 = some (.inl e)) : tEr bt sz = (1, e) := by unfold tEr; rw [h]
theorem tEr_good {os : List pOrd} (h : pGame (tTk bt sz) 2500 = some (.inr os)) : tEr bt sz = sEr (tScan bt sz (tT bt sz)) ∧ tOs bt sz = os := by
  unfold tEr tOs
  rw [h]
  exact ⟨rfl, rfl⟩
/-- each step of the game stands in one of its orders -/
theorem osCode_mem {os : List pOrd} {s : pSt} (h : s ∈ osCode os) : ∃ o, o ∈ os ∧ s ∈ oCode o := by
  unfold osCode at h
  obtain ⟨l, h1, h2⟩ := List.mem_flatten.mp h
  obtain ⟨o, h3, rfl⟩ := List.mem_map.mp h1
  exact ⟨o, h3, h2⟩
end Teach
