/-! ===== teaching, on both sides ===== -/
theorem sErr_le {c : Bool} {k j : Nat} {er : Nat × Nat} (h : er.2 ≤ j) : (sErr c k j er).2 ≤ j := by
  unfold sErr
  split
  · exact Nat.le_refl j
  · exact h
theorem sScan_tok {tk : Nat → Nat} {w : mWd} {nv : Nat → Nat} : ∀ j, (sEr (sScan tk w nv j)).2 ≤ j
  | 0 => Nat.le_refl 0
  | j + 1 => by
    have h := sScan_tok (tk := tk) (w := w) (nv := nv) j
    show (sEr (sStep tk w nv (sScan tk w nv j) j)).2 ≤ j + 1
    generalize sScan tk w nv j = S at h
    have h' : (sEr (sStep tk w nv S j)).2 ≤ j := by
      unfold sStep
      split
      · exact h
      split
      · exact sErr_le h
      split
      · unfold sName
        split
        · exact sErr_le (sErr_le h)
        · exact sErr_le h
      split
      · unfold sNum
        split
        · exact sErr_le h
        split
        · exact sErr_le h
        · exact h
      · exact h
    omega
theorem tScan_tok (bt : Nat → Nat) (sz j : Nat) : (sEr (tScan bt sz j)).2 ≤ j := sScan_tok (tk := tTk bt sz) (w := tW bt sz) (nv := tNv bt sz) j
theorem tScan_n1 (bt : Nat → Nat) (sz j : Nat) : (sEr (tScan bt sz j)).1 ≠ 1 := sScan_n1 (tk := tTk bt sz) (w := tW bt sz) (nv := tNv bt sz) j
section Teach
variable {bt : Nat → Nat} {sz : Nat}
theorem tEr_bad {e : Nat} (h : pGame (tTk bt sz) 2500 = some (.inl e)) : tEr bt sz = (1, e) := by unfold tEr; rw [h]
theorem tEr_good {os : List pOrd} (h : pGame (tTk bt sz) 2500 = some (.inr os)) : tEr bt sz = sEr (tScan bt sz (tT bt sz)) ∧ tOs bt sz = os := by
  unfold tEr tOs
  rw [h]
  exact ⟨rfl, rfl⟩
/-- a step's token in an order of a good game -/
theorem L_step {os : List pOrd} (hq : qOs bt sz os) (h0 : (sEr (tScan bt sz (tT bt sz))).1 = 0) {s : pSt} {o : pOrd} (ho : o ∈ os) (hs : s ∈ oCode o) (hk : pTok s.1) : s.2.1 < tT bt sz ∧ ((s.1 = 40 ∧ tTk bt sz s.2.1 = 40) ∨ (tTk bt sz s.2.1 = 41 ∧ sL (tScan bt sz s.2.1) ≠ 3)) := by
  obtain ⟨⟨p, q, q1, q2, q3⟩, -, -⟩ := hq o ho
  have q3' := q3
  obtain ⟨k1, k2, ⟨k3, k4, k5⟩, k6, k7, k8, -⟩ := q3
  obtain ⟨a, b, -⟩ := k8 s hs
  by_cases h40 : s.1 = 40
  · obtain ⟨c1, c2, c3⟩ := a h40
    exact ⟨by omega, Or.inl ⟨h40, c3⟩⟩
  · obtain ⟨c1, c2, c3⟩ := b (by unfold pTok at hk; omega)
    exact ⟨by omega, Or.inr ⟨c3, (L_name q2 q3' h0 c1 c2 c3).1⟩⟩
/-- each step of the game stands in one of its orders -/
theorem osCode_mem {os : List pOrd} {s : pSt} (h : s ∈ osCode os) : ∃ o, o ∈ os ∧ s ∈ oCode o := by
  unfold osCode at h
  obtain ⟨l, h1, h2⟩ := List.mem_flatten.mp h
  obtain ⟨o, h3, rfl⟩ := List.mem_map.mp h1
  exact ⟨o, h3, h2⟩
end Teach
