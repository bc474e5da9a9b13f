/-! ===== the model reads orders, tiles, lines ===== -/
section MOrder
variable {bt : Nat → Nat} {sz : Nat}
/-- the error at each token of an order's line -/
theorem O_er {p q : Nat} (hk : tTk bt sz p = 4 ∨ tTk bt sz p = 7 ∨ tTk bt sz p = 8) (hn : ∀ j, p + 1 ≤ j → j < q → tTk bt sz j ≠ 1 ∧ tTk bt sz j ≠ 3 ∧ tTk bt sz j ≠ 4 ∧ tTk bt sz j ≠ 7 ∧ tTk bt sz j ≠ 8) : sL (tScan bt sz (p + 1)) = tTk bt sz p ∧ sNt (tScan bt sz (p + 1)) = sNt (tScan bt sz p) ∧ sNo (tScan bt sz (p + 1)) = sNo (tScan bt sz p) + 1 ∧ sNk (tScan bt sz (p + 1)) = sNk (tScan bt sz p) ∧ sEr (tScan bt sz (p + 1)) = sErr (decide (16 ≤ sNo (tScan bt sz p))) 4 p (sEr (tScan bt sz p)) ∧ (∀ d, p + 1 + d ≤ q → (tScan bt sz (p + 1 + d)).1 = (tScan bt sz (p + 1)).1 ∧ sNk (tScan bt sz (p + 1 + d)) = sNk (tScan bt sz p) ∧ sNu (tScan bt sz (p + 1 + d)) = sNu (tScan bt sz p) ∧ (tScan bt sz (p + 1 + d)).2.2.2.1 = (tScan bt sz p).2.2.2.1 ∧ sEr (tScan bt sz (p + 1 + d)) = eLoc (tTk bt sz) (mKn (tW bt sz) (sNt (tScan bt sz p)) (sNk (tScan bt sz p))) (p + 1) (sEr (tScan bt sz (p + 1))) d) := by
  have e : tScan bt sz (p + 1) = ((tTk bt sz p, sNt (tScan bt sz p), sNo (tScan bt sz p) + 1, sNn (tScan bt sz p), sSd (tScan bt sz p)), sNk (tScan bt sz p), sNu (tScan bt sz p), (tScan bt sz p).2.2.2.1, sErr (decide (16 ≤ sNo (tScan bt sz p))) 4 p (sEr (tScan bt sz p))) := by
    show sStep (tTk bt sz) (tW bt sz) (tNv bt sz) (tScan bt sz p) p = _
    unfold sStep
    rw [if_neg (by omega), if_pos hk]
  have e1 : sL (tScan bt sz (p + 1)) = tTk bt sz p := by rw [e]
  have e2 : sNt (tScan bt sz (p + 1)) = sNt (tScan bt sz p) := by rw [e]
  have e3 : sNk (tScan bt sz (p + 1)) = sNk (tScan bt sz p) := by rw [e]
  have e4 : sNu (tScan bt sz (p + 1)) = sNu (tScan bt sz p) := by rw [e]
  have e5 : (tScan bt sz (p + 1)).2.2.2.1 = (tScan bt sz p).2.2.2.1 := by rw [e]
  refine ⟨e1, e2, by rw [e], e3, by rw [e], fun d hd => ?_⟩
  obtain ⟨k1, k2, k3, k4, k5⟩ := sScan_mid (w := tW bt sz) (nv := tNv bt sz) hn (by rw [show sScan (tTk bt sz) (tW bt sz) (tNv bt sz) (p + 1) = tScan bt sz (p + 1) from rfl, e1]; omega) d hd
  refine ⟨k1, k2.trans e3, k3.trans e4, k4.trans e5, ?_⟩
  have k5' : sEr (tScan bt sz (p + 1 + d)) = eLoc (tTk bt sz) (mKn (tW bt sz) (sNt (tScan bt sz (p + 1))) (sNk (tScan bt sz (p + 1)))) (p + 1) (sEr (tScan bt sz (p + 1))) d := k5
  rw [e2, e3] at k5'
  exact k5'
end MOrder
