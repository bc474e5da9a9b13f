/-! ===== the class reads sums and tests ===== -/
/-- steps whose token counts -/
def pTok (k : Nat) : Prop := k = 40 ∨ k = 16 ∨ k = 18 ∨ k = 19
theorem eKn1_nI {k : Nat} (h1 : 1 ≤ k) (h2 : k ≤ 44) : eKn1 (nI k) = nI k := by
  unfold eKn1
  rw [if_pos ⟨(nI_leI (a := 1) (by decide) (by omega)).mpr h1, (nI_leI (b := 44) (by omega) (by decide)).mpr h2⟩]
