/-! ===== the JDK's methods that are called: texts, ordinal ===== -/
section EJdk
variable {lo n : Nat}
theorem eIn_lt {i : Int32} {N : Nat} (h : vp_in i N) (hN : N < 2 ^ 31) : ¬ i < 0 ∧ i < nI N := by
  obtain ⟨j, hj, rfl⟩ := vp_in_of h hN
  exact ⟨nI_pos (by omega), nI_lt hj hN⟩
end EJdk
def eFm (x y : Int32) : Int32 := if 0 ≤ x ^^^ y then x - x / y * y else if x - x / y * y = 0 then x - x / y * y else x - x / y * y + y
theorem eKlen {j : Nat} (hj : j < eKtx.length) : (eKtx.getD j []).length < 2 ^ 31 := by
  have h : ∀ j, j < 44 → (eKtx.getD j []).length < 2 ^ 31 := by decide +kernel
  exact h j hj
theorem eWlen {j : Nat} (hj : j < eWtx.length) : (eWtx.getD j []).length < 2 ^ 31 := by
  have h : ∀ j, j < 24 → (eWtx.getD j []).length < 2 ^ 31 := by decide +kernel
  exact h j hj
/-! texts, their letters by place -/
def eKl (k : Nat) : Int32 := nI (eKtx.getD k []).length
def eKc (k j : Nat) : Int32 := (eKtx.getD k []).getD j 0 &&& 255
def eWl (k : Nat) : Int32 := nI (eWtx.getD k []).length
def eWc (k j : Nat) : Int32 := (eWtx.getD k []).getD j 0 &&& 255
