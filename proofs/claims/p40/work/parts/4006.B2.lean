/-! ===== decimal digits ===== -/
def dgs : Nat → Nat → List Nat
  | 0, _ => []
  | f + 1, n => if n < 10 then [48 + n] else dgs f (n / 10) ++ [48 + n % 10]
/-- up to ten digits -/
def dg (n : Nat) : List Nat := dgs 10 n
theorem dgs_digit : ∀ (f n : Nat), ∀ x ∈ dgs f n, tD x = true
  | 0, _ => fun x hx => absurd hx List.not_mem_nil
  | f + 1, n => by
    intro x hx
    unfold dgs at hx
    have key : ∀ m, m < 10 → tD (48 + m) = true := by decide
    split at hx
    · rename_i hn
      rw [List.mem_singleton.mp hx]
      exact key n hn
    · rcases List.mem_append.mp hx with h | h
      · exact dgs_digit f (n / 10) x h
      · rw [List.mem_singleton.mp h]
        exact key _ (Nat.mod_lt _ (by decide))
theorem dgs_len : ∀ (f n : Nat), n < 10 ^ (f + 1) → 1 ≤ (dgs (f + 1) n).length ∧ (dgs (f + 1) n).length ≤ f + 1
  | 0, n, h => by
    unfold dgs
    rw [if_pos (by simpa using h)]
    exact ⟨Nat.le_refl 1, Nat.le_refl 1⟩
  | f + 1, n, h => by
    unfold dgs
    by_cases hq : n < 10
    · rw [if_pos hq]
      exact ⟨Nat.le_refl 1, by show 1 ≤ f + 1 + 1; omega⟩
    · rw [if_neg hq, List.length_append, List.length_singleton]
      have h2 : n / 10 < 10 ^ (f + 1) := by
        rw [Nat.pow_succ] at h
        omega
      have := dgs_len f (n / 10) h2
      omega
theorem dgs_more : ∀ (f g n : Nat), n < 10 ^ (f + 1) → f ≤ g → dgs (g + 1) n = dgs (f + 1) n
  | 0, g, n, h, _ => by
    have hn : n < 10 := by simpa using h
    unfold dgs
    rw [if_pos hn, if_pos hn]
  | f + 1, 0, n, _, hg => absurd hg (by omega)
  | f + 1, g + 1, n, h, hg => by
    have h2 : n < 10 → True := fun _ => trivial
    rw [show dgs (g + 1 + 1) n = if n < 10 then [48 + n] else dgs (g + 1) (n / 10) ++ [48 + n % 10] from rfl, show dgs (f + 1 + 1) n = if n < 10 then [48 + n] else dgs (f + 1) (n / 10) ++ [48 + n % 10] from rfl]
    by_cases hq : n < 10
    · rw [if_pos hq, if_pos hq]
    · rw [if_neg hq, if_neg hq, dgs_more f g (n / 10) (by rw [Nat.pow_succ] at h; omega) (by omega)]
theorem dg_len {n f : Nat} (h : n < 10 ^ (f + 1)) (hf : f ≤ 9) : 1 ≤ (dg n).length ∧ (dg n).length ≤ f + 1 := by
  unfold dg
  rw [dgs_more f 9 n h hf]
  exact dgs_len f n h
theorem dg_digit (n : Nat) : ∀ x ∈ dg n, tD x = true := dgs_digit 10 n
section DgVal
variable {bt : Nat → Nat} {sz : Nat}
theorem tVal_dgs : ∀ (f n p : Nat), n < 10 ^ (f + 1) → tF bt sz p (dgs (f + 1) n) → tVal bt p (dgs (f + 1) n).length = n
  | 0, n, p, h, ht => by
    have hn : n < 10 := by simpa using h
    unfold dgs at ht ⊢
    rw [if_pos hn] at ht ⊢
    show tVal bt p 0 * 10 + (bt (p + 0) - 48) = n
    rw [ht.2 0 (48 + n) rfl]
    show 0 * 10 + (48 + n - 48) = n
    omega
  | f + 1, n, p, h, ht => by
    have e : dgs (f + 1 + 1) n = if n < 10 then [48 + n] else dgs (f + 1) (n / 10) ++ [48 + n % 10] := rfl
    rw [e] at ht ⊢
    by_cases hq : n < 10
    · rw [if_pos hq] at ht ⊢
      show tVal bt p 0 * 10 + (bt (p + 0) - 48) = n
      rw [ht.2 0 (48 + n) rfl]
      show 0 * 10 + (48 + n - 48) = n
      omega
    · rw [if_neg hq] at ht ⊢
      rw [List.length_append, List.length_singleton]
      show tVal bt p (dgs (f + 1) (n / 10)).length * 10 + (bt (p + (dgs (f + 1) (n / 10)).length) - 48) = n
      rw [tVal_dgs f (n / 10) p (by rw [Nat.pow_succ] at h; omega) ht.left]
      have h1 := ht.right.head.2
      rw [h1]
      omega
theorem tVal_dg {n p : Nat} (h : n < 10 ^ 10) (ht : tF bt sz p (dg n)) : tVal bt p (dg n).length = n := tVal_dgs 9 n p h ht
end DgVal
