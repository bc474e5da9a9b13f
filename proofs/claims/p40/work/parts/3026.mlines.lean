/-! ===== the model reads tiles, lines, the game ===== -/
section MLines
variable {bt : Nat → Nat} {sz : Nat} {nt : Nat} {nk : Nat → Nat}
theorem tNv_lt {p : Nat} (hp : p ≤ tT bt sz) (h40 : tTk bt sz p = 40) : tNv bt sz p < 2 ^ 31 := by
  have ht := tTk_pTk bt sz
  have hjT : p < tT bt sz := ht.lt hp (by omega) (by omega)
  have hok := tTk_ok ((tT_is bt sz).2.2 p hjT)
  obtain ⟨d1, d2, d3⟩ := tNum hok.1 (by rw [← hok.2.2]; exact h40)
  have hst := tStop_in (bt := bt) hok.1
  have hval : ∀ n, n ≤ tStop bt sz (tAt bt sz p) - tAt bt sz p → tVal bt (tAt bt sz p) n < 10 ^ n := by
    intro n
    induction n with
    | zero => intro _; exact Nat.one_pos
    | succ n ih =>
      intro hn
      have h1 := ih (by omega)
      have h2 := d2 (tAt bt sz p + n) (by omega) (by omega)
      unfold tD at h2
      rw [Bool.and_eq_true] at h2
      have h3 := of_decide_eq_true h2.2
      rw [tVal, Nat.pow_succ]
      omega
  have h1 := hval _ (Nat.le_refl _)
  have h2 : 10 ^ (tStop bt sz (tAt bt sz p) - tAt bt sz p) ≤ 10 ^ 6 := Nat.pow_le_pow_right (by decide) d3
  unfold tNv
  omega
theorem scan29 {q : Nat} (h : tTk bt sz q = 29) : tScan bt sz (q + 1) = tScan bt sz q := by
  show sStep (tTk bt sz) (tW bt sz) (tNv bt sz) (tScan bt sz q) q = _
  unfold sStep
  rw [if_neg (by omega), if_neg (by omega), if_neg (by omega), if_neg (by omega)]
end MLines
