/-! ===== the class cuts its tape ===== -/
section CTok
variable {bt : Nat → Nat} {sz : Nat}
theorem tNum {bt : Nat → Nat} {sz a : Nat} (ha : a < sz) (h : tKind bt sz a = 40) : tD (bt a) = true ∧ (∀ j, a ≤ j → j < tStop bt sz a → tD (bt j) = true) ∧ tStop bt sz a - a ≤ 6 := by
  have hs := tStop_in (bt := bt) ha
  unfold tKind at h
  by_cases h1 : tL (bt a) = true
  · rw [if_pos h1] at h
    by_cases h2 : tStop bt sz a - a ≤ 10
    · rw [if_pos h2] at h
      rcases tTxt_in (bt := bt) (a := a) (n := tStop bt sz a - a) (o := 41) (by omega) with z | z
      · rw [z] at h; cases h
      · omega
    · rw [if_neg h2] at h; cases h
  · rw [if_neg h1] at h
    by_cases h2 : tD (bt a) = true
    · rw [if_pos h2] at h
      refine ⟨h2, fun j j1 j2 => ?_, ?_⟩
      · unfold tStop at j2
        rw [if_neg h1, if_pos h2] at j2
        exact (tEnd_in (bt := bt) (p := tD) (show a ≤ sz by omega)).2.2 j j1 j2
      · by_cases h3 : tStop bt sz a - a ≤ 6
        · exact h3
        · rw [if_neg h3] at h; cases h
    · rw [if_neg h2] at h
      rcases tTxt_in (bt := bt) (a := a) (n := tStop bt sz a - a) (o := 43) (by omega) with z | z
      · rw [z] at h; cases h
      · omega
end CTok
