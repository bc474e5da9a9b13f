/-! ===== the best way is a way, and none brings more ===== -/
theorem zBest_none {p : Nat → Bool} {g : Nat → Nat} : ∀ {n : Nat}, zBest p g n = none → ∀ i, i < n → p i = false
  | 0, _ => fun i hi => absurd hi (by omega)
  | n + 1, h => by
    intro i hi
    rw [zBest] at h
    cases h1 : zBest p g n with
    | some b =>
      rw [h1] at h
      try dsimp only at h
      split at h <;> cases h
    | none =>
      rw [h1] at h
      try dsimp only at h
      by_cases hq : i = n
      · rw [hq]
        cases h2 : p n with
        | false => rfl
        | true => rw [h2] at h; cases h
      · exact zBest_none h1 i (by omega)
theorem zBest_max {p : Nat → Bool} {g : Nat → Nat} : ∀ {n b : Nat}, zBest p g n = some b → ∀ i, i < n → p i = true → g i ≤ g b
  | 0, _, h => by cases h
  | n + 1, b, h => by
    intro i hi hp
    rw [zBest] at h
    cases h1 : zBest p g n with
    | none =>
      rw [h1] at h
      try dsimp only at h
      cases h2 : p n with
      | false => rw [h2] at h; cases h
      | true =>
        rw [h2] at h
        cases h
        by_cases hq : i = n
        · rw [hq]; exact Nat.le_refl _
        · exact absurd hp (by rw [zBest_none h1 i (by omega)]; decide)
    | some a =>
      rw [h1] at h
      try dsimp only at h
      have ih := zBest_max h1
      split at h
      · rename_i h5
        cases h
        simp only [Bool.and_eq_true, decide_eq_true_eq] at h5
        by_cases hq : i = n
        · rw [hq]; exact Nat.le_refl _
        · have := ih i (by omega) hp
          omega
      · rename_i h5
        cases h
        by_cases hq : i = n
        · subst hq
          refine Nat.not_lt.mp (fun z => h5 ?_)
          rw [hp, decide_eq_true z]
          rfl
        · exact ih i (by omega) hp
theorem bFits_lies {B : eBd} {k c t : Nat} (h : bFits B k c t = true) : bCe B k = none ∧ bAt B c = none := ⟨(bFits_face h).1, (bFits_face h).2.1⟩
section Best
variable {B : eBd}
theorem bAny_of {k c t : Nat} (ht : t < 6) (h : bFits B k c t = true) : (bAny B k c).isSome = true := by
  cases h1 : bAny B k c with
  | some u => rfl
  | none =>
    have := zFf_none' h1 t ht
    rw [h] at this
    cases this
theorem bAny_fits {k c u : Nat} (h : bAny B k c = some u) : u < 6 ∧ bFits B k c u = true := ⟨(zFf_some' h).1, (zFf_some' h).2.1⟩
theorem bRich_of {k c t : Nat} (hc : c < bC B) (ht : t < 6) (h : bFits B k c t = true) : ∃ b, bRich B k = some b ∧ bGain B c ≤ bGain B b := by
  cases h1 : bRich B k with
  | none =>
    have := zBest_none h1 c hc
    rw [bAny_of ht h] at this
    cases this
  | some b => exact ⟨b, rfl, zBest_max h1 c hc (bAny_of ht h)⟩
/-- the best tile at its best cell: it fits there so, and no way brings more -/
theorem bBest_max {k : Nat} (h : bBestT B = some k) : ∃ c u, bRich B k = some c ∧ bAny B k c = some u ∧ (k < bN B ∧ c < bC B ∧ u < 6 ∧ bFits B k c u = true) ∧ ∀ k' c' t', k' < bN B → c' < bC B → t' < 6 → bFits B k' c' t' = true → bGain B c' ≤ bGain B c := by
  obtain ⟨hk, hp⟩ := zBest_lt h
  cases h1 : bRich B k with
  | none => rw [h1] at hp; cases hp
  | some c =>
    obtain ⟨hc, hq⟩ := zBest_lt h1
    cases h2 : bAny B k c with
    | none => rw [h2] at hq; cases hq
    | some u =>
      obtain ⟨hu, hf⟩ := bAny_fits h2
      refine ⟨c, u, rfl, h2, ⟨hk, hc, hu, hf⟩, fun k' c' t' hk' hc' ht' hf' => ?_⟩
      obtain ⟨b, e1, e2⟩ := bRich_of hc' ht' hf'
      have e3 := zBest_max h k' hk' (show (bRich B k').isSome = true by rw [e1]; rfl)
      unfold bRichG at e3
      rw [e1, h1] at e3
      exact Nat.le_trans e2 e3
theorem bBest_none (h : bBestT B = none) {k : Nat} (hk : k < bN B) : bWays B k = 0 := by
  have h1 := zBest_none h k hk
  refine zSm_zero (fun c hc => zSm_zero (fun t ht => ?_))
  cases h2 : bFits B k c t with
  | false => rfl
  | true =>
    obtain ⟨b, e1, -⟩ := bRich_of hc ht h2
    rw [e1] at h1
    cases h1
end Best
