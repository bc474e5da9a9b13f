/-! ===== what a way brings; the best way ===== -/
def hbI (M M1 : eM) (B : eBd) (o : Option (Nat × Nat)) : Prop := (∀ j, j ≠ 100 → M1 j = M j) ∧ (∀ j, j ≠ 21 → j ≠ 22 → j ≠ 23 → M1 100 j = M 100 j) ∧ (match o with
  | none => M1 100 21 = -1
  | some (b, u) => M1 100 21 = nI (bGain B b) ∧ M1 100 22 = nI b ∧ M1 100 23 = nI u)
