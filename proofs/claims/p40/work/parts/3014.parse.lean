/-! ===== how sums and tests are read: kinds of tokens 1 to 44 ===== -/
/-- a step: its kind, its token, and the places of the steps that it takes -/
abbrev pSt : Type := Nat × Nat × Nat × Nat
/-- no fuel; the wrong token; or where it goes on, and the steps -/
abbrev pRes : Type := Option (Nat ⊕ (Nat × List pSt))
abbrev pBad (p : Nat) : pRes := some (.inl p)
abbrev pOn (p : Nat) (cd : List pSt) : pRes := some (.inr (p, cd))
def pThen (r : pRes) (f : Nat → List pSt → pRes) : pRes := match r with
  | none => none
  | some (.inl e) => some (.inl e)
  | some (.inr (p, cd)) => f p cd
def pEat (tk : Nat → Nat) (k p : Nat) (r : pRes) : pRes := if tk p = k then r else pBad p
def pVal (tk : Nat → Nat) (rec : Nat → Nat → Nat → Nat → pRes) (d p b : Nat) : pRes :=
  if tk p = 40 ∨ (10 ≤ tk p ∧ tk p ≤ 15) then pOn (p + 1) [(tk p, p, 0, 0)]
  else if tk p = 16 then pEat tk 17 (p + 1) (pEat tk 41 (p + 2) (pOn (p + 3) [(16, p + 2, 0, 0)]))
  else if tk p = 32 then (if d < 8 then pThen (rec 0 (d + 1) (p + 1) b) (fun p1 c1 => pOn p1 (c1 ++ [(44, 0, b + c1.length - 1, 0)])) else pBad p)
  else if tk p = 25 then (if d < 8 then pThen (rec 3 (d + 1) (p + 1) b) (fun p1 c1 => pEat tk 26 p1 (pOn (p1 + 1) c1)) else pBad p)
  else if tk p = 23 ∨ tk p = 24 then pEat tk 25 (p + 1) (if d < 8 then pThen (rec 3 (d + 1) (p + 2) b) (fun p1 c1 => pEat tk 30 p1 (pThen (rec 3 (d + 1) (p1 + 1) (b + c1.length)) (fun p2 c2 => pEat tk 26 p2 (pOn (p2 + 1) (c1 ++ (c2 ++ [(tk p, 0, b + c1.length - 1, b + c1.length + c2.length - 1)])))))) else pBad (p + 1))
  else pBad p
def pHead (rec : Nat → Nat → Nat → Nat → pRes) (o l d p b : Nat) : pRes := pThen (rec o d p b) (fun p1 c1 => pThen (rec l d p1 (b + c1.length)) (fun p2 c2 => pOn p2 (c1 ++ c2)))
def pLoop (tk : Nat → Nat) (rec : Nat → Nat → Nat → Nat → pRes) (o l : Nat) (op : Nat → Bool) (d p b : Nat) : pRes :=
  if op (tk p) then pThen (rec o d (p + 1) b) (fun p1 c1 => pThen (rec l d p1 (b + c1.length + 1)) (fun p2 c2 => pOn p2 (c1 ++ (tk p, 0, b - 1, b + c1.length - 1) :: c2))) else pOn p []
def pSin (tk : Nat → Nat) (rec : Nat → Nat → Nat → Nat → pRes) (d p b : Nat) : pRes :=
  if tk p = 20 then (if d < 8 then pThen (rec 5 (d + 1) (p + 1) b) (fun p1 c1 => pOn p1 (c1 ++ [(20, 0, b + c1.length - 1, 0)])) else pBad p)
  else if tk p = 27 then (if d < 8 then pThen (rec 8 (d + 1) (p + 1) b) (fun p1 c1 => pEat tk 28 p1 (pOn (p1 + 1) c1)) else pBad p)
  else if tk p = 18 ∨ tk p = 19 then pEat tk 41 (p + 1) (pOn (p + 2) [(tk p, p + 1, 0, 0)])
  else pThen (rec 3 d p b) (fun p1 c1 => if 35 ≤ tk p1 ∧ tk p1 ≤ 39 then pThen (rec 3 d (p1 + 1) (b + c1.length)) (fun p2 c2 => pOn p2 (c1 ++ (c2 ++ [(tk p1, 0, b + c1.length - 1, b + c1.length + c2.length - 1)]))) else pBad p1)
def pOpM (k : Nat) : Bool := k == 33 || k == 34
def pOpA (k : Nat) : Bool := k == 31 || k == 32
def pOpN (k : Nat) : Bool := k == 21
def pOpO (k : Nat) : Bool := k == 22
/-- 0 a value, 1 a product, 2 how it goes on, 3 a sum, 4 how it goes on, 5 a single test, 6 tests with and, 7 how they go on, 8 a test, 9 how it goes on -/
def pE (tk : Nat → Nat) : Nat → Nat → Nat → Nat → Nat → pRes
  | 0, _, _, _, _ => none
  | n + 1, m, d, p, b => match m with
    | 0 => pVal tk (pE tk n) d p b
    | 1 => pHead (pE tk n) 0 2 d p b
    | 2 => pLoop tk (pE tk n) 0 2 pOpM d p b
    | 3 => pHead (pE tk n) 1 4 d p b
    | 4 => pLoop tk (pE tk n) 1 4 pOpA d p b
    | 5 => pSin tk (pE tk n) d p b
    | 6 => pHead (pE tk n) 5 7 d p b
    | 7 => pLoop tk (pE tk n) 5 7 pOpN d p b
    | 8 => pHead (pE tk n) 6 9 d p b
    | _ => pLoop tk (pE tk n) 6 9 pOpO d p b
/-- a row of tokens: its last is the end or a wrong one -/
def pTk (tk : Nat → Nat) (T : Nat) : Prop := T ≤ 400 ∧ (∀ j, j ≤ T → 1 ≤ tk j ∧ tk j ≤ 43) ∧ (∀ j, j < T → tk j ≠ 42 ∧ tk j ≠ 43) ∧ (tk T = 42 ∨ tk T = 43)
theorem pTk.lt {tk : Nat → Nat} {T p : Nat} (h : pTk tk T) (hp : p ≤ T) (h1 : tk p ≠ 42) (h2 : tk p ≠ 43) : p < T := by
  rcases Nat.lt_or_ge p T with h3 | h3
  · exact h3
  · have : p = T := by omega
    subst this
    rcases h.2.2.2 with z | z
    · exact absurd z h1
    · exact absurd z h2
theorem pThen_on {r : pRes} {f : Nat → List pSt → pRes} {x : Nat ⊕ (Nat × List pSt)} (h : pThen r f = some x) : (∃ e, r = some (.inl e) ∧ x = .inl e) ∨ ∃ p cd, r = some (.inr (p, cd)) ∧ f p cd = some x := by
  unfold pThen at h
  match r, h with
  | none, h => cases h
  | some (.inl e), h => exact Or.inl ⟨e, rfl, (Option.some.inj h).symm⟩
  | some (.inr (p, cd)), h => exact Or.inr ⟨p, cd, rfl, h⟩
theorem pEat_on {tk : Nat → Nat} {k p : Nat} {r : pRes} {x : Nat ⊕ (Nat × List pSt)} (h : pEat tk k p r = some x) : (tk p = k ∧ r = some x) ∨ (tk p ≠ k ∧ x = .inl p) := by
  unfold pEat at h
  by_cases hq : tk p = k
  · rw [if_pos hq] at h; exact Or.inl ⟨hq, h⟩
  · rw [if_neg hq] at h; exact Or.inr ⟨hq, (Option.some.inj h).symm⟩
/-- where a reading stops lies in the row, and it takes no more tokens than it makes steps -/
def pFine (T p : Nat) (lp : Bool) (x : Nat ⊕ (Nat × List pSt)) : Prop := match x with
  | .inl e => p ≤ e ∧ e ≤ T
  | .inr (q, cd) => q ≤ T ∧ p + cd.length ≤ q ∧ (lp = false → 1 ≤ cd.length)
def pLp (m : Nat) : Bool := m == 2 || m == 4 || m == 7 || decide (9 ≤ m)
theorem pFine.mono {T p q : Nat} {lp : Bool} {e : Nat} (h : pFine T q lp (.inl e)) (hpq : p ≤ q) {lp' : Bool} : pFine T p lp' (.inl e) := ⟨Nat.le_trans hpq h.1, h.2⟩
theorem pE_fine {tk : Nat → Nat} {T : Nat} (ht : pTk tk T) : ∀ (n m d p b : Nat) (x : Nat ⊕ (Nat × List pSt)), p ≤ T → pE tk n m d p b = some x → pFine T p (pLp m) x := by
  intro n
  induction n with
  | zero => intro m d p b x _ h; cases h
  | succ n ih =>
    intro m d p b x hp h
    have hlt : ∀ q k, q ≤ T → tk q = k → k ≠ 42 → k ≠ 43 → q + 1 ≤ T := fun q k hq h1 h2 h3 => ht.lt hq (by omega) (by omega)
    have hhead : ∀ o l, pLp o = false → pLp l = true → pHead (pE tk n) o l d p b = some x → pFine T p false x := by
      intro o l ho hl h
      rcases pThen_on h with ⟨e, h1, rfl⟩ | ⟨p1, c1, h1, h2⟩
      · exact (ih _ _ _ _ _ hp h1).mono (Nat.le_refl _)
      · have g1 := ih _ _ _ _ _ hp h1
        rw [ho] at g1
        obtain ⟨a1, a2, a3⟩ := g1
        rcases pThen_on h2 with ⟨e, h3, rfl⟩ | ⟨p2, c2, h3, h4⟩
        · exact (ih _ _ _ _ _ a1 h3).mono (by omega)
        · obtain ⟨b1, b2, -⟩ := ih _ _ _ _ _ a1 h3
          cases h4
          have := a3 rfl
          exact ⟨b1, by rw [List.length_append]; omega, fun _ => by rw [List.length_append]; omega⟩
    have hloop : ∀ o l (op : Nat → Bool), pLp o = false → (∀ k, op k = true → k ≠ 42 ∧ k ≠ 43) → pLoop tk (pE tk n) o l op d p b = some x → pFine T p true x := by
      intro o l op ho hop h
      unfold pLoop at h
      cases hq : op (tk p) with
      | false =>
        rw [hq] at h
        cases h
        exact ⟨hp, Nat.le_refl _, fun z => by cases z⟩
      | true =>
        rw [hq, if_pos rfl] at h
        have hp1 := hlt p _ hp rfl (hop _ hq).1 (hop _ hq).2
        rcases pThen_on h with ⟨e, h1, rfl⟩ | ⟨p1, c1, h1, h2⟩
        · exact (ih _ _ _ _ _ hp1 h1).mono (by omega)
        · obtain ⟨a1, a2, -⟩ := ih _ _ _ _ _ hp1 h1
          rcases pThen_on h2 with ⟨e, h3, rfl⟩ | ⟨p2, c2, h3, h4⟩
          · exact (ih _ _ _ _ _ a1 h3).mono (by omega)
          · obtain ⟨b1, b2, -⟩ := ih _ _ _ _ _ a1 h3
            cases h4
            exact ⟨b1, by rw [List.length_append, List.length_cons]; omega, fun z => by cases z⟩
    have hval : pVal tk (pE tk n) d p b = some x → pFine T p false x := by
      intro h
      unfold pVal at h
      split at h
      · rename_i h0
        cases h
        have := hlt p _ hp rfl (by omega) (by omega)
        exact ⟨this, Nat.le_refl _, fun _ => Nat.le_refl _⟩
      split at h
      · rename_i h0
        have hp1 := hlt p _ hp h0 (by decide) (by decide)
        rcases pEat_on h with ⟨h1, h2⟩ | ⟨-, rfl⟩
        · have hp2 := hlt _ _ hp1 h1 (by decide) (by decide)
          rcases pEat_on h2 with ⟨h3, h4⟩ | ⟨-, rfl⟩
          · have hp3 := hlt _ _ hp2 h3 (by decide) (by decide)
            cases h4
            exact ⟨hp3, by show p + 1 ≤ p + 3; omega, fun _ => Nat.le_refl _⟩
          · exact ⟨by omega, hp2⟩
        · exact ⟨by omega, hp1⟩
      split at h
      · rename_i h0
        have hp1 := hlt p _ hp h0 (by decide) (by decide)
        split at h
        · rcases pThen_on h with ⟨e, h1, rfl⟩ | ⟨p1, c1, h1, h2⟩
          · exact (ih _ _ _ _ _ hp1 h1).mono (by omega)
          · obtain ⟨a1, a2, -⟩ := ih _ _ _ _ _ hp1 h1
            cases h2
            exact ⟨a1, by rw [List.length_append]; show p + (c1.length + 1) ≤ p1; omega, fun _ => by rw [List.length_append]; show 1 ≤ c1.length + 1; omega⟩
        · cases h; exact ⟨Nat.le_refl _, hp⟩
      split at h
      · rename_i h0
        have hp1 := hlt p _ hp h0 (by decide) (by decide)
        split at h
        · rcases pThen_on h with ⟨e, h1, rfl⟩ | ⟨p1, c1, h1, h2⟩
          · exact (ih _ _ _ _ _ hp1 h1).mono (by omega)
          · obtain ⟨a1, a2, a3⟩ := ih _ _ _ _ _ hp1 h1
            rcases pEat_on h2 with ⟨h3, h4⟩ | ⟨-, rfl⟩
            · have hp3 := hlt _ _ a1 h3 (by decide) (by decide)
              cases h4
              exact ⟨hp3, by omega, fun _ => a3 rfl⟩
            · exact ⟨by omega, a1⟩
        · cases h; exact ⟨Nat.le_refl _, hp⟩
      split at h
      · rename_i h0
        have hp1 := hlt p _ hp rfl (by omega) (by omega)
        rcases pEat_on h with ⟨h1, h2⟩ | ⟨-, rfl⟩
        · have hp2 := hlt _ _ hp1 h1 (by decide) (by decide)
          split at h2
          · rcases pThen_on h2 with ⟨e, h3, rfl⟩ | ⟨p1, c1, h3, h4⟩
            · exact (ih _ _ _ _ _ hp2 h3).mono (by omega)
            · obtain ⟨a1, a2, -⟩ := ih _ _ _ _ _ hp2 h3
              rcases pEat_on h4 with ⟨h5, h6⟩ | ⟨-, rfl⟩
              · have hp3 := hlt _ _ a1 h5 (by decide) (by decide)
                rcases pThen_on h6 with ⟨e, h7, rfl⟩ | ⟨p2, c2, h7, h8⟩
                · exact (ih _ _ _ _ _ hp3 h7).mono (by omega)
                · obtain ⟨b1, b2, -⟩ := ih _ _ _ _ _ hp3 h7
                  rcases pEat_on h8 with ⟨h9, h10⟩ | ⟨-, rfl⟩
                  · have hp4 := hlt _ _ b1 h9 (by decide) (by decide)
                    cases h10
                    exact ⟨hp4, by rw [List.length_append, List.length_append]; show p + (c1.length + (c2.length + 1)) ≤ p2 + 1; omega, fun _ => by rw [List.length_append, List.length_append]; show 1 ≤ c1.length + (c2.length + 1); omega⟩
                  · exact ⟨by omega, b1⟩
              · exact ⟨by omega, a1⟩
          · cases h2; exact ⟨by omega, hp1⟩
        · exact ⟨by omega, hp1⟩
      · cases h; exact ⟨Nat.le_refl _, hp⟩
    have hsin : pSin tk (pE tk n) d p b = some x → pFine T p false x := by
      intro h
      unfold pSin at h
      split at h
      · rename_i h0
        have hp1 := hlt p _ hp h0 (by decide) (by decide)
        split at h
        · rcases pThen_on h with ⟨e, h1, rfl⟩ | ⟨p1, c1, h1, h2⟩
          · exact (ih _ _ _ _ _ hp1 h1).mono (by omega)
          · obtain ⟨a1, a2, -⟩ := ih _ _ _ _ _ hp1 h1
            cases h2
            exact ⟨a1, by rw [List.length_append]; show p + (c1.length + 1) ≤ p1; omega, fun _ => by rw [List.length_append]; show 1 ≤ c1.length + 1; omega⟩
        · cases h; exact ⟨Nat.le_refl _, hp⟩
      split at h
      · rename_i h0
        have hp1 := hlt p _ hp h0 (by decide) (by decide)
        split at h
        · rcases pThen_on h with ⟨e, h1, rfl⟩ | ⟨p1, c1, h1, h2⟩
          · exact (ih _ _ _ _ _ hp1 h1).mono (by omega)
          · obtain ⟨a1, a2, a3⟩ := ih _ _ _ _ _ hp1 h1
            rcases pEat_on h2 with ⟨h3, h4⟩ | ⟨-, rfl⟩
            · have hp3 := hlt _ _ a1 h3 (by decide) (by decide)
              cases h4
              exact ⟨hp3, by omega, fun _ => a3 rfl⟩
            · exact ⟨by omega, a1⟩
        · cases h; exact ⟨Nat.le_refl _, hp⟩
      split at h
      · rename_i h0
        have hp1 := hlt p _ hp rfl (by omega) (by omega)
        rcases pEat_on h with ⟨h1, h2⟩ | ⟨-, rfl⟩
        · have hp2 := hlt _ _ hp1 h1 (by decide) (by decide)
          cases h2
          exact ⟨hp2, by show p + 1 ≤ p + 2; omega, fun _ => Nat.le_refl _⟩
        · exact ⟨by omega, hp1⟩
      · rcases pThen_on h with ⟨e, h1, rfl⟩ | ⟨p1, c1, h1, h2⟩
        · exact (ih _ _ _ _ _ hp h1).mono (Nat.le_refl _)
        · obtain ⟨a1, a2, a3⟩ := ih _ _ _ _ _ hp h1
          split at h2
          · rename_i h3
            have hp1 := hlt p1 _ a1 rfl (by omega) (by omega)
            rcases pThen_on h2 with ⟨e, h4, rfl⟩ | ⟨p2, c2, h4, h5⟩
            · exact (ih _ _ _ _ _ hp1 h4).mono (by omega)
            · obtain ⟨b1, b2, -⟩ := ih _ _ _ _ _ hp1 h4
              cases h5
              exact ⟨b1, by rw [List.length_append, List.length_append]; show p + (c1.length + (c2.length + 1)) ≤ p2; omega, fun _ => by rw [List.length_append, List.length_append]; show 1 ≤ c1.length + (c2.length + 1); omega⟩
          · cases h2; exact ⟨by omega, a1⟩
    have hM : ∀ k, pOpM k = true → k ≠ 42 ∧ k ≠ 43 := fun k hk => by
      refine ⟨fun z => ?_, fun z => ?_⟩ <;> (subst z; revert hk; decide)
    have hA : ∀ k, pOpA k = true → k ≠ 42 ∧ k ≠ 43 := fun k hk => by
      refine ⟨fun z => ?_, fun z => ?_⟩ <;> (subst z; revert hk; decide)
    have hN : ∀ k, pOpN k = true → k ≠ 42 ∧ k ≠ 43 := fun k hk => by
      refine ⟨fun z => ?_, fun z => ?_⟩ <;> (subst z; revert hk; decide)
    have hO : ∀ k, pOpO k = true → k ≠ 42 ∧ k ≠ 43 := fun k hk => by
      refine ⟨fun z => ?_, fun z => ?_⟩ <;> (subst z; revert hk; decide)
    match m, h with
    | 0, h => exact hval h
    | 1, h => exact hhead 0 2 rfl rfl h
    | 2, h => exact hloop 0 2 pOpM rfl hM h
    | 3, h => exact hhead 1 4 rfl rfl h
    | 4, h => exact hloop 1 4 pOpA rfl hA h
    | 5, h => exact hsin h
    | 6, h => exact hhead 5 7 rfl rfl h
    | 7, h => exact hloop 5 7 pOpN rfl hN h
    | 8, h => exact hhead 6 9 rfl rfl h
    | k + 9, h =>
      rw [show pLp (k + 9) = true from by unfold pLp; rw [decide_eq_true (show 9 ≤ k + 9 by omega)]; simp]
      exact hloop 6 9 pOpO rfl hO h

