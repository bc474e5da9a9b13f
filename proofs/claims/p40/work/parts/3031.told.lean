/-! ===== what a told game is ===== -/
theorem pTile_bad {tk : Nat → Nat} {T : Nat} (ht : pTk tk T) {p e : Nat} (hp : p < T) (hx : pTile tk p = some (.inl e)) : e ≤ T := by
  unfold pTile at hx
  rcases gEat_on hx with ⟨h1, hx⟩ | ⟨-, z⟩
  rotate_left
  · cases z; omega
  have g1 := ht.lt (show p + 1 ≤ T by omega) (by omega) (by omega)
  rcases gEat_on hx with ⟨h2, hx⟩ | ⟨-, z⟩
  rotate_left
  · cases z; omega
  have g2 := ht.lt (show p + 2 ≤ T by omega) (by omega) (by omega)
  rcases gEat_on hx with ⟨h3, hx⟩ | ⟨-, z⟩
  rotate_left
  · cases z; omega
  have g3 := ht.lt (show p + 3 ≤ T by omega) (by omega) (by omega)
  rcases gEat_on hx with ⟨h4, hx⟩ | ⟨-, z⟩
  rotate_left
  · cases z; omega
  cases hx
theorem pLines_bad {tk : Nat → Nat} {T n : Nat} (ht : pTk tk T) : ∀ (f p b : Nat) (os : List pOrd) (e : Nat), p ≤ T → pLines tk n f p b os = some (.inl e) → e ≤ T := by
  intro f
  induction f with
  | zero => intro p b os e _ h; cases h
  | succ f ih =>
    intro p b os e hp h
    unfold pLines at h
    by_cases h42 : tk p = 42
    · rw [if_pos h42] at h; cases h
    rw [if_neg h42] at h
    by_cases h3 : tk p = 3
    · rw [if_pos h3] at h
      have hpT := ht.lt hp (by omega) (by omega)
      cases hx : pTile tk p with
      | none => rw [hx] at h; cases h
      | some x =>
        rw [hx] at h
        match x, hx, h with
        | .inl e', hx, h =>
          cases h
          exact pTile_bad ht hpT hx
        | .inr q, hx, h =>
          obtain ⟨e1, e2, -⟩ := pTile_ok ht hpT hx
          rcases gEat_on h with ⟨h29, h⟩ | ⟨-, z⟩
          · exact ih (q + 1) b os e (ht.lt (show q ≤ T by omega) (by omega) (by omega)) h
          · cases z; omega
    rw [if_neg h3] at h
    by_cases hk : tk p = 4 ∨ tk p = 7 ∨ tk p = 8
    · rw [if_pos hk] at h
      have hpT := ht.lt hp (by omega) (by omega)
      cases hx : pOrder tk n p b with
      | none => rw [hx] at h; cases h
      | some x =>
        rw [hx] at h
        match x, hx, h with
        | .inl e', hx, h =>
          cases h
          exact (pOrder_bad ht hpT hx).2
        | .inr (q, o), hx, h =>
          have e2 := (pOrder_ok ht hpT hk hx).1
          rcases gEat_on h with ⟨h29, h⟩ | ⟨-, z⟩
          · exact ih (q + 1) _ _ e (ht.lt e2 (by omega) (by omega)) h
          · cases z; exact e2
    · rw [if_neg hk] at h
      cases h
      exact hp
theorem pGame_bad {tk : Nat → Nat} {T n e : Nat} (ht : pTk tk T) (h : pGame tk n = some (.inl e)) : e ≤ T := by
  unfold pGame at h
  by_cases h1 : tk 0 = 1
  · rw [if_pos h1] at h
    have g0 := ht.lt (Nat.zero_le T) (by omega) (by omega)
    rcases gEat_on h with ⟨h2, h⟩ | ⟨-, z⟩
    rotate_left
    · cases z; omega
    have g1 := ht.lt (show 1 ≤ T by omega) (by omega) (by omega)
    rcases gEat_on h with ⟨h3, h⟩ | ⟨-, z⟩
    rotate_left
    · cases z; omega
    have g2 := ht.lt (show 2 ≤ T by omega) (by omega) (by omega)
    rcases gEat_on h with ⟨h4, h⟩ | ⟨-, z⟩
    rotate_left
    · cases z; omega
    have g3 := ht.lt (show 3 ≤ T by omega) (by omega) (by omega)
    rcases gEat_on h with ⟨h5, h⟩ | ⟨-, z⟩
    rotate_left
    · cases z; omega
    have g4 := ht.lt (show 4 ≤ T by omega) (by omega) (by omega)
    exact pLines_bad ht 401 5 0 [] e (by omega) h
  · rw [if_neg h1] at h
    exact pLines_bad ht 401 0 0 [] e (Nat.zero_le _) h
theorem sStep_mono {tk : Nat → Nat} {w : mWd} {nv : Nat → Nat} (S : sSt) (j : Nat) : sNt S ≤ sNt (sStep tk w nv S j) := by
  unfold sStep
  split
  · exact Nat.le_refl _
  split
  · exact Nat.le_refl _
  split
  · unfold sName
    split
    · show sNt S ≤ (if sNt S < 16 then sNt S + 1 else sNt S)
      split <;> omega
    · exact Nat.le_refl _
  split
  · unfold sNum
    split
    · exact Nat.le_refl _
    split
    · exact Nat.le_refl _
    · exact Nat.le_refl _
  · exact Nat.le_refl _
theorem sScan_mono {tk : Nat → Nat} {w : mWd} {nv : Nat → Nat} (j : Nat) : ∀ d, sNt (sScan tk w nv j) ≤ sNt (sScan tk w nv (j + d))
  | 0 => Nat.le_refl _
  | d + 1 => Nat.le_trans (sScan_mono j d) (sStep_mono (sScan tk w nv (j + d)) (j + d))
theorem sErr_n1 {c : Bool} {k j : Nat} {er : Nat × Nat} (hk : k ≠ 1) (h : er.1 ≠ 1) : (sErr c k j er).1 ≠ 1 := by
  unfold sErr
  split
  · exact hk
  · exact h
theorem sScan_n1 {tk : Nat → Nat} {w : mWd} {nv : Nat → Nat} : ∀ j, (sEr (sScan tk w nv j)).1 ≠ 1
  | 0 => by show (0 : Nat) ≠ 1; decide
  | j + 1 => by
    have h := sScan_n1 (tk := tk) (w := w) (nv := nv) j
    show (sEr (sStep tk w nv (sScan tk w nv j) j)).1 ≠ 1
    generalize sScan tk w nv j = S at h
    unfold sStep
    split
    · exact h
    split
    · exact sErr_n1 (by decide) h
    split
    · unfold sName
      split
      · exact sErr_n1 (by decide) (sErr_n1 (by decide) h)
      · exact sErr_n1 (by decide) h
    split
    · unfold sNum
      split
      · exact sErr_n1 (by decide) h
      split
      · exact sErr_n1 (by decide) h
      · exact h
    · exact h
theorem b0_N (wd r n : Nat) (nu : Nat → Nat) : bN (b0 wd r n nu) = n := rfl
section Told
variable {bt : Nat → Nat} {sz : Nat}
theorem tScan_er0 {j q : Nat} (h : (sEr (tScan bt sz q)).1 = 0) (hj : j ≤ q) : (sEr (tScan bt sz j)).1 = 0 := sScan_er0 (tk := tTk bt sz) (w := tW bt sz) (nv := tNv bt sz) h hj
theorem tScan_ok {q : Nat} (h : (sEr (tScan bt sz q)).1 = 0) : (3 ≤ sCol (tScan bt sz q) ∧ sCol (tScan bt sz q) ≤ 7) ∧ (3 ≤ sRow (tScan bt sz q) ∧ sRow (tScan bt sz q) ≤ 7) ∧ (∀ i, i < sNn (tScan bt sz q) → sNu (tScan bt sz q) i ≤ 9) ∧ sNo (tScan bt sz q) ≤ 16 := sScan_ok (tk := tTk bt sz) (w := tW bt sz) (nv := tNv bt sz) q h
theorem tScan_mono {j q : Nat} (h : j ≤ q) : sNt (tScan bt sz j) ≤ sNt (tScan bt sz q) := by
  obtain ⟨d, rfl⟩ : ∃ d, q = j + d := ⟨q - j, by omega⟩
  exact sScan_mono (tk := tTk bt sz) (w := tW bt sz) (nv := tNv bt sz) j d
/-- what a token means -/
def tV (bt : Nat → Nat) (sz t : Nat) : Nat := if tTk bt sz t = 40 then tNv bt sz t else tTile bt sz t
def qOrd (bt : Nat → Nat) (sz : Nat) (o : pOrd) : Prop := ∃ p q, p < tT bt sz ∧ (tTk bt sz p = 4 ∨ tTk bt sz p = 7 ∨ tTk bt sz p = 8) ∧ pOk (tTk bt sz) (tT bt sz) p (oFrom o) q o
def qOs (bt : Nat → Nat) (sz : Nat) (os : List pOrd) : Prop := ∀ o, o ∈ os → qOrd bt sz o ∧ oEnd o ≤ (osCode os).length ∧ ∀ j s, (oCode o)[j]? = some s → (osCode os)[oFrom o + j]? = some s
theorem qOs.app {os : List pOrd} {o : pOrd} (h : qOs bt sz os) (ho : qOrd bt sz o) (hb : oFrom o = (osCode os).length) : qOs bt sz (os ++ [o]) := by
  intro o' h'
  have hl : (osCode (os ++ [o])).length = (osCode os).length + (oCode o).length := by rw [osCode_app, List.length_append]
  rcases List.mem_append.mp h' with z | z
  · obtain ⟨a1, a2, a3⟩ := h o' z
    refine ⟨a1, by omega, fun j s hs => ?_⟩
    have h1 := a3 j s hs
    have hj : oFrom o' + j < (osCode os).length := by
      rcases Nat.lt_or_ge (oFrom o' + j) (osCode os).length with h2 | h2
      · exact h2
      · rw [List.getElem?_eq_none h2] at h1; cases h1
    rw [osCode_app, List.getElem?_append_left hj]
    exact h1
  · rw [List.mem_singleton.mp z]
    refine ⟨ho, ?_, fun j s hs => ?_⟩
    · rw [hl, ← hb, oCode_len]
      exact Nat.le_refl _
    · rw [osCode_app, List.getElem?_append_right (by omega), hb, Nat.add_sub_cancel_left]
      exact hs
theorem tScan29 {q : Nat} (h : tTk bt sz q = 29) : tScan bt sz (q + 1) = tScan bt sz q := scan29 h
/-- a tile's line in the scan -/
theorem tScan_tile {p : Nat} (h3 : tTk bt sz p = 3) (h41 : tTk bt sz (p + 1) = 41) (a : tTk bt sz (p + 2) = 40) (b : tTk bt sz (p + 3) = 40) (c : tTk bt sz (p + 4) = 40) (h0 : (sEr (tScan bt sz (p + 5))).1 = 0) (hn : sNn (tScan bt sz p) = 3 * sNt (tScan bt sz p)) : sNn (tScan bt sz (p + 5)) = 3 * sNt (tScan bt sz (p + 5)) := by
  obtain ⟨s1, -⟩ := tScan_in bt sz p
  have e1 : tScan bt sz (p + 1) = ((3, (tScan bt sz p).1.2), (tScan bt sz p).2) := by
    show sStep (tTk bt sz) (tW bt sz) (tNv bt sz) (tScan bt sz p) p = _
    unfold sStep
    rw [if_pos (Or.inr h3), h3]
  generalize tScan bt sz p = S at e1 hn s1
  have e2 : tScan bt sz (p + 2) = ((3, (if sNt S < 16 then sNt S + 1 else sNt S), sNo S, sNn S, sSd S), (if sNt S < 16 then zU (sNk S) (sNt S) (p + 1) else sNk S), sNu S, S.2.2.2.1, sErr (decide (16 ≤ sNt S)) 4 (p + 1) (sErr (sKn (tW bt sz) (tScan bt sz (p + 1)) (p + 1)).isSome 2 (p + 1) (sEr S))) := by
    show sStep (tTk bt sz) (tW bt sz) (tNv bt sz) (tScan bt sz (p + 1)) (p + 1) = _
    unfold sStep
    rw [if_neg (by omega), if_neg (by omega), if_pos h41]
    unfold sName
    rw [e1, if_pos rfl]
  have z2 : (sEr (tScan bt sz (p + 2))).1 = 0 := tScan_er0 h0 (by omega)
  have h16 : sNt S < 16 := by
    rcases Nat.lt_or_ge (sNt S) 16 with h | h
    · exact h
    · rw [e2] at z2
      have z2' : (sErr (decide (16 ≤ sNt S)) 4 (p + 1) (sErr (sKn (tW bt sz) (tScan bt sz (p + 1)) (p + 1)).isSome 2 (p + 1) (sEr S))).1 = 0 := z2
      rw [decide_eq_true h] at z2'
      by_cases y : (sErr (sKn (tW bt sz) (tScan bt sz (p + 1)) (p + 1)).isSome 2 (p + 1) (sEr S)).1 = 0
      · rw [sErr_t y] at z2'
        exact absurd z2' (Nat.succ_ne_zero _)
      · rw [sErr_keep y] at z2'
        exact absurd z2' y
  rw [if_pos h16, if_pos h16] at e2
  have num : ∀ q, tTk bt sz q = 40 → sL (tScan bt sz q) = 3 → sNn (tScan bt sz q) < 48 → sL (tScan bt sz (q + 1)) = 3 ∧ sNt (tScan bt sz (q + 1)) = sNt (tScan bt sz q) ∧ sNn (tScan bt sz (q + 1)) = sNn (tScan bt sz q) + 1 := by
    intro q hq hl hn48
    have e : tScan bt sz (q + 1) = ((sL (tScan bt sz q), sNt (tScan bt sz q), sNo (tScan bt sz q), (if sNn (tScan bt sz q) < 48 then sNn (tScan bt sz q) + 1 else sNn (tScan bt sz q)), sSd (tScan bt sz q)), sNk (tScan bt sz q), (if sNn (tScan bt sz q) < 48 then zU (sNu (tScan bt sz q)) (sNn (tScan bt sz q)) (tNv bt sz q) else sNu (tScan bt sz q)), (tScan bt sz q).2.2.2.1, sErr (decide (9 < tNv bt sz q)) 5 q (sEr (tScan bt sz q))) := by
      show sStep (tTk bt sz) (tW bt sz) (tNv bt sz) (tScan bt sz q) q = _
      unfold sStep
      rw [if_neg (by omega), if_neg (by omega), if_neg (by omega), if_pos hq]
      unfold sNum
      rw [if_neg (by omega), if_pos hl]
    rw [e]
    refine ⟨hl, rfl, ?_⟩
    show (if sNn (tScan bt sz q) < 48 then sNn (tScan bt sz q) + 1 else sNn (tScan bt sz q)) = _
    rw [if_pos hn48]
  have l2 : sL (tScan bt sz (p + 2)) = 3 := by rw [e2]
  have t2 : sNt (tScan bt sz (p + 2)) = sNt S + 1 := by rw [e2]
  have n2 : sNn (tScan bt sz (p + 2)) = sNn S := by rw [e2]
  obtain ⟨l3, t3, n3⟩ := num (p + 2) a l2 (by omega)
  have n3' : sNn (tScan bt sz (p + 3)) = sNn (tScan bt sz (p + 2)) + 1 := n3
  obtain ⟨l4, t4, n4⟩ := num (p + 3) b l3 (by omega)
  have n4' : sNn (tScan bt sz (p + 4)) = sNn (tScan bt sz (p + 3)) + 1 := n4
  obtain ⟨l5, t5, n5⟩ := num (p + 4) c l4 (by omega)
  have t5' : sNt (tScan bt sz (p + 5)) = sNt (tScan bt sz (p + 4)) := t5
  have n5' : sNn (tScan bt sz (p + 5)) = sNn (tScan bt sz (p + 4)) + 1 := n5
  have t4' : sNt (tScan bt sz (p + 4)) = sNt (tScan bt sz (p + 3)) := t4
  have t3' : sNt (tScan bt sz (p + 3)) = sNt (tScan bt sz (p + 2)) := t3
  omega
theorem tScan_tileNo {p : Nat} (h3 : tTk bt sz p = 3) (h41 : tTk bt sz (p + 1) = 41) (a : tTk bt sz (p + 2) = 40) (b : tTk bt sz (p + 3) = 40) (c : tTk bt sz (p + 4) = 40) : sNo (tScan bt sz (p + 5)) = sNo (tScan bt sz p) := by
  have one : ∀ q, tTk bt sz q = 3 ∨ tTk bt sz q = 40 ∨ tTk bt sz q = 41 → sNo (tScan bt sz (q + 1)) = sNo (tScan bt sz q) := by
    intro q hq
    show sNo (sStep (tTk bt sz) (tW bt sz) (tNv bt sz) (tScan bt sz q) q) = _
    unfold sStep
    split
    · rfl
    split
    · rename_i z; omega
    split
    · unfold sName
      split
      · rfl
      · rfl
    split
    · unfold sNum
      split
      · rfl
      split
      · rfl
      · rfl
    · rfl
  have e1 := one p (Or.inl h3)
  have e2 := one (p + 1) (Or.inr (Or.inr h41))
  have e3 := one (p + 2) (Or.inr (Or.inl a))
  have e4 := one (p + 3) (Or.inr (Or.inl b))
  have e5 := one (p + 4) (Or.inr (Or.inl c))
  have e2' : sNo (tScan bt sz (p + 2)) = sNo (tScan bt sz (p + 1)) := e2
  have e3' : sNo (tScan bt sz (p + 3)) = sNo (tScan bt sz (p + 2)) := e3
  have e4' : sNo (tScan bt sz (p + 4)) = sNo (tScan bt sz (p + 3)) := e4
  have e5' : sNo (tScan bt sz (p + 5)) = sNo (tScan bt sz (p + 4)) := e5
  omega
theorem L_lines : ∀ (f p b : Nat) (os0 os : List pOrd), pLines (tTk bt sz) 2500 f p b os0 = some (.inr os) → p ≤ tT bt sz → b = (osCode os0).length → b ≤ p → os0.length = sNo (tScan bt sz p) → ((sEr (tScan bt sz p)).1 = 0 → sNn (tScan bt sz p) = 3 * sNt (tScan bt sz p)) → qOs bt sz os0 → tTk bt sz (tT bt sz) = 42 ∧ (osCode os).length ≤ tT bt sz ∧ os.length = sNo (tScan bt sz (tT bt sz)) ∧ ((sEr (tScan bt sz (tT bt sz))).1 = 0 → sNn (tScan bt sz (tT bt sz)) = 3 * sNt (tScan bt sz (tT bt sz))) ∧ qOs bt sz os := by
  have ht := tTk_pTk bt sz
  intro f
  induction f with
  | zero => intro p b os0 os h; cases h
  | succ f ih =>
    intro p b os0 os h hp hb hbp ho hn hq
    unfold pLines at h
    by_cases h42 : tTk bt sz p = 42
    · rw [if_pos h42] at h
      cases h
      have hpT : p = tT bt sz := by
        refine Decidable.byContradiction fun z => ?_
        exact (ht.2.2.1 p (by omega)).1 h42
      rw [hpT] at h42 ho hn hbp
      exact ⟨h42, by omega, ho, hn, hq⟩
    rw [if_neg h42] at h
    by_cases h3 : tTk bt sz p = 3
    · rw [if_pos h3] at h
      have hpT := ht.lt hp (by omega) (by omega)
      cases hx : pTile (tTk bt sz) p with
      | none => rw [hx] at h; cases h
      | some x =>
        rw [hx] at h
        match x, hx, h with
        | .inl e', hx, h => cases h
        | .inr q, hx, h =>
          obtain ⟨e1, e2, e3, e4, e5, e6⟩ := pTile_ok ht hpT hx
          rcases gEat_on h with ⟨h29, h⟩ | ⟨-, z⟩
          · rw [e1] at h h29
            refine ih (p + 5 + 1) b os0 os h (ht.lt (show p + 5 ≤ tT bt sz by omega) (by omega) (by omega)) hb (by omega) ?_ (fun z => ?_) hq
            · rw [tScan29 h29, tScan_tileNo h3 e3 e4 e5 e6]; exact ho
            · rw [tScan29 h29] at z ⊢
              exact tScan_tile h3 e3 e4 e5 e6 z (hn (tScan_er0 z (by omega)))
          · cases z
    rw [if_neg h3] at h
    by_cases hk : tTk bt sz p = 4 ∨ tTk bt sz p = 7 ∨ tTk bt sz p = 8
    · rw [if_pos hk] at h
      have hpT := ht.lt hp (by omega) (by omega)
      cases hx : pOrder (tTk bt sz) 2500 p b with
      | none => rw [hx] at h; cases h
      | some x =>
        rw [hx] at h
        match x, hx, h with
        | .inl e', hx, h => cases h
        | .inr (q, o), hx, h =>
          have hok := pOrder_ok ht hpT hk hx
          have hok' := hok
          obtain ⟨k1, k2, ⟨k3, k4, k5⟩, k6, -⟩ := hok
          rcases gEat_on h with ⟨h29, h⟩ | ⟨-, z⟩
          · obtain ⟨a1, a2, a3, a4, a5, a6⟩ := O_er (p := p) (q := q) hk (fun j j1 j2 => by
              obtain ⟨x1, x2, x3, x4, x5, -⟩ := k6 j j1 j2
              exact ⟨x1, x2, x3, x4, x5⟩)
            obtain ⟨b1, -⟩ := a6 (q - (p + 1)) (by omega)
            rw [show p + 1 + (q - (p + 1)) = q by omega] at b1
            have c1 : sNo (tScan bt sz q) = sNo (tScan bt sz p) + 1 := by
              have := congrArg (fun x : Nat × Nat × Nat × Nat × Nat => x.2.2.1) b1
              exact this.trans a3
            have c2 : sNt (tScan bt sz q) = sNt (tScan bt sz p) := by
              have := congrArg (fun x : Nat × Nat × Nat × Nat × Nat => x.2.1) b1
              exact this.trans a2
            have c3 : sNn (tScan bt sz q) = sNn (tScan bt sz p) := by
              have h1 := congrArg (fun x : Nat × Nat × Nat × Nat × Nat => x.2.2.2.1) b1
              have h2 : sNn (tScan bt sz (p + 1)) = sNn (tScan bt sz p) := by
                show sNn (sStep (tTk bt sz) (tW bt sz) (tNv bt sz) (tScan bt sz p) p) = _
                unfold sStep
                rw [if_neg (by omega), if_pos hk]
              exact h1.trans h2
            refine ih (q + 1) _ _ os h (ht.lt k1 (by omega) (by omega)) ?_ ?_ ?_ (fun z => ?_) ?_
            · rw [osCode_app, List.length_append, hb]
            · omega
            · rw [List.length_append, tScan29 h29, c1, ho]; rfl
            · rw [tScan29 h29] at z ⊢
              rw [c2, c3]
              exact hn (tScan_er0 z (by omega))
            · exact hq.app ⟨p, q, hpT, hk, by rw [k5]; exact hok'⟩ (k5.trans hb)
          · cases z
    · rw [if_neg hk] at h
      cases h
theorem L_game {os : List pOrd} (h : pGame (tTk bt sz) 2500 = some (.inr os)) : tTk bt sz (tT bt sz) = 42 ∧ (osCode os).length ≤ tT bt sz ∧ os.length = sNo (tScan bt sz (tT bt sz)) ∧ ((sEr (tScan bt sz (tT bt sz))).1 = 0 → sNn (tScan bt sz (tT bt sz)) = 3 * sNt (tScan bt sz (tT bt sz))) ∧ qOs bt sz os := by
  have ht := tTk_pTk bt sz
  have q0 : qOs bt sz [] := fun o ho => absurd ho List.not_mem_nil
  unfold pGame at h
  by_cases h1 : tTk bt sz 0 = 1
  · rw [if_pos h1] at h
    have g0 := ht.lt (Nat.zero_le _) (by omega) (by omega)
    rcases gEat_on h with ⟨h2, h⟩ | ⟨-, z⟩
    rotate_left
    · cases z
    have g1 := ht.lt (show 1 ≤ tT bt sz by omega) (by omega) (by omega)
    rcases gEat_on h with ⟨h3, h⟩ | ⟨-, z⟩
    rotate_left
    · cases z
    have g2 := ht.lt (show 2 ≤ tT bt sz by omega) (by omega) (by omega)
    rcases gEat_on h with ⟨h4, h⟩ | ⟨-, z⟩
    rotate_left
    · cases z
    have g3 := ht.lt (show 3 ≤ tT bt sz by omega) (by omega) (by omega)
    rcases gEat_on h with ⟨h5, h⟩ | ⟨-, z⟩
    rotate_left
    · cases z
    have g4 := ht.lt (show 4 ≤ tT bt sz by omega) (by omega) (by omega)
    have e1 : tScan bt sz 1 = ((1, 0, 0, 0, 0), fun _ => 0, fun _ => 0, (5, 5), (0, 0)) := by
      show sStep (tTk bt sz) (tW bt sz) (tNv bt sz) sInit 0 = _
      unfold sStep
      rw [if_pos (Or.inl h1), h1]
      rfl
    have st : ∀ q, tTk bt sz q = 40 ∨ tTk bt sz q = 2 → sL (tScan bt sz q) = 1 → sL (tScan bt sz (q + 1)) = 1 ∧ sNt (tScan bt sz (q + 1)) = sNt (tScan bt sz q) ∧ sNn (tScan bt sz (q + 1)) = sNn (tScan bt sz q) ∧ sNo (tScan bt sz (q + 1)) = sNo (tScan bt sz q) := by
      intro q hq hl
      show sL (sStep (tTk bt sz) (tW bt sz) (tNv bt sz) (tScan bt sz q) q) = 1 ∧ sNt (sStep (tTk bt sz) (tW bt sz) (tNv bt sz) (tScan bt sz q) q) = _ ∧ sNn (sStep (tTk bt sz) (tW bt sz) (tNv bt sz) (tScan bt sz q) q) = _ ∧ sNo (sStep (tTk bt sz) (tW bt sz) (tNv bt sz) (tScan bt sz q) q) = _
      unfold sStep
      rw [if_neg (by omega), if_neg (by omega), if_neg (by omega)]
      split
      · unfold sNum
        rw [if_pos hl]
        exact ⟨hl, rfl, rfl, rfl⟩
      · exact ⟨hl, rfl, rfl, rfl⟩
    obtain ⟨l2, t2, n2, o2⟩ := st 1 (Or.inl h2) (by rw [e1])
    obtain ⟨l3, t3, n3, o3⟩ := st 2 (Or.inr h3) l2
    obtain ⟨l4, t4, n4, o4⟩ := st 3 (Or.inl h4) l3
    have tt : sNt (tScan bt sz 1) = 0 ∧ sNn (tScan bt sz 1) = 0 ∧ sNo (tScan bt sz 1) = 0 := by rw [e1]; exact ⟨rfl, rfl, rfl⟩
    have e5 : tScan bt sz 5 = tScan bt sz 4 := tScan29 h5
    have t4' : sNt (tScan bt sz 4) = sNt (tScan bt sz 3) := t4
    have n4' : sNn (tScan bt sz 4) = sNn (tScan bt sz 3) := n4
    have o4' : sNo (tScan bt sz 4) = sNo (tScan bt sz 3) := o4
    have t3' : sNt (tScan bt sz 3) = sNt (tScan bt sz 2) := t3
    have n3' : sNn (tScan bt sz 3) = sNn (tScan bt sz 2) := n3
    have o3' : sNo (tScan bt sz 3) = sNo (tScan bt sz 2) := o3
    have t2' : sNt (tScan bt sz 2) = sNt (tScan bt sz 1) := t2
    have n2' : sNn (tScan bt sz 2) = sNn (tScan bt sz 1) := n2
    have o2' : sNo (tScan bt sz 2) = sNo (tScan bt sz 1) := o2
    refine L_lines 401 5 0 [] os h (by omega) rfl (Nat.zero_le _) ?_ (fun _ => ?_) q0
    · rw [e5]; show 0 = _; omega
    · rw [e5]; omega
  · rw [if_neg h1] at h
    exact L_lines 401 0 0 [] os h (Nat.zero_le _) rfl (Nat.le_refl 0) rfl (fun _ => rfl) q0
/-- the end changes nothing -/
theorem tScan_end (h : tTk bt sz (tT bt sz) = 42) : tScan bt sz (tT bt sz + 1) = tScan bt sz (tT bt sz) := by
  show sStep (tTk bt sz) (tW bt sz) (tNv bt sz) (tScan bt sz (tT bt sz)) (tT bt sz) = _
  unfold sStep
  rw [if_neg (by omega), if_neg (by omega), if_neg (by omega), if_neg (by omega)]
/-- names in orders -/
theorem L_name {o : pOrd} {p q : Nat} (hk : tTk bt sz p = 4 ∨ tTk bt sz p = 7 ∨ tTk bt sz p = 8) (h : pOk (tTk bt sz) (tT bt sz) p (oFrom o) q o) (h0 : (sEr (tScan bt sz (tT bt sz))).1 = 0) {t : Nat} (ht : p ≤ t) (htq : t < q) (h41 : tTk bt sz t = 41) : sL (tScan bt sz t) ≠ 3 ∧ tV bt sz t < sNt (tScan bt sz (tT bt sz)) := by
  obtain ⟨k1, k2, k3, k6, -⟩ := h
  have htp : p + 1 ≤ t := by
    rcases Nat.lt_or_ge p t with z | z
    · exact z
    · have : t = p := by omega
      subst this
      omega
  obtain ⟨a1, a2, a3, a4, a5, a6⟩ := O_er (p := p) (q := q) hk (fun j j1 j2 => by
    obtain ⟨x1, x2, x3, x4, x5, -⟩ := k6 j j1 j2
    exact ⟨x1, x2, x3, x4, x5⟩)
  obtain ⟨b1, -⟩ := a6 (t - (p + 1)) (by omega)
  rw [show p + 1 + (t - (p + 1)) = t by omega] at b1
  have hL : sL (tScan bt sz t) = tTk bt sz p := (congrArg (fun x : Nat × Nat × Nat × Nat × Nat => x.1) b1).trans a1
  have hL3 : sL (tScan bt sz t) ≠ 3 := by omega
  refine ⟨hL3, ?_⟩
  have z1 : (sEr (tScan bt sz (t + 1))).1 = 0 := tScan_er0 h0 (by omega)
  have z0 : (sEr (tScan bt sz t)).1 = 0 := tScan_er0 h0 (by omega)
  have e : sEr (tScan bt sz (t + 1)) = sErr (sKn (tW bt sz) (tScan bt sz t) t).isNone 3 t (sEr (tScan bt sz t)) := by
    show sEr (sStep (tTk bt sz) (tW bt sz) (tNv bt sz) (tScan bt sz t) t) = _
    unfold sStep
    rw [if_neg (by omega), if_neg (by omega), if_pos h41]
    unfold sName
    rw [if_neg hL3]
  unfold tV
  rw [if_neg (by omega)]
  unfold tTile
  cases h1 : sKn (tW bt sz) (tScan bt sz t) t with
  | none =>
    rw [h1] at e
    have e' : sEr (tScan bt sz (t + 1)) = sErr true 3 t (sEr (tScan bt sz t)) := e
    rw [sErr_t z0] at e'
    rw [e'] at z1
    exact absurd z1 (Nat.succ_ne_zero _)
  | some i =>
    have hi : i < sNt (tScan bt sz t) := zFf_lt h1
    have hm' : sNt (tScan bt sz t) ≤ sNt (tScan bt sz (tT bt sz)) := tScan_mono (by omega)
    show i < _
    omega
theorem L_prg {os : List pOrd} (h : pGame (tTk bt sz) 2500 = some (.inr os)) (h0 : (sEr (tScan bt sz (tT bt sz))).1 = 0) : gPrg (sNt (tScan bt sz (tT bt sz))) (tV bt sz) os := by
  obtain ⟨g1, g2, g3, g4, g5⟩ := L_game h
  have h400 := (tTk_pTk bt sz).1
  have hok : sNo (tScan bt sz (tT bt sz)) ≤ 16 := (tScan_ok h0).2.2.2
  refine ⟨by omega, by omega, fun o ho => ?_⟩
  obtain ⟨⟨p, q, q1, q2, q3⟩, q4, q5⟩ := g5 o ho
  have q3' := q3
  obtain ⟨k1, k2, ⟨k3, k4, k5⟩, k6, k7, k8, k9, k10, k11, k12⟩ := q3
  refine ⟨by rw [k3]; exact q2, ?_, ⟨q4, q5⟩, fun s hs hsn => ?_, fun z => k9 (by rw [← k3]; exact z), fun z => k10 (by rw [← k3]; exact z), k11, k12⟩
  · rw [k4]
    exact (L_name q2 q3' h0 (show p ≤ p + 1 by omega) (by omega) k7).2
  · obtain ⟨-, b2, -⟩ := k8 s hs
    obtain ⟨c1, c2, c3⟩ := b2 hsn
    exact (L_name q2 q3' h0 c1 c2 c3).2
/-- the outcome of a tape: its error and the token, and the orders -/
def tEr (bt : Nat → Nat) (sz : Nat) : Nat × Nat := match pGame (tTk bt sz) 2500 with
  | some (.inl e) => (1, e)
  | _ => sEr (tScan bt sz (tT bt sz))
def tOs (bt : Nat → Nat) (sz : Nat) : List pOrd := match pGame (tTk bt sz) 2500 with
  | some (.inr os) => os
  | _ => []
def tB0 (bt : Nat → Nat) (sz : Nat) : eBd := b0 (sCol (tScan bt sz (tT bt sz))) (sRow (tScan bt sz (tT bt sz))) (sNt (tScan bt sz (tT bt sz))) (sNu (tScan bt sz (tT bt sz)))
theorem tEr_ok (h : (tEr bt sz).1 = 0) : ∃ os, pGame (tTk bt sz) 2500 = some (.inr os) ∧ tOs bt sz = os ∧ tEr bt sz = sEr (tScan bt sz (tT bt sz)) := by
  obtain ⟨x, hx⟩ := pGame_tot (tTk_pTk bt sz)
  match x, hx with
  | .inl e, hx =>
    unfold tEr at h
    rw [hx] at h
    exact absurd h (Nat.succ_ne_zero _)
  | .inr os, hx =>
    refine ⟨os, hx, ?_, ?_⟩
    · unfold tOs; rw [hx]
    · unfold tEr; rw [hx]
theorem tOut_gm (h : (tEr bt sz).1 = 0) : gPrg (bN (tB0 bt sz)) (tV bt sz) (tOs bt sz) ∧ bGm (tB0 bt sz) := by
  obtain ⟨os, h1, h2, h3⟩ := tEr_ok h
  rw [h3] at h
  obtain ⟨g1, g2, g3, g4, g5⟩ := L_game h1
  obtain ⟨s1, s2, s3, s4⟩ := tScan_ok (q := tT bt sz) h
  obtain ⟨i1, -⟩ := tScan_in bt sz (tT bt sz)
  have hnn := g4 h
  rw [h2]
  unfold tB0
  rw [b0_N]
  refine ⟨L_prg h1 h, b0_gm s1 s2 i1 (fun j hj => ?_)⟩
  have hj' : j < 3 * sNt (tScan bt sz (tT bt sz)) := hj
  have := s3 j (by omega)
  show sNu (tScan bt sz (tT bt sz)) j < 10
  exact Nat.lt_succ_of_le this
end Told
