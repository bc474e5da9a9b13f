/-! ===== what a way brings; the best way ===== -/
theorem bNone_of0 {B : eBd} (hb : bOk B) (h0 : bP B = 0) {c : Nat} (hc : c < bC B) : bAt B c = none := by
  cases h1 : bAt B c with
  | none => rfl
  | some k =>
    obtain ⟨h2, h3⟩ := hb.2.2.2.1 c k hc h1
    have := hb.2.2.2.2.2.2
    rw [h0] at this
    have h4 := zSm_of0 this.symm k h2
    try dsimp only at h4
    rw [h3] at h4
    exact absurd h4 (by simp)
theorem bTile_of0 {B : eBd} (hb : bOk B) (h0 : bP B = 0) {c e : Nat} (hc : c < bC B) (he : e < 6) : bTile B c e = none := by
  unfold bTile
  cases h1 : bBes B c e with
  | none => rfl
  | some d => exact bNone_of0 hb h0 (hb.bes hc he h1).1
theorem bTb_of0 {B : eBd} (hb : bOk B) (h0 : bP B = 0) {c : Nat} (hc : c < bC B) : bTb B c = 0 := zSm_zero (fun e he => by rw [bTile_of0 hb h0 hc he]; rfl)
theorem bGain_of0 {B : eBd} (hb : bOk B) (h0 : bP B = 0) {c : Nat} (hc : c < bC B) : bGain B c = 0 := by
  refine zSm_zero (fun e he => ?_)
  unfold bGainE bFace
  rw [bTile_of0 hb h0 hc he]
  cases h1 : bBes B c e with
  | none => rfl
  | some d =>
    try dsimp only
    rw [bTb_of0 hb h0 (hb.bes hc he h1).1]
    rfl
theorem bTb_two {B : eBd} {d a b : Nat} (ha : a < 6) (hb : b < 6) (hab : a ≠ b) (h1 : bTile B d a = none) (h2 : bTile B d b = none) : bTb B d ≤ 4 := by
  have e1 := zSm_diff (f := fun e => if (bTile B d e).isSome then 1 else 0) (g := fun e => if e = a then 1 else if (bTile B d e).isSome then 1 else 0) (k := a) (a := 1) (n := 6) ha (by rw [if_pos rfl, h1]; rfl) (fun i _ hi => by rw [if_neg hi])
  have e2 := zSm_diff (f := fun e => if e = a then 1 else if (bTile B d e).isSome then 1 else 0) (g := fun e => if e = b then 1 else if e = a then 1 else if (bTile B d e).isSome then 1 else 0) (k := b) (a := 1) (n := 6) hb (by rw [if_pos rfl, if_neg (fun z => hab z.symm), h2]; rfl) (fun i _ hi => by rw [if_neg hi])
  have e3 := zSm_le (f := fun e => if e = b then 1 else if e = a then 1 else if (bTile B d e).isSome then 1 else 0) (k := 1) (n := 6) (fun i _ => by repeat (first | split | omega))
  unfold bTb
  omega
theorem bInside {B : eBd} (hb : bOk B) {c e d : Nat} (hc : c < bC B) (he : e < 6) (h : bBes B c e = some d) (h1 : bAt B c = none) (h5 : bTb B d = 5) : zFf (fun e => (bBes B d e).isNone) 6 = none := by
  obtain ⟨hd, h2, -⟩ := hb.bes hc he h
  refine zFf_none (fun a ha => ?_)
  cases h3 : bBes B d a with
  | some x => rfl
  | none =>
    have h4 : a ≠ (e + 3) % 6 := fun z => by rw [z, h2] at h3; cases h3
    have := bTb_two ha (Nat.mod_lt (e + 3) (by decide)) h4 (by unfold bTile; rw [h3]) (by unfold bTile; rw [h2]; exact h1)
    omega
theorem bFits_face {B : eBd} {k c u : Nat} (h : bFits B k c u = true) : bCe B k = none ∧ bAt B c = none ∧ (bP B = 0 ∨ (∀ e x, e < 6 → bFace B c e = some x → x = bNm B k u e)) := by
  unfold bFits at h
  simp only [Bool.and_eq_true, Bool.or_eq_true, decide_eq_true_eq, Option.isNone_iff_eq_none] at h
  refine ⟨h.1.1, h.1.2, ?_⟩
  rcases h.2 with h0 | ⟨-, h1⟩
  · exact Or.inl h0
  · refine Or.inr (fun e x he hx => ?_)
    have h2 := zFf_none' h1 e he
    unfold bClash at h2
    rw [hx] at h2
    exact Decidable.byContradiction fun z => absurd h2 (by try dsimp only; rw [decide_eq_true z]; decide)
/-- the best way after so many cells, and after so many turns of the next -/
def hbS (B : eBd) (k c : Nat) : Option (Nat × Nat) := match zBest (fun c => (bAny B k c).isSome) (bGain B) c with
  | none => none
  | some b => some (b, (bAny B k b).getD 0)
def hbT (B : eBd) (k c u : Nat) : Option (Nat × Nat) := match zFf (bFits B k c) u with
  | none => hbS B k c
  | some t => match zBest (fun c => (bAny B k c).isSome) (bGain B) c with
    | none => some (c, t)
    | some b => if bGain B b < bGain B c then some (c, t) else hbS B k c
theorem hbT_6 (B : eBd) (k c : Nat) : hbT B k c 6 = hbS B k (c + 1) := by
  unfold hbT hbS
  rw [zBest]
  cases h1 : zFf (bFits B k c) 6 with
  | none =>
    have e1 : (bAny B k c).isSome = false := by unfold bAny; rw [h1]; rfl
    cases h2 : zBest (fun c => (bAny B k c).isSome) (bGain B) c with
    | none => try dsimp only; rw [e1]; rfl
    | some b => try dsimp only; rw [e1]; rfl
  | some t =>
    have e0 : bAny B k c = some t := h1
    have e2 : (bAny B k c).isSome = true := by rw [e0]; rfl
    cases h2 : zBest (fun c => (bAny B k c).isSome) (bGain B) c with
    | none =>
      dsimp only
      rw [if_pos e2]
      dsimp only
      rw [e0]
      rfl
    | some b =>
      dsimp only
      by_cases hq : bGain B b < bGain B c
      · rw [if_pos hq, e2, decide_eq_true hq, if_pos (show (true && true) = true from rfl)]
        dsimp only
        rw [e0]
        rfl
      · rw [if_neg hq, e2, decide_eq_false hq, if_neg (show ¬ (true && false) = true by decide)]
