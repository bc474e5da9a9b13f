/-! ===== a tile is put, a tile is lifted ===== -/
def zU {α : Type} (f : Nat → α) (k : Nat) (v : α) : Nat → α := fun i => if i = k then v else f i
theorem zU_same {α : Type} (f : Nat → α) (k : Nat) (v : α) : zU f k v k = v := if_pos rfl
theorem zU_ne {α : Type} (f : Nat → α) {k i : Nat} (v : α) (h : i ≠ k) : zU f k v i = f i := if_neg h
theorem zSm_diff {f g : Nat → Nat} {k a : Nat} : ∀ {n : Nat}, k < n → g k = f k + a → (∀ i, i < n → i ≠ k → g i = f i) → zSm g n = zSm f n + a
  | 0, h, _, _ => absurd h (by omega)
  | n + 1, h, h1, h2 => by
    rw [zSm, zSm]
    by_cases hn : k = n
    · subst hn
      rw [zSm_ext (fun i hi => h2 i (by omega) (by omega)), h1]
      omega
    · rw [zSm_diff (n := n) (by omega) h1 (fun i hi => h2 i (by omega)), h2 n (by omega) (fun q => hn q.symm)]
      omega
def bPut (B : eBd) (k c t : Nat) : eBd := ((bW B, bR B, bN B, bP B + 1), zU (bAt B) c (some k), zU (bCe B) k (some c), zU (bTr B) k t, bNu B)
def bLift (B : eBd) (k c : Nat) : eBd := ((bW B, bR B, bN B, bP B - 1), zU (bAt B) c none, zU (bCe B) k none, bTr B, bNu B)
theorem bOk.put {B : eBd} (hb : bOk B) {k c t : Nat} (hk : k < bN B) (hc : c < bC B) (ht : t < 6) (h1 : bAt B c = none) (h2 : bCe B k = none) : bOk (bPut B k c t) := by
  obtain ⟨a1, a2, a3, a4, a5, a6, a7⟩ := hb
  refine ⟨a1, a2, a3, ?_, ?_, a6, ?_⟩
  · intro c' k' hc' h
    by_cases hq : c' = c
    · subst hq
      have e1 : some k = some k' := (zU_same (bAt B) c' (some k)).symm.trans h
      cases e1
      exact ⟨hk, zU_same _ _ _⟩
    · have e1 : bAt B c' = some k' := (zU_ne (bAt B) (some k) hq).symm.trans h
      obtain ⟨b1, b2⟩ := a4 c' k' hc' e1
      refine ⟨b1, ?_⟩
      have hkk : k' ≠ k := fun z => by subst z; rw [h2] at b2; cases b2
      exact (zU_ne (bCe B) (some c) hkk).trans b2
  · intro k' c' hk' h
    by_cases hq : k' = k
    · subst hq
      have e1 : some c = some c' := (zU_same (bCe B) k' (some c)).symm.trans h
      cases e1
      exact ⟨hc, zU_same _ _ _, by
        have : zU (bTr B) k' t k' = t := zU_same _ _ _
        show zU (bTr B) k' t k' < 6
        omega⟩
    · have e1 : bCe B k' = some c' := (zU_ne (bCe B) (some c) hq).symm.trans h
      obtain ⟨b1, b2, b3⟩ := a5 k' c' hk' e1
      have hcc : c' ≠ c := fun z => by subst z; rw [h1] at b2; cases b2
      exact ⟨b1, (zU_ne (bAt B) (some k) hcc).trans b2, by
        show zU (bTr B) k t k' < 6
        rw [zU_ne _ _ hq]
        exact b3⟩
  · show bP B + 1 = zSm (fun i => if (zU (bCe B) k (some c) i).isSome then 1 else 0) (bN B)
    rw [zSm_diff (f := fun i => if (bCe B i).isSome then 1 else 0) (a := 1) hk (by rw [zU_same, h2]; rfl) (fun i _ hi => by rw [zU_ne _ _ hi]), ← a7]
theorem bOk.lift {B : eBd} (hb : bOk B) {k c : Nat} (hk : k < bN B) (h2 : bCe B k = some c) : bOk (bLift B k c) := by
  obtain ⟨a1, a2, a3, a4, a5, a6, a7⟩ := hb
  obtain ⟨hc, h1, -⟩ := a5 k c hk h2
  refine ⟨a1, a2, a3, ?_, ?_, a6, ?_⟩
  · intro c' k' hc' h
    by_cases hq : c' = c
    · subst hq
      have e1 : none = some k' := (zU_same (bAt B) c' none).symm.trans h
      cases e1
    · have e1 : bAt B c' = some k' := (zU_ne (bAt B) none hq).symm.trans h
      obtain ⟨b1, b2⟩ := a4 c' k' hc' e1
      refine ⟨b1, ?_⟩
      have hkk : k' ≠ k := fun z => by subst z; rw [h2] at b2; cases b2; exact hq rfl
      exact (zU_ne (bCe B) none hkk).trans b2
  · intro k' c' hk' h
    by_cases hq : k' = k
    · subst hq
      have e1 : none = some c' := (zU_same (bCe B) k' none).symm.trans h
      cases e1
    · have e1 : bCe B k' = some c' := (zU_ne (bCe B) none hq).symm.trans h
      obtain ⟨b1, b2, b3⟩ := a5 k' c' hk' e1
      have hcc : c' ≠ c := fun z => by subst z; rw [h1] at b2; cases b2; exact hq rfl
      exact ⟨b1, (zU_ne (bAt B) none hcc).trans b2, b3⟩
  · show bP B - 1 = zSm (fun i => if (zU (bCe B) k none i).isSome then 1 else 0) (bN B)
    have := zSm_diff (g := fun i => if (bCe B i).isSome then 1 else 0) (f := fun i => if (zU (bCe B) k none i).isSome then 1 else 0) (a := 1) hk (by rw [zU_same, h2]; rfl) (fun i _ hi => by rw [zU_ne _ _ hi])
    omega
theorem bTile_put {B : eBd} {k c t c' e' : Nat} : bTile (bPut B k c t) c' e' = if bBes B c' e' = some c then some k else bTile B c' e' := by
  unfold bTile
  show (match bBes B c' e' with
    | none => none
    | some d => zU (bAt B) c (some k) d) = _
  cases h1 : bBes B c' e' with
  | none => rfl
  | some d =>
    by_cases hq : d = c
    · subst hq
      rw [if_pos rfl]
      exact zU_same _ _ _
    · rw [if_neg (fun z => hq (Option.some.inj z))]
      exact zU_ne _ _ hq
theorem bTile_lift {B : eBd} {k c c' e' : Nat} : bTile (bLift B k c) c' e' = if bBes B c' e' = some c then none else bTile B c' e' := by
  unfold bTile
  show (match bBes B c' e' with
    | none => none
    | some d => zU (bAt B) c none d) = _
  cases h1 : bBes B c' e' with
  | none => rfl
  | some d =>
    by_cases hq : d = c
    · subst hq
      rw [if_pos rfl]
      exact zU_same _ _ _
    · rw [if_neg (fun z => hq (Option.some.inj z))]
      exact zU_ne _ _ hq
theorem bFace_put {B : eBd} (hb : bOk B) {k c t c' e' : Nat} (hc' : c' < bC B) (he' : e' < 6) (h2 : bCe B k = none) : bFace (bPut B k c t) c' e' = if bBes B c' e' = some c then some (bNm B k t ((e' + 3) % 6)) else bFace B c' e' := by
  unfold bFace
  rw [bTile_put]
  by_cases hq : bBes B c' e' = some c
  · rw [if_pos hq, if_pos hq]
    show some (bNu B (3 * k + ((e' + 3) % 6 + 6 - zU (bTr B) k t k) % 6 / 2)) = _
    rw [zU_same]
  · rw [if_neg hq, if_neg hq]
    cases h1 : bTile B c' e' with
    | none => rfl
    | some k2 =>
      obtain ⟨d, -, -, -, -, h3, -⟩ := hb.tile hc' he' h1
      have hkk : k2 ≠ k := fun z => by subst z; rw [h2] at h3; cases h3
      show some (bNu B (3 * k2 + ((e' + 3) % 6 + 6 - zU (bTr B) k t k2) % 6 / 2)) = _
      rw [zU_ne _ _ hkk]
theorem bFace_lift {B : eBd} {k c c' e' : Nat} : bFace (bLift B k c) c' e' = if bBes B c' e' = some c then none else bFace B c' e' := by
  unfold bFace
  rw [bTile_lift]
  by_cases hq : bBes B c' e' = some c
  · rw [if_pos hq, if_pos hq]
  · rw [if_neg hq, if_neg hq]
    rfl
/-- the edge of c that another cell's edge lies against -/
theorem bBes_opp {B : eBd} (hb : bOk B) {c c' e' : Nat} (hc' : c' < bC B) (he' : e' < 6) (h : bBes B c' e' = some c) : bBes B c ((e' + 3) % 6) = some c' := (hb.bes hc' he' h).2.1
theorem bOpp2 {e : Nat} (he : e < 6) : ((e + 3) % 6 + 3) % 6 = e := by omega
/-! the model's put and take -/
