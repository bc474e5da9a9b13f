/-! ===== the board: (columns, rows, tiles, laid), the tile on a cell, the cell under a tile, its turn, the numbers ===== -/
abbrev eBd : Type := (Nat × Nat × Nat × Nat) × (Nat → Option Nat) × (Nat → Option Nat) × (Nat → Nat) × (Nat → Nat)
abbrev bW (B : eBd) : Nat := B.1.1
abbrev bR (B : eBd) : Nat := B.1.2.1
abbrev bN (B : eBd) : Nat := B.1.2.2.1
abbrev bP (B : eBd) : Nat := B.1.2.2.2
abbrev bAt (B : eBd) : Nat → Option Nat := B.2.1
abbrev bCe (B : eBd) : Nat → Option Nat := B.2.2.1
abbrev bTr (B : eBd) : Nat → Nat := B.2.2.2.1
abbrev bNu (B : eBd) : Nat → Nat := B.2.2.2.2
abbrev bC (B : eBd) : Nat := bW B * bR B
/-- the cell beside one at an edge -/
def bBesW (w r c e : Nat) : Option Nat :=
  if e = 0 then (if c % w + 1 < w then some (c + 1) else none)
  else if e = 1 then (if c / w + 1 < r then some (c + w) else none)
  else if e = 2 then (if 0 < c % w ∧ c / w + 1 < r then some (c + w - 1) else none)
  else if e = 3 then (if 0 < c % w then some (c - 1) else none)
  else if e = 4 then (if 0 < c / w then some (c - w) else none)
  else (if 0 < c / w ∧ c % w + 1 < w then some (c - w + 1) else none)
abbrev bBes (B : eBd) (c e : Nat) : Option Nat := bBesW (bW B) (bR B) c e
abbrev bNm (B : eBd) (k t e : Nat) : Nat := bNu B (3 * k + (e + 6 - t) % 6 / 2)
/-- the board's and the tables' sense -/
def bOk (B : eBd) : Prop := (3 ≤ bW B ∧ bW B ≤ 7) ∧ (3 ≤ bR B ∧ bR B ≤ 7) ∧ bN B ≤ 16 ∧ (∀ c k, c < bC B → bAt B c = some k → k < bN B ∧ bCe B k = some c) ∧ (∀ k c, k < bN B → bCe B k = some c → c < bC B ∧ bAt B c = some k ∧ bTr B k < 6) ∧ (∀ i, i < 3 * bN B → bNu B i < 10) ∧ bP B = zSm (fun k => if (bCe B k).isSome then 1 else 0) (bN B)
def bTile (B : eBd) (c e : Nat) : Option Nat := match bBes B c e with
  | none => none
  | some d => bAt B d
def bTb (B : eBd) (c : Nat) : Nat := zSm (fun e => if (bTile B c e).isSome then 1 else 0) 6
/-- the number that the tile beside has where they touch -/
def bFace (B : eBd) (c e : Nat) : Option Nat := match bTile B c e with
  | none => none
  | some k => some (bNm B k (bTr B k) ((e + 3) % 6))
def bClash (B : eBd) (k t c e : Nat) : Bool := match bFace B c e with
  | none => false
  | some x => decide (x ≠ bNm B k t e)
def bAgainst (B : eBd) (k c t : Nat) : Option Nat := zFf (bClash B k t c) 6
def bFits (B : eBd) (k c t : Nat) : Bool := (bCe B k).isNone && (bAt B c).isNone && (decide (bP B = 0) || (decide (0 < bTb B c) && (bAgainst B k c t).isNone))
/-- tiles beside each other have the same number where they touch -/
def bMeet (B : eBd) : Prop := ∀ c e k x, c < bC B → e < 6 → bAt B c = some k → bFace B c e = some x → x = bNm B k (bTr B k) e
def bWays (B : eBd) (k : Nat) : Nat := zSm (fun c => zSm (fun t => if bFits B k c t then 1 else 0) 6) (bC B)
def bAny (B : eBd) (k c : Nat) : Option Nat := zFf (bFits B k c) 6
/-- the first cell with a way -/
def bFirst (B : eBd) (k : Nat) : Option Nat := zFf (fun c => (bAny B k c).isSome) (bC B)
def bRing (B : eBd) (c : Nat) : Bool := decide (bTb B c = 6)
def bRings (B : eBd) : Nat := zSm (fun c => if bRing B c then 1 else 0) (bC B)
def bEnds (B : eBd) : Nat := zSm (fun c => if (bAt B c).isSome then bTb B c else 0) (bC B)
def bMatch (B : eBd) : Nat := bEnds B / 2
def bHere (B : eBd) (c : Nat) : Nat := match bAt B c with
  | none => 0
  | some k => zSm (fun e => if (bTile B c e).isSome then bNm B k (bTr B k) e else 0) 3
def bMatched (B : eBd) : Nat := zSm (bHere B) (bC B)
def bPoints (B : eBd) : Nat := bMatched B + 10 * bRings B
/-- what a tile that fits at a cell brings at an edge -/
def bGainE (B : eBd) (c e : Nat) : Nat := (bFace B c e).getD 0 + (match bBes B c e with
  | none => 0
  | some d => if bTb B d = 5 then 10 else 0)
def bGain (B : eBd) (c : Nat) : Nat := zSm (bGainE B c) 6
/-! the table of cells beside -/
def sX (W c : Int32) (e : Nat) : Int32 := (c - c / W * W) + eCol e
def sY (W c : Int32) (e : Nat) : Int32 := c / W + eRow e
def sBes (W R c : Int32) (e : Nat) : Int32 := if (0 ≤ sX W c e ∧ sX W c e ≤ W - 1) ∧ (0 ≤ sY W c e ∧ sY W c e ≤ R - 1) then sY W c e * W + sX W c e else -1
set_option maxRecDepth 1000000 in
theorem sBes_tab : ∀ w, w < 5 → ∀ r, r < 5 → ∀ c, c < (w + 3) * (r + 3) → ∀ e, e < 6 → sBes (nI (w + 3)) (nI (r + 3)) (nI c) e = eO (bBesW (w + 3) (r + 3) c e) := by decide +kernel
theorem sBes_eq {w r c e : Nat} (hw : 3 ≤ w ∧ w ≤ 7) (hr : 3 ≤ r ∧ r ≤ 7) (hc : c < w * r) (he : e < 6) : sBes (nI w) (nI r) (nI c) e = eO (bBesW w r c e) := by
  obtain ⟨a, rfl⟩ : ∃ a, w = a + 3 := ⟨w - 3, by omega⟩
  obtain ⟨b, rfl⟩ : ∃ b, r = b + 3 := ⟨r - 3, by omega⟩
  exact sBes_tab a (by omega) b (by omega) c hc e he
def bSym (w r c e : Nat) : Bool := match bBesW w r c e with
  | none => true
  | some d => decide (d < w * r) && decide (bBesW w r d ((e + 3) % 6) = some c) && decide (d ≠ c)
set_option maxRecDepth 1000000 in
theorem bSym_tab : ∀ w, w < 5 → ∀ r, r < 5 → ∀ c, c < (w + 3) * (r + 3) → ∀ e, e < 6 → bSym (w + 3) (r + 3) c e = true := by decide +kernel
theorem bBes_sym {w r c e d : Nat} (hw : 3 ≤ w ∧ w ≤ 7) (hr : 3 ≤ r ∧ r ≤ 7) (hc : c < w * r) (he : e < 6) (h : bBesW w r c e = some d) : d < w * r ∧ bBesW w r d ((e + 3) % 6) = some c ∧ d ≠ c := by
  obtain ⟨a, rfl⟩ : ∃ a, w = a + 3 := ⟨w - 3, by omega⟩
  obtain ⟨b, rfl⟩ : ∃ b, r = b + 3 := ⟨r - 3, by omega⟩
  have h1 := bSym_tab a (by omega) b (by omega) c hc e he
  unfold bSym at h1
  rw [h] at h1
  simp only [Bool.and_eq_true, decide_eq_true_eq] at h1
  exact ⟨h1.1.1, h1.1.2, h1.2⟩
def bInj (w r c e e' : Nat) : Bool := decide (e = e') || ((bBesW w r c e).isNone || !decide (bBesW w r c e = bBesW w r c e'))
set_option maxRecDepth 1000000 in
theorem bInj_tab : ∀ w, w < 5 → ∀ r, r < 5 → ∀ c, c < (w + 3) * (r + 3) → ∀ e, e < 6 → ∀ e', e' < 6 → bInj (w + 3) (r + 3) c e e' = true := by decide +kernel
theorem bBes_inj {w r c e e' d : Nat} (hw : 3 ≤ w ∧ w ≤ 7) (hr : 3 ≤ r ∧ r ≤ 7) (hc : c < w * r) (he : e < 6) (he' : e' < 6) (h : bBesW w r c e = some d) (h' : bBesW w r c e' = some d) : e = e' := by
  obtain ⟨a, rfl⟩ : ∃ a, w = a + 3 := ⟨w - 3, by omega⟩
  obtain ⟨b, rfl⟩ : ∃ b, r = b + 3 := ⟨r - 3, by omega⟩
  have h1 := bInj_tab a (by omega) b (by omega) c hc e he e' he'
  unfold bInj at h1
  rw [h, h'] at h1
  simpa using h1
theorem bOk.c49 {B : eBd} (h : bOk B) : bC B ≤ 49 := Nat.mul_le_mul h.1.2 h.2.1.2
theorem bOk.bes {B : eBd} (h : bOk B) {c e d : Nat} (hc : c < bC B) (he : e < 6) (hd : bBes B c e = some d) : d < bC B ∧ bBes B d ((e + 3) % 6) = some c ∧ d ≠ c := bBes_sym h.1 h.2.1 hc he hd
theorem bOk.tile {B : eBd} (h : bOk B) {c e k : Nat} (hc : c < bC B) (he : e < 6) (hk : bTile B c e = some k) : ∃ d, d < bC B ∧ bBes B c e = some d ∧ bAt B d = some k ∧ k < bN B ∧ bCe B k = some d ∧ bTr B k < 6 := by
  unfold bTile at hk
  cases h1 : bBes B c e with
  | none => rw [h1] at hk; cases hk
  | some d =>
    rw [h1] at hk
    have h2 := h.bes hc he h1
    obtain ⟨h3, h4⟩ := h.2.2.2.1 d k h2.1 hk
    exact ⟨d, h2.1, rfl, hk, h3, h4, (h.2.2.2.2.1 k d h3 h4).2.2⟩
theorem bNm_in {k t e n : Nat} (hk : k < n) (ht : t < 6) (he : e < 6) : 3 * k + (e + 6 - t) % 6 / 2 < 3 * n := by omega
theorem bOk.nm {B : eBd} (h : bOk B) {k t e : Nat} (hk : k < bN B) (ht : t < 6) (he : e < 6) : bNm B k t e < 10 := h.2.2.2.2.2.1 _ (bNm_in hk ht he)
theorem bOk.face {B : eBd} (h : bOk B) {c e x : Nat} (hc : c < bC B) (he : e < 6) (hx : bFace B c e = some x) : x < 10 := by
  unfold bFace at hx
  cases h1 : bTile B c e with
  | none => rw [h1] at hx; cases hx
  | some k =>
    rw [h1] at hx
    cases hx
    obtain ⟨d, -, -, -, h3, -, h5⟩ := h.tile hc he h1
    exact h.nm h3 h5 (Nat.mod_lt _ (by decide))
theorem bTb_le (B : eBd) (c : Nat) : bTb B c ≤ 6 := by
  have h := zSm_le (f := fun e => if (bTile B c e).isSome then 1 else 0) (k := 1) (n := 6) (fun i _ => by split <;> omega)
  unfold bTb
  omega
/-! ===== the model's board in its memory ===== -/
