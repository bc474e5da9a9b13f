/-! ===== the class's board in its memory ===== -/
theorem eM1lt : (-1 : Int32) < 0 := by decide
theorem eM1nle : ¬ (0 : Int32) ≤ -1 := by decide
theorem eIx (c e : Nat) : (nI c * 6) + nI e = nI (c * 6 + e) := by rw [eL6, nI_mul, nI_add]
theorem eIx2 (k e n : Nat) : (((nI k * 6) + nI e) * 10) + nI n = nI ((k * 6 + e) * 10 + n) := by rw [eIx, eL10, nI_mul, nI_add]
theorem eOpp {e : Nat} (he : e < 6) : (nI e + 3) - (nI e + 3) / 6 * 6 = nI ((e + 3) % 6) := by rw [eL3, eL6, nI_add, nI_rem (by omega) (by decide) (by decide)]
theorem zFf_isNone_succ (p : Nat → Bool) (n : Nat) : (zFf p (n + 1)).isNone = ((zFf p n).isNone && !p n) := by
  rw [zFf]
  cases zFf p n with
  | some i => rfl
  | none => cases p n <;> rfl
/-- the bits of six turns, counted -/
def eBits (a1 : Int32) : Int32 :=
  let b1 := a1 - (((a1.toUInt32 >>> ((1 : Int32).toUInt32 &&& Int32.toUInt32 31)).toInt32) &&& 1431655765)
  let b2 := (b1 &&& 858993459) + (((b1.toUInt32 >>> ((2 : Int32).toUInt32 &&& Int32.toUInt32 31)).toInt32) &&& 858993459)
  let b3 := (b2 + ((b2.toUInt32 >>> ((4 : Int32).toUInt32 &&& Int32.toUInt32 31)).toInt32)) &&& 252645135
  let b4 := b3 + ((b3.toUInt32 >>> ((8 : Int32).toUInt32 &&& Int32.toUInt32 31)).toInt32)
  let b5 := b4 + ((b4.toUInt32 >>> ((16 : Int32).toUInt32 &&& Int32.toUInt32 31)).toInt32)
  b5 &&& 63
theorem eBits_M6 : ∀ a b c d e f : Bool, eBits (zM6 a b c d e f) = nI ((((((((if a then 1 else 0) + (if b then 1 else 0)) + (if c then 1 else 0)) + (if d then 1 else 0)) + (if e then 1 else 0)) + (if f then 1 else 0)))) := by decide +kernel
theorem eBits_mask (p : Nat → Bool) : eBits (zMask p) = nI (zSm (fun t => if p t then 1 else 0) 6) := by
  have h := eBits_M6 (p 0) (p 1) (p 2) (p 3) (p 4) (p 5)
  have e1 : zSm (fun t => if p t then 1 else 0) 6 = (((((((if p 0 then 1 else 0) + (if p 1 then 1 else 0)) + (if p 2 then 1 else 0)) + (if p 3 then 1 else 0)) + (if p 4 then 1 else 0)) + (if p 5 then 1 else 0))) := by
    simp only [zSm, Nat.zero_add]
  rw [e1]
  exact h
/-- a tile's numbers are all the same -/
def bSame (B : eBd) (k : Nat) : Bool := decide (bNu B (3 * k) = bNu B (3 * k + 1)) && decide (bNu B (3 * k) = bNu B (3 * k + 2))
theorem eMax0 (o : Option Nat) (h : ∀ x, o = some x → x < 10) : (if eO o < 0 then (0 : Int32) else eO o) = nI (o.getD 0) := by
  cases o with
  | none => rw [if_pos (show eO none < 0 from eM1lt)]; rfl
  | some x => rw [if_neg (show ¬ eO (some x) < 0 from nI_pos (by have := h x rfl; omega))]; rfl
theorem bGainE_none {B : eBd} {c e : Nat} (h : bBes B c e = none) : bGainE B c e = (bFace B c e).getD 0 := by
  unfold bGainE
  rw [h]
  rfl
theorem bGainE_some {B : eBd} {c e d : Nat} (h : bBes B c e = some d) : bGainE B c e = (bFace B c e).getD 0 + (if bTb B d = 5 then 10 else 0) := by
  unfold bGainE
  rw [h]
theorem bGainE_le {B : eBd} (hb : bOk B) {c e : Nat} (hc : c < bC B) (he : e < 6) : bGainE B c e ≤ 20 := by
  have h1 : (bFace B c e).getD 0 ≤ 10 := by
    cases h2 : bFace B c e with
    | none => exact Nat.zero_le _
    | some x => exact Nat.le_of_lt (hb.face hc he h2)
  cases h3 : bBes B c e with
  | none => rw [bGainE_none h3]; omega
  | some d => rw [bGainE_some h3]; split <;> omega
theorem bGain_le {B : eBd} (hb : bOk B) {c : Nat} (hc : c < bC B) : bGain B c ≤ 120 := by
  have h := zSm_le (f := bGainE B c) (k := 20) (n := 6) (fun e he => bGainE_le hb hc he)
  unfold bGain
  omega
/-- of the numbers with p the first with the greatest g -/
def zBest (p : Nat → Bool) (g : Nat → Nat) : Nat → Option Nat
  | 0 => none
  | n + 1 => match zBest p g n with
    | none => if p n then some n else none
    | some b => if p n && decide (g b < g n) then some n else some b
theorem zBest_lt {p : Nat → Bool} {g : Nat → Nat} {b : Nat} : ∀ {n : Nat}, zBest p g n = some b → b < n ∧ p b = true
  | 0, h => by cases h
  | n + 1, h => by
    rw [zBest] at h
    cases h1 : zBest p g n with
    | none =>
      rw [h1] at h
      cases h2 : p n with
      | false => rw [h2] at h; cases h
      | true => rw [h2] at h; cases h; exact ⟨by omega, h2⟩
    | some a =>
      rw [h1] at h
      try dsimp only at h
      obtain ⟨h3, h4⟩ := zBest_lt h1
      split at h
      · rename_i h5
        cases h
        simp only [Bool.and_eq_true] at h5
        exact ⟨by omega, h5.1⟩
      · cases h
        exact ⟨by omega, h4⟩
/-- the richest cell of a tile, and the richest tile -/
def bRich (B : eBd) (k : Nat) : Option Nat := zBest (fun c => (bAny B k c).isSome) (bGain B) (bC B)
def bRichG (B : eBd) (k : Nat) : Nat := match bRich B k with
  | none => 0
  | some c => bGain B c
def bBestT (B : eBd) : Option Nat := zBest (fun k => (bRich B k).isSome) (bRichG B) (bN B)
def eOg (g : Nat → Nat) (o : Option Nat) : Int32 := match o with
  | none => -1
  | some b => nI (g b)
theorem bRichG_le {B : eBd} (hb : bOk B) (k : Nat) : bRichG B k ≤ 120 := by
  unfold bRichG
  cases h1 : bRich B k with
  | none => exact Nat.zero_le _
  | some c => exact bGain_le hb (zBest_lt h1).1
def bMatchOn (B : eBd) (c : Nat) : Nat := if (bAt B c).isSome then bTb B c else 0
/-- the numbers faced at the first three edges of laid tiles -/
def bHereF (B : eBd) (c : Nat) : Nat := if (bAt B c).isSome then zSm (fun e => (bFace B c e).getD 0) 3 else 0
/-- where tiles beside each other agree, the numbers faced are the tiles' own -/
theorem bHereF_eq {B : eBd} (hm : bMeet B) {c : Nat} (hc : c < bC B) : bHereF B c = bHere B c := by
  unfold bHereF bHere
  cases h1 : bAt B c with
  | none => rfl
  | some k =>
    refine zSm_ext (fun e he => ?_)
    cases h2 : bTile B c e with
    | none =>
      have : bFace B c e = none := by unfold bFace; rw [h2]
      rw [this]
      rfl
    | some k2 =>
      obtain ⟨x, hx⟩ : ∃ x, bFace B c e = some x := by unfold bFace; rw [h2]; exact ⟨_, rfl⟩
      rw [hx]
      exact hm c e k x hc (by omega) h1 hx
