/-! ===== the class's public calls ===== -/
abbrev dIn (a : Int32) (n : Nat) : Prop := 0 ≤ a ∧ a < nI n
theorem dIn_nat {a : Int32} {n : Nat} (hn : n < 2 ^ 31) (h : dIn a n) : ∃ k, k < n ∧ a = nI k := by
  have h1 := Int32.le_iff_toInt_le.mp h.1
  have h2 := Int32.lt_iff_toInt_lt.mp h.2
  rw [nI_toInt hn] at h2
  rw [Int32.toInt_zero] at h1
  refine ⟨a.toInt.toNat, by omega, Int32.toInt_inj.mp ?_⟩
  rw [nI_toInt (by omega)]
  omega
theorem dIn_of {k n : Nat} (hk : k < n) (hn : n < 2 ^ 31) : dIn (nI k) n := ⟨nI_pos' (by omega), nI_lt hk hn⟩
abbrev dRn (a : Int32) : Prop := 1 ≤ a ∧ a ≤ 20
theorem dRn_nat {a : Int32} (h : dRn a) : ∃ k, (1 ≤ k ∧ k ≤ 20) ∧ a = nI k := by
  have h1 := Int32.le_iff_toInt_le.mp h.1
  have h2 := Int32.le_iff_toInt_le.mp h.2
  rw [show (1 : Int32) = nI 1 from rfl, nI_toInt (by decide)] at h1
  rw [show (20 : Int32) = nI 20 from rfl, nI_toInt (by decide)] at h2
  refine ⟨a.toInt.toNat, by omega, Int32.toInt_inj.mp ?_⟩
  rw [nI_toInt (by omega)]
  omega
/-- the state: tape, error, orders, board, rounds -/
abbrev gS : Type := (Nat × (Nat → Nat)) × Int32 × ((Nat → Nat) × List pOrd) × eBd × Int32
abbrev gSz (S : gS) : Nat := S.1.1
abbrev gBt (S : gS) : Nat → Nat := S.1.2
abbrev gEr (S : gS) : Int32 := S.2.1
abbrev gTv (S : gS) : Nat → Nat := S.2.2.1.1
abbrev gOs (S : gS) : List pOrd := S.2.2.1.2
abbrev gB (S : gS) : eBd := S.2.2.2.1
abbrev gR (S : gS) : Int32 := S.2.2.2.2
def gWB (S : gS) (B : eBd) (r : Int32) : gS := (S.1, S.2.1, S.2.2.1, B, r)
def sOk (S : gS) : Prop := gSz S ≤ 2000 ∧ (∀ j, gBt S j < 256) ∧ bGm (gB S) ∧ gPrg (bN (gB S)) (gTv S) (gOs S)
theorem gWB_self (S : gS) : gWB S (gB S) (gR S) = S := rfl
theorem sOk.b {S : gS} {B : eBd} {r : Int32} (h : sOk S) (hg : bGm B) (hs : bSz (gB S) B) : sOk (gWB S B r) := by
  refine ⟨h.1, h.2.1, hg, ?_⟩
  show gPrg (bN B) (gTv S) (gOs S)
  rw [hs.2.2.1]
  exact h.2.2.2
section Pub
abbrev dWay (B : eBd) (k c u : Int32) : Prop := dIn k (bN B) ∧ dIn c (bC B) ∧ dIn u 6
theorem eO_pos {o : Option Nat} (h : ∀ k, o = some k → k < 2 ^ 31) : (0 ≤ eO o ↔ o.isSome = true) := by
  cases o with
  | none => exact ⟨fun z => absurd z (by decide), fun z => by cases z⟩
  | some k => exact ⟨fun _ => rfl, fun _ => nI_pos' (h k rfl)⟩
/-! what the calls answer -/
abbrev zI : Type := Nat × Int32 × gS
abbrev zZ : Type := Nat × Bool × gS
def z_hasTile (S : gS) (a : Int32) : zZ := if dIn a (bC (gB S)) then (0, (bAt (gB S) a.toNatClampNeg).isSome, S) else (1, false, S)
def z_tileAt (S : gS) (a : Int32) : zI := if dIn a (bC (gB S)) then (match bAt (gB S) a.toNatClampNeg with | none => (2, 0, S) | some k => (0, nI k, S)) else (1, 0, S)
def z_numberAt (S : gS) (a e : Int32) : zI := if dIn a (bC (gB S)) ∧ dIn e 6 then (match bAt (gB S) a.toNatClampNeg with | none => (2, 0, S) | some k => (0, nI (bNm (gB S) k (bTr (gB S) k) e.toNatClampNeg), S)) else (1, 0, S)
def z_matchesOf (S : gS) (a : Int32) : zI := if dIn a (bC (gB S)) then (0, nI (bMatchOn (gB S) a.toNatClampNeg), S) else (1, 0, S)
def z_isRing (S : gS) (a : Int32) : zZ := if dIn a (bC (gB S)) then (0, bRing (gB S) a.toNatClampNeg, S) else (1, false, S)
def z_isPlaced (S : gS) (a : Int32) : zZ := if dIn a (bN (gB S)) then (0, (bCe (gB S) a.toNatClampNeg).isSome, S) else (1, false, S)
def z_cellOf (S : gS) (a : Int32) : zI := if dIn a (bN (gB S)) then (match bCe (gB S) a.toNatClampNeg with | none => (2, 0, S) | some c => (0, nI c, S)) else (1, 0, S)
def z_turnOf (S : gS) (a : Int32) : zI := if dIn a (bN (gB S)) then (match bCe (gB S) a.toNatClampNeg with | none => (2, 0, S) | some _ => (0, nI (bTr (gB S) a.toNatClampNeg), S)) else (1, 0, S)
def z_fits (S : gS) (k c u : Int32) : zZ := if dWay (gB S) k c u then (0, bFits (gB S) k.toNatClampNeg c.toNatClampNeg u.toNatClampNeg, S) else (1, false, S)
def z_edgeAgainst (S : gS) (k c u : Int32) : zI := if dWay (gB S) k c u then (0, eO (bAgainst (gB S) k.toNatClampNeg c.toNatClampNeg u.toNatClampNeg), S) else (1, 0, S)
def z_waysOf (S : gS) (a : Int32) : zI := if dIn a (bN (gB S)) then (0, nI (bWays (gB S) a.toNatClampNeg), S) else (1, 0, S)
def bLeft (B : eBd) (k : Nat) : Bool := (bCe B k).isNone && (bFirst B k).isNone
def z_isLeftover (S : gS) (a : Int32) : zZ := if dIn a (bN (gB S)) then (0, bLeft (gB S) a.toNatClampNeg, S) else (1, false, S)
def bOpen (B : eBd) : Nat := zSm (fun c => if (bAt B c).isNone && decide (0 < bTb B c) then 1 else 0) (bC B)
def z_looks (S : gS) (a : Int32) : zI := if dIn a (bN (gB S)) then (if bLeft (gB S) a.toNatClampNeg = true then (0, nI (bOpen (gB S)) * (if bSame (gB S) a.toNatClampNeg then 1 else 6), S) else (2, 0, S)) else (1, 0, S)
def z_putTile (S : gS) (k c u : Int32) : zI := if dWay (gB S) k c u then (if bFits (gB S) k.toNatClampNeg c.toNatClampNeg u.toNatClampNeg = true then (0, nI (bGain (gB S) c.toNatClampNeg), gWB S (bPut (gB S) k.toNatClampNeg c.toNatClampNeg u.toNatClampNeg) (gR S)) else (2, 0, S)) else (1, 0, S)
def z_takeTile (S : gS) (a : Int32) : zI := if dIn a (bN (gB S)) then (match bCe (gB S) a.toNatClampNeg with | none => (2, 0, S) | some c => (0, nI (bGain (bLift (gB S) a.toNatClampNeg c) c), gWB S (bLift (gB S) a.toNatClampNeg c) (gR S))) else (1, 0, S)
def z_fitTile (S : gS) (a : Int32) : zI := if dIn a (bN (gB S)) then (match bFirst (gB S) a.toNatClampNeg with | none => (2, 0, S) | some c => (0, nI c, gWB S (bPut (gB S) a.toNatClampNeg c ((bAny (gB S) a.toNatClampNeg c).getD 0)) (gR S))) else (1, 0, S)
/-- rounds: the board and the number of rounds, behind so many more -/
abbrev gX : Type := eBd × Int32
def gNx (tv : Nat → Nat) (os : List pOrd) (x : gX) : gX := ((gRnd tv x.2 os (x.1, 0)).1, x.2 + 1)
def gPl (tv : Nat → Nat) (os : List pOrd) : Nat → gX → gX
  | 0, x => x
  | n + 1, x => gPl tv os n (gNx tv os x)
def gPc (tv : Nat → Nat) (os : List pOrd) : Nat → gX → Int32 → Int32
  | 0, _, v => v
  | n + 1, x, v => gPc tv os n (gNx tv os x) (v + nI (gRnd tv x.2 os (x.1, 0)).2)
def gUr (tv : Nat → Nat) (os : List pOrd) : Nat → Nat → gX → Option Nat
  | 0, k, x => if 0 < bRings x.1 then some k else none
  | f + 1, k, x => if 0 < bRings x.1 then some k else gUr tv os f (k + 1) (gNx tv os x)
def z_playRounds (S : gS) (a : Int32) : zI := if dRn a then (0, gPc (gTv S) (gOs S) a.toNatClampNeg (gB S, gR S) 0, gWB S (gPl (gTv S) (gOs S) a.toNatClampNeg (gB S, gR S)).1 (gPl (gTv S) (gOs S) a.toNatClampNeg (gB S, gR S)).2) else (1, 0, S)
def z_pointsAfter (S : gS) (a : Int32) : zI := if dRn a then (0, nI (bPoints (gPl (gTv S) (gOs S) a.toNatClampNeg (gB S, gR S)).1), S) else (1, 0, S)
def z_until (S : gS) : Int32 := eO (gUr (gTv S) (gOs S) 20 0 (gB S, gR S))
def z_bestCell (S : gS) (a : Int32) : zI := if dIn a (bN (gB S)) then (match bRich (gB S) a.toNatClampNeg with | none => (2, 0, S) | some c => (0, nI c, S)) else (1, 0, S)
def z_bestTurn (S : gS) (a : Int32) : zI := if dIn a (bN (gB S)) then (match bRich (gB S) a.toNatClampNeg with | none => (2, 0, S) | some c => (0, nI ((bAny (gB S) a.toNatClampNeg c).getD 0), S)) else (1, 0, S)
def z_mean (S : gS) : UInt64 := if bMatch (gB S) = 0 then FP.dconst0 else FP.ddiv (FP.i2d (nI (bMatched (gB S)))) (FP.i2d (nI (bMatch (gB S))))
theorem zI_none {S : gS} {a : Int32} {n k : Nat} {α : Type} (hn : n < 2 ^ 31) (hk : k < n) (x y : α) : (if dIn (nI k) n then x else y) = x := if_pos (dIn_of hk hn)
end Pub
