/-! ===== the model's counts, points and best ways ===== -/
theorem eZif {x : Bool} {n : Nat} : nI (n + (if x then 1 else 0)) = nI n + (if x then 1 else 0) := by cases x <;> exact (nI_add _ _).symm
theorem bNotLe {a b : Nat} (h : a < b) (hb : b < 2 ^ 31) : ¬ nI b ≤ nI a := nI_ge h hb
theorem bWaysC_le (B : eBd) (k c n : Nat) : zSm (fun t => if bFits B k c t then 1 else 0) n ≤ n := by
  have h := zSm_le (f := fun t => if bFits B k c t then 1 else 0) (k := 1) (n := n) (fun i _ => by split <;> omega)
  omega
/-- the first way: six times the cell, and the turn -/
def bWay (B : eBd) (k : Nat) : Option Nat := match bFirst B k with
  | none => none
  | some c => some (6 * c + (bAny B k c).getD 0)
