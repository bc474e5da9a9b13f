/-! ===== the model's readings are the spec's ===== -/
/-- what a node takes first -/
def mLeft (kn : Nat → Option Nat) (nb : Nat → Int32) (s : pSt) : Int32 := if s.1 = 40 then nb s.2.1 else if s.1 = 16 ∨ s.1 = 18 ∨ s.1 = 19 then nI ((kn s.2.1).getD 0) else nI s.2.2.1
theorem mLeft_num {kn : Nat → Option Nat} {nb : Nat → Int32} {s : pSt} (h : s.1 = 40) : mLeft kn nb s = nb s.2.1 := if_pos h
theorem mLeft_nam {kn : Nat → Option Nat} {nb : Nat → Int32} {s : pSt} (h : s.1 = 16 ∨ s.1 = 18 ∨ s.1 = 19) : mLeft kn nb s = nI ((kn s.2.1).getD 0) := by
  unfold mLeft
  rw [if_neg (by omega), if_pos h]
theorem mLeft_op {kn : Nat → Option Nat} {nb : Nat → Int32} {s : pSt} (h : s.1 ≠ 40) (h1 : ¬ (s.1 = 16 ∨ s.1 = 18 ∨ s.1 = 19)) : mLeft kn nb s = nI s.2.2.1 := by
  unfold mLeft
  rw [if_neg h, if_neg h1]
def mNest (m d : Nat) : Nat := (8 - d) * 9 + (match m with
  | 0 => 7
  | 1 => 8
  | 2 => 8
  | 3 => 9
  | 4 => 9
  | 5 => 11
  | 6 => 12
  | 7 => 12
  | _ => 13)

