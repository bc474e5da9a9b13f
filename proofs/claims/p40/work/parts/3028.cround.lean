/-! ===== the class carries orders and rounds out ===== -/
theorem pCut1 {a b c d : List pSt} {j : Nat} {s : pSt} (h : (a ++ (b ++ c))[j]? = some s) : (a ++ (b ++ (c ++ d)))[j]? = some s := by
  have hj : j < (a ++ (b ++ c)).length := by
    rcases Nat.lt_or_ge j (a ++ (b ++ c)).length with h1 | h1
    · exact h1
    · rw [List.getElem?_eq_none h1] at h; cases h
  rw [show a ++ (b ++ (c ++ d)) = (a ++ (b ++ c)) ++ d by simp only [List.append_assoc], List.getElem?_append_left hj]
  exact h
theorem pCut2 {a b c d : List pSt} {j : Nat} : (a ++ (b ++ (c ++ d)))[a.length + b.length + c.length + j]? = d[j]? := by
  rw [show a ++ (b ++ (c ++ d)) = (a ++ (b ++ c)) ++ d by simp only [List.append_assoc], List.getElem?_append_right (by simp only [List.length_append]; omega)]
  congr 1
  simp only [List.length_append]
  omega
section COrd
variable {tv : Nat → Nat} {B : eBd} {r : Int32} {os : List pOrd}
theorem pTr.pos {ty : Bool} {b : Nat} {cd : List pSt} (h : pTr ty b cd) : 1 ≤ cd.length := h.len
end COrd
