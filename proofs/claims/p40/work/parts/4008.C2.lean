/-! ===== p40: the law's expressions: leaf, sum of leaves, test of sums, test of tests ===== -/
/-- sort 0 to 7 and a number -/
abbrev xLf : Type := Nat × Nat
/-- sort 0 to 14, a number, two leaves -/
abbrev xS1 : Type := Nat × Nat × xLf × xLf
/-- sort 15 to 21, a number, a sum, a leaf -/
abbrev xT0 : Type := Nat × Nat × xS1 × xLf
/-- sort 15 to 24, a test, two tests -/
abbrev xT1 : Type := Nat × xT0 × xT0 × xT0
def tks (tk : Nat → Nat) (p : Nat) (ks : List Nat) : Prop := ∀ j x, ks[j]? = some x → tk (p + j) = x
theorem tks.left {tk : Nat → Nat} {p : Nat} {f g : List Nat} (h : tks tk p (f ++ g)) : tks tk p f := fun j x hx => h j x (by rw [List.getElem?_append_left (List.getElem?_eq_some_iff.mp hx).1]; exact hx)
theorem tks.right {tk : Nat → Nat} {p : Nat} {f g : List Nat} (h : tks tk p (f ++ g)) : tks tk (p + f.length) g := fun j x hx => by
  have := h (f.length + j) x (by rw [List.getElem?_append_right (by omega), Nat.add_sub_cancel_left]; exact hx)
  rw [show p + f.length + j = p + (f.length + j) by omega]
  exact this
theorem tks.head {tk : Nat → Nat} {p k : Nat} {f : List Nat} (h : tks tk p (k :: f)) : tk p = k := h 0 k rfl
theorem tks.tail {tk : Nat → Nat} {p k : Nat} {f : List Nat} (h : tks tk p (k :: f)) : tks tk (p + 1) f := tks.right (f := [k]) h
def lfK (x : xLf) : List Nat := if x.1 = 0 then [40] else if x.1 < 7 then [9 + x.1] else [16, 17, 41]
def lfC (p : Nat) (x : xLf) : List pSt := if x.1 = 0 then [(40, p, 0, 0)] else if x.1 < 7 then [(9 + x.1, p, 0, 0)] else [(16, p + 2, 0, 0)]
theorem lfC_len (p : Nat) (x : xLf) : (lfC p x).length = 1 := by
  unfold lfC
  split
  · rfl
  · split <;> rfl
theorem lfK_pos (x : xLf) : 1 ≤ (lfK x).length := by
  unfold lfK
  split
  · exact Nat.le_refl 1
  · split
    · exact Nat.le_refl 1
    · show 1 ≤ 3; omega
/-- signs of sums and products, in the law's own numbers: 11 to 14 are + - * / -/
def s1K (x : xS1) : List Nat := if x.1 < 8 then lfK (x.1, x.2.1) else if x.1 = 8 then 32 :: lfK x.2.2.1 else if x.1 < 11 then [14 + x.1, 25] ++ (lfK x.2.2.1 ++ (30 :: (lfK x.2.2.2 ++ [26]))) else 25 :: (lfK x.2.2.1 ++ ((20 + x.1) :: (lfK x.2.2.2 ++ [26])))
def s1C (p b : Nat) (x : xS1) : List pSt := if x.1 < 8 then lfC p (x.1, x.2.1) else if x.1 = 8 then lfC (p + 1) x.2.2.1 ++ [(44, 0, b, 0)] else if x.1 < 11 then lfC (p + 2) x.2.2.1 ++ (lfC (p + 2 + (lfK x.2.2.1).length + 1) x.2.2.2 ++ [(14 + x.1, 0, b, b + 1)]) else lfC (p + 1) x.2.2.1 ++ (lfC (p + 1 + (lfK x.2.2.1).length + 1) x.2.2.2 ++ [(20 + x.1, 0, b, b + 1)])
/-- a kind that ends a sum: no sign of a sum or a product -/
def kEnd (k : Nat) : Prop := k ≠ 31 ∧ k ≠ 32 ∧ k ≠ 33 ∧ k ≠ 34
theorem kEnd.m {k : Nat} (h : kEnd k) : pOpM k = false := by
  unfold pOpM
  rw [beq_false_of_ne h.2.2.1, beq_false_of_ne h.2.2.2]
  rfl
theorem kEnd.a {k : Nat} (h : kEnd k) : pOpA k = false := by
  unfold pOpA
  rw [beq_false_of_ne h.1, beq_false_of_ne h.2.1]
  rfl
section Expr
variable {tk : Nat → Nat} {d p b : Nat}
theorem lf_val {x : xLf} (hx : x.1 < 8) (h : tks tk p (lfK x)) : vP tk 1 0 d p b (p + (lfK x).length) (lfC p x) := by
  refine vP_val (fun rec => ?_)
  unfold lfK at h ⊢
  unfold lfC pVal
  by_cases h0 : x.1 = 0
  · rw [if_pos h0] at h ⊢
    have e := h.head
    rw [if_pos (Or.inl e), if_pos h0, e]
    rfl
  · rw [if_neg h0] at h ⊢
    rw [if_neg h0]
    by_cases h7 : x.1 < 7
    · rw [if_pos h7] at h ⊢
      have e := h.head
      rw [if_pos (Or.inr (by omega)), if_pos h7, e]
      rfl
    · rw [if_neg h7] at h ⊢
      have e := h.head
      have e1 := h.tail.head
      have e2 := h.tail.tail.head
      rw [if_neg (by omega), if_pos e, if_neg h7]
      unfold pEat
      rw [if_pos e1, if_pos (show tk (p + 2) = 41 from e2)]
      rfl
theorem lf_sum {x : xLf} (hx : x.1 < 8) (h : tks tk p (lfK x)) (he : kEnd (tk (p + (lfK x).length))) : vP tk 3 3 d p b (p + (lfK x).length) (lfC p x) := vP_sum (by omega) (vP_prod (Nat.le_refl 1) (lf_val hx h) he.m) he.a
theorem s1_sum {x : xS1} (hx : x.1 < 15) (ha : x.2.2.1.1 < 8) (hb : x.2.2.2.1 < 8) (hd : d < 6) (h : tks tk p (s1K x)) (he : kEnd (tk (p + (s1K x).length))) : vP tk 9 3 d p b (p + (s1K x).length) (s1C p b x) := by
  obtain ⟨s, n, a, c⟩ := x
  have hx' : s < 15 := hx
  have ha' : a.1 < 8 := ha
  have hc' : c.1 < 8 := hb
  have la := lfC_len
  unfold s1K at h he ⊢
  unfold s1C
  try dsimp only at h he ⊢
  by_cases h8 : s < 8
  · rw [if_pos h8] at h he ⊢
    rw [if_pos h8]
    exact (lf_sum h8 h he).mono (by omega)
  rw [if_neg h8] at h he ⊢
  rw [if_neg h8]
  by_cases h9 : s = 8
  · rw [if_pos h9] at h he ⊢
    rw [if_pos h9]
    rw [List.length_cons, show p + ((lfK a).length + 1) = p + 1 + (lfK a).length by omega] at he ⊢
    have v := vP_neg h.head (show d < 8 by omega) (lf_val (d := d + 1) (b := b) ha' h.tail)
    rw [la (p + 1) a, Nat.add_sub_cancel] at v
    exact (vP_sum (by omega) (vP_prod (by omega) v he.m) he.a).mono (by omega)
  rw [if_neg h9] at h he ⊢
  rw [if_neg h9]
  by_cases h11 : s < 11
  · rw [if_pos h11] at h he ⊢
    rw [if_pos h11]
    have k0 := h.left.head
    have k1 := h.left.tail.head
    have hr := h.right
    have hA := hr.left
    have hB := hr.right
    have k30 := hB.head
    have hC := hB.tail.left
    have k26 := hB.tail.right.head
    rw [show ([14 + s, 25] : List Nat).length = 2 from rfl] at hA hB k30 hC k26
    have e30 : kEnd (tk (p + 2 + (lfK a).length)) := by rw [k30]; unfold kEnd; omega
    have e26 : kEnd (tk (p + 2 + (lfK a).length + 1 + (lfK c).length)) := by rw [k26]; unfold kEnd; omega
    have v := vP_mm (k := 3) (b := b) (by omega) k1 (show d < 8 by omega) (lf_sum ha' hA e30) k30 (lf_sum hc' hC e26) k26
    rw [la (p + 2) a, la _ c, k0, Nat.add_sub_cancel, show b + 1 + 1 - 1 = b + 1 by omega] at v
    have hl : ([14 + s, 25] ++ (lfK a ++ (30 :: (lfK c ++ [26])))).length = 2 + (lfK a).length + 1 + (lfK c).length + 1 := by
      simp only [List.length_append, List.length_cons, List.length_nil]
      omega
    rw [hl, show p + (2 + (lfK a).length + 1 + (lfK c).length + 1) = p + 2 + (lfK a).length + 1 + (lfK c).length + 1 by omega] at he ⊢
    exact (vP_sum (by omega) (vP_prod (by omega) v he.m) he.a).mono (by omega)
  rw [if_neg h11] at h he ⊢
  rw [if_neg h11]
  have k25 := h.head
  have hA := h.tail.left
  have hB := h.tail.right
  have kop := hB.head
  have hC := hB.tail.left
  have k26 := hB.tail.right.head
  have e26 : kEnd (tk (p + 1 + (lfK a).length + 1 + (lfK c).length)) := by rw [k26]; unfold kEnd; omega
  have hl : (25 :: (lfK a ++ ((20 + s) :: (lfK c ++ [26])))).length = 1 + (lfK a).length + 1 + (lfK c).length + 1 := by
    simp only [List.length_append, List.length_cons, List.length_nil]
    omega
  rw [hl, show p + (1 + (lfK a).length + 1 + (lfK c).length + 1) = p + 1 + (lfK a).length + 1 + (lfK c).length + 1 by omega] at he ⊢
  have vA := lf_val (tk := tk) (d := d + 1) (b := b) ha' hA
  have vC := lf_val (tk := tk) (d := d + 1) (b := b + (lfC (p + 1) a).length) hc' hC
  have inner : vP tk 5 3 (d + 1) (p + 1) b (p + 1 + (lfK a).length + 1 + (lfK c).length) (lfC (p + 1) a ++ (lfC (p + 1 + (lfK a).length + 1) c ++ [(tk (p + 1 + (lfK a).length), 0, b + (lfC (p + 1) a).length - 1, b + (lfC (p + 1) a).length + (lfC (p + 1 + (lfK a).length + 1) c).length - 1)])) := by
    by_cases hs : s < 13
    · have oA : pOpA (tk (p + 1 + (lfK a).length)) = true := by
        rw [kop]
        have : ∀ s, s < 13 → ¬ s < 11 → pOpA (20 + s) = true := by decide
        exact this s hs h11
      have oM : pOpM (tk (p + 1 + (lfK a).length)) = false := by
        rw [kop]
        have : ∀ s, s < 13 → ¬ s < 11 → pOpM (20 + s) = false := by decide
        exact this s hs h11
      exact (vP_sum2 (k := 2) (by omega) (vP_prod (Nat.le_refl 1) vA oM) oA (vP_prod (Nat.le_refl 1) vC e26.m) e26.a).mono (by omega)
    · have oM : pOpM (tk (p + 1 + (lfK a).length)) = true := by
        rw [kop]
        have : ∀ s, s < 15 → ¬ s < 13 → pOpM (20 + s) = true := by decide
        exact this s hx' hs
      exact (vP_sum (by omega) (vP_prod2 (k := 1) (Nat.le_refl 1) vA oM vC e26.m) e26.a).mono (by omega)
  have v := vP_par k25 (show d < 8 by omega) inner k26
  rw [la (p + 1) a, la _ c, kop, Nat.add_sub_cancel, show b + 1 + 1 - 1 = b + 1 by omega] at v
  exact (vP_sum (by omega) (vP_prod (by omega) v he.m) he.a).mono (by omega)
end Expr
