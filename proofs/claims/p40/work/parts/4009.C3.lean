/-! ===== p40: the law's tests ===== -/
def s1L (x : xS1) : Nat := if x.1 < 8 then 1 else if x.1 = 8 then 2 else 3
theorem s1C_len (p b : Nat) (x : xS1) : (s1C p b x).length = s1L x := by
  unfold s1C s1L
  split
  · exact lfC_len _ _
  · split
    · rw [List.length_append, lfC_len]; rfl
    · split
      · rw [List.length_append, List.length_append, lfC_len, lfC_len]; rfl
      · rw [List.length_append, List.length_append, lfC_len, lfC_len]; rfl
theorem s1L_pos (x : xS1) : 1 ≤ s1L x := by
  unfold s1L
  split
  · exact Nat.le_refl 1
  · split <;> omega
def t0K (x : xT0) : List Nat := if x.1 < 20 then s1K x.2.2.1 ++ ((20 + x.1) :: lfK x.2.2.2) else [x.1 - 2, 41]
def t0C (p b : Nat) (x : xT0) : List pSt := if x.1 < 20 then s1C p b x.2.2.1 ++ (lfC (p + (s1K x.2.2.1).length + 1) x.2.2.2 ++ [(20 + x.1, 0, b + s1L x.2.2.1 - 1, b + s1L x.2.2.1)]) else [(x.1 - 2, p + 1, 0, 0)]
def t0L (x : xT0) : Nat := if x.1 < 20 then s1L x.2.2.1 + 2 else 1
theorem t0C_len (p b : Nat) (x : xT0) : (t0C p b x).length = t0L x := by
  unfold t0C t0L
  split
  · rw [List.length_append, List.length_append, s1C_len, lfC_len]; rfl
  · rfl
def t1K (x : xT1) : List Nat := if x.1 < 22 then t0K x.2.1 else if x.1 = 22 then 20 :: t0K x.2.2.1 else 27 :: (t0K x.2.2.1 ++ ((x.1 - 2) :: (t0K x.2.2.2 ++ [28])))
def t1C (p b : Nat) (x : xT1) : List pSt := if x.1 < 22 then t0C p b x.2.1 else if x.1 = 22 then t0C (p + 1) b x.2.2.1 ++ [(20, 0, b + t0L x.2.2.1 - 1, 0)] else t0C (p + 1) b x.2.2.1 ++ (t0C (p + 1 + (t0K x.2.2.1).length + 1) (b + t0L x.2.2.1) x.2.2.2 ++ [(x.1 - 2, 0, b + t0L x.2.2.1 - 1, b + t0L x.2.2.1 + t0L x.2.2.2 - 1)])
def t1L (x : xT1) : Nat := if x.1 < 22 then t0L x.2.1 else if x.1 = 22 then t0L x.2.2.1 + 1 else t0L x.2.2.1 + t0L x.2.2.2 + 1
theorem t1C_len (p b : Nat) (x : xT1) : (t1C p b x).length = t1L x := by
  unfold t1C t1L
  split
  · exact t0C_len _ _ _
  · split
    · rw [List.length_append, t0C_len]; rfl
    · rw [List.length_append, List.length_append, t0C_len, t0C_len]; rfl
/-- numbers in their places -/
def lfOk (x : xLf) : Prop := x.1 < 8
def s1Ok (x : xS1) : Prop := x.1 < 15 ∧ lfOk x.2.2.1 ∧ lfOk x.2.2.2
def t0Ok (x : xT0) : Prop := (15 ≤ x.1 ∧ x.1 < 22) ∧ s1Ok x.2.2.1 ∧ lfOk x.2.2.2
def t1Ok (x : xT1) : Prop := x.1 < 25 ∧ t0Ok x.2.1 ∧ t0Ok x.2.2.1 ∧ t0Ok x.2.2.2
section Tests
variable {tk : Nat → Nat} {d p b : Nat}
theorem lf_first {x : xLf} (hx : lfOk x) (h : tks tk p (lfK x)) : tk p = 40 ∨ (10 ≤ tk p ∧ tk p ≤ 16) := by
  unfold lfK at h
  by_cases h0 : x.1 = 0
  · rw [if_pos h0] at h; exact Or.inl h.head
  · rw [if_neg h0] at h
    by_cases h7 : x.1 < 7
    · rw [if_pos h7] at h
      have := h.head
      exact Or.inr (by omega)
    · rw [if_neg h7] at h
      have := h.head
      exact Or.inr (by omega)
theorem s1_first {x : xS1} (hx : s1Ok x) (h : tks tk p (s1K x)) : tk p ≠ 20 ∧ tk p ≠ 27 ∧ tk p ≠ 18 ∧ tk p ≠ 19 := by
  unfold s1K at h
  by_cases h8 : x.1 < 8
  · rw [if_pos h8] at h
    have := lf_first (x := (x.1, x.2.1)) h8 h
    omega
  rw [if_neg h8] at h
  by_cases h9 : x.1 = 8
  · rw [if_pos h9] at h
    have := h.head
    omega
  rw [if_neg h9] at h
  by_cases h11 : x.1 < 11
  · rw [if_pos h11] at h
    have := h.left.head
    omega
  · rw [if_neg h11] at h
    have := h.head
    omega
theorem t0_one {x : xT0} (hx : t0Ok x) (hd : d < 6) (h : tks tk p (t0K x)) (he : kEnd (tk (p + (t0K x).length))) : vP tk 10 5 d p b (p + (t0K x).length) (t0C p b x) := by
  obtain ⟨⟨h15, h22⟩, hs, hl⟩ := hx
  unfold t0K at h he ⊢
  unfold t0C
  by_cases h20 : x.1 < 20
  · rw [if_pos h20] at h he ⊢
    rw [if_pos h20]
    have hop := h.right.head
    have e : kEnd (tk (p + (s1K x.2.2.1).length)) := by rw [hop]; unfold kEnd; omega
    have len : (s1K x.2.2.1 ++ (20 + x.1) :: lfK x.2.2.2).length = (s1K x.2.2.1).length + 1 + (lfK x.2.2.2).length := by
      simp only [List.length_append, List.length_cons]
      omega
    rw [len, show p + ((s1K x.2.2.1).length + 1 + (lfK x.2.2.2).length) = p + (s1K x.2.2.1).length + 1 + (lfK x.2.2.2).length by omega] at he ⊢
    have v := vP_cmp (k := 9) (s1_first hs h.left) (s1_sum (b := b) hs.1 hs.2.1 hs.2.2 hd h.left e) (by rw [hop]; omega) ((lf_sum hl h.right.tail he).mono (by omega))
    rw [s1C_len, lfC_len, hop, Nat.add_sub_cancel] at v
    exact v
  · rw [if_neg h20] at h he ⊢
    rw [if_neg h20]
    have k0 := h.head
    have k1 := h.tail.head
    have v := vP_on (d := d) (b := b) (show tk p = 18 ∨ tk p = 19 by omega) k1
    rw [k0] at v
    exact v.mono (by omega)
theorem t0_all {x : xT0} (hx : t0Ok x) (hd : d < 6) (h : tks tk p (t0K x)) (he : kEnd (tk (p + (t0K x).length))) (h1 : tk (p + (t0K x).length) ≠ 21) (h2 : tk (p + (t0K x).length) ≠ 22) : vP tk 12 8 d p b (p + (t0K x).length) (t0C p b x) :=
  vP_or (by omega) (vP_and (by omega) (t0_one hx hd h he) (beq_false_of_ne h1)) (beq_false_of_ne h2)
theorem t1_one {x : xT1} (hx : t1Ok x) (hd : d < 4) (h : tks tk p (t1K x)) (he : kEnd (tk (p + (t1K x).length))) : vP tk 15 5 d p b (p + (t1K x).length) (t1C p b x) := by
  obtain ⟨h25, h0, hA, hB⟩ := hx
  unfold t1K at h he ⊢
  unfold t1C
  by_cases h22 : x.1 < 22
  · rw [if_pos h22] at h he ⊢
    rw [if_pos h22]
    exact (t0_one h0 (by omega) h he).mono (by omega)
  rw [if_neg h22] at h he ⊢
  rw [if_neg h22]
  by_cases h23 : x.1 = 22
  · rw [if_pos h23] at h he ⊢
    rw [if_pos h23]
    rw [List.length_cons, show p + ((t0K x.2.2.1).length + 1) = p + 1 + (t0K x.2.2.1).length by omega] at he ⊢
    have v := vP_not h.head (show d < 8 by omega) (t0_one (d := d + 1) (b := b) hA (by omega) h.tail he)
    rw [t0C_len] at v
    exact v.mono (by omega)
  rw [if_neg h23] at h he ⊢
  rw [if_neg h23]
  have k27 := h.head
  have tA := h.tail.left
  have kop := h.tail.right.head
  have tB := h.tail.right.tail.left
  have k28 := h.tail.right.tail.right.head
  have eA : kEnd (tk (p + 1 + (t0K x.2.2.1).length)) := by rw [kop]; unfold kEnd; omega
  have eB : kEnd (tk (p + 1 + (t0K x.2.2.1).length + 1 + (t0K x.2.2.2).length)) := by rw [k28]; unfold kEnd; omega
  have len : (27 :: (t0K x.2.2.1 ++ ((x.1 - 2) :: (t0K x.2.2.2 ++ [28])))).length = 1 + (t0K x.2.2.1).length + 1 + (t0K x.2.2.2).length + 1 := by
    simp only [List.length_append, List.length_cons, List.length_nil]
    omega
  rw [len, show p + (1 + (t0K x.2.2.1).length + 1 + (t0K x.2.2.2).length + 1) = p + 1 + (t0K x.2.2.1).length + 1 + (t0K x.2.2.2).length + 1 by omega] at he ⊢
  have vA := t0_one (d := d + 1) (b := b) hA (by omega) tA eA
  have vB := t0_one (d := d + 1) (b := b + (t0C (p + 1) b x.2.2.1).length) hB (by omega) tB eB
  have nB1 : pOpN (tk (p + 1 + (t0K x.2.2.1).length + 1 + (t0K x.2.2.2).length)) = false := by rw [k28]; rfl
  have nB2 : pOpO (tk (p + 1 + (t0K x.2.2.1).length + 1 + (t0K x.2.2.2).length)) = false := by rw [k28]; rfl
  have key : vP tk 14 8 (d + 1) (p + 1) b (p + 1 + (t0K x.2.2.1).length + 1 + (t0K x.2.2.2).length) (t0C (p + 1) b x.2.2.1 ++ (t0C (p + 1 + (t0K x.2.2.1).length + 1) (b + (t0C (p + 1) b x.2.2.1).length) x.2.2.2 ++ [(tk (p + 1 + (t0K x.2.2.1).length), 0, b + (t0C (p + 1) b x.2.2.1).length - 1, b + (t0C (p + 1) b x.2.2.1).length + (t0C (p + 1 + (t0K x.2.2.1).length + 1) (b + (t0C (p + 1) b x.2.2.1).length) x.2.2.2).length - 1)])) := by
    by_cases hq : x.1 = 23
    · have o1 : pOpN (tk (p + 1 + (t0K x.2.2.1).length)) = true := by rw [kop, hq]; rfl
      exact (vP_or (by omega) (vP_and2 (k := 10) (by omega) vA o1 vB nB1) nB2).mono (by omega)
    · have h24 : x.1 = 24 := by omega
      have o1 : pOpN (tk (p + 1 + (t0K x.2.2.1).length)) = false := by rw [kop, h24]; rfl
      have o2 : pOpO (tk (p + 1 + (t0K x.2.2.1).length)) = true := by rw [kop, h24]; rfl
      exact (vP_or2 (k := 11) (by omega) (vP_and (by omega) vA o1) o2 (vP_and (by omega) vB nB1) nB2).mono (by omega)
  have v := vP_bra k27 (show d < 8 by omega) key k28
  rw [t0C_len, t0C_len, kop] at v
  exact v
theorem t1_all {x : xT1} (hx : t1Ok x) (hd : d < 4) (h : tks tk p (t1K x)) (he : kEnd (tk (p + (t1K x).length))) (h1 : tk (p + (t1K x).length) ≠ 21) (h2 : tk (p + (t1K x).length) ≠ 22) : vP tk 17 8 d p b (p + (t1K x).length) (t1C p b x) :=
  vP_or (by omega) (vP_and (by omega) (t1_one hx hd h he) (beq_false_of_ne h1)) (beq_false_of_ne h2)
end Tests
