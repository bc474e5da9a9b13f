/-! ===== p40: the law's orders and rounds over the board ===== -/
/-- what an order does: the board then, and whether it was carried out -/
def xAct (r : Int32) (B : eBd) (o : xO) : eBd × Bool :=
  if o.2.2.1 = true ∧ t1V B r o.2.2.2 = 0 then (B, false) else if o.1.1 = 0 then gAct B 4 o.1.2 (s1V B r o.2.1.1) (s1V B r o.2.1.2.1) (s1V B r o.2.1.2.2) else gAct B (6 + o.1.1) o.1.2 0 0 0
def xRnd (r : Int32) : List xO → eBd × Nat → eBd × Nat
  | [], x => x
  | o :: os, x => xRnd r os ((xAct r x.1 o).1, x.2 + (if (xAct r x.1 o).2 then 1 else 0))
def oT (tv : Nat → Nat) (p : Nat) (o : xO) : Prop := tv (p + 1) = o.1.2 ∧ (o.1.1 = 0 → s1T tv (xP1 p) o.2.1.1 ∧ s1T tv (xP2 p o) o.2.1.2.1 ∧ s1T tv (xP3 p o) o.2.1.2.2) ∧ (o.2.2.1 = true → t1T tv (p + (xHd o).length + 1) o.2.2.2)
def osT (tv : Nat → Nat) : Nat → List xO → Prop
  | _, [] => True
  | p, o :: os => oT tv p o ∧ osT tv (p + (xK o).length + 1) os
section FRounds
variable {tv : Nat → Nat} {B : eBd} {r : Int32} {p b : Nat}
theorem gVal_s1 {x : xS1} (hx : s1Ok x) (ht : s1T tv p x) : gVal tv B r (s1C p b x) = s1V B r x := by
  unfold gVal
  rw [gRun_s1 hx ht]
  rfl
theorem gVal_t1 {x : xT1} (hx : t1Ok x) (ht : t1T tv p x) : gVal tv B r (t1C p b x) = t1V B r x := by
  unfold gVal
  rw [gRun_t1 hx ht]
  rfl
theorem xP_ord {o : xO} (ho : xOk o) (ht : oT tv p o) : gOrdR tv r B (xP p b o) = xAct r B o := by
  obtain ⟨h3, ⟨hs1, hs2, hs3⟩, hT⟩ := ho
  obtain ⟨t1, t2, t3⟩ := ht
  unfold gOrdR xAct xP
  by_cases h0 : o.1.1 = 0
  · rw [if_pos h0]
    obtain ⟨u1, u2, u3⟩ := t2 h0
    cases hb : o.2.2.1 with
    | true =>
      show (if true = true ∧ gVal tv B r (t1C (p + (xHd o).length + 1) (b + s1L o.2.1.1 + s1L o.2.1.2.1 + s1L o.2.1.2.2) o.2.2.2) = 0 then (B, false) else gAct B 4 (tv (p + 1)) (gVal tv B r (s1C (xP1 p) b o.2.1.1)) (gVal tv B r (s1C (xP2 p o) (b + s1L o.2.1.1) o.2.1.2.1)) (gVal tv B r (s1C (xP3 p o) (b + s1L o.2.1.1 + s1L o.2.1.2.1) o.2.1.2.2))) = _
      rw [gVal_t1 hT (t3 hb), t1, gVal_s1 hs1 u1, gVal_s1 hs2 u2, gVal_s1 hs3 u3, if_pos h0]
    | false =>
      show (if false = true ∧ gVal tv B r [] = 0 then (B, false) else gAct B 4 (tv (p + 1)) (gVal tv B r (s1C (xP1 p) b o.2.1.1)) (gVal tv B r (s1C (xP2 p o) (b + s1L o.2.1.1) o.2.1.2.1)) (gVal tv B r (s1C (xP3 p o) (b + s1L o.2.1.1 + s1L o.2.1.2.1) o.2.1.2.2))) = _
      rw [if_neg (fun z => Bool.false_ne_true z.1), if_neg (fun z => Bool.false_ne_true z.1), t1, gVal_s1 hs1 u1, gVal_s1 hs2 u2, gVal_s1 hs3 u3, if_pos h0]
  · rw [if_neg h0]
    have hw : (xHd o).length = 2 := by
      unfold xHd
      rw [if_neg h0]
      rfl
    cases hb : o.2.2.1 with
    | true =>
      have t4 := t3 hb
      rw [hw] at t4
      show (if true = true ∧ gVal tv B r (t1C (p + 3) b o.2.2.2) = 0 then (B, false) else gAct B (6 + o.1.1) (tv (p + 1)) (gVal tv B r []) (gVal tv B r []) (gVal tv B r [])) = _
      rw [gVal_t1 hT t4, t1, if_neg h0]
      rfl
    | false =>
      show (if false = true ∧ gVal tv B r [] = 0 then (B, false) else gAct B (6 + o.1.1) (tv (p + 1)) (gVal tv B r []) (gVal tv B r []) (gVal tv B r [])) = _
      rw [if_neg (fun z => Bool.false_ne_true z.1), if_neg (fun z => Bool.false_ne_true z.1), t1, if_neg h0]
      rfl
theorem orP_rnd : ∀ (os : List xO) (p b : Nat) (x : eBd × Nat), (∀ o ∈ os, xOk o) → osT tv p os → gRnd tv r (orP p b os) x = xRnd r os x
  | [], _, _, _, _, _ => rfl
  | o :: os, p, b, x, ho, ht => by
    show gRnd tv r (orP (p + (xK o).length + 1) (b + xL o) os) ((gOrdR tv r x.1 (xP p b o)).1, x.2 + (if (gOrdR tv r x.1 (xP p b o)).2 then 1 else 0)) = xRnd r os ((xAct r x.1 o).1, x.2 + (if (xAct r x.1 o).2 then 1 else 0))
    rw [xP_ord (ho o List.mem_cons_self) ht.1]
    exact orP_rnd os _ _ _ (fun o' h => ho o' (List.mem_cons_of_mem _ h)) ht.2
/-- from the values that the text tells to the class's -/
theorem lfT_tr {tk vl : Nat → Nat} {x : xLf} (h : tks tk p (lfK x)) (he : ∀ j, p ≤ j → j < p + (lfK x).length → (tk j = 40 ∨ tk j = 41) → tv j = vl j) (ht : lfT vl p x) : lfT tv p x := by
  have hp := lfK_pos x
  unfold lfK at h he hp
  refine ⟨fun z => ?_, fun z => ?_⟩
  · rw [if_pos z] at h he
    rw [he p (Nat.le_refl p) (by show p < p + 1; omega) (Or.inl h.head)]
    exact ht.1 z
  · rw [if_neg (by omega), if_neg (by omega)] at h he
    rw [he (p + 2) (by omega) (by show p + 2 < p + 3; omega) (Or.inr h.tail.tail.head)]
    exact ht.2 z
theorem s1T_tr {tk vl : Nat → Nat} {x : xS1} (h : tks tk p (s1K x)) (he : ∀ j, p ≤ j → j < p + (s1K x).length → (tk j = 40 ∨ tk j = 41) → tv j = vl j) (ht : s1T vl p x) : s1T tv p x := by
  unfold s1K at h he
  unfold s1T at ht ⊢
  by_cases h8 : x.1 < 8
  · rw [if_pos h8] at h he ht ⊢
    exact lfT_tr h he ht
  rw [if_neg h8] at h he ht ⊢
  by_cases h9 : x.1 = 8
  · rw [if_pos h9] at h he ht ⊢
    rw [List.length_cons] at he
    exact lfT_tr h.tail (fun j a c d => he j (by omega) (by omega) d) ht
  rw [if_neg h9] at h he ht ⊢
  by_cases h11 : x.1 < 11
  · rw [if_pos h11] at h he ht ⊢
    have hl : ([14 + x.1, 25] ++ (lfK x.2.2.1 ++ (30 :: (lfK x.2.2.2 ++ [26])))).length = 2 + (lfK x.2.2.1).length + 1 + (lfK x.2.2.2).length + 1 := by
      simp only [List.length_append, List.length_cons, List.length_nil]
      omega
    rw [hl] at he
    have h2 := h.right
    rw [show ([14 + x.1, 25] : List Nat).length = 2 from rfl] at h2
    exact ⟨lfT_tr h2.left (fun j a c d => he j (by omega) (by omega) d) ht.1, lfT_tr h2.right.tail.left (fun j a c d => he j (by omega) (by omega) d) ht.2⟩
  · rw [if_neg h11] at h he ht ⊢
    have hl : (25 :: (lfK x.2.2.1 ++ ((20 + x.1) :: (lfK x.2.2.2 ++ [26])))).length = 1 + (lfK x.2.2.1).length + 1 + (lfK x.2.2.2).length + 1 := by
      simp only [List.length_append, List.length_cons, List.length_nil]
      omega
    rw [hl] at he
    exact ⟨lfT_tr h.tail.left (fun j a c d => he j (by omega) (by omega) d) ht.1, lfT_tr h.tail.right.tail.left (fun j a c d => he j (by omega) (by omega) d) ht.2⟩
theorem t0T_tr {tk vl : Nat → Nat} {x : xT0} (h : tks tk p (t0K x)) (he : ∀ j, p ≤ j → j < p + (t0K x).length → (tk j = 40 ∨ tk j = 41) → tv j = vl j) (ht : t0T vl p x) : t0T tv p x := by
  unfold t0K at h he
  unfold t0T at ht ⊢
  by_cases h20 : x.1 < 20
  · rw [if_pos h20] at h he ht ⊢
    rw [List.length_append, List.length_cons] at he
    exact ⟨s1T_tr h.left (fun j a c d => he j (by omega) (by omega) d) ht.1, lfT_tr h.right.tail (fun j a c d => he j (by omega) (by omega) d) ht.2⟩
  · rw [if_neg h20] at h he ht ⊢
    rw [he (p + 1) (by omega) (by show p + 1 < p + 2; omega) (Or.inr h.tail.head)]
    exact ht
theorem t1T_tr {tk vl : Nat → Nat} {x : xT1} (h : tks tk p (t1K x)) (he : ∀ j, p ≤ j → j < p + (t1K x).length → (tk j = 40 ∨ tk j = 41) → tv j = vl j) (ht : t1T vl p x) : t1T tv p x := by
  unfold t1K at h he
  unfold t1T at ht ⊢
  by_cases h22 : x.1 < 22
  · rw [if_pos h22] at h he ht ⊢
    exact t0T_tr h he ht
  rw [if_neg h22] at h he ht ⊢
  by_cases h23 : x.1 = 22
  · rw [if_pos h23] at h he ht ⊢
    rw [List.length_cons] at he
    exact t0T_tr h.tail (fun j a c d => he j (by omega) (by omega) d) ht
  · rw [if_neg h23] at h he ht ⊢
    have hl : (27 :: (t0K x.2.2.1 ++ ((x.1 - 2) :: (t0K x.2.2.2 ++ [28])))).length = 1 + (t0K x.2.2.1).length + 1 + (t0K x.2.2.2).length + 1 := by
      simp only [List.length_append, List.length_cons, List.length_nil]
      omega
    rw [hl] at he
    exact ⟨t0T_tr h.tail.left (fun j a c d => he j (by omega) (by omega) d) ht.1, t0T_tr h.tail.right.tail.left (fun j a c d => he j (by omega) (by omega) d) ht.2⟩
theorem oT_tr {tk vl : Nat → Nat} {o : xO} (h : tks tk p (xK o)) (he : ∀ j, p ≤ j → j < p + (xK o).length → (tk j = 40 ∨ tk j = 41) → tv j = vl j) (ht : oT vl p o) : oT tv p o := by
  unfold xK at h he
  rw [List.length_append] at he
  obtain ⟨t1, t2, t3⟩ := ht
  have hd := h.left
  have hw := h.right
  refine ⟨?_, fun z => ?_, fun z => ?_⟩
  · unfold xHd at hd he
    by_cases h0 : o.1.1 = 0
    · rw [if_pos h0] at hd he
      rw [he (p + 1) (by omega) (by rw [List.length_append]; show p + 1 < p + (3 + _ + _); omega) (Or.inr hd.left.tail.head)]
      exact t1
    · rw [if_neg h0] at hd he
      rw [he (p + 1) (by omega) (by show p + 1 < p + (2 + _); omega) (Or.inr hd.tail.head)]
      exact t1
  · obtain ⟨u1, u2, u3⟩ := t2 z
    have hh : xHd o = [4, 41, 5] ++ (s1K o.2.1.1 ++ (30 :: (s1K o.2.1.2.1 ++ (6 :: s1K o.2.1.2.2)))) := if_pos z
    have len : (xHd o).length = 3 + (s1K o.2.1.1).length + 1 + (s1K o.2.1.2.1).length + 1 + (s1K o.2.1.2.2).length := by
      rw [hh]
      simp only [List.length_append, List.length_cons, List.length_nil]
      omega
    rw [len] at he
    rw [hh] at hd
    have e1 := hd.right.left
    have e2 := hd.right.right.tail.left
    have e3 := hd.right.right.tail.right.tail
    rw [show ([4, 41, 5] : List Nat).length = 3 from rfl] at e1 e2 e3
    have x1 : xP1 p = p + 3 := rfl
    have x2 : xP2 p o = p + 3 + (s1K o.2.1.1).length + 1 := rfl
    have x3 : xP3 p o = xP2 p o + (s1K o.2.1.2.1).length + 1 := rfl
    refine ⟨s1T_tr e1 (fun j a c d => he j (by omega) (by omega) d) u1, s1T_tr e2 (fun j a c d => he j (by omega) (by omega) d) u2, s1T_tr e3 (fun j a c d => he j (by omega) (by omega) d) u3⟩
  · have t4 := t3 z
    unfold xEnd at hw he
    rw [z, if_pos rfl] at hw
    rw [z, if_pos rfl, List.length_cons] at he
    exact t1T_tr hw.tail (fun j a c d => he j (by omega) (by omega) d) t4
theorem osT_tr {tk vl : Nat → Nat} : ∀ (os : List xO) (p : Nat), tks tk p (orK os) → (∀ j, p ≤ j → j < p + (orK os).length → (tk j = 40 ∨ tk j = 41) → tv j = vl j) → osT vl p os → osT tv p os
  | [], _, _, _, _ => trivial
  | o :: os, p, h, he, ht => by
    have len : (orK (o :: os)).length = (xK o).length + 1 + (orK os).length := by
      show ((xK o ++ [29]) ++ orK os).length = _
      rw [List.length_append, List.length_append, List.length_singleton]
    rw [len] at he
    have hr : tks tk (p + (xK o ++ [29]).length) (orK os) := h.right
    rw [List.length_append, List.length_singleton] at hr
    exact ⟨oT_tr (show tks tk p (xK o ++ [29]) from h.left).left (fun j a c d => he j a (by omega) d) ht.1, osT_tr os (p + (xK o).length + 1) hr (fun j a c d => he j (by omega) (by omega) d) ht.2⟩
end FRounds
