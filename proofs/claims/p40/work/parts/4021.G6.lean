/-! ===== p40: from the bytes of a game of the law to what teach makes of it ===== -/
section Whole
variable {ks : List xTk} {p : Nat}
theorem oT_b {o : xO} (ho : oN o) (h : tkb ks p (ordB o)) : oT (vlOf ks) p o := by
  obtain ⟨h3, hk, ⟨hA, hB, hC⟩, hT⟩ := ho
  have lA := s1B_len hA.1
  have lB := s1B_len hB.1
  have lC := s1B_len hC.1
  unfold ordB at h
  by_cases h0 : o.1.1 = 0
  · rw [if_pos h0] at h
    have n1 := h.right.left.v
    have e1 := h.right.right.right.left
    have e2 := h.right.right.right.right.right.left
    have e3 := h.right.right.right.right.right.right.right.left
    have e4 := h.right.right.right.right.right.right.right.right
    rw [lA] at e2 e3 e4
    rw [lB] at e3 e4
    rw [lC] at e4
    have len : (xHd o).length = 3 + (s1K o.2.1.1).length + 1 + (s1K o.2.1.2.1).length + 1 + (s1K o.2.1.2.2).length := by
      unfold xHd
      rw [if_pos h0]
      simp only [List.length_append, List.length_cons, List.length_nil]
      omega
    refine ⟨n1.trans (tkv_t hk), fun _ => ⟨s1T_b hA e1, s1T_b hB e2, s1T_b hC e3⟩, fun z => ?_⟩
    unfold endB at e4
    rw [z, if_pos rfl] at e4
    have e5 := t1T_b hT e4.right.left
    rw [len, show p + (3 + (s1K o.2.1.1).length + 1 + (s1K o.2.1.2.1).length + 1 + (s1K o.2.1.2.2).length) + 1 = p + 1 + 1 + 1 + (s1K o.2.1.1).length + 1 + (s1K o.2.1.2.1).length + 1 + (s1K o.2.1.2.2).length + 1 by omega]
    exact e5
  rw [if_neg h0] at h
  have len : (xHd o).length = 2 := by
    unfold xHd
    rw [if_neg h0]
    rfl
  have fin : ∀ k b, tkb ks p ([(k, b)] ++ ([(41, tnm o.1.2)] ++ endB o)) → oT (vlOf ks) p o := fun k b h => by
    refine ⟨h.right.left.v.trans (tkv_t hk), fun z => absurd z h0, fun z => ?_⟩
    have e4 := h.right.right
    unfold endB at e4
    rw [z, if_pos rfl] at e4
    rw [len]
    exact t1T_b hT e4.right.left
  by_cases h1 : o.1.1 = 1
  · rw [if_pos h1] at h; exact fin _ _ h
  · rw [if_neg h1] at h; exact fin _ _ h
theorem osT_b : ∀ (os : List xO) (p : Nat), (∀ o ∈ os, oN o) → tkb ks p (osB os) → osT (vlOf ks) p os
  | [], _, _, _ => trivial
  | o :: os, p, ho, h => by
    have h' : tkb ks p (ordB o ++ osB os) := h
    have hr := h'.right
    rw [ordB_len (ho o List.mem_cons_self), ← Nat.add_assoc] at hr
    exact ⟨oT_b (ho o List.mem_cons_self) h'.left, osT_b os _ (fun o' h => ho o' (List.mem_cons_of_mem _ h)) hr⟩
end Whole
theorem tEnd_ge {bt : Nat → Nat} {sz : Nat} {pr : Nat → Bool} (a : Nat) : a ≤ tEnd bt sz pr a := by
  by_cases h : a ≤ sz
  · exact (tEnd_in h).1
  · rw [tEnd_off (by omega)]
    exact Nat.le_refl a
theorem tStop_ge {bt : Nat → Nat} {sz : Nat} (a : Nat) : a ≤ tStop bt sz a := by
  unfold tStop
  split
  · exact tEnd_ge a
  · split
    · exact tEnd_ge a
    · split <;> omega
theorem tAt_mono {bt : Nat → Nat} {sz k : Nat} : ∀ d : Nat, tAt bt sz k ≤ tAt bt sz (k + d)
  | 0 => Nat.le_refl _
  | d + 1 => Nat.le_trans (tAt_mono d) (Nat.le_trans (tStop_ge _) (tEnd_ge _))
theorem tTk_far {bt : Nat → Nat} {sz k j : Nat} (h : tTk bt sz k = 42) (hj : k ≤ j) : tTk bt sz j = 42 := by
  have h1 : sz ≤ tAt bt sz k := by
    refine Decidable.byContradiction fun z => ?_
    unfold tTk at h
    rw [if_neg z] at h
    split at h
    · cases h
    · exact (tKind_in (bt := bt) (show tAt bt sz k < sz by omega)).2.2 h
  have h2 := tAt_mono (bt := bt) (sz := sz) (k := k) (j - k)
  rw [show k + (j - k) = j by omega] at h2
  unfold tTk
  rw [if_pos (Nat.le_trans h1 h2)]
theorem dg_small (n : Nat) : ∀ x ∈ dg n, x < 2 ^ 31 := fun x hx => by
  have := dg_digit n x hx
  unfold tD at this
  rw [Bool.and_eq_true, decide_eq_true_eq, decide_eq_true_eq] at this
  omega
theorem tnm_small (k : Nat) : ∀ x ∈ tnm k, x < 2 ^ 31 := fun x hx => by
  rcases List.mem_cons.mp hx with h | h
  · rw [h]; decide
  · exact dg_small k x h
/-- the tokens as they are read: their values are what the text tells -/
theorem read_vOk {bt : Nat → Nat} {sz : Nat} {ks : List xTk} (hg : tkA ks) (h1 : ∀ j x, ks[j]? = some x → tTk bt sz j = x.1 ∧ (tStop bt sz (tAt bt sz j) = tAt bt sz j + x.2.length ∧ tF bt sz (tAt bt sz j) x.2)) (h42 : tTk bt sz ks.length = 42) : vOk (tTk bt sz) (tW bt sz) (tNv bt sz) (vlOf ks) := by
  have get : ∀ j, tTk bt sz j ≠ 42 → ∃ x, ks[j]? = some x := fun j hj => by
    by_cases hl : j < ks.length
    · exact ⟨ks[j], List.getElem?_eq_getElem hl⟩
    · exact absurd (tTk_far h42 (by omega)) hj
  refine ⟨fun j hj => ?_, fun i j hi hj => ?_⟩
  · obtain ⟨x, hx⟩ := get j (by omega)
    obtain ⟨a1, a2, a3⟩ := h1 j x hx
    obtain ⟨v, hv, e⟩ := (hg x (List.mem_of_getElem? hx)).1 (by omega)
    rw [vlOf_at hx]
    unfold tNv tkv
    rw [if_pos (by omega), a2, Nat.add_sub_cancel_left, e, dvl_dg (Nat.lt_trans hv (by decide))]
    rw [e] at a3
    exact tVal_dg (Nat.lt_trans hv (by decide)) a3
  · obtain ⟨x, hx⟩ := get i (by omega)
    obtain ⟨y, hy⟩ := get j (by omega)
    obtain ⟨a1, a2, a3⟩ := h1 i x hx
    obtain ⟨b1, b2, b3⟩ := h1 j y hy
    obtain ⟨k, hk, ek⟩ := (hg x (List.mem_of_getElem? hx)).2.1 (by omega)
    obtain ⟨l, hl, el⟩ := (hg y (List.mem_of_getElem? hy)).2.1 (by omega)
    have vx : vlOf ks i = k := by
      rw [vlOf_at hx]
      unfold tkv
      rw [if_neg (by omega), ek]
      exact dvl_dg (Nat.lt_trans hk (by decide))
    have vy : vlOf ks j = l := by
      rw [vlOf_at hy]
      unfold tkv
      rw [if_neg (by omega), el]
      exact dvl_dg (Nat.lt_trans hl (by decide))
    rw [vx, vy]
    rw [ek] at a2 a3
    rw [el] at b2 b3
    unfold mSame tW
    try dsimp only
    have ea : tStop bt sz (tAt bt sz i) - tAt bt sz i = (tnm k).length := by rw [a2, Nat.add_sub_cancel_left]
    have eb : tStop bt sz (tAt bt sz j) - tAt bt sz j = (tnm l).length := by rw [b2, Nat.add_sub_cancel_left]
    simp only [ea, eb]
    by_cases hq : k = l
    · subst hq
      rw [decide_eq_true rfl, decide_eq_true rfl, zFf_none (fun x hx => by
        have e1 := a3.2 x _ (List.getElem?_eq_getElem hx)
        have e2 := b3.2 x _ (List.getElem?_eq_getElem hx)
        exact decide_eq_false (fun z => z (by rw [e1, e2])))]
      rfl
    · rw [decide_eq_false hq]
      by_cases hlen : (tnm k).length = (tnm l).length
      · cases h3 : zFf (fun x => decide (nI (bt (tAt bt sz i + x)) ≠ nI (bt (tAt bt sz j + x)))) (tnm k).length with
        | some x => rw [Bool.and_eq_false_iff]; exact Or.inr rfl
        | none =>
          refine absurd (tnm_inj k hk l hl (List.ext_getElem? fun x => ?_)) hq
          by_cases hx : x < (tnm k).length
          · have e0 := zFf_none' h3 x hx
            have e1 := a3.2 x _ (List.getElem?_eq_getElem hx)
            have e2 := b3.2 x _ (List.getElem?_eq_getElem (show x < (tnm l).length by omega))
            have e3 := Decidable.not_not.mp (of_decide_eq_false e0)
            rw [e1, e2] at e3
            rw [List.getElem?_eq_getElem hx, List.getElem?_eq_getElem (show x < (tnm l).length by omega)]
            exact congrArg some ((nI_eq (tnm_small k _ (List.getElem_mem hx)) (tnm_small l _ (List.getElem_mem _))).mp e3)
          · rw [List.getElem?_eq_none (by omega), List.getElem?_eq_none (by omega)]
      · rw [decide_eq_false hlen]
        rfl
