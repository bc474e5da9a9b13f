/-! ===== p40: a text as a row of tokens: kind and bytes of each, blanks between ===== -/
/-- the bytes of f stand at p -/
def tF (bt : Nat → Nat) (sz p : Nat) (f : List Nat) : Prop := p + f.length ≤ sz ∧ ∀ j x, f[j]? = some x → bt (p + j) = x
abbrev xTk : Type := Nat × List Nat
def tR (bt : Nat → Nat) (sz : Nat) : Nat → List xTk → Nat → Prop
  | p, [], q => p = q
  | p, x :: ks, q => (p < sz ∧ tStop bt sz p = p + x.2.length ∧ tKind bt sz p = x.1 ∧ tF bt sz p x.2) ∧ tR bt sz (tEnd bt sz tB (p + x.2.length)) ks q
/-- where the j-th of them begins -/
def tPo (bt : Nat → Nat) (sz : Nat) : Nat → List xTk → Nat → Nat
  | p, _, 0 => p
  | p, [], _ + 1 => p
  | p, x :: ks, j + 1 => tPo bt sz (tEnd bt sz tB (p + x.2.length)) ks j
section Lex
variable {bt : Nat → Nat} {sz : Nat}
theorem tR.app : ∀ {ks ks' : List xTk} {p q r : Nat}, tR bt sz p ks q → tR bt sz q ks' r → tR bt sz p (ks ++ ks') r
  | [], _, p, q, r, h, h1 => by
    have h' : p = q := h
    rw [h']
    exact h1
  | x :: ks, _, p, q, r, h, h1 => ⟨h.1, tR.app h.2 h1⟩
theorem tR_at : ∀ {ks : List xTk} {p q i : Nat}, tR bt sz p ks q → tAt bt sz i = p → (∀ j, j ≤ ks.length → tAt bt sz (i + j) = tPo bt sz p ks j) ∧ (∀ j x, ks[j]? = some x → tPo bt sz p ks j < sz ∧ tKind bt sz (tPo bt sz p ks j) = x.1 ∧ tStop bt sz (tPo bt sz p ks j) = tPo bt sz p ks j + x.2.length ∧ tF bt sz (tPo bt sz p ks j) x.2) ∧ tPo bt sz p ks ks.length = q
  | [], p, q, i, h, hi => ⟨fun j hj => by
      have h' : j = 0 := Nat.le_zero.mp hj
      subst h'
      exact hi, fun j x hx => by simp at hx, h⟩
  | y :: ks, p, q, i, h, hi => by
    have h1 : tAt bt sz (i + 1) = tEnd bt sz tB (p + y.2.length) := by
      show tEnd bt sz tB (tStop bt sz (tAt bt sz i)) = _
      rw [hi, h.1.2.1]
    obtain ⟨a1, a2, a3⟩ := tR_at h.2 h1
    refine ⟨fun j hj => ?_, fun j x hx => ?_, a3⟩
    · cases j with
      | zero => exact hi
      | succ j =>
        rw [show i + (j + 1) = i + 1 + j by omega]
        exact a1 j (Nat.le_of_succ_le_succ hj)
    · cases j with
      | zero =>
        have hx' : some y = some x := hx
        cases hx'
        exact ⟨h.1.1, h.1.2.2.1, h.1.2.1, h.1.2.2.2⟩
      | succ j => exact a2 j x hx
/-- the whole text -/
theorem tR_all {ks : List xTk} (h : tR bt sz (tEnd bt sz tB 0) ks sz) (hl : ks.length ≤ 400) (hk : ∀ x ∈ ks, x.1 ≠ 42 ∧ x.1 ≠ 43) : tT bt sz = ks.length ∧ (∀ j x, ks[j]? = some x → tTk bt sz j = x.1 ∧ (tStop bt sz (tAt bt sz j) = tAt bt sz j + x.2.length ∧ tF bt sz (tAt bt sz j) x.2)) ∧ tTk bt sz ks.length = 42 := by
  obtain ⟨a1, a2, a3⟩ := tR_at (i := 0) h rfl
  have e : ∀ j x, ks[j]? = some x → tTk bt sz j = x.1 ∧ (tStop bt sz (tAt bt sz j) = tAt bt sz j + x.2.length ∧ tF bt sz (tAt bt sz j) x.2) := fun j x hx => by
    have hj : j < ks.length := (List.getElem?_eq_some_iff.mp hx).1
    have b1 := a1 j (by omega)
    rw [Nat.zero_add] at b1
    obtain ⟨b2, b3, b4, b5⟩ := a2 j x hx
    refine ⟨?_, by rw [b1]; exact ⟨b4, b5⟩⟩
    unfold tTk
    rw [b1, if_neg (by omega), if_neg (by omega)]
    exact b3
  have e42 : tTk bt sz ks.length = 42 := by
    have b1 := a1 ks.length (Nat.le_refl _)
    rw [Nat.zero_add, a3] at b1
    unfold tTk
    rw [b1, if_pos (Nat.le_refl _)]
  refine ⟨tT_eq hl ?_ (fun j hj => ?_), e, e42⟩
  · unfold tLast
    rw [e42]
    rfl
  · obtain ⟨x, hx⟩ : ∃ x, ks[j]? = some x := ⟨ks[j], List.getElem?_eq_getElem hj⟩
    have b1 := (e j x hx).1
    have b2 := hk x (List.mem_of_getElem? hx)
    unfold tLast
    rw [b1]
    simp [b2.1, b2.2]
theorem tF.left {p : Nat} {f g : List Nat} (h : tF bt sz p (f ++ g)) : tF bt sz p f := by
  refine ⟨by have := h.1; rw [List.length_append] at this; omega, fun j x hx => h.2 j x ?_⟩
  rw [List.getElem?_append_left (List.getElem?_eq_some_iff.mp hx).1]
  exact hx
theorem tF.right {p : Nat} {f g : List Nat} (h : tF bt sz p (f ++ g)) : tF bt sz (p + f.length) g := by
  refine ⟨by have := h.1; rw [List.length_append] at this; omega, fun j x hx => ?_⟩
  have := h.2 (f.length + j) x (by rw [List.getElem?_append_right (by omega), Nat.add_sub_cancel_left]; exact hx)
  rw [show p + f.length + j = p + (f.length + j) by omega]
  exact this
theorem tF.head {p b : Nat} {f : List Nat} (h : tF bt sz p (b :: f)) : p < sz ∧ bt p = b := ⟨by have := h.1; rw [List.length_cons] at this; omega, h.2 0 b rfl⟩
theorem tF.tail {p b : Nat} {f : List Nat} (h : tF bt sz p (b :: f)) : tF bt sz (p + 1) f := tF.right (f := [b]) h
/-- while p holds -/
theorem tEnd_run {pr : Nat → Bool} : ∀ {f : List Nat} {p : Nat}, tF bt sz p f → (∀ x ∈ f, pr x = true) → (p + f.length < sz → pr (bt (p + f.length)) = false) → tEnd bt sz pr p = p + f.length
  | [], p, h, _, h2 => by
    by_cases hq : p < sz
    · exact tEnd_no (h2 hq)
    · exact tEnd_off (by omega)
  | b :: f, p, h, h1, h2 => by
    obtain ⟨h3, h4⟩ := h.head
    rw [tEnd_yes h3 (by rw [h4]; exact h1 b List.mem_cons_self), tEnd_run h.tail (fun x hx => h1 x (List.mem_cons_of_mem _ hx)) (fun hq => by
      have := h2 (by rw [List.length_cons]; omega)
      rw [List.length_cons, show p + (f.length + 1) = p + 1 + f.length by omega] at this
      exact this), List.length_cons]
    omega
/-- the kind of a text that is no number: which of the 44, by its bytes -/
def wTxt (f : List Nat) (o : Nat) : Nat := match zFf (fun k => decide ((eKtx.getD k []).length = f.length) && (zFf (fun i => decide (eKc k i ≠ nI (f.getD i 0))) f.length).isNone) 44 with
  | none => o
  | some k => k + 1
theorem tTxt_f {p o : Nat} {f : List Nat} (h : tF bt sz p f) : tTxt bt p f.length o = wTxt f o := by
  unfold tTxt wTxt
  rw [zFf_ext (q := fun k => decide ((eKtx.getD k []).length = f.length) && (zFf (fun i => decide (eKc k i ≠ nI (f.getD i 0))) f.length).isNone) (fun k _ => by
    unfold tSays
    rw [zFf_ext (q := fun i => decide (eKc k i ≠ nI (f.getD i 0))) (fun i hi => by
      rw [h.2 i (f.getD i 0) (by rw [List.getD_eq_getElem?_getD, List.getElem?_eq_getElem hi]; rfl)])])]
  generalize zFf (fun k => decide ((eKtx.getD k []).length = f.length) && (zFf (fun i => decide (eKc k i ≠ nI (f.getD i 0))) f.length).isNone) 44 = z
  cases z <;> rfl
/-- a word -/
theorem tok_word {p : Nat} {f : List Nat} (h : tF bt sz p f) (h0 : 1 ≤ f.length ∧ f.length ≤ 10) (h1 : tL (f.getD 0 0) = true) (h2 : ∀ x ∈ f, tLD x = true) (h3 : p + f.length < sz → tLD (bt (p + f.length)) = false) : p < sz ∧ tStop bt sz p = p + f.length ∧ tKind bt sz p = wTxt f 41 := by
  have hb : bt p = f.getD 0 0 := by
    have := h.2 0 (f.getD 0 0) (by rw [List.getD_eq_getElem?_getD, List.getElem?_eq_getElem (show 0 < f.length by omega)]; rfl)
    rwa [Nat.add_zero] at this
  have hp : p < sz := by have := h.1; omega
  have hs : tStop bt sz p = p + f.length := by
    unfold tStop
    rw [hb, if_pos h1]
    exact tEnd_run h h2 h3
  refine ⟨hp, hs, ?_⟩
  unfold tKind
  rw [hb, if_pos h1, hs, Nat.add_sub_cancel_left, if_pos h0.2]
  exact tTxt_f h
theorem tL_D {b : Nat} (h : tD b = true) : tL b = false := by
  unfold tD at h
  unfold tL
  rw [Bool.and_eq_true, decide_eq_true_eq, decide_eq_true_eq] at h
  rw [decide_eq_false (show ¬ 97 ≤ b by omega)]
  rfl
/-- a number -/
theorem tok_num {p : Nat} {f : List Nat} (h : tF bt sz p f) (h0 : 1 ≤ f.length ∧ f.length ≤ 6) (h2 : ∀ x ∈ f, tD x = true) (h3 : p + f.length < sz → tD (bt (p + f.length)) = false) : p < sz ∧ tStop bt sz p = p + f.length ∧ tKind bt sz p = 40 := by
  have hm : f.getD 0 0 ∈ f := by
    rw [List.getD_eq_getElem?_getD, List.getElem?_eq_getElem (show 0 < f.length by omega)]
    exact List.getElem_mem _
  have hb : bt p = f.getD 0 0 := by
    have := h.2 0 (f.getD 0 0) (by rw [List.getD_eq_getElem?_getD, List.getElem?_eq_getElem (show 0 < f.length by omega)]; rfl)
    rwa [Nat.add_zero] at this
  have hp : p < sz := by have := h.1; omega
  have hd := h2 _ hm
  have hs : tStop bt sz p = p + f.length := by
    unfold tStop
    rw [hb, if_neg (by rw [tL_D hd]; decide), if_pos hd]
    exact tEnd_run h h2 h3
  refine ⟨hp, hs, ?_⟩
  unfold tKind
  rw [hb, if_neg (by rw [tL_D hd]; decide), if_pos hd, hs, Nat.add_sub_cancel_left, if_pos h0.2]
/-- a sign of one byte -/
theorem tok_sign {p b : Nat} (h : tF bt sz p [b]) (h1 : tL b = false) (h2 : tD b = false) (h3 : (b = 60 ∨ b = 62) → p + 1 < sz → bt (p + 1) ≠ 61) : p < sz ∧ tStop bt sz p = p + 1 ∧ tKind bt sz p = wTxt [b] 43 := by
  obtain ⟨hp, hb⟩ := h.head
  have hs : tStop bt sz p = p + 1 := by
    unfold tStop
    rw [hb, if_neg (by rw [h1]; decide), if_neg (by rw [h2]; decide), if_neg (fun z => h3 z.1 z.2.1 z.2.2)]
  refine ⟨hp, hs, ?_⟩
  unfold tKind
  rw [hb, if_neg (by rw [h1]; decide), if_neg (by rw [h2]; decide), hs, Nat.add_sub_cancel_left]
  have e := tTxt_f (o := 43) h
  rw [List.length_singleton] at e
  exact e
/-- <= and >= -/
theorem tok_sign2 {p b : Nat} (h : tF bt sz p [b, 61]) (h1 : b = 60 ∨ b = 62) : p < sz ∧ tStop bt sz p = p + 2 ∧ tKind bt sz p = wTxt [b, 61] 43 := by
  obtain ⟨hp, hb⟩ := h.head
  obtain ⟨hp1, hb1⟩ := h.tail.head
  have hL : tL b = false := by rcases h1 with rfl | rfl <;> decide
  have hD : tD b = false := by rcases h1 with rfl | rfl <;> decide
  have hs : tStop bt sz p = p + 2 := by
    unfold tStop
    rw [hb, if_neg (by rw [hL]; decide), if_neg (by rw [hD]; decide), if_pos ⟨h1, hp1, hb1⟩]
  refine ⟨hp, hs, ?_⟩
  unfold tKind
  rw [hb, if_neg (by rw [hL]; decide), if_neg (by rw [hD]; decide), hs, Nat.add_sub_cancel_left]
  have e := tTxt_f (o := 43) h
  rw [show [b, 61].length = 2 from rfl] at e
  exact e
end Lex
