/-! ===== p40: the text of a game of the law is told as the game that it is ===== -/
/-- names below N -/
def lfM (N : Nat) (x : xLf) : Prop := x.1 = 7 → x.2 < N
def s1M (N : Nat) (x : xS1) : Prop := (x.1 < 8 → lfM N (x.1, x.2.1)) ∧ lfM N x.2.2.1 ∧ lfM N x.2.2.2
def t0M (N : Nat) (x : xT0) : Prop := (20 ≤ x.1 → x.2.1 < N) ∧ s1M N x.2.2.1 ∧ lfM N x.2.2.2
def t1M (N : Nat) (x : xT1) : Prop := t0M N x.2.1 ∧ t0M N x.2.2.1 ∧ t0M N x.2.2.2
def oM (N : Nat) (o : xO) : Prop := o.1.2 < N ∧ (s1M N o.2.1.1 ∧ s1M N o.2.1.2.1 ∧ s1M N o.2.1.2.2) ∧ t1M N o.2.2.2
def tkN (N : Nat) (l : List xTk) : Prop := ∀ x ∈ l, x.1 = 41 → ∃ k, k < N ∧ x.2 = tnm k
theorem tkN.nil {N : Nat} : tkN N [] := fun x h => absurd h List.not_mem_nil
theorem tkN.app {N : Nat} {a b : List xTk} (h : tkN N a) (h1 : tkN N b) : tkN N (a ++ b) := fun x hx => (List.mem_append.mp hx).elim (h x) (h1 x)
theorem tkN.k {N k : Nat} {b : List Nat} (h : k ≠ 41) : tkN N [(k, b)] := fun x hx z => by
  rw [List.mem_singleton.mp hx] at z
  exact absurd z h
theorem tkN.t {N k : Nat} (h : k < N) : tkN N [(41, tnm k)] := fun x hx _ => by
  rw [List.mem_singleton.mp hx]
  exact ⟨k, h, rfl⟩
section Named
variable {N : Nat}
theorem lfB_n {x : xLf} (hx : x.1 < 8) (hm : lfM N x) : tkN N (lfB x) := by
  unfold lfB
  by_cases h0 : x.1 = 0
  · rw [if_pos h0]; exact tkN.k (by decide)
  rw [if_neg h0]
  by_cases h7 : x.1 < 7
  · rw [if_pos h7]; exact tkN.k (by omega)
  · rw [if_neg h7]; exact (tkN.k (by decide)).app ((tkN.k (by decide)).app (tkN.t (hm (by omega))))
theorem s1B_n {x : xS1} (hx : s1N x) (hm : s1M N x) : tkN N (s1B x) := by
  obtain ⟨h15, h8', hA, hB⟩ := hx
  have a := lfB_n hA.1 hm.2.1
  have b := lfB_n hB.1 hm.2.2
  unfold s1B
  by_cases h8 : x.1 < 8
  · rw [if_pos h8]; exact lfB_n (x := (x.1, x.2.1)) h8 (hm.1 h8)
  rw [if_neg h8]
  by_cases h9 : x.1 = 8
  · rw [if_pos h9]; exact (tkN.k (by decide)).app a
  rw [if_neg h9]
  by_cases h10 : x.1 = 9
  · rw [if_pos h10]; exact (tkN.k (by decide)).app ((tkN.k (by decide)).app (a.app ((tkN.k (by decide)).app (b.app (tkN.k (by decide))))))
  rw [if_neg h10]
  by_cases h11 : x.1 = 10
  · rw [if_pos h11]; exact (tkN.k (by decide)).app ((tkN.k (by decide)).app (a.app ((tkN.k (by decide)).app (b.app (tkN.k (by decide))))))
  rw [if_neg h11]; exact (tkN.k (by decide)).app (a.app ((tkN.k (by omega)).app (b.app (tkN.k (by decide)))))
theorem t0B_n {x : xT0} (hx : t0N x) (hm : t0M N x) : tkN N (t0B x) := by
  obtain ⟨⟨h15, h22⟩, hn, hS, hL⟩ := hx
  unfold t0B
  by_cases h20 : x.1 < 20
  · rw [if_pos h20]; exact (s1B_n hS hm.2.1).app ((tkN.k (by omega)).app (lfB_n hL.1 hm.2.2))
  rw [if_neg h20]
  have hk := hm.1 (by omega)
  by_cases h : x.1 = 20
  · rw [if_pos h]; exact (tkN.k (by decide)).app (tkN.t hk)
  · rw [if_neg h]; exact (tkN.k (by decide)).app (tkN.t hk)
theorem t1B_n {x : xT1} (hx : t1N x) (hm : t1M N x) : tkN N (t1B x) := by
  obtain ⟨h25, h0, hA, hB⟩ := hx
  unfold t1B
  split
  · exact t0B_n h0 hm.1
  · split
    · exact (tkN.k (by decide)).app (t0B_n hA hm.2.1)
    · split
      · exact (tkN.k (by decide)).app ((t0B_n hA hm.2.1).app ((tkN.k (by decide)).app ((t0B_n hB hm.2.2).app (tkN.k (by decide)))))
      · exact (tkN.k (by decide)).app ((t0B_n hA hm.2.1).app ((tkN.k (by decide)).app ((t0B_n hB hm.2.2).app (tkN.k (by decide)))))
theorem endB_n {o : xO} (ho : t1N o.2.2.2) (hm : t1M N o.2.2.2) : tkN N (endB o) := by
  unfold endB
  split
  · exact (tkN.k (by decide)).app ((t1B_n ho hm).app (tkN.k (by decide)))
  · exact tkN.k (by decide)
theorem ordB_n {o : xO} (ho : oN o) (hm : oM N o) : tkN N (ordB o) := by
  obtain ⟨h3, hk, ⟨hA, hB, hC⟩, hT⟩ := ho
  obtain ⟨m1, ⟨mA, mB, mC⟩, mT⟩ := hm
  have nm := tkN.t m1
  unfold ordB
  split
  · exact (tkN.k (by decide)).app (nm.app ((tkN.k (by decide)).app ((s1B_n hA mA).app ((tkN.k (by decide)).app ((s1B_n hB mB).app ((tkN.k (by decide)).app ((s1B_n hC mC).app (endB_n hT mT))))))))
  · split
    · exact (tkN.k (by decide)).app (nm.app (endB_n hT mT))
    · exact (tkN.k (by decide)).app (nm.app (endB_n hT mT))
theorem osB_n : ∀ {os : List xO}, (∀ o ∈ os, oN o ∧ oM N o) → tkN N (osB os)
  | [], _ => tkN.nil
  | o :: os, ho => (ordB_n (ho o List.mem_cons_self).1 (ho o List.mem_cons_self).2).app (osB_n (fun o' h => ho o' (List.mem_cons_of_mem _ h)))
end Named
/-! values -/
def dvl (l : List Nat) : Nat := l.foldl (fun a b => a * 10 + (b - 48)) 0
theorem dvl_dgs : ∀ (f n : Nat), n < 10 ^ (f + 1) → dvl (dgs (f + 1) n) = n
  | 0, n, h => by
    have hn : n < 10 := by simpa using h
    unfold dgs
    rw [if_pos hn]
    show 0 * 10 + (48 + n - 48) = n
    omega
  | f + 1, n, h => by
    have e : dgs (f + 1 + 1) n = if n < 10 then [48 + n] else dgs (f + 1) (n / 10) ++ [48 + n % 10] := rfl
    rw [e]
    by_cases hq : n < 10
    · rw [if_pos hq]
      show 0 * 10 + (48 + n - 48) = n
      omega
    · rw [if_neg hq]
      unfold dvl
      rw [List.foldl_append]
      show dvl (dgs (f + 1) (n / 10)) * 10 + (48 + n % 10 - 48) = n
      rw [dvl_dgs f (n / 10) (by rw [Nat.pow_succ] at h; omega)]
      omega
theorem dvl_dg {n : Nat} (h : n < 10 ^ 10) : dvl (dg n) = n := dvl_dgs 9 n h
def tkv (x : xTk) : Nat := if x.1 = 40 then dvl x.2 else dvl x.2.tail
theorem tkv_n {n : Nat} (h : n < 10 ^ 10) : tkv (40, dg n) = n := dvl_dg h
theorem tkv_t {n : Nat} (h : n < 16) : tkv (41, tnm n) = n := dvl_dg (Nat.lt_trans h (by decide))
def vlOf (ks : List xTk) (j : Nat) : Nat := match ks[j]? with
  | none => 0
  | some x => tkv x
theorem vlOf_at {ks : List xTk} {j : Nat} {x : xTk} (h : ks[j]? = some x) : vlOf ks j = tkv x := by
  unfold vlOf
  rw [h]
def tkb (ks : List xTk) (p : Nat) (bs : List xTk) : Prop := ∀ j x, bs[j]? = some x → ks[p + j]? = some x
theorem tkb.left {ks : List xTk} {p : Nat} {f g : List xTk} (h : tkb ks p (f ++ g)) : tkb ks p f := fun j x hx => h j x (by rw [List.getElem?_append_left (List.getElem?_eq_some_iff.mp hx).1]; exact hx)
theorem tkb.right {ks : List xTk} {p : Nat} {f g : List xTk} (h : tkb ks p (f ++ g)) : tkb ks (p + f.length) g := fun j x hx => by
  have := h (f.length + j) x (by rw [List.getElem?_append_right (by omega), Nat.add_sub_cancel_left]; exact hx)
  rw [show p + f.length + j = p + (f.length + j) by omega]
  exact this
theorem tkb.v {ks : List xTk} {p : Nat} {x : xTk} {f : List xTk} (h : tkb ks p (x :: f)) : vlOf ks p = tkv x := vlOf_at (h 0 x rfl)
section Vals
variable {ks : List xTk} {p : Nat}
theorem lfT_b {x : xLf} (hx : lfN x) (h : tkb ks p (lfB x)) : lfT (vlOf ks) p x := by
  obtain ⟨h8, h6, h16⟩ := hx
  unfold lfB at h
  refine ⟨fun z => ?_, fun z => ?_⟩
  · rw [if_pos z] at h
    rw [h.v, tkv_n (Nat.lt_trans (h6 z) (by decide))]
  · rw [if_neg (by omega), if_neg (by omega)] at h
    rw [show p + 2 = p + ([(16, [119, 97, 121, 115])] : List xTk).length + ([(17, [111, 102])] : List xTk).length from rfl, h.right.right.v, tkv_t (h16 z)]
theorem s1T_b {x : xS1} (hx : s1N x) (h : tkb ks p (s1B x)) : s1T (vlOf ks) p x := by
  obtain ⟨h15, h8', hA, hB⟩ := hx
  have la := lfB_len x.2.2.1
  unfold s1B at h
  unfold s1T
  by_cases h8 : x.1 < 8
  · rw [if_pos h8] at h ⊢; exact lfT_b (h8' h8) h
  rw [if_neg h8] at h ⊢
  by_cases h9 : x.1 = 8
  · rw [if_pos h9] at h ⊢; exact lfT_b hA h.right
  rw [if_neg h9] at h ⊢
  by_cases h10 : x.1 = 9
  · rw [if_pos h10] at h
    rw [if_pos (by omega)]
    have e1 := h.right.right.left
    have e2 := h.right.right.right.right.left
    rw [la] at e2
    exact ⟨lfT_b hA e1, lfT_b hB e2⟩
  rw [if_neg h10] at h
  by_cases h11 : x.1 = 10
  · rw [if_pos h11] at h
    rw [if_pos (by omega)]
    have e1 := h.right.right.left
    have e2 := h.right.right.right.right.left
    rw [la] at e2
    exact ⟨lfT_b hA e1, lfT_b hB e2⟩
  rw [if_neg h11] at h
  rw [if_neg (by omega)]
  have e1 := h.right.left
  have e2 := h.right.right.right.left
  rw [la] at e2
  exact ⟨lfT_b hA e1, lfT_b hB e2⟩
theorem t0T_b {x : xT0} (hx : t0N x) (h : tkb ks p (t0B x)) : t0T (vlOf ks) p x := by
  obtain ⟨⟨h15, h22⟩, hn, hS, hL⟩ := hx
  have ls := s1B_len hS.1
  unfold t0B at h
  unfold t0T
  by_cases h20 : x.1 < 20
  · rw [if_pos h20] at h ⊢
    have e2 := h.right.right
    rw [ls] at e2
    exact ⟨s1T_b hS h.left, lfT_b hL e2⟩
  rw [if_neg h20] at h ⊢
  have hk := hn (by omega)
  by_cases hq : x.1 = 20
  · rw [if_pos hq] at h
    exact h.right.v.trans (tkv_t hk)
  · rw [if_neg hq] at h
    exact h.right.v.trans (tkv_t hk)
theorem t1T_b {x : xT1} (hx : t1N x) (h : tkb ks p (t1B x)) : t1T (vlOf ks) p x := by
  obtain ⟨h25, h0, hA, hB⟩ := hx
  have la := t0B_len hA.1 hA.2.2.1.1
  unfold t1B at h
  unfold t1T
  by_cases h22 : x.1 < 22
  · rw [if_pos h22] at h ⊢; exact t0T_b h0 h
  rw [if_neg h22] at h ⊢
  by_cases h23 : x.1 = 22
  · rw [if_pos h23] at h ⊢; exact t0T_b hA h.right
  rw [if_neg h23] at h ⊢
  by_cases h24 : x.1 = 23
  · rw [if_pos h24] at h
    have e2 := h.right.right.right.left
    rw [la] at e2
    exact ⟨t0T_b hA h.right.left, t0T_b hB e2⟩
  · rw [if_neg h24] at h
    have e2 := h.right.right.right.left
    rw [la] at e2
    exact ⟨t0T_b hA h.right.left, t0T_b hB e2⟩
end Vals
