/-! ===== p40: kinds and values of the tokens of a game of the law ===== -/
abbrev kds (l : List xTk) : List Nat := l.map (·.1)
theorem lfB_k {x : xLf} : kds (lfB x) = lfK x := by
  unfold lfB lfK
  by_cases h0 : x.1 = 0
  · rw [if_pos h0, if_pos h0]; rfl
  rw [if_neg h0, if_neg h0]
  by_cases h7 : x.1 < 7
  · rw [if_pos h7, if_pos h7]; rfl
  · rw [if_neg h7, if_neg h7]; rfl
theorem lfB_len (x : xLf) : (lfB x).length = (lfK x).length := by rw [← lfB_k, List.length_map]
theorem s1B_k {x : xS1} (hx : x.1 < 15) : kds (s1B x) = s1K x := by
  unfold s1B s1K
  by_cases h8 : x.1 < 8
  · rw [if_pos h8, if_pos h8]; exact lfB_k
  rw [if_neg h8, if_neg h8]
  by_cases h9 : x.1 = 8
  · rw [if_pos h9, if_pos h9, kds, List.map_append]
    show 32 :: kds (lfB x.2.2.1) = _
    rw [lfB_k]
  rw [if_neg h9, if_neg h9]
  by_cases h10 : x.1 = 9
  · rw [if_pos h10, if_pos (by omega), h10]
    simp only [kds, List.map_append, List.map_cons, List.map_nil]
    rw [show (lfB x.2.2.1).map (·.1) = lfK x.2.2.1 from lfB_k, show (lfB x.2.2.2).map (·.1) = lfK x.2.2.2 from lfB_k]
    rfl
  rw [if_neg h10]
  by_cases h11 : x.1 = 10
  · rw [if_pos h11, if_pos (by omega), h11]
    simp only [kds, List.map_append, List.map_cons, List.map_nil]
    rw [show (lfB x.2.2.1).map (·.1) = lfK x.2.2.1 from lfB_k, show (lfB x.2.2.2).map (·.1) = lfK x.2.2.2 from lfB_k]
    rfl
  rw [if_neg h11, if_neg (by omega)]
  simp only [kds, List.map_append, List.map_cons, List.map_nil]
  rw [show (lfB x.2.2.1).map (·.1) = lfK x.2.2.1 from lfB_k, show (lfB x.2.2.2).map (·.1) = lfK x.2.2.2 from lfB_k]
  rfl
theorem s1B_len {x : xS1} (hx : x.1 < 15) : (s1B x).length = (s1K x).length := by rw [← s1B_k hx, List.length_map]
theorem t0B_k {x : xT0} (hx : 15 ≤ x.1 ∧ x.1 < 22) (hs : x.2.2.1.1 < 15) : kds (t0B x) = t0K x := by
  unfold t0B t0K
  by_cases h20 : x.1 < 20
  · rw [if_pos h20, if_pos h20]
    simp only [kds, List.map_append, List.map_cons, List.map_nil]
    rw [show (s1B x.2.2.1).map (·.1) = s1K x.2.2.1 from s1B_k hs, show (lfB x.2.2.2).map (·.1) = lfK x.2.2.2 from lfB_k]
    rfl
  rw [if_neg h20, if_neg h20]
  by_cases h : x.1 = 20
  · rw [if_pos h, h]; rfl
  · rw [if_neg h, show x.1 = 21 by omega]; rfl
theorem t0B_len {x : xT0} (hx : 15 ≤ x.1 ∧ x.1 < 22) (hs : x.2.2.1.1 < 15) : (t0B x).length = (t0K x).length := by rw [← t0B_k hx hs, List.length_map]
theorem t1B_k {x : xT1} (hx : t1N x) : kds (t1B x) = t1K x := by
  obtain ⟨h25, h0, hA, hB⟩ := hx
  unfold t1B t1K
  by_cases h22 : x.1 < 22
  · rw [if_pos h22, if_pos h22]; exact t0B_k h0.1 h0.2.2.1.1
  rw [if_neg h22, if_neg h22]
  by_cases h23 : x.1 = 22
  · rw [if_pos h23, if_pos h23]
    simp only [kds, List.map_append, List.map_cons, List.map_nil]
    rw [show (t0B x.2.2.1).map (·.1) = t0K x.2.2.1 from t0B_k hA.1 hA.2.2.1.1]
    rfl
  rw [if_neg h23, if_neg h23]
  have e1 : (t0B x.2.2.1).map (·.1) = t0K x.2.2.1 := t0B_k hA.1 hA.2.2.1.1
  have e2 : (t0B x.2.2.2).map (·.1) = t0K x.2.2.2 := t0B_k hB.1 hB.2.2.1.1
  by_cases h24 : x.1 = 23
  · rw [if_pos h24, h24]
    simp only [kds, List.map_append, List.map_cons, List.map_nil]
    rw [e1, e2]
    rfl
  · rw [if_neg h24, show x.1 = 24 by omega]
    simp only [kds, List.map_append, List.map_cons, List.map_nil]
    rw [e1, e2]
    rfl
theorem t1B_len {x : xT1} (hx : t1N x) : (t1B x).length = (t1K x).length := by rw [← t1B_k hx, List.length_map]
theorem endB_k {o : xO} (ho : t1N o.2.2.2) : kds (endB o) = xEnd o ++ [29] := by
  unfold endB xEnd
  cases o.2.2.1 with
  | true =>
    rw [if_pos rfl, if_pos rfl]
    simp only [kds, List.map_append, List.map_cons, List.map_nil]
    rw [show (t1B o.2.2.2).map (·.1) = t1K o.2.2.2 from t1B_k ho]
    rfl
  | false => rfl
theorem ordB_k {o : xO} (ho : oN o) : kds (ordB o) = xK o ++ [29] := by
  obtain ⟨h3, hk, ⟨hA, hB, hC⟩, hT⟩ := ho
  have e1 : (s1B o.2.1.1).map (·.1) = s1K o.2.1.1 := s1B_k hA.1
  have e2 : (s1B o.2.1.2.1).map (·.1) = s1K o.2.1.2.1 := s1B_k hB.1
  have e3 : (s1B o.2.1.2.2).map (·.1) = s1K o.2.1.2.2 := s1B_k hC.1
  have e4 : (endB o).map (·.1) = xEnd o ++ [29] := endB_k hT
  unfold ordB xK xHd
  by_cases h0 : o.1.1 = 0
  · rw [if_pos h0, if_pos h0]
    simp only [kds, List.map_append, List.map_cons, List.map_nil]
    rw [e1, e2, e3, e4]
    simp only [List.append_assoc, List.cons_append, List.nil_append]
  rw [if_neg h0, if_neg h0]
  by_cases h1 : o.1.1 = 1
  · rw [if_pos h1, h1]
    simp only [kds, List.map_append, List.map_cons, List.map_nil]
    rw [e4]
    rfl
  · rw [if_neg h1, show o.1.1 = 2 by omega]
    simp only [kds, List.map_append, List.map_cons, List.map_nil]
    rw [e4]
    rfl
theorem ordB_len {o : xO} (ho : oN o) : (ordB o).length = (xK o).length + 1 := by
  have := congrArg List.length (ordB_k ho)
  rw [List.length_map, List.length_append, List.length_singleton] at this
  exact this
theorem osB_k : ∀ {os : List xO}, (∀ o ∈ os, oN o) → kds (osB os) = orK os
  | [], _ => rfl
  | o :: os, ho => by
    show (ordB o ++ osB os).map (·.1) = (xK o ++ [29]) ++ orK os
    rw [List.map_append, show (ordB o).map (·.1) = _ from ordB_k (ho o List.mem_cons_self), show (osB os).map (·.1) = _ from osB_k (fun o' h => ho o' (List.mem_cons_of_mem _ h))]
theorem tsB_k : ∀ (xs : List (Nat × Nat × Nat)) (k : Nat), kds (tsB k xs) = tlK xs.length
  | [], _ => rfl
  | x :: xs, k => by
    show (tlB k x ++ tsB (k + 1) xs).map (·.1) = [3, 41, 40, 40, 40, 29] ++ tlK xs.length
    rw [List.map_append, show (tsB (k + 1) xs).map (·.1) = _ from tsB_k xs (k + 1)]
    rfl
theorem gmB_k {brd : Bool} {C R : Nat} {xs : List (Nat × Nat × Nat)} {os : List xO} (ho : ∀ o ∈ os, oN o) : kds (gmB brd C R xs os) = gmK brd xs.length os := by
  unfold gmB gmK
  rw [kds, List.map_append, List.map_append, show (tsB 0 xs).map (·.1) = _ from tsB_k xs 0, show (osB os).map (·.1) = _ from osB_k ho]
  cases brd <;> rfl
/-- tokens with sense -/
def tkG (x : xTk) : Prop := (x.1 = 40 → ∃ v, v < 10 ^ 6 ∧ x.2 = dg v) ∧ (x.1 = 41 → ∃ k, k < 16 ∧ x.2 = tnm k) ∧ x.1 ≠ 42 ∧ x.1 ≠ 43
theorem tkG.o {k : Nat} {b : List Nat} (h : k ≠ 40 ∧ k ≠ 41 ∧ k ≠ 42 ∧ k ≠ 43) : tkG (k, b) := ⟨fun z => absurd z h.1, fun z => absurd z h.2.1, h.2.2.1, h.2.2.2⟩
theorem tkG.n {v : Nat} (h : v < 10 ^ 6) : tkG (40, dg v) := ⟨fun _ => ⟨v, h, rfl⟩, fun z => absurd z (show ¬ 40 = 41 by decide), by show 40 ≠ 42; decide, by show 40 ≠ 43; decide⟩
theorem tkG.t {k : Nat} (h : k < 16) : tkG (41, tnm k) := ⟨fun z => absurd z (show ¬ 41 = 40 by decide), fun _ => ⟨k, h, rfl⟩, by show 41 ≠ 42; decide, by show 41 ≠ 43; decide⟩
def tkA (l : List xTk) : Prop := ∀ x ∈ l, tkG x
theorem tkA.nil : tkA [] := fun x h => absurd h List.not_mem_nil
theorem tkA.one {x : xTk} (h : tkG x) : tkA [x] := fun y hy => by rw [List.mem_singleton.mp hy]; exact h
theorem tkA.app {a b : List xTk} (h : tkA a) (h1 : tkA b) : tkA (a ++ b) := fun x hx => (List.mem_append.mp hx).elim (h x) (h1 x)
theorem tkA.k {k : Nat} {b : List Nat} (h : k ≠ 40 ∧ k ≠ 41 ∧ k ≠ 42 ∧ k ≠ 43) : tkA [(k, b)] := tkA.one (tkG.o h)
theorem lfB_g {x : xLf} (hx : lfN x) : tkA (lfB x) := by
  unfold lfB
  by_cases h0 : x.1 = 0
  · rw [if_pos h0]; exact tkA.one (tkG.n (hx.2.1 h0))
  rw [if_neg h0]
  by_cases h7 : x.1 < 7
  · rw [if_pos h7]; exact tkA.k (by omega)
  · rw [if_neg h7]; exact (tkA.k (by decide)).app ((tkA.k (by decide)).app (tkA.one (tkG.t (hx.2.2 (by have := hx.1; omega)))))
theorem s1B_g {x : xS1} (hx : s1N x) : tkA (s1B x) := by
  obtain ⟨h15, h8', hA, hB⟩ := hx
  have a := lfB_g hA
  have b := lfB_g hB
  unfold s1B
  by_cases h8 : x.1 < 8
  · rw [if_pos h8]; exact lfB_g (h8' h8)
  rw [if_neg h8]
  by_cases h9 : x.1 = 8
  · rw [if_pos h9]; exact (tkA.k (by decide)).app a
  rw [if_neg h9]
  by_cases h10 : x.1 = 9
  · rw [if_pos h10]; exact (tkA.k (by decide)).app ((tkA.k (by decide)).app (a.app ((tkA.k (by decide)).app (b.app (tkA.k (by decide))))))
  rw [if_neg h10]
  by_cases h11 : x.1 = 10
  · rw [if_pos h11]; exact (tkA.k (by decide)).app ((tkA.k (by decide)).app (a.app ((tkA.k (by decide)).app (b.app (tkA.k (by decide))))))
  rw [if_neg h11]; exact (tkA.k (by decide)).app (a.app ((tkA.k (by omega)).app (b.app (tkA.k (by decide)))))
theorem t0B_g {x : xT0} (hx : t0N x) : tkA (t0B x) := by
  obtain ⟨⟨h15, h22⟩, hn, hS, hL⟩ := hx
  unfold t0B
  by_cases h20 : x.1 < 20
  · rw [if_pos h20]; exact (s1B_g hS).app ((tkA.k (by omega)).app (lfB_g hL))
  rw [if_neg h20]
  have hk := hn (by omega)
  by_cases h : x.1 = 20
  · rw [if_pos h]; exact (tkA.k (by decide)).app (tkA.one (tkG.t hk))
  · rw [if_neg h]; exact (tkA.k (by decide)).app (tkA.one (tkG.t hk))
theorem t1B_g {x : xT1} (hx : t1N x) : tkA (t1B x) := by
  obtain ⟨h25, h0, hA, hB⟩ := hx
  unfold t1B
  split
  · exact t0B_g h0
  · split
    · exact (tkA.k (by decide)).app (t0B_g hA)
    · split
      · exact (tkA.k (by decide)).app ((t0B_g hA).app ((tkA.k (by decide)).app ((t0B_g hB).app (tkA.k (by decide)))))
      · exact (tkA.k (by decide)).app ((t0B_g hA).app ((tkA.k (by decide)).app ((t0B_g hB).app (tkA.k (by decide)))))
theorem endB_g {o : xO} (ho : t1N o.2.2.2) : tkA (endB o) := by
  unfold endB
  split
  · exact (tkA.k (by decide)).app ((t1B_g ho).app (tkA.k (by decide)))
  · exact tkA.k (by decide)
theorem ordB_g {o : xO} (ho : oN o) : tkA (ordB o) := by
  obtain ⟨h3, hk, ⟨hA, hB, hC⟩, hT⟩ := ho
  have nm := tkA.one (tkG.t hk)
  unfold ordB
  split
  · exact (tkA.k (by decide)).app (nm.app ((tkA.k (by decide)).app ((s1B_g hA).app ((tkA.k (by decide)).app ((s1B_g hB).app ((tkA.k (by decide)).app ((s1B_g hC).app (endB_g hT))))))))
  · split
    · exact (tkA.k (by decide)).app (nm.app (endB_g hT))
    · exact (tkA.k (by decide)).app (nm.app (endB_g hT))
theorem osB_g : ∀ {os : List xO}, (∀ o ∈ os, oN o) → tkA (osB os)
  | [], _ => tkA.nil
  | o :: os, ho => (ordB_g (ho o List.mem_cons_self)).app (osB_g (fun o' h => ho o' (List.mem_cons_of_mem _ h)))
theorem tsB_g : ∀ {xs : List (Nat × Nat × Nat)} {k : Nat}, k + xs.length ≤ 16 → (∀ x ∈ xs, num3 x) → tkA (tsB k xs)
  | [], _, _, _ => tkA.nil
  | x :: xs, k, hk, hx => by
    have hk' : k + (xs.length + 1) ≤ 16 := hk
    obtain ⟨h1, h2, h3⟩ := hx x List.mem_cons_self
    exact ((tkA.k (by decide)).app ((tkA.one (tkG.t (by omega))).app ((tkA.one (tkG.n (by omega))).app ((tkA.one (tkG.n (by omega))).app ((tkA.one (tkG.n (by omega))).app (tkA.k (by decide))))))).app (tsB_g (by omega) (fun x' h' => hx x' (List.mem_cons_of_mem _ h')))
theorem gmB_g {brd : Bool} {C R : Nat} {xs : List (Nat × Nat × Nat)} {os : List xO} (hC : C < 10) (hR : R < 10) (h16 : xs.length ≤ 16) (hx : ∀ x ∈ xs, num3 x) (ho : ∀ o ∈ os, oN o) : tkA (gmB brd C R xs os) := by
  unfold gmB
  refine tkA.app ?_ ((tsB_g (by omega) hx).app (osB_g ho))
  cases brd with
  | false => exact tkA.nil
  | true => exact (tkA.k (by decide)).app ((tkA.one (tkG.n (by omega))).app ((tkA.k (by decide)).app ((tkA.one (tkG.n (by omega))).app (tkA.k (by decide)))))
