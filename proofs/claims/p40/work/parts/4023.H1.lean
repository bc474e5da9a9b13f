/-! ===== p40: how long a game's text is, and how many tokens it has ===== -/
theorem tnm_len : ∀ k, k < 16 → (tnm k).length ≤ 3 := by decide +kernel
theorem wLf_len : ∀ s, s < 7 → 1 ≤ s → (wLf s).length ≤ 7 := by decide +kernel
theorem lfX_len {x : xLf} (hx : lfN x) : (lfX x).length ≤ 11 ∧ (lfB x).length ≤ 3 := by
  obtain ⟨h8, h6, h16⟩ := hx
  unfold lfX lfB
  by_cases h0 : x.1 = 0
  · rw [if_pos h0, if_pos h0]
    have := (dg_len (f := 5) (h6 h0) (by decide)).2
    exact ⟨by omega, by show 1 ≤ 3; omega⟩
  rw [if_neg h0, if_neg h0]
  by_cases h7 : x.1 < 7
  · rw [if_pos h7, if_pos h7]
    have := wLf_len x.1 h7 (by omega)
    exact ⟨by omega, by show 1 ≤ 3; omega⟩
  · rw [if_neg h7, if_neg h7]
    have := tnm_len x.2 (h16 (by omega))
    simp only [List.length_append, List.length_cons, List.length_nil]
    omega
theorem s1X_len {x : xS1} (hx : s1N x) : (s1X x).length ≤ 30 ∧ (s1B x).length ≤ 10 := by
  obtain ⟨h15, h8', hA, hB⟩ := hx
  have a := lfX_len hA
  have b := lfX_len hB
  unfold s1X s1B
  by_cases h8 : x.1 < 8
  · rw [if_pos h8, if_pos h8]
    have := lfX_len (h8' h8)
    omega
  rw [if_neg h8, if_neg h8]
  by_cases h9 : x.1 = 8
  · rw [if_pos h9, if_pos h9]
    simp only [List.length_append, List.length_cons, List.length_nil]
    omega
  rw [if_neg h9, if_neg h9]
  by_cases h10 : x.1 = 9
  · rw [if_pos h10, if_pos h10]
    simp only [List.length_append, List.length_cons, List.length_nil]
    omega
  rw [if_neg h10, if_neg h10]
  by_cases h11 : x.1 = 10
  · rw [if_pos h11, if_pos h11]
    simp only [List.length_append, List.length_cons, List.length_nil]
    omega
  rw [if_neg h11, if_neg h11]
  simp only [List.length_append, List.length_cons, List.length_nil]
  omega
theorem cmX_len (s : Nat) : (cmX s).length ≤ 2 := by
  unfold cmX
  split
  · exact Nat.le_succ 1
  · split
    · exact Nat.le_succ 1
    · split
      · exact Nat.le_succ 1
      · split <;> exact Nat.le_refl 2
theorem t0X_len {x : xT0} (hx : t0N x) : (t0X x).length ≤ 43 ∧ (t0B x).length ≤ 14 := by
  obtain ⟨⟨h15, h22⟩, hn, hS, hL⟩ := hx
  have a := s1X_len hS
  have b := lfX_len hL
  have c := cmX_len x.1
  unfold t0X t0B
  by_cases h20 : x.1 < 20
  · rw [if_pos h20, if_pos h20]
    simp only [List.length_append, List.length_cons, List.length_nil]
    omega
  rw [if_neg h20, if_neg h20]
  have hk := tnm_len x.2.1 (hn (by omega))
  by_cases h : x.1 = 20
  · rw [if_pos h, if_pos h]
    simp only [List.length_append, List.length_cons, List.length_nil]
    omega
  · rw [if_neg h, if_neg h]
    simp only [List.length_append, List.length_cons, List.length_nil]
    omega
theorem t1X_len {x : xT1} (hx : t1N x) : (t1X x).length ≤ 93 ∧ (t1B x).length ≤ 31 := by
  obtain ⟨h25, h0, hA, hB⟩ := hx
  have z := t0X_len h0
  have a := t0X_len hA
  have b := t0X_len hB
  unfold t1X t1B
  by_cases h22 : x.1 < 22
  · rw [if_pos h22, if_pos h22]; omega
  rw [if_neg h22, if_neg h22]
  by_cases h23 : x.1 = 22
  · rw [if_pos h23, if_pos h23]
    simp only [List.length_append, List.length_cons, List.length_nil]
    omega
  rw [if_neg h23, if_neg h23]
  by_cases h24 : x.1 = 23
  · rw [if_pos h24, if_pos h24]
    simp only [List.length_append, List.length_cons, List.length_nil]
    omega
  · rw [if_neg h24, if_neg h24]
    simp only [List.length_append, List.length_cons, List.length_nil]
    omega
theorem endX_len {o : xO} (ho : t1N o.2.2.2) : (endX o).length ≤ 100 ∧ (endB o).length ≤ 33 := by
  have a := t1X_len ho
  unfold endX endB
  cases o.2.2.1 with
  | true =>
    rw [if_pos rfl, if_pos rfl]
    simp only [List.length_append, List.length_cons, List.length_nil]
    omega
  | false => exact ⟨by show 1 ≤ 100; omega, by show 1 ≤ 33; omega⟩
theorem ordX_len {o : xO} (ho : oN o) : (ordX o).length ≤ 210 ∧ (ordB o).length ≤ 68 := by
  obtain ⟨h3, hk, ⟨hA, hB, hC⟩, hT⟩ := ho
  have a := s1X_len hA
  have b := s1X_len hB
  have c := s1X_len hC
  have e := endX_len hT
  have k := tnm_len _ hk
  unfold ordX ordB
  by_cases h0 : o.1.1 = 0
  · rw [if_pos h0, if_pos h0]
    simp only [List.length_append, List.length_cons, List.length_nil]
    omega
  rw [if_neg h0, if_neg h0]
  by_cases h1 : o.1.1 = 1
  · rw [if_pos h1, if_pos h1]
    simp only [List.length_append, List.length_cons, List.length_nil]
    omega
  · rw [if_neg h1, if_neg h1]
    simp only [List.length_append, List.length_cons, List.length_nil]
    omega
theorem osX_len : ∀ {os : List xO}, (∀ o ∈ os, oN o) → (osX os).length ≤ 210 * os.length ∧ (osB os).length ≤ 68 * os.length
  | [], _ => ⟨Nat.le_refl 0, Nat.le_refl 0⟩
  | o :: os, ho => by
    have a := ordX_len (ho o List.mem_cons_self)
    have b := osX_len (os := os) (fun o' h => ho o' (List.mem_cons_of_mem _ h))
    show (ordX o ++ osX os).length ≤ 210 * (os.length + 1) ∧ (ordB o ++ osB os).length ≤ 68 * (os.length + 1)
    rw [List.length_append, List.length_append]
    omega
theorem dg1 {n : Nat} (h : n < 10) : (dg n).length = 1 := by
  have := dg_len (n := n) (f := 0) h (by decide)
  omega
theorem tsX_len : ∀ {xs : List (Nat × Nat × Nat)} {k : Nat}, k + xs.length ≤ 16 → (∀ x ∈ xs, num3 x) → (tsX k xs).length ≤ 15 * xs.length
  | [], _, _, _ => Nat.le_refl 0
  | x :: xs, k, hk, hx => by
    have hk' : k + (xs.length + 1) ≤ 16 := hk
    obtain ⟨n1, n2, n3'⟩ := hx x List.mem_cons_self
    have b := tsX_len (xs := xs) (k := k + 1) (by omega) (fun x' h' => hx x' (List.mem_cons_of_mem _ h'))
    have t := tnm_len k (by omega)
    have d1 := dg1 n1
    have d2 := dg1 n2
    have d3 := dg1 n3'
    show (tlX k x ++ tsX (k + 1) xs).length ≤ 15 * (xs.length + 1)
    unfold tlX
    simp only [List.length_append, List.length_cons, List.length_nil]
    omega
theorem gmX_len {brd : Bool} {C R : Nat} {xs : List (Nat × Nat × Nat)} {os : List xO} (hC : C < 10) (hR : R < 10) (h16 : xs.length ≤ 16) (hx : ∀ x ∈ xs, num3 x) (ho : ∀ o ∈ os, oN o) : (gmX brd C R xs os).length ≤ 14 + 15 * xs.length + 210 * os.length ∧ (gmB brd C R xs os).length ≤ 5 + 6 * xs.length + 68 * os.length := by
  have a := tsX_len (xs := xs) (k := 0) (by omega) hx
  have b := osX_len ho
  have c := dg1 hC
  have d := dg1 hR
  unfold gmX gmB
  rw [List.length_append, List.length_append, List.length_append, List.length_append, tsB_len]
  cases brd with
  | false =>
    rw [if_neg Bool.false_ne_true, if_neg Bool.false_ne_true, List.length_nil]
    show 0 + _ ≤ _ ∧ (0 + _ ≤ _)
    omega
  | true =>
    rw [if_pos rfl, if_pos rfl]
    unfold bdX bdB
    simp only [List.length_append, List.length_cons, List.length_nil]
    omega
