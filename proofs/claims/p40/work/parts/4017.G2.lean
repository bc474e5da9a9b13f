/-! ===== p40: the texts of the law's expressions and their tokens ===== -/
def wLf (s : Nat) : List Nat := if s = 1 then [114, 111, 117, 110, 100] else if s = 2 then [112, 108, 97, 99, 101, 100] else if s = 3 then [109, 97, 116, 99, 104, 101, 115] else if s = 4 then [112, 111, 105, 110, 116, 115] else if s = 5 then [114, 105, 110, 103, 115] else [102, 114, 101, 101]
def lfX (x : xLf) : List Nat := if x.1 = 0 then dg x.2 else if x.1 < 7 then wLf x.1 else [119, 97, 121, 115] ++ (32 :: ([111, 102] ++ (32 :: tnm x.2)))
def lfB (x : xLf) : List xTk := if x.1 = 0 then [(40, dg x.2)] else if x.1 < 7 then [(9 + x.1, wLf x.1)] else [(16, [119, 97, 121, 115])] ++ ([(17, [111, 102])] ++ [(41, tnm x.2)])
/-- numbers of expressions: below a million, names below 16 -/
def lfN (x : xLf) : Prop := x.1 < 8 ∧ (x.1 = 0 → x.2 < 10 ^ 6) ∧ (x.1 = 7 → x.2 < 16)
def s1N (x : xS1) : Prop := x.1 < 15 ∧ (x.1 < 8 → lfN (x.1, x.2.1)) ∧ lfN x.2.2.1 ∧ lfN x.2.2.2
def t0N (x : xT0) : Prop := (15 ≤ x.1 ∧ x.1 < 22) ∧ (20 ≤ x.1 → x.2.1 < 16) ∧ s1N x.2.2.1 ∧ lfN x.2.2.2
def t1N (x : xT1) : Prop := x.1 < 25 ∧ t0N x.2.1 ∧ t0N x.2.2.1 ∧ t0N x.2.2.2
theorem Fr.kw {w : List Nat} {k : Nat} (h0 : 1 ≤ w.length ∧ w.length ≤ 10) (h1 : tL (w.getD 0 0) = true) (h2 : ∀ x ∈ w, tLD x = true) (hk : wTxt w 41 = k) : Fr 1 w [(k, w)] := by
  rw [← hk]
  exact Fr.word h0 h1 h2
theorem Fr.sg {b k : Nat} (h1 : tL b = false) (h2 : tD b = false) (h3 : b ≠ 60 ∧ b ≠ 62) (hk : wTxt [b] 43 = k) : Fr 0 [b] [(k, [b])] := by
  rw [← hk]
  exact Fr.sign h1 h2 h3
theorem wLf_all : ∀ s, s < 7 → 1 ≤ s → (1 ≤ (wLf s).length ∧ (wLf s).length ≤ 10) ∧ tL ((wLf s).getD 0 0) = true ∧ (∀ x ∈ wLf s, tLD x = true) ∧ wTxt (wLf s) 41 = 9 + s := by decide +kernel
theorem dg_cons (n : Nat) : ∃ b t, dg n = b :: t ∧ tLD b = true := by
  have h : (dg n) ≠ [] := by
    unfold dg dgs
    split
    · exact fun z => by cases z
    · exact fun z => by
        have := congrArg List.length z
        rw [List.length_append, List.length_singleton] at this
        cases this
  obtain ⟨b, t, e⟩ := List.exists_cons_of_ne_nil h
  refine ⟨b, t, e, ?_⟩
  have := dg_digit n b (by rw [e]; exact List.mem_cons_self)
  unfold tLD
  rw [this, Bool.or_true]
theorem hd_ld {c : Nat} {f : List Nat} (hc : c ≠ 1) (h : ∃ b t, f = b :: t ∧ tLD b = true) : hdc c f := by
  obtain ⟨b, t, e, hb⟩ := h
  refine ⟨b, t, e, ?_, fun z => absurd z hc, fun _ z => ?_⟩
  · cases hB : tB b with
    | false => rfl
    | true =>
      unfold tB at hB
      rw [Bool.or_eq_true] at hB
      rcases hB with h | h <;> (rw [eq_of_beq h] at hb; revert hb; decide)
  · rw [z] at hb
    revert hb
    decide
theorem lfX_head {x : xLf} (hx : x.1 < 8) : ∃ b t, lfX x = b :: t ∧ tLD b = true := by
  unfold lfX
  by_cases h0 : x.1 = 0
  · rw [if_pos h0]; exact dg_cons x.2
  rw [if_neg h0]
  by_cases h7 : x.1 < 7
  · rw [if_pos h7]
    have key : ∀ s, s < 7 → 1 ≤ s → tLD ((wLf s).getD 0 0) = true ∧ wLf s ≠ [] := by decide
    obtain ⟨k1, k2⟩ := key x.1 h7 (by omega)
    obtain ⟨b, t, e⟩ := List.exists_cons_of_ne_nil k2
    rw [e] at k1
    exact ⟨b, t, e, k1⟩
  · rw [if_neg h7]
    exact ⟨119, _, rfl, by decide⟩
theorem Fr.lf {x : xLf} (hx : lfN x) : Fr 1 (lfX x) (lfB x) := by
  obtain ⟨h8, h6, h16⟩ := hx
  unfold lfX lfB
  by_cases h0 : x.1 = 0
  · rw [if_pos h0, if_pos h0]
    exact Fr.num (f := 5) (h6 h0) (Nat.le_refl 5)
  rw [if_neg h0, if_neg h0]
  by_cases h7 : x.1 < 7
  · rw [if_pos h7, if_pos h7]
    obtain ⟨k1, k2, k3, k4⟩ := wLf_all x.1 h7 (by omega)
    exact Fr.kw k1 k2 k3 k4
  · rw [if_neg h7, if_neg h7]
    have hk := h16 (by omega)
    exact Fr.cat1 (Fr.kw (by decide) (by decide) (by decide) (by decide +kernel)) (Or.inl rfl) (Fr.cat1 (Fr.kw (by decide) (by decide) (by decide) (by decide +kernel)) (Or.inl rfl) (Fr.name hk) ⟨116, dg x.2, rfl, by decide, fun z => absurd z (by decide), fun z => absurd z (by decide)⟩) ⟨111, _, rfl, by decide, fun z => absurd z (by decide), fun z => absurd z (by decide)⟩
/-- a sign of a sum or a product: 11 to 14 -/
def sgX (s : Nat) : Nat := if s = 11 then 43 else if s = 12 then 45 else if s = 13 then 42 else 47
theorem sgX_all : ∀ s, s < 15 → 11 ≤ s → tL (sgX s) = false ∧ tD (sgX s) = false ∧ (sgX s ≠ 60 ∧ sgX s ≠ 62) ∧ wTxt [sgX s] 43 = 20 + s ∧ tB (sgX s) = false ∧ tLD (sgX s) = false ∧ sgX s ≠ 61 := by decide +kernel
def s1X (x : xS1) : List Nat := if x.1 < 8 then lfX (x.1, x.2.1) else if x.1 = 8 then [45] ++ lfX x.2.2.1 else if x.1 = 9 then [109, 105, 110] ++ ([40] ++ (lfX x.2.2.1 ++ ([44] ++ (lfX x.2.2.2 ++ [41])))) else if x.1 = 10 then [109, 97, 120] ++ ([40] ++ (lfX x.2.2.1 ++ (32 :: ([44] ++ (32 :: (lfX x.2.2.2 ++ [41])))))) else [40] ++ (lfX x.2.2.1 ++ ([sgX x.1] ++ (lfX x.2.2.2 ++ [41])))
def s1B (x : xS1) : List xTk := if x.1 < 8 then lfB (x.1, x.2.1) else if x.1 = 8 then [(32, [45])] ++ lfB x.2.2.1 else if x.1 = 9 then [(23, [109, 105, 110])] ++ ([(25, [40])] ++ (lfB x.2.2.1 ++ ([(30, [44])] ++ (lfB x.2.2.2 ++ [(26, [41])])))) else if x.1 = 10 then [(24, [109, 97, 120])] ++ ([(25, [40])] ++ (lfB x.2.2.1 ++ ([(30, [44])] ++ (lfB x.2.2.2 ++ [(26, [41])])))) else [(25, [40])] ++ (lfB x.2.2.1 ++ ([(20 + x.1, [sgX x.1])] ++ (lfB x.2.2.2 ++ [(26, [41])])))
theorem hd_sg {c b : Nat} {t : List Nat} (h : tB b = false ∧ tLD b = false ∧ b ≠ 61) : hdc c (b :: t) := ⟨b, t, rfl, h.1, fun _ => h.2.1, fun _ => h.2.2⟩
theorem hd_app {c : Nat} {f g : List Nat} (h : hdc c f) : hdc c (f ++ g) := by
  obtain ⟨b, t, rfl, h1⟩ := h
  exact ⟨b, t ++ g, rfl, h1⟩
theorem Fr.s1 {x : xS1} (hx : s1N x) : Fr 1 (s1X x) (s1B x) := by
  obtain ⟨h15, h8', hA, hB⟩ := hx
  have hda : ∀ g, hdc 0 (lfX x.2.2.1 ++ g) := fun g => hd_app (hd_ld (by decide) (lfX_head hA.1))
  have hdb : ∀ g, hdc 0 (lfX x.2.2.2 ++ g) := fun g => hd_app (hd_ld (by decide) (lfX_head hB.1))
  have close : Fr 1 (lfX x.2.2.2 ++ [41]) (lfB x.2.2.2 ++ [(26, [41])]) := (Fr.cat0 (Fr.lf hB) (Fr.sg (by decide) (by decide) (by decide) (by decide +kernel)) (hd_sg (by decide))).weak 1
  unfold s1X s1B
  by_cases h8 : x.1 < 8
  · rw [if_pos h8, if_pos h8]
    exact Fr.lf (h8' h8)
  rw [if_neg h8, if_neg h8]
  by_cases h9 : x.1 = 8
  · rw [if_pos h9, if_pos h9]
    exact Fr.cat0 (Fr.sg (by decide) (by decide) (by decide) (by decide +kernel)) (Fr.lf hA) (hd_ld (by decide) (lfX_head hA.1))
  rw [if_neg h9, if_neg h9]
  by_cases h10 : x.1 = 9
  · rw [if_pos h10, if_pos h10]
    exact Fr.cat0 (Fr.kw (by decide) (by decide) (by decide) (by decide +kernel)) (Fr.cat0 (Fr.sg (by decide) (by decide) (by decide) (by decide +kernel)) (Fr.cat0 (Fr.lf hA) (Fr.cat0 (Fr.sg (by decide) (by decide) (by decide) (by decide +kernel)) close (hdb _)) (hd_sg (by decide))) (hda _)) (hd_sg (by decide))
  rw [if_neg h10, if_neg h10]
  by_cases h11 : x.1 = 10
  · rw [if_pos h11, if_pos h11]
    exact Fr.cat0 (Fr.kw (by decide) (by decide) (by decide) (by decide +kernel)) (Fr.cat0 (Fr.sg (by decide) (by decide) (by decide) (by decide +kernel)) (Fr.cat1 (Fr.lf hA) (Or.inl rfl) (Fr.cat1 (Fr.sg (by decide) (by decide) (by decide) (by decide +kernel)) (Or.inl rfl) close (hdb _)) (hd_sg (by decide))) (hda _)) (hd_sg (by decide))
  rw [if_neg h11, if_neg h11]
  obtain ⟨k1, k2, k3, k4, k5, k6, k7⟩ := sgX_all x.1 h15 (by omega)
  exact Fr.cat0 (Fr.sg (by decide) (by decide) (by decide) (by decide +kernel)) (Fr.cat0 (Fr.lf hA) (Fr.cat0 (Fr.sg k1 k2 k3 k4) close (hdb _)) (hd_sg ⟨k5, k6, k7⟩)) (hda _)
theorem s1X_head {x : xS1} (hx : s1N x) : hdc 0 (s1X x) := by
  obtain ⟨h15, h8', hA, hB⟩ := hx
  unfold s1X
  by_cases h8 : x.1 < 8
  · rw [if_pos h8]; exact hd_ld (by decide) (lfX_head (h8' h8).1)
  rw [if_neg h8]
  by_cases h9 : x.1 = 8
  · rw [if_pos h9]; exact hd_sg (by decide)
  rw [if_neg h9]
  by_cases h10 : x.1 = 9
  · rw [if_pos h10]; exact ⟨109, _, rfl, by decide, fun z => absurd z (by decide), fun z => absurd z (by decide)⟩
  rw [if_neg h10]
  by_cases h11 : x.1 = 10
  · rw [if_pos h11]; exact ⟨109, _, rfl, by decide, fun z => absurd z (by decide), fun z => absurd z (by decide)⟩
  rw [if_neg h11]
  exact hd_sg (by decide)
/-- signs of tests: 15 to 19 -/
def cmX (s : Nat) : List Nat := if s = 15 then [60] else if s = 16 then [62] else if s = 17 then [61] else if s = 18 then [60, 61] else [62, 61]
theorem Fr.cm {s : Nat} (hs : 15 ≤ s ∧ s < 20) : Fr 2 (cmX s) [(20 + s, cmX s)] := by
  have h : s = 15 ∨ s = 16 ∨ s = 17 ∨ s = 18 ∨ s = 19 := by omega
  rcases h with rfl | rfl | rfl | rfl | rfl
  · have := Fr.lt (b := 60) (Or.inl rfl)
    rw [show wTxt [60] 43 = 35 by decide +kernel] at this
    exact this
  · have := Fr.lt (b := 62) (Or.inr rfl)
    rw [show wTxt [62] 43 = 36 by decide +kernel] at this
    exact this
  · exact (Fr.sg (b := 61) (k := 37) (by decide) (by decide) (by decide) (by decide +kernel)).weak 2
  · have := Fr.le (b := 60) (Or.inl rfl)
    rw [show wTxt [60, 61] 43 = 38 by decide +kernel] at this
    exact this.weak 2
  · have := Fr.le (b := 62) (Or.inr rfl)
    rw [show wTxt [62, 61] 43 = 39 by decide +kernel] at this
    exact this.weak 2
theorem cmX_head {s : Nat} (hs : 15 ≤ s ∧ s < 20) (g : List Nat) : hdc 1 (cmX s ++ g) := by
  have h : s = 15 ∨ s = 16 ∨ s = 17 ∨ s = 18 ∨ s = 19 := by omega
  rcases h with rfl | rfl | rfl | rfl | rfl
  · exact ⟨60, _, rfl, by decide, fun _ => by decide, fun z => absurd z (by decide)⟩
  · exact ⟨62, _, rfl, by decide, fun _ => by decide, fun z => absurd z (by decide)⟩
  · exact ⟨61, _, rfl, by decide, fun _ => by decide, fun z => absurd z (by decide)⟩
  · exact ⟨60, _, rfl, by decide, fun _ => by decide, fun z => absurd z (by decide)⟩
  · exact ⟨62, _, rfl, by decide, fun _ => by decide, fun z => absurd z (by decide)⟩
def t0X (x : xT0) : List Nat := if x.1 < 20 then s1X x.2.2.1 ++ (cmX x.1 ++ lfX x.2.2.2) else if x.1 = 20 then [111, 110] ++ (32 :: tnm x.2.1) else [102, 105, 116, 115] ++ (32 :: tnm x.2.1)
def t0B (x : xT0) : List xTk := if x.1 < 20 then s1B x.2.2.1 ++ ([(20 + x.1, cmX x.1)] ++ lfB x.2.2.2) else if x.1 = 20 then [(18, [111, 110])] ++ [(41, tnm x.2.1)] else [(19, [102, 105, 116, 115])] ++ [(41, tnm x.2.1)]
theorem hd_tnm (k : Nat) : hdc 0 (tnm k) := ⟨116, dg k, rfl, by decide, fun z => absurd z (by decide), fun z => absurd z (by decide)⟩
theorem Fr.t0 {x : xT0} (hx : t0N x) : Fr 1 (t0X x) (t0B x) := by
  obtain ⟨⟨h15, h22⟩, hn, hS, hL⟩ := hx
  unfold t0X t0B
  by_cases h20 : x.1 < 20
  · rw [if_pos h20, if_pos h20]
    exact Fr.cat0 (Fr.s1 hS) (Fr.cat0 (Fr.cm ⟨h15, h20⟩) (Fr.lf hL) (hd_ld (by decide) (lfX_head hL.1))) (cmX_head ⟨h15, h20⟩ _)
  rw [if_neg h20, if_neg h20]
  have hk := hn (by omega)
  by_cases h : x.1 = 20
  · rw [if_pos h, if_pos h]
    exact Fr.cat1 (Fr.kw (by decide) (by decide) (by decide) (by decide +kernel)) (Or.inl rfl) (Fr.name hk) (hd_tnm _)
  · rw [if_neg h, if_neg h]
    exact Fr.cat1 (Fr.kw (by decide) (by decide) (by decide) (by decide +kernel)) (Or.inl rfl) (Fr.name hk) (hd_tnm _)
theorem t0X_head {x : xT0} (hx : t0N x) : hdc 0 (t0X x) := by
  obtain ⟨⟨h15, h22⟩, hn, hS, hL⟩ := hx
  unfold t0X
  by_cases h20 : x.1 < 20
  · rw [if_pos h20]; exact hd_app (s1X_head hS)
  rw [if_neg h20]
  by_cases h : x.1 = 20
  · rw [if_pos h]; exact ⟨111, _, rfl, by decide, fun z => absurd z (by decide), fun z => absurd z (by decide)⟩
  · rw [if_neg h]; exact ⟨102, _, rfl, by decide, fun z => absurd z (by decide), fun z => absurd z (by decide)⟩
def t1X (x : xT1) : List Nat := if x.1 < 22 then t0X x.2.1 else if x.1 = 22 then [110, 111, 116] ++ (32 :: t0X x.2.2.1) else if x.1 = 23 then [91] ++ (t0X x.2.2.1 ++ (32 :: ([97, 110, 100] ++ (32 :: (t0X x.2.2.2 ++ [93]))))) else [91] ++ (t0X x.2.2.1 ++ (32 :: ([111, 114] ++ (32 :: (t0X x.2.2.2 ++ [93])))))
def t1B (x : xT1) : List xTk := if x.1 < 22 then t0B x.2.1 else if x.1 = 22 then [(20, [110, 111, 116])] ++ t0B x.2.2.1 else if x.1 = 23 then [(27, [91])] ++ (t0B x.2.2.1 ++ ([(21, [97, 110, 100])] ++ (t0B x.2.2.2 ++ [(28, [93])]))) else [(27, [91])] ++ (t0B x.2.2.1 ++ ([(22, [111, 114])] ++ (t0B x.2.2.2 ++ [(28, [93])])))
theorem Fr.t1 {x : xT1} (hx : t1N x) : Fr 1 (t1X x) (t1B x) := by
  obtain ⟨h25, h0, hA, hB⟩ := hx
  have close : Fr 1 (t0X x.2.2.2 ++ [93]) (t0B x.2.2.2 ++ [(28, [93])]) := (Fr.cat0 (Fr.t0 hB) (Fr.sg (by decide) (by decide) (by decide) (by decide +kernel)) (hd_sg (by decide))).weak 1
  unfold t1X t1B
  by_cases h22 : x.1 < 22
  · rw [if_pos h22, if_pos h22]; exact Fr.t0 h0
  rw [if_neg h22, if_neg h22]
  by_cases h23 : x.1 = 22
  · rw [if_pos h23, if_pos h23]
    exact Fr.cat1 (Fr.kw (by decide) (by decide) (by decide) (by decide +kernel)) (Or.inl rfl) (Fr.t0 hA) (t0X_head hA)
  rw [if_neg h23, if_neg h23]
  by_cases h24 : x.1 = 23
  · rw [if_pos h24, if_pos h24]
    exact Fr.cat0 (Fr.sg (by decide) (by decide) (by decide) (by decide +kernel)) (Fr.cat1 (Fr.t0 hA) (Or.inl rfl) (Fr.cat1 (Fr.kw (by decide) (by decide) (by decide) (by decide +kernel)) (Or.inl rfl) close (hd_app (t0X_head hB))) ⟨97, _, rfl, by decide, fun z => absurd z (by decide), fun z => absurd z (by decide)⟩) (hd_app (t0X_head hA))
  · rw [if_neg h24, if_neg h24]
    exact Fr.cat0 (Fr.sg (by decide) (by decide) (by decide) (by decide +kernel)) (Fr.cat1 (Fr.t0 hA) (Or.inl rfl) (Fr.cat1 (Fr.kw (by decide) (by decide) (by decide) (by decide +kernel)) (Or.inl rfl) close (hd_app (t0X_head hB))) ⟨111, _, rfl, by decide, fun z => absurd z (by decide), fun z => absurd z (by decide)⟩) (hd_app (t0X_head hA))
theorem t1X_head {x : xT1} (hx : t1N x) : hdc 0 (t1X x) := by
  obtain ⟨h25, h0, hA, hB⟩ := hx
  unfold t1X
  by_cases h22 : x.1 < 22
  · rw [if_pos h22]; exact t0X_head h0
  rw [if_neg h22]
  by_cases h23 : x.1 = 22
  · rw [if_pos h23]; exact ⟨110, _, rfl, by decide, fun z => absurd z (by decide), fun z => absurd z (by decide)⟩
  rw [if_neg h23]
  by_cases h24 : x.1 = 23
  · rw [if_pos h24]; exact hd_sg (by decide)
  · rw [if_neg h24]; exact hd_sg (by decide)
