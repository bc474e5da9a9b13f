/-! ===== p40: the texts of orders, tiles and games, and their tokens ===== -/
def endX (o : xO) : List Nat := if o.2.2.1 then 32 :: ([119, 104, 101, 110] ++ (32 :: (t1X o.2.2.2 ++ [59]))) else [59]
def endB (o : xO) : List xTk := if o.2.2.1 then [(9, [119, 104, 101, 110])] ++ (t1B o.2.2.2 ++ [(29, [59])]) else [(29, [59])]
def ordX (o : xO) : List Nat := if o.1.1 = 0 then [112, 117, 116] ++ (32 :: (tnm o.1.2 ++ (32 :: ([97, 116] ++ (32 :: (s1X o.2.1.1 ++ ([44] ++ (s1X o.2.1.2.1 ++ (32 :: ([116, 117, 114, 110, 101, 100] ++ (32 :: (s1X o.2.1.2.2 ++ endX o)))))))))))) else if o.1.1 = 1 then [116, 97, 107, 101] ++ (32 :: (tnm o.1.2 ++ endX o)) else [102, 105, 116] ++ (32 :: (tnm o.1.2 ++ endX o))
def ordB (o : xO) : List xTk := if o.1.1 = 0 then [(4, [112, 117, 116])] ++ ([(41, tnm o.1.2)] ++ ([(5, [97, 116])] ++ (s1B o.2.1.1 ++ ([(30, [44])] ++ (s1B o.2.1.2.1 ++ ([(6, [116, 117, 114, 110, 101, 100])] ++ (s1B o.2.1.2.2 ++ endB o))))))) else if o.1.1 = 1 then [(7, [116, 97, 107, 101])] ++ ([(41, tnm o.1.2)] ++ endB o) else [(8, [102, 105, 116])] ++ ([(41, tnm o.1.2)] ++ endB o)
def oN (o : xO) : Prop := o.1.1 < 3 ∧ o.1.2 < 16 ∧ (s1N o.2.1.1 ∧ s1N o.2.1.2.1 ∧ s1N o.2.1.2.2) ∧ t1N o.2.2.2
theorem Fr.e {c : Nat} {f : List Nat} {ks : List xTk} {o : xO} (hc : c ≠ 2) (h : Fr c f ks) (ho : t1N o.2.2.2) : Fr 0 (f ++ endX o) (ks ++ endB o) := by
  unfold endX endB
  cases hb : o.2.2.1 with
  | true => exact Fr.cat1 h (Or.inl rfl) (Fr.cat1 (Fr.kw (by decide) (by decide) (by decide) (by decide +kernel)) (Or.inl rfl) (Fr.cat0 (Fr.t1 ho) (Fr.sg (by decide) (by decide) (by decide) (by decide +kernel)) (hd_sg (by decide))) (hd_app (t1X_head ho))) ⟨119, _, rfl, by decide, fun z => absurd z (by decide), fun z => absurd z (by decide)⟩
  | false => exact Fr.cat0 h (Fr.sg (by decide) (by decide) (by decide) (by decide +kernel)) (hd_sg (by decide))
theorem Fr.ord {o : xO} (ho : oN o) : Fr 0 (ordX o) (ordB o) := by
  obtain ⟨h3, hk, ⟨hA, hB, hC⟩, hT⟩ := ho
  unfold ordX ordB
  by_cases h0 : o.1.1 = 0
  · rw [if_pos h0, if_pos h0]
    exact Fr.cat1 (Fr.kw (by decide) (by decide) (by decide) (by decide +kernel)) (Or.inl rfl) (Fr.cat1 (Fr.name hk) (Or.inl rfl) (Fr.cat1 (Fr.kw (by decide) (by decide) (by decide) (by decide +kernel)) (Or.inl rfl) (Fr.cat0 (Fr.s1 hA) (Fr.cat0 (Fr.sg (by decide) (by decide) (by decide) (by decide +kernel)) (Fr.cat1 (Fr.s1 hB) (Or.inl rfl) (Fr.cat1 (Fr.kw (by decide) (by decide) (by decide) (by decide +kernel)) (Or.inl rfl) (Fr.e (by decide) (Fr.s1 hC) hT) (hd_app (s1X_head hC))) ⟨116, _, rfl, by decide, fun z => absurd z (by decide), fun z => absurd z (by decide)⟩) (hd_app (s1X_head hB))) (hd_sg (by decide))) (hd_app (s1X_head hA))) ⟨97, _, rfl, by decide, fun z => absurd z (by decide), fun z => absurd z (by decide)⟩) (hd_app (hd_tnm _))
  rw [if_neg h0, if_neg h0]
  by_cases h1 : o.1.1 = 1
  · rw [if_pos h1, if_pos h1]
    exact Fr.cat1 (Fr.kw (by decide) (by decide) (by decide) (by decide +kernel)) (Or.inl rfl) (Fr.e (by decide) (Fr.name hk) hT) (hd_app (hd_tnm _))
  · rw [if_neg h1, if_neg h1]
    exact Fr.cat1 (Fr.kw (by decide) (by decide) (by decide) (by decide +kernel)) (Or.inl rfl) (Fr.e (by decide) (Fr.name hk) hT) (hd_app (hd_tnm _))
theorem ordX_head (o : xO) : hdc 0 (ordX o) := by
  unfold ordX
  split
  · exact ⟨112, _, rfl, by decide, fun z => absurd z (by decide), fun z => absurd z (by decide)⟩
  · split
    · exact ⟨116, _, rfl, by decide, fun z => absurd z (by decide), fun z => absurd z (by decide)⟩
    · exact ⟨102, _, rfl, by decide, fun z => absurd z (by decide), fun z => absurd z (by decide)⟩
/-- a tile's row: its name and its numbers -/
def tlX (k : Nat) (x : Nat × Nat × Nat) : List Nat := [116, 105, 108, 101] ++ (32 :: (tnm k ++ (32 :: (dg x.1 ++ (32 :: (dg x.2.1 ++ (32 :: (dg x.2.2 ++ [59]))))))))
def tlB (k : Nat) (x : Nat × Nat × Nat) : List xTk := [(3, [116, 105, 108, 101])] ++ ([(41, tnm k)] ++ ([(40, dg x.1)] ++ ([(40, dg x.2.1)] ++ ([(40, dg x.2.2)] ++ [(29, [59])]))))
theorem hd_dg (n : Nat) : hdc 0 (dg n) := hd_ld (by decide) (dg_cons n)
def num3 (x : Nat × Nat × Nat) : Prop := x.1 < 10 ∧ x.2.1 < 10 ∧ x.2.2 < 10
theorem Fr.tl {k : Nat} {x : Nat × Nat × Nat} (hk : k < 16) (hx : num3 x) : Fr 0 (tlX k x) (tlB k x) := by
  obtain ⟨h1, h2, h3⟩ := hx
  unfold tlX tlB
  exact Fr.cat1 (Fr.kw (by decide) (by decide) (by decide) (by decide +kernel)) (Or.inl rfl) (Fr.cat1 (Fr.name hk) (Or.inl rfl) (Fr.cat1 (Fr.num (f := 0) h1 (by decide)) (Or.inl rfl) (Fr.cat1 (Fr.num (f := 0) h2 (by decide)) (Or.inl rfl) (Fr.cat0 (Fr.num (f := 0) h3 (by decide)) (Fr.sg (by decide) (by decide) (by decide) (by decide +kernel)) (hd_sg (by decide))) (hd_app (hd_dg _))) (hd_app (hd_dg _))) (hd_app (hd_dg _))) (hd_app (hd_tnm _))
theorem tlX_head (k : Nat) (x : Nat × Nat × Nat) : hdc 0 (tlX k x) := ⟨116, _, rfl, by decide, fun z => absurd z (by decide), fun z => absurd z (by decide)⟩
def bdX (C R : Nat) : List Nat := [98, 111, 97, 114, 100] ++ (32 :: (dg C ++ (32 :: ([98, 121] ++ (32 :: (dg R ++ [59]))))))
def bdB (C R : Nat) : List xTk := [(1, [98, 111, 97, 114, 100])] ++ ([(40, dg C)] ++ ([(2, [98, 121])] ++ ([(40, dg R)] ++ [(29, [59])])))
theorem Fr.bd {C R : Nat} (hC : C < 10) (hR : R < 10) : Fr 0 (bdX C R) (bdB C R) := by
  unfold bdX bdB
  exact Fr.cat1 (Fr.kw (by decide) (by decide) (by decide) (by decide +kernel)) (Or.inl rfl) (Fr.cat1 (Fr.num (f := 0) hC (by decide)) (Or.inl rfl) (Fr.cat1 (Fr.kw (by decide) (by decide) (by decide) (by decide +kernel)) (Or.inl rfl) (Fr.cat0 (Fr.num (f := 0) hR (by decide)) (Fr.sg (by decide) (by decide) (by decide) (by decide +kernel)) (hd_sg (by decide))) (hd_app (hd_dg _))) ⟨98, _, rfl, by decide, fun z => absurd z (by decide), fun z => absurd z (by decide)⟩) (hd_app (hd_dg _))
theorem bdX_head (C R : Nat) : hdc 0 (bdX C R) := ⟨98, _, rfl, by decide, fun z => absurd z (by decide), fun z => absurd z (by decide)⟩
/-- lines one behind the other -/
def tsX : Nat → List (Nat × Nat × Nat) → List Nat
  | _, [] => []
  | k, x :: xs => tlX k x ++ tsX (k + 1) xs
def tsB : Nat → List (Nat × Nat × Nat) → List xTk
  | _, [] => []
  | k, x :: xs => tlB k x ++ tsB (k + 1) xs
def osX : List xO → List Nat
  | [] => []
  | o :: os => ordX o ++ osX os
def osB : List xO → List xTk
  | [] => []
  | o :: os => ordB o ++ osB os
theorem Fr.os {c : Nat} {f : List Nat} {ks : List xTk} (h : Fr 0 f ks) : ∀ os : List xO, (∀ o ∈ os, oN o) → Fr 0 (f ++ osX os) (ks ++ osB os)
  | [], _ => by
    show Fr 0 (f ++ []) (ks ++ [])
    rw [List.append_nil, List.append_nil]
    exact h
  | o :: os, ho => by
    show Fr 0 (f ++ (ordX o ++ osX os)) (ks ++ (ordB o ++ osB os))
    rw [← List.append_assoc, ← List.append_assoc]
    exact Fr.os (c := c) (Fr.cat0 h (Fr.ord (ho o List.mem_cons_self)) (ordX_head o)) os (fun o' h' => ho o' (List.mem_cons_of_mem _ h'))
theorem Fr.ts {f : List Nat} {ks : List xTk} : ∀ (xs : List (Nat × Nat × Nat)) (k : Nat) {f : List Nat} {ks : List xTk}, Fr 0 f ks → k + xs.length ≤ 16 → (∀ x ∈ xs, num3 x) → Fr 0 (f ++ tsX k xs) (ks ++ tsB k xs)
  | [], _, f, ks, h, _, _ => by
    show Fr 0 (f ++ []) (ks ++ [])
    rw [List.append_nil, List.append_nil]
    exact h
  | x :: xs, k, f, ks, h, hk, hx => by
    have hk' : k + (xs.length + 1) ≤ 16 := hk
    show Fr 0 (f ++ (tlX k x ++ tsX (k + 1) xs)) (ks ++ (tlB k x ++ tsB (k + 1) xs))
    rw [← List.append_assoc, ← List.append_assoc]
    exact Fr.ts (f := f) (ks := ks) xs (k + 1) (Fr.cat0 h (Fr.tl (by omega) (hx x List.mem_cons_self)) (tlX_head k x)) (by omega) (fun x' h' => hx x' (List.mem_cons_of_mem _ h'))
/-- a game's text: a board's row or none, one tile at least, orders -/
def gmX (brd : Bool) (C R : Nat) (xs : List (Nat × Nat × Nat)) (os : List xO) : List Nat := (if brd then bdX C R ++ [10] else []) ++ (tsX 0 xs ++ osX os)
def gmB (brd : Bool) (C R : Nat) (xs : List (Nat × Nat × Nat)) (os : List xO) : List xTk := (if brd then bdB C R else []) ++ (tsB 0 xs ++ osB os)
theorem Fr.gm {brd : Bool} {C R : Nat} {xs : List (Nat × Nat × Nat)} {os : List xO} (hC : C < 10) (hR : R < 10) (h1 : 1 ≤ xs.length) (h16 : xs.length ≤ 16) (hx : ∀ x ∈ xs, num3 x) (ho : ∀ o ∈ os, oN o) : Fr 0 (gmX brd C R xs os) (gmB brd C R xs os) ∧ hdc 0 (gmX brd C R xs os) := by
  obtain ⟨x, ys, rfl⟩ : ∃ x ys, xs = x :: ys := by
    cases xs with
    | nil => exact absurd h1 (by decide)
    | cons x ys => exact ⟨x, ys, rfl⟩
  have l16 : ys.length + 1 ≤ 16 := h16
  have tl := Fr.tl (k := 0) (by decide) (hx x List.mem_cons_self)
  have rest : Fr 0 (tsX 0 (x :: ys) ++ osX os) (tsB 0 (x :: ys) ++ osB os) := Fr.os (c := 0) (Fr.ts (f := []) (ks := []) ys 1 tl (by omega) (fun x' h' => hx x' (List.mem_cons_of_mem _ h'))) os ho
  have hh : hdc 0 (tsX 0 (x :: ys) ++ osX os) := hd_app (hd_app (tlX_head 0 x))
  unfold gmX gmB
  cases brd with
  | false => exact ⟨rest, hh⟩
  | true =>
    refine ⟨?_, hd_app (hd_app (bdX_head C R))⟩
    show Fr 0 ((bdX C R ++ [10]) ++ (tsX 0 (x :: ys) ++ osX os)) (bdB C R ++ (tsB 0 (x :: ys) ++ osB os))
    rw [List.append_assoc]
    exact Fr.cat1 (Fr.bd hC hR) (Or.inr rfl) rest hh
