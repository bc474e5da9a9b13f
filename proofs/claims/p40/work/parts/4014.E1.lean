/-! ===== p40: what the law's expressions are worth, and the class's steps ===== -/
def lfV (B : eBd) (r : Int32) (x : xLf) : Int32 := if x.1 = 0 then nI x.2 else if x.1 = 1 then r else if x.1 = 2 then nI (bP B) else if x.1 = 3 then nI (bMatch B) else if x.1 = 4 then nI (bPoints B) else if x.1 = 5 then nI (bRings B) else if x.1 = 6 then nI (bC B) - nI (bP B) else nI (bWays B x.2)
def bothV (s : Nat) (x y : Int32) : Int32 :=
  if s = 9 then (if x < y then x else y) else if s = 10 then (if x < y then y else x) else if s = 11 then x + y else if s = 12 then x - y else if s = 13 then x * y else if s = 14 then (if y = 0 then 0 else x / y)
  else if s = 23 then x * y else if s = 24 then (if 0 < x + y then 1 else 0)
  else if (if s = 15 then decide (x < y) else if s = 16 then decide (y < x) else if s = 17 then decide (x = y) else if s = 18 then decide (x ≤ y) else decide (y ≤ x)) then 1 else 0
def s1V (B : eBd) (r : Int32) (x : xS1) : Int32 := if x.1 < 8 then lfV B r (x.1, x.2.1) else if x.1 = 8 then 0 - lfV B r x.2.2.1 else bothV x.1 (lfV B r x.2.2.1) (lfV B r x.2.2.2)
def t0V (B : eBd) (r : Int32) (x : xT0) : Int32 := if x.1 < 20 then bothV x.1 (s1V B r x.2.2.1) (lfV B r x.2.2.2) else if x.1 = 20 then (if (bCe B x.2.1).isSome then 1 else 0) else (if 0 < bWays B x.2.1 then 1 else 0)
def t1V (B : eBd) (r : Int32) (x : xT1) : Int32 := if x.1 < 22 then t0V B r x.2.1 else if x.1 = 22 then 1 - t0V B r x.2.2.1 else bothV x.1 (t0V B r x.2.2.1) (t0V B r x.2.2.2)
/-- what the tokens of an expression name -/
def lfT (tv : Nat → Nat) (p : Nat) (x : xLf) : Prop := (x.1 = 0 → tv p = x.2) ∧ (x.1 = 7 → tv (p + 2) = x.2)
def s1T (tv : Nat → Nat) (p : Nat) (x : xS1) : Prop := if x.1 < 8 then lfT tv p (x.1, x.2.1) else if x.1 = 8 then lfT tv (p + 1) x.2.2.1 else if x.1 < 11 then lfT tv (p + 2) x.2.2.1 ∧ lfT tv (p + 2 + (lfK x.2.2.1).length + 1) x.2.2.2 else lfT tv (p + 1) x.2.2.1 ∧ lfT tv (p + 1 + (lfK x.2.2.1).length + 1) x.2.2.2
def t0T (tv : Nat → Nat) (p : Nat) (x : xT0) : Prop := if x.1 < 20 then s1T tv p x.2.2.1 ∧ lfT tv (p + (s1K x.2.2.1).length + 1) x.2.2.2 else tv (p + 1) = x.2.1
def t1T (tv : Nat → Nat) (p : Nat) (x : xT1) : Prop := if x.1 < 22 then t0T tv p x.2.1 else if x.1 = 22 then t0T tv (p + 1) x.2.2.1 else t0T tv (p + 1) x.2.2.1 ∧ t0T tv (p + 1 + (t0K x.2.2.1).length + 1) x.2.2.2
theorem i32_tri {x y : Int32} : (if x < y then x else y) = (if y < x then y else x) := by
  by_cases h : x < y
  · rw [if_pos h, if_neg (Int32.not_lt.mpr (Int32.le_of_lt h))]
  · rw [if_neg h]
    by_cases h2 : y < x
    · rw [if_pos h2]
    · rw [if_neg h2]
      exact Int32.le_antisymm (Int32.not_lt.mp h) (Int32.not_lt.mp h2)
theorem bFirst_lie {B : eBd} {k c : Nat} (hk : bCe B k = some c) : bFirst B k = none := by
  refine zFf_none (fun c' _ => ?_)
  have : bAny B k c' = none := zFf_none (fun t _ => by
    unfold bFits
    rw [hk]
    rfl)
  rw [this]
  rfl
theorem bWays_first (B : eBd) (k : Nat) : (if (bFirst B k).isSome then (1 : Int32) else 0) = if 0 < bWays B k then 1 else 0 := by
  cases h : bCe B k with
  | some c => rw [bFirst_lie h, bWays_lie h]; rfl
  | none =>
    have h0 := bWays_0 h
    cases h1 : bFirst B k with
    | none =>
      rw [h0.mpr h1]
      rfl
    | some c =>
      have : bWays B k ≠ 0 := fun z => by rw [h0.mp z] at h1; cases h1
      rw [if_pos (show 0 < bWays B k by omega)]
      rfl
section EVal
variable {tv : Nat → Nat} {B : eBd} {r : Int32} {p b : Nat}
theorem gRun_lf {x : xLf} (hx : lfOk x) (ht : lfT tv p x) (st : List Int32) : gRun tv B r st (lfC p x) = lfV B r x :: st := by
  have hx' : x.1 < 8 := hx
  unfold lfC lfV
  by_cases h0 : x.1 = 0
  · rw [if_pos h0, if_pos h0, gRun_one, gStep_l (s := (40, p, 0, 0)) (Or.inl rfl)]
    show nI (tv p) :: st = _
    rw [ht.1 h0]
  rw [if_neg h0, if_neg h0]
  by_cases h7 : x.1 < 7
  · rw [if_pos h7, gRun_one, gStep_l (s := (9 + x.1, p, 0, 0)) (by show gKl (9 + x.1); unfold gKl; omega)]
    show gLf tv B r (9 + x.1) p :: st = _
    unfold gLf
    rw [if_neg (show ¬ 9 + x.1 = 40 by omega)]
    by_cases h1 : x.1 = 1
    · rw [if_pos (show 9 + x.1 = 10 by omega), if_pos h1]
    rw [if_neg (show ¬ 9 + x.1 = 10 by omega), if_neg h1]
    by_cases h2 : x.1 = 2
    · rw [if_pos (show 9 + x.1 = 11 by omega), if_pos h2]
    rw [if_neg (show ¬ 9 + x.1 = 11 by omega), if_neg h2]
    by_cases h3 : x.1 = 3
    · rw [if_pos (show 9 + x.1 = 12 by omega), if_pos h3]
    rw [if_neg (show ¬ 9 + x.1 = 12 by omega), if_neg h3]
    by_cases h4 : x.1 = 4
    · rw [if_pos (show 9 + x.1 = 13 by omega), if_pos h4]
    rw [if_neg (show ¬ 9 + x.1 = 13 by omega), if_neg h4]
    by_cases h5 : x.1 = 5
    · rw [if_pos (show 9 + x.1 = 14 by omega), if_pos h5]
    rw [if_neg (show ¬ 9 + x.1 = 14 by omega), if_neg h5, if_pos (show 9 + x.1 = 15 by omega), if_pos (show x.1 = 6 by omega)]
  · have e7 : x.1 = 7 := by omega
    rw [if_neg h7, gRun_one, gStep_l (s := (16, p + 2, 0, 0)) (by show gKl 16; unfold gKl; omega), if_neg (by omega), if_neg (by omega), if_neg (by omega), if_neg (by omega), if_neg (by omega), if_neg (by omega)]
    show nI (bWays B (tv (p + 2))) :: st = _
    rw [ht.2 e7]
theorem gRun_b {c1 c2 : List pSt} {v1 v2 : Int32} {k l m : Nat} (h1 : ∀ st, gRun tv B r st c1 = v1 :: st) (h2 : ∀ st, gRun tv B r st c2 = v2 :: st) (hk : gKb k) (st : List Int32) : gRun tv B r st (c1 ++ (c2 ++ [(k, 0, l, m)])) = gBi k v1 v2 :: st := by
  rw [gRun_app, h1, gRun_app, h2, gRun_one, gStep_b (s := (k, 0, l, m)) hk]
  rfl
theorem gRun_s1 {x : xS1} (hx : s1Ok x) (ht : s1T tv p x) (st : List Int32) : gRun tv B r st (s1C p b x) = s1V B r x :: st := by
  obtain ⟨h15, hA, hB⟩ := hx
  unfold s1T at ht
  unfold s1C s1V
  by_cases h8 : x.1 < 8
  · rw [if_pos h8] at ht ⊢
    rw [if_pos h8]
    exact gRun_lf (x := (x.1, x.2.1)) h8 ht st
  rw [if_neg h8] at ht ⊢
  rw [if_neg h8]
  by_cases h9 : x.1 = 8
  · rw [if_pos h9] at ht ⊢
    rw [if_pos h9, gRun_app, gRun_lf hA ht, gRun_one, gStep_u (s := (44, 0, b, 0)) (Or.inl rfl)]
    show (-(lfV B r x.2.2.1)) :: st = _
    rw [Int32.zero_sub]
  rw [if_neg h9] at ht ⊢
  rw [if_neg h9]
  by_cases h11 : x.1 < 11
  · rw [if_pos h11] at ht ⊢
    rw [gRun_b (fun st => gRun_lf hA ht.1 st) (fun st => gRun_lf hB ht.2 st) (by unfold gKb; omega)]
    congr 1
    by_cases h10 : x.1 = 9
    · rw [h10]
      exact i32_tri.symm
    · rw [show x.1 = 10 by omega]
      rfl
  · rw [if_neg h11] at ht ⊢
    rw [gRun_b (fun st => gRun_lf hA ht.1 st) (fun st => gRun_lf hB ht.2 st) (by unfold gKb; omega)]
    congr 1
    have hs : x.1 = 11 ∨ x.1 = 12 ∨ x.1 = 13 ∨ x.1 = 14 := by omega
    rcases hs with h | h | h | h <;> (rw [h]; rfl)
theorem gHold_cmp (s : Nat) (hs : 15 ≤ s ∧ s < 20) (x y : Int32) : gBi (20 + s) x y = bothV s x y := by
  have h : s = 15 ∨ s = 16 ∨ s = 17 ∨ s = 18 ∨ s = 19 := by omega
  rcases h with rfl | rfl | rfl | rfl | rfl <;> rfl
theorem gRun_t0 {x : xT0} (hx : t0Ok x) (ht : t0T tv p x) (st : List Int32) : gRun tv B r st (t0C p b x) = t0V B r x :: st := by
  obtain ⟨h15, hA, hB⟩ := hx
  unfold t0T at ht
  unfold t0C t0V
  by_cases h20 : x.1 < 20
  · rw [if_pos h20] at ht ⊢
    rw [if_pos h20, gRun_b (fun st => gRun_s1 hA ht.1 st) (fun st => gRun_lf hB ht.2 st) (by unfold gKb; omega), gHold_cmp _ (by omega)]
  · rw [if_neg h20] at ht ⊢
    rw [if_neg h20]
    by_cases h : x.1 = 20
    · rw [if_pos h, h, gRun_one, gStep_l (s := (20 - 2, p + 1, 0, 0)) (by show gKl 18; unfold gKl; omega)]
      show (if (bCe B (tv (p + 1))).isSome then (1 : Int32) else 0) :: st = _
      rw [ht]
    · have h21 : x.1 = 21 := by omega
      rw [if_neg h, h21, gRun_one, gStep_l (s := (21 - 2, p + 1, 0, 0)) (by show gKl 19; unfold gKl; omega)]
      show (if (bFirst B (tv (p + 1))).isSome then (1 : Int32) else 0) :: st = _
      rw [ht, bWays_first]
theorem bothV_01 (s : Nat) (hs : 15 ≤ s ∧ s < 20) (x y : Int32) : bothV s x y = 0 ∨ bothV s x y = 1 := by
  have h : s = 15 ∨ s = 16 ∨ s = 17 ∨ s = 18 ∨ s = 19 := by omega
  have key : ∀ c : Bool, (if c then (1 : Int32) else 0) = 0 ∨ (if c then (1 : Int32) else 0) = 1 := by decide
  rcases h with rfl | rfl | rfl | rfl | rfl <;> exact key _
theorem t0V_01 {x : xT0} (hx : t0Ok x) : t0V B r x = 0 ∨ t0V B r x = 1 := by
  unfold t0V
  obtain ⟨h15, -, -⟩ := hx
  by_cases h20 : x.1 < 20
  · rw [if_pos h20]
    exact bothV_01 _ (by omega) _ _
  · rw [if_neg h20]
    split
    · split
      · exact Or.inr rfl
      · exact Or.inl rfl
    · split
      · exact Or.inr rfl
      · exact Or.inl rfl
theorem gRun_t1 {x : xT1} (hx : t1Ok x) (ht : t1T tv p x) (st : List Int32) : gRun tv B r st (t1C p b x) = t1V B r x :: st := by
  obtain ⟨h25, h0, hA, hB⟩ := hx
  unfold t1T at ht
  unfold t1C t1V
  by_cases h22 : x.1 < 22
  · rw [if_pos h22] at ht ⊢
    rw [if_pos h22]
    exact gRun_t0 h0 ht st
  rw [if_neg h22] at ht ⊢
  rw [if_neg h22]
  by_cases h23 : x.1 = 22
  · rw [if_pos h23] at ht ⊢
    rw [if_pos h23, gRun_app, gRun_t0 hA ht, gRun_one, gStep_u (s := (20, 0, b + t0L x.2.2.1 - 1, 0)) (Or.inr rfl)]
    show (if t0V B r x.2.2.1 = 0 then (1 : Int32) else 0) :: st = _
    rcases t0V_01 (B := B) (r := r) hA with h | h <;> (rw [h]; rfl)
  · rw [if_neg h23] at ht ⊢
    rw [if_neg h23, gRun_b (fun st => gRun_t0 hA ht.1 st) (fun st => gRun_t0 hB ht.2 st) (by unfold gKb; omega)]
    congr 1
    have hs : x.1 = 23 ∨ x.1 = 24 := by omega
    rcases hs with h | h <;> rcases t0V_01 (B := B) (r := r) hA with a | a <;> rcases t0V_01 (B := B) (r := r) hB with c | c <;> (rw [h, a, c]; decide)
end EVal
