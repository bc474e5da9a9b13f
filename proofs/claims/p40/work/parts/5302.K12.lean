/-! ===== dice, expressions made ===== -/
def nD (H : yH) (d : Nat) : Prop := ∃ s, H d = some (.inr (9, [.int s]))
/-- nothing went away -/
def yMn (H H1 : yH) : Prop := ∀ b, H1 b = none → H b = none
/-- what is new in H' is so in H'' -/
def yNw (H H' H'' : yH) : Prop := ∀ b e, H b = none → H' b = some e → H'' b = some e
theorem yMn.refl (H : yH) : yMn H H := fun _ h => h
theorem yMn.trans {H H1 H2 : yH} (h : yMn H H1) (h1 : yMn H1 H2) : yMn H H2 := fun b hb => h b (h1 b hb)
theorem yMn.kp {H H1 : yH} {ex : List Nat} (k : yKp ex H H1) (hx : ∀ b ∈ ex, H1 b ≠ none) : yMn H H1 := fun b hb => by
  cases h : H b with
  | none => rfl
  | some e =>
    by_cases hm : b ∈ ex
    · exact absurd hb (hx b hm)
    · rw [k b e hm h] at hb; cases hb
theorem yMn.le {H H1 : yH} (k : yLe H H1) : yMn H H1 := yMn.kp (yKp.of k []) (fun _ h => absurd h List.not_mem_nil)
theorem yNw.sub {H H1 H2 Hf H'' : yH} (h : yNw H Hf H'') (k1 : yMn H H1) (k2 : ∀ b e, H1 b = none → H2 b = some e → Hf b = some e) : yNw H1 H2 H'' := fun b e n z => h b e (k1 b n) (k2 b e n z)
theorem yNw.self (H H' : yH) : yNw H H' H' := fun _ _ _ z => z
theorem nD.is {H : yH} {d : Nat} (h : nD H d) : yIs H d 9 := by
  obtain ⟨s, h⟩ := h
  exact yIs.of h
theorem nD.le {H H' : yH} {d : Nat} (h : nD H d) (hl : yLe H H') : nD H' d := by
  obtain ⟨s, h⟩ := h
  exact ⟨s, hl _ _ h⟩
theorem nD.kp {H H' : yH} {d : Nat} (h : nD H d) {ex : List Nat} (hk : yKp ex H H') (hx : d ∉ ex) : nD H' d := by
  obtain ⟨s, h⟩ := h
  exact ⟨s, hk _ _ hx h⟩
theorem nD.ne {H : yH} {d q : Nat} (h : nD H d) (hq : H q = none) : q ≠ d := fun z => by
  obtain ⟨s, h⟩ := h
  rw [z, h] at hq; cases hq
theorem nD.mn {H H' : yH} {d : Nat} (h : nD H' d) (k : yKp [d] H H') : yMn H H' := yMn.kp k (fun b hb => by
  obtain ⟨s, h⟩ := h
  rw [List.mem_singleton.mp hb, h]
  exact fun z => by cases z)
theorem eAnd31 (x : Int32) : ¬ (x &&& 2147483647) < 0 := fun h => by
  have h1 := Int32.lt_iff_toInt_lt.mp h
  rw [Int32.toInt_zero] at h1
  have h2 := eMsb (x &&& 2147483647)
  rw [decide_eq_true h1, Int32.toBitVec_and, BitVec.msb_and, show (2147483647 : Int32).toBitVec.msb = false from by decide, Bool.and_false] at h2
  cases h2
/-- a cell made, and filled in later -/
theorem yKp.made {H H1 H3 : yH} {ex : List Nat} {q : Nat} {e e' : va_E} (k1 : yKp ex H H1) (hq : H1 q = none) (k3 : yKp ex (yU H1 q e) H3) : yKp ex H (yU H3 q e') := fun b x n z => by
  have h1 := k1 b x n z
  have hb : b ≠ q := fun y => by rw [y, hq] at h1; cases h1
  rw [yU_ne _ _ hb]
  exact k3 b x n (by rw [yU_ne _ _ hb]; exact h1)
section MSpec
variable {G : eG} {M : eM} {H : yH} {d N : Nat}
theorem S_next {n : Nat} {F : Int32 → eM → yH → Prop} (hd : nD H d) (h0 : 0 < n) (hn : n < 2 ^ 31) (h : ∀ v H', v < n → nD H' d → yKp [d] H H' → F (nI v) M H') : yCal G (2, 0, 0) kX11_next [.ref d, .int (nI n)] M H (yFI F) := by
  obtain ⟨s, hs⟩ := hd
  refine C_X11_next G M H F d (nI n) ⟨s, yG.of hs rfl, _, hs, Nat.le_of_ble_eq_true rfl, _, yG.of (yU_same _ _ _) rfl, _, S_below h0 hn, ?_⟩
  obtain ⟨j, hj, e⟩ := nI_of (eAnd31 ((s * 1103515245 + 12345) >>> ((9 : Int32) &&& 31)))
  rw [e, nI_div hj hn h0, nI_mul, nI_sub (Nat.div_mul_le_self _ _)]
  have e2 : j - j / n * n = j % n := by
    have := Nat.div_add_mod j n
    rw [Nat.mul_comm] at this
    omega
  rw [e2]
  exact h _ _ (Nat.mod_lt _ h0) ⟨_, yU_same _ _ _⟩ (yKp.put _ _ _)
theorem S_ninit {q : Nat} {s n : Int32} {o3 o4 : Option Nat} {F : eM → yH → Prop} (hq : H q = some (.inr (11, [.int 0, .int 0, .null, .null]))) (h : F M (yU H q (.inr (11, [.int s, .int n, va_rf o3, va_rf o4])))) : yCal G (2, 0, 0) kX13_init [.ref q, .int s, .int n, va_rf o3, va_rf o4] M H (yFV F) := by
  refine C_X13_init G M H F q s n o3 o4 ⟨_, hq, Nat.le_of_ble_eq_true rfl, _, yU_same _ _ _, Nat.le_of_ble_eq_true rfl, _, yU_same _ _ _, Nat.le_of_ble_eq_true rfl, _, yU_same _ _ _, Nat.le_of_ble_eq_true rfl, ?_⟩
  rw [yU_yU, yU_yU, yU_yU]
  exact h
/-- a node that was made at q over H1, filled in over H3 -/
theorem S_fill {H1 H3 : yH} {q : Nat} {s n : Int32} {o3 o4 : Option Nat} {F : eM → yH → Prop} (k1 : yKp [d] H H1) (d1 : nD H1 d) (hq : H1 q = none) (d3 : nD H3 d) (k3 : yKp [d] (yU H1 q (.inr (11, [.int 0, .int 0, .null, .null]))) H3) (h : ∀ H', H' = yU H3 q (.inr (11, [.int s, .int n, va_rf o3, va_rf o4])) → H q = none → nD H' d → yKp [d] H H' → F M H') : yCal G (2, 0, 0) kX13_init [.ref q, .int s, .int n, va_rf o3, va_rf o4] M H3 (yFV F) := by
  have hqd := d1.ne hq
  have hn : q ∉ [d] := fun z => hqd (List.mem_singleton.mp z)
  refine S_ninit (k3 _ _ hn (yU_same _ _ _)) (h _ rfl (d1.mn k1 _ hq) ?_ (k1.made hq k3))
  obtain ⟨s, e⟩ := d3
  exact ⟨s, by rw [yU_ne _ _ (fun z => hqd z.symm)]; exact e⟩
def lfD : xLf := (1, 0)
def s1D : xS1 := (1, 0, lfD, lfD)
def t0D : xT0 := (20, 0, s1D, lfD)
theorem lfD_ok (N : Nat) : lfN lfD ∧ lfM N lfD := ⟨⟨by decide, (fun z => by cases z), (fun z => by cases z)⟩, (fun z => by cases z)⟩
theorem s1D_ok (N : Nat) : s1N s1D ∧ s1M N s1D := ⟨⟨by decide, fun _ => (lfD_ok N).1, (lfD_ok N).1, (lfD_ok N).1⟩, fun _ => (lfD_ok N).2, (lfD_ok N).2, (lfD_ok N).2⟩
theorem t0D_ok {N : Nat} (h : 1 ≤ N) : t0N t0D ∧ t0M N t0D := ⟨⟨⟨by decide, by decide⟩, fun _ => by decide, (s1D_ok N).1, (lfD_ok N).1⟩, fun _ => h, (s1D_ok N).2, (lfD_ok N).2⟩
/-- Node.sum at depth 0 -/
theorem S_sum0 {F : Nat → eM → yH → Prop} (hd : nD H d) (h1 : 1 ≤ N) (h16 : N ≤ 16) (h : ∀ q H' x, lfN x → lfM N x → (∀ H'', yNw H H' H'' → nLf H'' q x) → nD H' d → yKp [d] H H' → F q M H') : yCal G (3, 1, 4) kX13_sum [.ref d, .int (nI N), .int 0] M H (yFR F) := by
  refine C_X13_sum_0 G M H F d (nI N) ⟨⟨by decide, by decide⟩, hd.is, S_next hd (n := 8) (by decide) (by decide) (fun v H1 hv d1 k1 => ?_)⟩
  refine B_X13_sum_0_16 G _ _ M H1 F d _ _ _ ⟨fun z => absurd z (nI_ge (b := 8) hv (by decide)), fun _ => ⟨⟨by decide, by decide⟩, fun q hq => ?_⟩⟩
  have fin : ∀ (u : Nat) (H3 : yH), (v = 0 → u < 10 ^ 6) → (v = 7 → u < N) → nD H3 d → yKp [d] (yU H1 q (.inr (11, [.int 0, .int 0, .null, .null]))) H3 → yCal G (2, 0, 0) kX13_init [.ref q, .int (nI v), .int (nI u), .null, .null] M H3 (yFV (fun M4 H4 => (0 + 1 ≤ 1 ∧ 0 + 4 ≤ 4) ∧ F q M4 H4)) := fun u H3 u0 u7 d3 k3 =>
    S_fill (o3 := none) (o4 := none) k1 d1 hq d3 k3 (fun H' e n d' k' => ⟨⟨by decide, by decide⟩, h q H' (v, u) ⟨hv, u0, fun z => Nat.lt_of_lt_of_le (u7 z) h16⟩ u7 (fun H'' w => w _ _ n (by rw [e]; exact yU_same _ _ _)) d' k'⟩)
  have d2 := d1.le (yLe.new hq (.inr (11, [.int 0, .int 0, .null, .null])))
  refine ⟨fun z => ⟨⟨by decide, by decide⟩, d2.is, S_next d2 (n := 7) (by decide) (by decide) (fun w H2 hw d3 k3 => ⟨fun y => ⟨⟨by decide, by decide⟩, d3.is, S_next d3 (n := 12) (by decide) (by decide) (fun u H3 hu d4 k4 => ⟨⟨by decide, by decide⟩, fin u H3 (fun _ => by omega) (fun e => ?_) d4 (k3.trans k4)⟩)⟩, fun y => ⟨⟨by decide, by decide⟩, d3.is, S_next d3 (n := 1000000) (by decide) (by decide) (fun u H3 hu d4 k4 => ⟨⟨by decide, by decide⟩, fin u H3 (fun _ => by omega) (fun e => ?_) d4 (k3.trans k4)⟩)⟩⟩)⟩, fun z => ⟨⟨by decide, by decide⟩, d2.is, S_next d2 (n := N) (by omega) (by omega) (fun u H3 hu d4 k4 => ⟨⟨by decide, by decide⟩, fin u H3 (fun e => ?_) (fun _ => hu) d4 k4⟩)⟩⟩
  · rw [e] at z; exact absurd z (by decide)
  · rw [e] at z; exact absurd z (by decide)
  · rw [e] at z; exact absurd (Int32.le_refl _) z
/-- Node.sum at depth 1 -/
theorem S_sum1 {F : Nat → eM → yH → Prop} (hd : nD H d) (h1 : 1 ≤ N) (h16 : N ≤ 16) (h : ∀ q H' x, s1N x → s1M N x → (∀ H'', yNw H H' H'' → nS1 H'' q x) → nD H' d → yKp [d] H H' → F q M H') : yCal G (4, 3, 12) kX13_sum [.ref d, .int (nI N), .int 1] M H (yFR F) := by
  refine C_X13_sum_1 G M H F d (nI N) ⟨⟨by decide, by decide⟩, hd.is, S_next hd (n := 15) (by decide) (by decide) (fun v H1 hv d1 k1 => ?_)⟩
  refine B_X13_sum_1_16 G _ _ M H1 F d _ _ _ ⟨fun z => ?_, fun z => ⟨⟨by decide, by decide⟩, fun q hq => ?_⟩⟩
  · -- with parts
    have h8 : 8 ≤ v := (nI_leI (a := 8) (by decide) (by omega)).mp z
    rw [show (1 : Int32) - 1 = 0 by decide]
    refine ⟨⟨by decide, by decide⟩, S_sum0 d1 h1 h16 (fun r1 H2 x1 n1 m1 p1 d2 k2 => ⟨⟨by decide, by decide⟩, fun q hq => ?_⟩)⟩
    have k12 := k1.trans k2
    have d2' := d2.le (yLe.new hq (.inr (11, [.int 0, .int 0, .null, .null])))
    refine ⟨fun y => ⟨⟨by decide, by decide⟩, S_sum0 d2' h1 h16 (fun r3 H3 x3 n3 m3 p3 d3 k3 => ⟨⟨by decide, by decide⟩, S_fill (o3 := some r1) (o4 := some r3) k12 d2 hq d3 k3 (fun H' e n d' k' => ⟨⟨by decide, by decide⟩, h q H' (v, 0, x1, x3) ⟨hv, fun z => absurd z (by show ¬ v < 8; omega), n1, n3⟩ ⟨fun z => absurd z (by show ¬ v < 8; omega), m1, m3⟩ (fun H'' w => ⟨fun z => absurd z (by show ¬ v < 8; omega), fun z => absurd (show v = 8 from z) (fun e => y (by rw [e]; rfl)), fun _ => ⟨r1, r3, w _ _ n (by rw [e]; exact yU_same _ _ _), p1 _ ?_, p3 _ ?_⟩⟩) d' k'⟩)⟩)⟩, fun y => ⟨⟨by decide, by decide⟩, S_fill (o3 := some r1) (o4 := none) k12 d2 hq d2' (yKp.refl _ _) (fun H' e n d' k' => ⟨⟨by decide, by decide⟩, h q H' (v, 0, x1, lfD) ⟨hv, fun z => absurd z (by show ¬ v < 8; omega), n1, (lfD_ok N).1⟩ ⟨fun z => absurd z (by show ¬ v < 8; omega), m1, (lfD_ok N).2⟩ (fun H'' w => ⟨fun z => absurd z (by show ¬ v < 8; omega), fun _ => ⟨r1, w _ _ n (by rw [e]; exact yU_same _ _ _), p1 _ ?_⟩, fun z => absurd (show 9 ≤ v from z) (by have := nI_k (k := 8) (by omega) (by decide) y; omega)⟩) d' k'⟩)⟩⟩
    · refine w.sub (d1.mn k1) (fun b x nb zb => ?_)
      rw [e]
      have hb : b ≠ q := fun y => by rw [y, hq] at zb; cases zb
      rw [yU_ne _ _ hb]
      exact k3 b x (fun y => (d1.ne nb) (List.mem_singleton.mp y)) (by rw [yU_ne _ _ hb]; exact zb)
    · refine w.sub ((d2.mn k12).trans (yMn.le (yLe.new hq _))) (fun b x nb zb => ?_)
      rw [e]
      have hb : b ≠ q := fun y => by rw [y, yU_same] at nb; cases nb
      rw [yU_ne _ _ hb]
      exact zb
    · refine w.sub (d1.mn k1) (fun b x nb zb => ?_)
      rw [e]
      have hb : b ≠ q := fun y => by rw [y, hq] at zb; cases zb
      rw [yU_ne _ _ hb, yU_ne _ _ hb]
      exact zb
  · -- a leaf
    have hv8 : v < 8 := Nat.lt_of_not_le (fun y => z ((nI_leI (a := 8) (by decide) (by omega)).mpr y))
    have fin : ∀ (u : Nat) (H3 : yH), (v = 0 → u < 10 ^ 6) → (v = 7 → u < N) → nD H3 d → yKp [d] (yU H1 q (.inr (11, [.int 0, .int 0, .null, .null]))) H3 → yCal G (2, 0, 0) kX13_init [.ref q, .int (nI v), .int (nI u), .null, .null] M H3 (yFV (fun M4 H4 => (0 + 1 ≤ 3 ∧ 0 + 4 ≤ 12) ∧ F q M4 H4)) := fun u H3 u0 u7 d3 k3 =>
      S_fill (o3 := none) (o4 := none) k1 d1 hq d3 k3 (fun H' e n d' k' => ⟨⟨by decide, by decide⟩, h q H' (v, u, lfD, lfD) ⟨hv, fun _ => ⟨hv8, u0, fun z => Nat.lt_of_lt_of_le (u7 z) h16⟩, (lfD_ok N).1, (lfD_ok N).1⟩ ⟨fun _ => u7, (lfD_ok N).2, (lfD_ok N).2⟩ (fun H'' w => ⟨fun _ => w _ _ n (by rw [e]; exact yU_same _ _ _), fun z => absurd (show v = 8 from z) (by omega), fun z => absurd (show 9 ≤ v from z) (by omega)⟩) d' k'⟩)
    have d2 := d1.le (yLe.new hq (.inr (11, [.int 0, .int 0, .null, .null])))
    refine ⟨fun z => ⟨⟨by decide, by decide⟩, d2.is, S_next d2 (n := 7) (by decide) (by decide) (fun w H2 hw d3 k3 => ⟨fun y => ⟨⟨by decide, by decide⟩, d3.is, S_next d3 (n := 12) (by decide) (by decide) (fun u H3 hu d4 k4 => ⟨⟨by decide, by decide⟩, fin u H3 (fun _ => by omega) (fun e => ?_) d4 (k3.trans k4)⟩)⟩, fun y => ⟨⟨by decide, by decide⟩, d3.is, S_next d3 (n := 1000000) (by decide) (by decide) (fun u H3 hu d4 k4 => ⟨⟨by decide, by decide⟩, fin u H3 (fun _ => by omega) (fun e => ?_) d4 (k3.trans k4)⟩)⟩⟩)⟩, fun z => ⟨⟨by decide, by decide⟩, d2.is, S_next d2 (n := N) (by omega) (by omega) (fun u H3 hu d4 k4 => ⟨⟨by decide, by decide⟩, fin u H3 (fun e => ?_) (fun _ => hu) d4 k4⟩)⟩⟩
    · rw [e] at z; exact absurd z (by decide)
    · rw [e] at z; exact absurd z (by decide)
    · rw [e] at z; exact absurd (Int32.le_refl _) z
/-- Node.test: a tile's test, or a comparison -/
theorem S_test0 {F : Nat → eM → yH → Prop} (hd : nD H d) (h1 : 1 ≤ N) (h16 : N ≤ 16) (h : ∀ q H' x, t0N x → t0M N x → (∀ H'', yNw H H' H'' → nT0 H'' q x) → nD H' d → yKp [d] H H' → F q M H') : yCal G (5, 5, 20) kX13_test [.ref d, .int (nI N), .int 0] M H (yFR F) := by
  refine C_X13_test_0 G M H F d (nI N) ⟨⟨by decide, by decide⟩, hd.is, S_next hd (n := 5) (by decide) (by decide) (fun v H1 hv d1 k1 => ?_)⟩
  refine B_X13_test_0_15 G _ _ M H1 F d _ _ _ ⟨fun z => ⟨fun y => absurd y (nI_ge (b := 5) hv (by decide)), fun _ => ⟨⟨by decide, by decide⟩, fun q hq => ?_⟩⟩, fun z => ⟨⟨by decide, by decide⟩, fun q hq => ?_⟩⟩
  · have d2 := d1.le (yLe.new hq (.inr (11, [.int 0, .int 0, .null, .null])))
    refine ⟨⟨by decide, by decide⟩, d2.is, S_next d2 (n := 5) (by decide) (by decide) (fun u H2 hu d3 k3 => ⟨⟨by decide, by decide⟩, S_sum1 d3 h1 h16 (fun r3 H3 x3 n3 m3 p3 d4 k4 => ⟨⟨by decide, by decide⟩, S_sum0 d4 h1 h16 (fun r4 H4 x4 n4 m4 p4 d5 k5 => ⟨⟨by decide, by decide⟩, ?_⟩)⟩)⟩)⟩
    rw [show (15 : Int32) + nI u = nI (15 + u) from nI_add 15 u]
    have hqd := d1.ne hq
    have hqn : q ∉ [d] := fun z => hqd (List.mem_singleton.mp z)
    refine S_fill (o3 := some r3) (o4 := some r4) k1 d1 hq d5 ((k3.trans k4).trans k5) (fun H' e n d' k' => ⟨⟨by decide, by decide⟩, h q H' (15 + u, 0, x3, x4) ⟨⟨by show 15 ≤ 15 + u; omega, by show 15 + u < 22; omega⟩, fun z => absurd (show 20 ≤ 15 + u from z) (by omega), n3, n4⟩ ⟨fun z => absurd (show 20 ≤ 15 + u from z) (by omega), m3, m4⟩ (fun H'' w => ⟨fun _ => ⟨r3, r4, w _ _ n (by rw [e]; exact yU_same _ _ _), p3 _ ?_, p4 _ ?_⟩, fun z => absurd (show 20 ≤ 15 + u from z) (by omega)⟩) d' k'⟩)
    · have hq2 : H2 q = some (.inr (11, [.int 0, .int 0, .null, .null])) := k3 _ _ hqn (yU_same _ _ _)
      refine w.sub (((d1.mn k1).trans (yMn.le (yLe.new hq _))).trans (d3.mn k3)) (fun b x nb zb => ?_)
      rw [e]
      have hb : b ≠ q := fun y => by rw [y, hq2] at nb; cases nb
      rw [yU_ne _ _ hb]
      exact k5 b x (fun y => (d3.ne nb) (List.mem_singleton.mp y)) zb
    · have hq3 : H3 q = some (.inr (11, [.int 0, .int 0, .null, .null])) := k4 _ _ hqn (k3 _ _ hqn (yU_same _ _ _))
      refine w.sub ((((d1.mn k1).trans (yMn.le (yLe.new hq _))).trans (d3.mn k3)).trans (d4.mn k4)) (fun b x nb zb => ?_)
      rw [e]
      have hb : b ≠ q := fun y => by rw [y, hq3] at nb; cases nb
      rw [yU_ne _ _ hb]
      exact zb
  · have hv2 : v < 2 := Nat.lt_of_not_le (fun y => z ((nI_leI (a := 2) (by decide) (by omega)).mpr y))
    have d2 := d1.le (yLe.new hq (.inr (11, [.int 0, .int 0, .null, .null])))
    refine ⟨⟨by decide, by decide⟩, d2.is, S_next d2 (n := N) (by omega) (by omega) (fun u H2 hu d3 k3 => ⟨⟨by decide, by decide⟩, ?_⟩)⟩
    rw [show (20 : Int32) + nI v = nI (20 + v) from nI_add 20 v]
    exact S_fill (o3 := none) (o4 := none) k1 d1 hq d3 k3 (fun H' e n d' k' => ⟨⟨by decide, by decide⟩, h q H' (20 + v, u, s1D, lfD) ⟨⟨by show 15 ≤ 20 + v; omega, by show 20 + v < 22; omega⟩, fun _ => Nat.lt_of_lt_of_le hu h16, (s1D_ok N).1, (lfD_ok N).1⟩ ⟨fun _ => hu, (s1D_ok N).2, (lfD_ok N).2⟩ (fun H'' w => ⟨fun z => absurd (show 20 + v < 20 from z) (by omega), fun _ => w _ _ n (by rw [e]; exact yU_same _ _ _)⟩) d' k'⟩)
theorem S_test1 {F : Nat → eM → yH → Prop} (hd : nD H d) (h1 : 1 ≤ N) (h16 : N ≤ 16) (h : ∀ q H' x, t1N x → t1M N x → (∀ H'', yNw H H' H'' → nT1 H'' q x) → nD H' d → yKp [d] H H' → F q M H') : yCal G (6, 11, 44) kX13_test [.ref d, .int (nI N), .int 1] M H (yFR F) := by
  have tD := t0D_ok h1
  refine C_X13_test_1 G M H F d (nI N) ⟨⟨by decide, by decide⟩, hd.is, S_next hd (n := 8) (by decide) (by decide) (fun v H1 hv d1 k1 => ?_)⟩
  refine B_X13_test_1_15 G _ _ M H1 F d _ _ _ ⟨fun z => ⟨fun y => ?_, fun _ => ⟨⟨by decide, by decide⟩, fun q hq => ?_⟩⟩, fun z => ⟨⟨by decide, by decide⟩, fun q hq => ?_⟩⟩
  · have h5 : 5 ≤ v := (nI_leI (a := 5) (by decide) (by omega)).mp y
    rw [show (1 : Int32) - 1 = 0 by decide, show (17 : Int32) + nI v = nI (17 + v) from nI_add 17 v]
    refine ⟨⟨by decide, by decide⟩, S_test0 d1 h1 h16 (fun r1 H2 x1 n1 m1 p1 d2 k2 => ⟨⟨by decide, by decide⟩, fun q hq => ?_⟩)⟩
    have k12 := k1.trans k2
    have d2' := d2.le (yLe.new hq (.inr (11, [.int 0, .int 0, .null, .null])))
    refine ⟨fun y => ⟨⟨by decide, by decide⟩, S_test0 d2' h1 h16 (fun r3 H3 x3 n3 m3 p3 d3 k3 => ⟨⟨by decide, by decide⟩, S_fill (o3 := some r1) (o4 := some r3) k12 d2 hq d3 k3 (fun H' e n d' k' => ⟨⟨by decide, by decide⟩, h q H' (17 + v, t0D, x1, x3) ⟨by show 17 + v < 25; omega, tD.1, n1, n3⟩ ⟨tD.2, m1, m3⟩ (fun H'' w => ⟨fun z => absurd (show 17 + v < 22 from z) (by omega), fun z => absurd (show 17 + v = 22 from z) (fun e => y (by rw [show v = 5 by omega]; rfl)), fun _ => ⟨r1, r3, w _ _ n (by rw [e]; exact yU_same _ _ _), p1 _ ?_, p3 _ ?_⟩⟩) d' k'⟩)⟩)⟩, fun y => ⟨⟨by decide, by decide⟩, S_fill (o3 := some r1) (o4 := none) k12 d2 hq d2' (yKp.refl _ _) (fun H' e n d' k' => ⟨⟨by decide, by decide⟩, h q H' (17 + v, t0D, x1, t0D) ⟨by show 17 + v < 25; omega, tD.1, n1, tD.1⟩ ⟨tD.2, m1, tD.2⟩ (fun H'' w => ⟨fun z => absurd (show 17 + v < 22 from z) (by omega), fun _ => ⟨r1, w _ _ n (by rw [e]; exact yU_same _ _ _), p1 _ ?_⟩, fun z => absurd (show 23 ≤ 17 + v from z) (by have := nI_k (k := 5) (by omega) (by decide) y; omega)⟩) d' k'⟩)⟩⟩
    · refine w.sub (d1.mn k1) (fun b x nb zb => ?_)
      rw [e]
      have hb : b ≠ q := fun y => by rw [y, hq] at zb; cases zb
      rw [yU_ne _ _ hb]
      exact k3 b x (fun y => (d1.ne nb) (List.mem_singleton.mp y)) (by rw [yU_ne _ _ hb]; exact zb)
    · refine w.sub ((d2.mn k12).trans (yMn.le (yLe.new hq _))) (fun b x nb zb => ?_)
      rw [e]
      have hb : b ≠ q := fun y => by rw [y, yU_same] at nb; cases nb
      rw [yU_ne _ _ hb]
      exact zb
    · refine w.sub (d1.mn k1) (fun b x nb zb => ?_)
      rw [e]
      have hb : b ≠ q := fun y => by rw [y, hq] at zb; cases zb
      rw [yU_ne _ _ hb, yU_ne _ _ hb]
      exact zb
  · have d2 := d1.le (yLe.new hq (.inr (11, [.int 0, .int 0, .null, .null])))
    refine ⟨⟨by decide, by decide⟩, d2.is, S_next d2 (n := 5) (by decide) (by decide) (fun u H2 hu d3 k3 => ⟨⟨by decide, by decide⟩, S_sum1 d3 h1 h16 (fun r3 H3 x3 n3 m3 p3 d4 k4 => ⟨⟨by decide, by decide⟩, S_sum0 d4 h1 h16 (fun r4 H4 x4 n4 m4 p4 d5 k5 => ⟨⟨by decide, by decide⟩, ?_⟩)⟩)⟩)⟩
    rw [show (15 : Int32) + nI u = nI (15 + u) from nI_add 15 u]
    have hqd := d1.ne hq
    have hqn : q ∉ [d] := fun z => hqd (List.mem_singleton.mp z)
    refine S_fill (o3 := some r3) (o4 := some r4) k1 d1 hq d5 ((k3.trans k4).trans k5) (fun H' e n d' k' => ⟨⟨by decide, by decide⟩, h q H' (15 + u, (15 + u, 0, x3, x4), t0D, t0D) ⟨by show 15 + u < 25; omega, ⟨⟨by show 15 ≤ 15 + u; omega, by show 15 + u < 22; omega⟩, fun z => absurd (show 20 ≤ 15 + u from z) (by omega), n3, n4⟩, tD.1, tD.1⟩ ⟨⟨fun z => absurd (show 20 ≤ 15 + u from z) (by omega), m3, m4⟩, tD.2, tD.2⟩ (fun H'' w => ⟨fun _ => ⟨rfl, fun _ => ⟨r3, r4, w _ _ n (by rw [e]; exact yU_same _ _ _), p3 _ ?_, p4 _ ?_⟩, fun z => absurd (show 20 ≤ 15 + u from z) (by omega)⟩, fun z => absurd (show 15 + u = 22 from z) (by omega), fun z => absurd (show 23 ≤ 15 + u from z) (by omega)⟩) d' k'⟩)
    · have hq2 : H2 q = some (.inr (11, [.int 0, .int 0, .null, .null])) := k3 _ _ hqn (yU_same _ _ _)
      refine w.sub (((d1.mn k1).trans (yMn.le (yLe.new hq _))).trans (d3.mn k3)) (fun b x nb zb => ?_)
      rw [e]
      have hb : b ≠ q := fun y => by rw [y, hq2] at nb; cases nb
      rw [yU_ne _ _ hb]
      exact k5 b x (fun y => (d3.ne nb) (List.mem_singleton.mp y)) zb
    · have hq3 : H3 q = some (.inr (11, [.int 0, .int 0, .null, .null])) := k4 _ _ hqn (k3 _ _ hqn (yU_same _ _ _))
      refine w.sub ((((d1.mn k1).trans (yMn.le (yLe.new hq _))).trans (d3.mn k3)).trans (d4.mn k4)) (fun b x nb zb => ?_)
      rw [e]
      have hb : b ≠ q := fun y => by rw [y, hq3] at nb; cases nb
      rw [yU_ne _ _ hb]
      exact zb
  · have hv2 : v < 2 := Nat.lt_of_not_le (fun y => z ((nI_leI (a := 2) (by decide) (by omega)).mpr y))
    have d2 := d1.le (yLe.new hq (.inr (11, [.int 0, .int 0, .null, .null])))
    refine ⟨⟨by decide, by decide⟩, d2.is, S_next d2 (n := N) (by omega) (by omega) (fun u H2 hu d3 k3 => ⟨⟨by decide, by decide⟩, ?_⟩)⟩
    rw [show (20 : Int32) + nI v = nI (20 + v) from nI_add 20 v]
    exact S_fill (o3 := none) (o4 := none) k1 d1 hq d3 k3 (fun H' e n d' k' => ⟨⟨by decide, by decide⟩, h q H' (20 + v, (20 + v, u, s1D, lfD), t0D, t0D) ⟨by show 20 + v < 25; omega, ⟨⟨by show 15 ≤ 20 + v; omega, by show 20 + v < 22; omega⟩, fun _ => Nat.lt_of_lt_of_le hu h16, (s1D_ok N).1, (lfD_ok N).1⟩, tD.1, tD.1⟩ ⟨⟨fun _ => hu, (s1D_ok N).2, (lfD_ok N).2⟩, tD.2, tD.2⟩ (fun H'' w => ⟨fun _ => ⟨rfl, fun z => absurd (show 20 + v < 20 from z) (by omega), fun _ => w _ _ n (by rw [e]; exact yU_same _ _ _)⟩, fun z => absurd (show 20 + v = 22 from z) (by omega), fun z => absurd (show 23 ≤ 20 + v from z) (by omega)⟩) d' k'⟩)
end MSpec
