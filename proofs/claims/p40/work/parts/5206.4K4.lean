/-! ===== expressions: what they are on the heap, and what they are worth ===== -/
/-- a leaf: its sort and its number -/
def nLf (H : yH) (a : Nat) (x : xLf) : Prop := H a = some (.inr (11, [.int (nI x.1), .int (nI x.2), .null, .null]))
def nS1 (H : yH) (a : Nat) (x : xS1) : Prop :=
  (x.1 < 8 → nLf H a (x.1, x.2.1)) ∧
  (x.1 = 8 → ∃ p, H a = some (.inr (11, [.int (nI x.1), .int 0, .ref p, .null])) ∧ nLf H p x.2.2.1) ∧
  (9 ≤ x.1 → ∃ p q, H a = some (.inr (11, [.int (nI x.1), .int 0, .ref p, .ref q])) ∧ nLf H p x.2.2.1 ∧ nLf H q x.2.2.2)
def nT0 (H : yH) (a : Nat) (x : xT0) : Prop :=
  (x.1 < 20 → ∃ p q, H a = some (.inr (11, [.int (nI x.1), .int 0, .ref p, .ref q])) ∧ nS1 H p x.2.2.1 ∧ nLf H q x.2.2.2) ∧
  (20 ≤ x.1 → H a = some (.inr (11, [.int (nI x.1), .int (nI x.2.1), .null, .null])))
def nT1 (H : yH) (a : Nat) (x : xT1) : Prop :=
  (x.1 < 22 → x.2.1.1 = x.1 ∧ nT0 H a x.2.1) ∧
  (x.1 = 22 → ∃ p, H a = some (.inr (11, [.int (nI x.1), .int 0, .ref p, .null])) ∧ nT0 H p x.2.2.1) ∧
  (23 ≤ x.1 → ∃ p q, H a = some (.inr (11, [.int (nI x.1), .int 0, .ref p, .ref q])) ∧ nT0 H p x.2.2.1 ∧ nT0 H q x.2.2.2)
theorem nS1.is {H : yH} {a : Nat} {x : xS1} (h : nS1 H a x) : yIs H a 11 := by
  by_cases h8 : x.1 < 8
  · exact yIs.of (h.1 h8)
  · by_cases h9 : x.1 = 8
    · obtain ⟨p, hp, -⟩ := h.2.1 h9; exact yIs.of hp
    · obtain ⟨p, q, hp, -⟩ := h.2.2 (by omega); exact yIs.of hp
theorem nT0.is {H : yH} {a : Nat} {x : xT0} (h : nT0 H a x) : yIs H a 11 := by
  by_cases h8 : x.1 < 20
  · obtain ⟨p, q, hp, -⟩ := h.1 h8; exact yIs.of hp
  · exact yIs.of (h.2 (by omega))
theorem nT1.is {H : yH} {a : Nat} {x : xT1} (h : nT1 H a x) : yIs H a 11 := by
  by_cases h8 : x.1 < 22
  · exact (h.1 h8).2.is
  · by_cases h9 : x.1 = 22
    · obtain ⟨p, hp, -⟩ := h.2.1 h9; exact yIs.of hp
    · obtain ⟨p, q, hp, -⟩ := h.2.2 (by omega); exact yIs.of hp
theorem nI_k {s k : Nat} (hs : s < 2 ^ 31) (hk : k < 2 ^ 31) (q : nI s = nI k) : s = k := (nI_eq hs hk).mp q
section VSpec
variable {G : eG} {M : eM} {H : yH} {g ta oa : Nat} {tk : Nat → Nat} {B : eBd} {r : Int32}
theorem S_below {x : Int32} {n : Nat} (h0 : 0 < n) (hn : n < 2 ^ 31) : yRd G (1, 0, 0) kL_below [.int x, .int (nI n)] M H (.int ((x &&& 2147483647) - (x &&& 2147483647) / nI n * nI n)) :=
  yRd.of (C_L_below G M H _ x (nI n) ⟨nI_ne0 h0 hn, rfl, rfl, rfl⟩)
theorem S_both {s : Nat} (hs : 9 ≤ s ∧ s < 25) (x y : Int32) : yRd G (1, 0, 0) kX13_both [.int (nI s), .int x, .int y] M H (.int (bothV s x y)) := by
  have h31 : s < 2 ^ 31 := by omega
  have dfl : (s < 9 ∨ 14 < s) → s ≠ 23 → s ≠ 24 → Yx (yX "both") (yZ G 0 0 (yFI (fun r' M' H' => r' = bothV s x y ∧ M' = M ∧ H' = H))) G (eR (1, 0, 0)) kX13_both 142 [(0, .int (nI s)), (1, .int x), (2, .int y)] [] M H 0 0 := by
    intro h1 h2 h3
    have e : bothV s x y = if (if s = 15 then decide (x < y) else if s = 16 then decide (y < x) else if s = 17 then decide (x = y) else if s = 18 then decide (x ≤ y) else decide (y ≤ x)) then 1 else 0 := by
      unfold bothV
      rw [if_neg (by omega), if_neg (by omega), if_neg (by omega), if_neg (by omega), if_neg (by omega), if_neg (by omega), if_neg h2, if_neg h3]
    have n15 : ∀ k, k < 2 ^ 31 → ¬ nI s = nI k → s ≠ k := fun k _ z y => z (by rw [y])
    refine B_X13_both_142 G M H _ (nI s) x y ⟨fun q => ⟨fun q1 => ⟨fun q2 => ⟨fun q3 => ⟨fun z => ⟨?_, rfl, rfl⟩, fun z => ⟨?_, rfl, rfl⟩⟩, fun q3 => ⟨fun z => ⟨?_, rfl, rfl⟩, fun z => ⟨?_, rfl, rfl⟩⟩⟩, fun q2 => ⟨fun z => ⟨?_, rfl, rfl⟩, fun z => ⟨?_, rfl, rfl⟩⟩⟩, fun q1 => ⟨fun z => ⟨?_, rfl, rfl⟩, fun z => ⟨?_, rfl, rfl⟩⟩⟩, fun q => ⟨fun z => ⟨?_, rfl, rfl⟩, fun z => ⟨?_, rfl, rfl⟩⟩⟩
    · rw [e, if_neg (n15 15 (by decide) q), if_neg (n15 16 (by decide) q1), if_neg (n15 17 (by decide) q2), if_neg (n15 18 (by decide) q3), decide_eq_false (Int32.not_le.mpr z)]; rfl
    · rw [e, if_neg (n15 15 (by decide) q), if_neg (n15 16 (by decide) q1), if_neg (n15 17 (by decide) q2), if_neg (n15 18 (by decide) q3), decide_eq_true (Int32.not_lt.mp z)]; rfl
    · rw [e, if_neg (n15 15 (by decide) q), if_neg (n15 16 (by decide) q1), if_neg (n15 17 (by decide) q2), if_pos (nI_k (k := 18) h31 (by decide) q3), decide_eq_false (Int32.not_le.mpr z)]; rfl
    · rw [e, if_neg (n15 15 (by decide) q), if_neg (n15 16 (by decide) q1), if_neg (n15 17 (by decide) q2), if_pos (nI_k (k := 18) h31 (by decide) q3), decide_eq_true (Int32.not_lt.mp z)]; rfl
    · rw [e, if_neg (n15 15 (by decide) q), if_neg (n15 16 (by decide) q1), if_pos (nI_k (k := 17) h31 (by decide) q2), decide_eq_false z]; rfl
    · rw [e, if_neg (n15 15 (by decide) q), if_neg (n15 16 (by decide) q1), if_pos (nI_k (k := 17) h31 (by decide) q2), decide_eq_true z]; rfl
    · rw [e, if_neg (n15 15 (by decide) q), if_pos (nI_k (k := 16) h31 (by decide) q1), decide_eq_false (Int32.not_lt.mpr z)]; rfl
    · rw [e, if_neg (n15 15 (by decide) q), if_pos (nI_k (k := 16) h31 (by decide) q1), decide_eq_true (Int32.not_le.mp z)]; rfl
    · rw [e, if_pos (nI_k (k := 15) h31 (by decide) q), decide_eq_false (Int32.not_lt.mpr z)]; rfl
    · rw [e, if_pos (nI_k (k := 15) h31 (by decide) q), decide_eq_true (Int32.not_le.mp z)]; rfl
  refine yRd.of (C_X13_both G M H _ (nI s) x y ⟨fun q => ?_, fun q => ?_, fun q => ?_, fun q => ?_, fun q => ?_, fun q => ?_, fun q => ?_, fun q => ?_, fun q => ?_, fun q => ?_, fun q => ?_, fun q => ?_, fun q => ?_, fun q => ?_, fun q => ?_, fun q => ?_, fun q => ?_⟩)
  · rw [nI_toInt h31] at q; omega
  · have hk := nI_k (k := 9) h31 (by decide) q
    exact ⟨fun z => ⟨by simp [bothV, hk, Int32.not_lt.mpr z], rfl, rfl⟩, fun z => ⟨by simp [bothV, hk, Int32.not_le.mp z], rfl, rfl⟩⟩
  · have hk := nI_k (k := 10) h31 (by decide) q
    exact ⟨fun z => ⟨by simp [bothV, hk, Int32.not_lt.mpr z], rfl, rfl⟩, fun z => ⟨by simp [bothV, hk, Int32.not_le.mp z], rfl, rfl⟩⟩
  · have hk := nI_k (k := 11) h31 (by decide) q
    exact ⟨by simp [bothV, hk], rfl, rfl⟩
  · have hk := nI_k (k := 12) h31 (by decide) q
    exact ⟨by simp [bothV, hk], rfl, rfl⟩
  · have hk := nI_k (k := 13) h31 (by decide) q
    exact ⟨by simp [bothV, hk], rfl, rfl⟩
  · have hk := nI_k (k := 14) h31 (by decide) q
    exact ⟨fun z => ⟨z, by simp [bothV, hk, z], rfl, rfl⟩, fun z => ⟨by simp [bothV, hk, z], rfl, rfl⟩⟩
  · have hk := nI_k (k := 15) h31 (by decide) q
    exact dfl (by omega) (by omega) (by omega)
  · have hk := nI_k (k := 16) h31 (by decide) q
    exact dfl (by omega) (by omega) (by omega)
  · have hk := nI_k (k := 17) h31 (by decide) q
    exact dfl (by omega) (by omega) (by omega)
  · have hk := nI_k (k := 18) h31 (by decide) q
    exact dfl (by omega) (by omega) (by omega)
  · have hk := nI_k (k := 19) h31 (by decide) q
    exact dfl (by omega) (by omega) (by omega)
  · have hk := nI_k (k := 20) h31 (by decide) q
    exact dfl (by omega) (by omega) (by omega)
  · have hk := nI_k (k := 21) h31 (by decide) q
    exact dfl (by omega) (by omega) (by omega)
  · have hk := nI_k (k := 22) h31 (by decide) q
    exact dfl (by omega) (by omega) (by omega)
  · have hk := nI_k (k := 23) h31 (by decide) q
    exact ⟨by simp [bothV, hk], rfl, rfl⟩
  · have hk := nI_k (k := 24) h31 (by decide) q
    exact ⟨fun z => ⟨by simp [bothV, hk, Int32.not_lt.mpr z], rfl, rfl⟩, fun z => ⟨by simp [bothV, hk, Int32.not_le.mp z], rfl, rfl⟩⟩
set_option maxHeartbeats 4000000 in
theorem S_Lf_0 {a : Nat} {x : xLf} (ha : nLf H a x) (hx : lfOk x) (hn : lfM (bN B) x) (hg : gAt G H g ta oa tk B r) (hm : bGm B) : yRd G (6, 2, 54) kX13_value [.ref a, .ref g] M H (.int (lfV B r x)) := by
  have hb := hm.1
  have h16 := hb.2.2.1
  have hx8 : x.1 < 8 := hx
  have h31 : x.1 < 2 ^ 31 := by omega
  have ha' : H a = some (.inr (11, [.int (nI x.1), .int (nI x.2), .null, .null])) := ha
  refine yRd.of (yCal.weakI (C_X13_value_0 G M H _ a g ⟨_, yG.of ha' rfl, fun q => ?_, fun q => ?_, fun q => ?_, fun q => ?_, fun q => ?_, fun q => ?_, fun q => ?_, fun q => ?_, fun q => ?_, fun q => ?_, fun q => ?_, fun q => ?_, fun q => ?_, fun q => ?_, fun q => ?_, fun q => ?_, fun q => ?_, fun q => ?_, fun q => ?_, fun q => ?_, fun q => ?_, fun q => ?_, fun q => ?_, fun q => ?_⟩))
  · rw [nI_toInt h31] at q; omega
  · have hk := nI_k (k := 0) h31 (by decide) q
    exact ⟨_, yG.of ha' rfl, ⟨by decide, by decide⟩, H, yLe.refl _, by simp [lfV, hk], rfl, rfl⟩
  · have hk := nI_k (k := 1) h31 (by decide) q
    exact ⟨_, yG.of hg.1 rfl, ⟨by decide, by decide⟩, H, yLe.refl _, by simp [lfV, hk], rfl, rfl⟩
  · have hk := nI_k (k := 2) h31 (by decide) q
    exact ⟨⟨by decide, by decide⟩, yIs.of hg.1, S_counts hg hm (fun q hq f f0 f1 f2 f3 f4 => ⟨_, yEI.mk (j := 4) (yU_same _ _ _) (by decide) (by decide), ⟨by decide, by decide⟩, H, yLe.new hq _, by rw [f4]; simp [lfV, hk], rfl, rfl⟩)⟩
  · have hk := nI_k (k := 3) h31 (by decide) q
    exact ⟨⟨by decide, by decide⟩, yIs.of hg.1, S_counts hg hm (fun q hq f f0 f1 f2 f3 f4 => ⟨_, yEI.mk (j := 0) (yU_same _ _ _) (by decide) (by decide), ⟨by decide, by decide⟩, H, yLe.new hq _, by rw [f0]; simp [lfV, hk], rfl, rfl⟩)⟩
  · have hk := nI_k (k := 4) h31 (by decide) q
    exact ⟨⟨by decide, by decide⟩, yIs.of hg.1, S_counts hg hm (fun q hq f f0 f1 f2 f3 f4 => ⟨_, yEI.mk (j := 3) (yU_same _ _ _) (by decide) (by decide), ⟨by decide, by decide⟩, H, yLe.new hq _, by rw [f3]; simp [lfV, hk], rfl, rfl⟩)⟩
  · have hk := nI_k (k := 5) h31 (by decide) q
    exact ⟨⟨by decide, by decide⟩, yIs.of hg.1, S_counts hg hm (fun q hq f f0 f1 f2 f3 f4 => ⟨_, yEI.mk (j := 2) (yU_same _ _ _) (by decide) (by decide), ⟨by decide, by decide⟩, H, yLe.new hq _, by rw [f2]; simp [lfV, hk], rfl, rfl⟩)⟩
  · have hk := nI_k (k := 6) h31 (by decide) q
    exact ⟨_, yG.of hg.1 rfl, _, yG.of hg.1 rfl, ⟨by decide, by decide⟩, yIs.of hg.1, S_counts hg hm (fun q hq f f0 f1 f2 f3 f4 => ⟨_, yEI.mk (j := 4) (yU_same _ _ _) (by decide) (by decide), ⟨by decide, by decide⟩, H, yLe.new hq _, by rw [f4, nI_mul]; simp [lfV, hk], rfl, rfl⟩)⟩
  · have hk := nI_k (k := 7) h31 (by decide) q
    exact ⟨⟨by decide, by decide⟩, yIs.of hg.1, S_board hg hb (fun q hq fb hfb => ⟨_, yG.of (yLe.new hq _ _ _ ha') rfl, ⟨by decide, by decide⟩, yIs.of (hg.new hq _).1, _, S_ways (hg.new hq _) hb ⟨fb, yU_same _ _ _, hfb⟩ (hn hk), ⟨by decide, by decide⟩, H, yLe.new hq _, by simp [lfV, hk], rfl, rfl⟩)⟩
  · have hk := nI_k (k := 8) h31 (by decide) q
    exact absurd hk (by omega)
  · have hk := nI_k (k := 9) h31 (by decide) q
    exact absurd hk (by omega)
  · have hk := nI_k (k := 10) h31 (by decide) q
    exact absurd hk (by omega)
  · have hk := nI_k (k := 11) h31 (by decide) q
    exact absurd hk (by omega)
  · have hk := nI_k (k := 12) h31 (by decide) q
    exact absurd hk (by omega)
  · have hk := nI_k (k := 13) h31 (by decide) q
    exact absurd hk (by omega)
  · have hk := nI_k (k := 14) h31 (by decide) q
    exact absurd hk (by omega)
  · have hk := nI_k (k := 15) h31 (by decide) q
    exact absurd hk (by omega)
  · have hk := nI_k (k := 16) h31 (by decide) q
    exact absurd hk (by omega)
  · have hk := nI_k (k := 17) h31 (by decide) q
    exact absurd hk (by omega)
  · have hk := nI_k (k := 18) h31 (by decide) q
    exact absurd hk (by omega)
  · have hk := nI_k (k := 19) h31 (by decide) q
    exact absurd hk (by omega)
  · have hk := nI_k (k := 20) h31 (by decide) q
    exact absurd hk (by omega)
  · have hk := nI_k (k := 21) h31 (by decide) q
    exact absurd hk (by omega)
  · have hk := nI_k (k := 22) h31 (by decide) q
    exact absurd hk (by omega)
set_option maxHeartbeats 4000000 in
theorem S_Lf_1 {a : Nat} {x : xLf} (ha : nLf H a x) (hx : lfOk x) (hn : lfM (bN B) x) (hg : gAt G H g ta oa tk B r) (hm : bGm B) : yRd G (7, 4, 108) kX13_value [.ref a, .ref g] M H (.int (lfV B r x)) := by
  have hb := hm.1
  have h16 := hb.2.2.1
  have hx8 : x.1 < 8 := hx
  have h31 : x.1 < 2 ^ 31 := by omega
  have ha' : H a = some (.inr (11, [.int (nI x.1), .int (nI x.2), .null, .null])) := ha
  refine yRd.of (yCal.weakI (C_X13_value_1 G M H _ a g ⟨_, yG.of ha' rfl, fun q => ?_, fun q => ?_, fun q => ?_, fun q => ?_, fun q => ?_, fun q => ?_, fun q => ?_, fun q => ?_, fun q => ?_, fun q => ?_, fun q => ?_, fun q => ?_, fun q => ?_, fun q => ?_, fun q => ?_, fun q => ?_, fun q => ?_, fun q => ?_, fun q => ?_, fun q => ?_, fun q => ?_, fun q => ?_, fun q => ?_, fun q => ?_⟩))
  · rw [nI_toInt h31] at q; omega
  · have hk := nI_k (k := 0) h31 (by decide) q
    exact ⟨_, yG.of ha' rfl, ⟨by decide, by decide⟩, H, yLe.refl _, by simp [lfV, hk], rfl, rfl⟩
  · have hk := nI_k (k := 1) h31 (by decide) q
    exact ⟨_, yG.of hg.1 rfl, ⟨by decide, by decide⟩, H, yLe.refl _, by simp [lfV, hk], rfl, rfl⟩
  · have hk := nI_k (k := 2) h31 (by decide) q
    exact ⟨⟨by decide, by decide⟩, yIs.of hg.1, S_counts hg hm (fun q hq f f0 f1 f2 f3 f4 => ⟨_, yEI.mk (j := 4) (yU_same _ _ _) (by decide) (by decide), ⟨by decide, by decide⟩, H, yLe.new hq _, by rw [f4]; simp [lfV, hk], rfl, rfl⟩)⟩
  · have hk := nI_k (k := 3) h31 (by decide) q
    exact ⟨⟨by decide, by decide⟩, yIs.of hg.1, S_counts hg hm (fun q hq f f0 f1 f2 f3 f4 => ⟨_, yEI.mk (j := 0) (yU_same _ _ _) (by decide) (by decide), ⟨by decide, by decide⟩, H, yLe.new hq _, by rw [f0]; simp [lfV, hk], rfl, rfl⟩)⟩
  · have hk := nI_k (k := 4) h31 (by decide) q
    exact ⟨⟨by decide, by decide⟩, yIs.of hg.1, S_counts hg hm (fun q hq f f0 f1 f2 f3 f4 => ⟨_, yEI.mk (j := 3) (yU_same _ _ _) (by decide) (by decide), ⟨by decide, by decide⟩, H, yLe.new hq _, by rw [f3]; simp [lfV, hk], rfl, rfl⟩)⟩
  · have hk := nI_k (k := 5) h31 (by decide) q
    exact ⟨⟨by decide, by decide⟩, yIs.of hg.1, S_counts hg hm (fun q hq f f0 f1 f2 f3 f4 => ⟨_, yEI.mk (j := 2) (yU_same _ _ _) (by decide) (by decide), ⟨by decide, by decide⟩, H, yLe.new hq _, by rw [f2]; simp [lfV, hk], rfl, rfl⟩)⟩
  · have hk := nI_k (k := 6) h31 (by decide) q
    exact ⟨_, yG.of hg.1 rfl, _, yG.of hg.1 rfl, ⟨by decide, by decide⟩, yIs.of hg.1, S_counts hg hm (fun q hq f f0 f1 f2 f3 f4 => ⟨_, yEI.mk (j := 4) (yU_same _ _ _) (by decide) (by decide), ⟨by decide, by decide⟩, H, yLe.new hq _, by rw [f4, nI_mul]; simp [lfV, hk], rfl, rfl⟩)⟩
  · have hk := nI_k (k := 7) h31 (by decide) q
    exact ⟨⟨by decide, by decide⟩, yIs.of hg.1, S_board hg hb (fun q hq fb hfb => ⟨_, yG.of (yLe.new hq _ _ _ ha') rfl, ⟨by decide, by decide⟩, yIs.of (hg.new hq _).1, _, S_ways (hg.new hq _) hb ⟨fb, yU_same _ _ _, hfb⟩ (hn hk), ⟨by decide, by decide⟩, H, yLe.new hq _, by simp [lfV, hk], rfl, rfl⟩)⟩
  · have hk := nI_k (k := 8) h31 (by decide) q
    exact absurd hk (by omega)
  · have hk := nI_k (k := 9) h31 (by decide) q
    exact absurd hk (by omega)
  · have hk := nI_k (k := 10) h31 (by decide) q
    exact absurd hk (by omega)
  · have hk := nI_k (k := 11) h31 (by decide) q
    exact absurd hk (by omega)
  · have hk := nI_k (k := 12) h31 (by decide) q
    exact absurd hk (by omega)
  · have hk := nI_k (k := 13) h31 (by decide) q
    exact absurd hk (by omega)
  · have hk := nI_k (k := 14) h31 (by decide) q
    exact absurd hk (by omega)
  · have hk := nI_k (k := 15) h31 (by decide) q
    exact absurd hk (by omega)
  · have hk := nI_k (k := 16) h31 (by decide) q
    exact absurd hk (by omega)
  · have hk := nI_k (k := 17) h31 (by decide) q
    exact absurd hk (by omega)
  · have hk := nI_k (k := 18) h31 (by decide) q
    exact absurd hk (by omega)
  · have hk := nI_k (k := 19) h31 (by decide) q
    exact absurd hk (by omega)
  · have hk := nI_k (k := 20) h31 (by decide) q
    exact absurd hk (by omega)
  · have hk := nI_k (k := 21) h31 (by decide) q
    exact absurd hk (by omega)
  · have hk := nI_k (k := 22) h31 (by decide) q
    exact absurd hk (by omega)
set_option maxHeartbeats 4000000 in
theorem S_S1_1 {a : Nat} {x : xS1} (ha : nS1 H a x) (hx : s1Ok x) (hn : s1M (bN B) x) (hg : gAt G H g ta oa tk B r) (hm : bGm B) : yRd G (7, 4, 108) kX13_value [.ref a, .ref g] M H (.int (s1V B r x)) := by
  have hb := hm.1
  have h16 := hb.2.2.1
  have h31 : x.1 < 2 ^ 31 := by have := hx.1; omega
  by_cases h8 : x.1 < 8
  · have e : s1V B r x = lfV B r (x.1, x.2.1) := by unfold s1V; rw [if_pos h8]
    rw [e]
    exact S_Lf_1 (ha.1 h8) h8 (hn.1 h8) hg hm
  by_cases h9 : x.1 = 8
  · obtain ⟨p, hp, hp1⟩ := ha.2.1 h9
    refine yRd.of (yCal.weakI (C_X13_value_1 G M H _ a g ⟨_, yG.of hp rfl, fun q => ?_, fun q => ?_, fun q => ?_, fun q => ?_, fun q => ?_, fun q => ?_, fun q => ?_, fun q => ?_, fun q => ?_, fun q => ?_, fun q => ?_, fun q => ?_, fun q => ?_, fun q => ?_, fun q => ?_, fun q => ?_, fun q => ?_, fun q => ?_, fun q => ?_, fun q => ?_, fun q => ?_, fun q => ?_, fun q => ?_, fun q => ?_⟩))
    · rw [nI_toInt h31] at q; omega
    · have hk := nI_k (k := 0) h31 (by decide) q
      exact absurd hk (by omega)
    · have hk := nI_k (k := 1) h31 (by decide) q
      exact absurd hk (by omega)
    · have hk := nI_k (k := 2) h31 (by decide) q
      exact absurd hk (by omega)
    · have hk := nI_k (k := 3) h31 (by decide) q
      exact absurd hk (by omega)
    · have hk := nI_k (k := 4) h31 (by decide) q
      exact absurd hk (by omega)
    · have hk := nI_k (k := 5) h31 (by decide) q
      exact absurd hk (by omega)
    · have hk := nI_k (k := 6) h31 (by decide) q
      exact absurd hk (by omega)
    · have hk := nI_k (k := 7) h31 (by decide) q
      exact absurd hk (by omega)
    · exact ⟨_, yG.of hp rfl, ⟨by decide, by decide⟩, yIs.of hp1, _, S_Lf_0 hp1 hx.2.1 hn.2.1 hg hm, ⟨by decide, by decide⟩, H, yLe.refl _, by simp [s1V, h9], rfl, rfl⟩
    · have hk := nI_k (k := 9) h31 (by decide) q
      exact absurd hk (by omega)
    · have hk := nI_k (k := 10) h31 (by decide) q
      exact absurd hk (by omega)
    · have hk := nI_k (k := 11) h31 (by decide) q
      exact absurd hk (by omega)
    · have hk := nI_k (k := 12) h31 (by decide) q
      exact absurd hk (by omega)
    · have hk := nI_k (k := 13) h31 (by decide) q
      exact absurd hk (by omega)
    · have hk := nI_k (k := 14) h31 (by decide) q
      exact absurd hk (by omega)
    · have hk := nI_k (k := 15) h31 (by decide) q
      exact absurd hk (by omega)
    · have hk := nI_k (k := 16) h31 (by decide) q
      exact absurd hk (by omega)
    · have hk := nI_k (k := 17) h31 (by decide) q
      exact absurd hk (by omega)
    · have hk := nI_k (k := 18) h31 (by decide) q
      exact absurd hk (by omega)
    · have hk := nI_k (k := 19) h31 (by decide) q
      exact absurd hk (by omega)
    · have hk := nI_k (k := 20) h31 (by decide) q
      exact absurd hk (by omega)
    · have hk := nI_k (k := 21) h31 (by decide) q
      exact absurd hk (by omega)
    · have hk := nI_k (k := 22) h31 (by decide) q
      exact absurd hk (by omega)
  have h15 := hx.1
  obtain ⟨p, t, hp, hp1, hp2⟩ := ha.2.2 (by omega)
  have e : s1V B r x = bothV x.1 (lfV B r x.2.2.1) (lfV B r x.2.2.2) := by unfold s1V; rw [if_neg h8, if_neg h9]
  rw [e]
  refine yRd.of (yCal.weakI (C_X13_value_1 G M H _ a g ⟨_, yG.of hp rfl, fun q => ?_, fun q => ?_, fun q => ?_, fun q => ?_, fun q => ?_, fun q => ?_, fun q => ?_, fun q => ?_, fun q => ?_, fun q => ?_, fun q => ?_, fun q => ?_, fun q => ?_, fun q => ?_, fun q => ?_, fun q => ?_, fun q => ?_, fun q => ?_, fun q => ?_, fun q => ?_, fun q => ?_, fun q => ?_, fun q => ?_, fun q => ?_⟩))
  · rw [nI_toInt h31] at q; omega
  · have hk := nI_k (k := 0) h31 (by decide) q
    exact absurd hk (by omega)
  · have hk := nI_k (k := 1) h31 (by decide) q
    exact absurd hk (by omega)
  · have hk := nI_k (k := 2) h31 (by decide) q
    exact absurd hk (by omega)
  · have hk := nI_k (k := 3) h31 (by decide) q
    exact absurd hk (by omega)
  · have hk := nI_k (k := 4) h31 (by decide) q
    exact absurd hk (by omega)
  · have hk := nI_k (k := 5) h31 (by decide) q
    exact absurd hk (by omega)
  · have hk := nI_k (k := 6) h31 (by decide) q
    exact absurd hk (by omega)
  · have hk := nI_k (k := 7) h31 (by decide) q
    exact absurd hk (by omega)
  · have hk := nI_k (k := 8) h31 (by decide) q
    exact absurd hk (by omega)
  · exact B_X13_value_1_243 G _ _ M H _ a g ⟨_, yG.of hp rfl, _, yG.of hp rfl, ⟨by decide, by decide⟩, yIs.of hp1, _, S_Lf_0 hp1 hx.2.1 hn.2.1 hg hm, _, yG.of hp rfl, ⟨by decide, by decide⟩, yIs.of hp2, _, S_Lf_0 hp2 hx.2.2 hn.2.2 hg hm, ⟨by decide, by decide⟩, _, S_both (by omega) _ _, ⟨by decide, by decide⟩, H, yLe.refl _, rfl, rfl, rfl⟩
  · exact B_X13_value_1_243 G _ _ M H _ a g ⟨_, yG.of hp rfl, _, yG.of hp rfl, ⟨by decide, by decide⟩, yIs.of hp1, _, S_Lf_0 hp1 hx.2.1 hn.2.1 hg hm, _, yG.of hp rfl, ⟨by decide, by decide⟩, yIs.of hp2, _, S_Lf_0 hp2 hx.2.2 hn.2.2 hg hm, ⟨by decide, by decide⟩, _, S_both (by omega) _ _, ⟨by decide, by decide⟩, H, yLe.refl _, rfl, rfl, rfl⟩
  · exact B_X13_value_1_243 G _ _ M H _ a g ⟨_, yG.of hp rfl, _, yG.of hp rfl, ⟨by decide, by decide⟩, yIs.of hp1, _, S_Lf_0 hp1 hx.2.1 hn.2.1 hg hm, _, yG.of hp rfl, ⟨by decide, by decide⟩, yIs.of hp2, _, S_Lf_0 hp2 hx.2.2 hn.2.2 hg hm, ⟨by decide, by decide⟩, _, S_both (by omega) _ _, ⟨by decide, by decide⟩, H, yLe.refl _, rfl, rfl, rfl⟩
  · exact B_X13_value_1_243 G _ _ M H _ a g ⟨_, yG.of hp rfl, _, yG.of hp rfl, ⟨by decide, by decide⟩, yIs.of hp1, _, S_Lf_0 hp1 hx.2.1 hn.2.1 hg hm, _, yG.of hp rfl, ⟨by decide, by decide⟩, yIs.of hp2, _, S_Lf_0 hp2 hx.2.2 hn.2.2 hg hm, ⟨by decide, by decide⟩, _, S_both (by omega) _ _, ⟨by decide, by decide⟩, H, yLe.refl _, rfl, rfl, rfl⟩
  · exact B_X13_value_1_243 G _ _ M H _ a g ⟨_, yG.of hp rfl, _, yG.of hp rfl, ⟨by decide, by decide⟩, yIs.of hp1, _, S_Lf_0 hp1 hx.2.1 hn.2.1 hg hm, _, yG.of hp rfl, ⟨by decide, by decide⟩, yIs.of hp2, _, S_Lf_0 hp2 hx.2.2 hn.2.2 hg hm, ⟨by decide, by decide⟩, _, S_both (by omega) _ _, ⟨by decide, by decide⟩, H, yLe.refl _, rfl, rfl, rfl⟩
  · exact B_X13_value_1_243 G _ _ M H _ a g ⟨_, yG.of hp rfl, _, yG.of hp rfl, ⟨by decide, by decide⟩, yIs.of hp1, _, S_Lf_0 hp1 hx.2.1 hn.2.1 hg hm, _, yG.of hp rfl, ⟨by decide, by decide⟩, yIs.of hp2, _, S_Lf_0 hp2 hx.2.2 hn.2.2 hg hm, ⟨by decide, by decide⟩, _, S_both (by omega) _ _, ⟨by decide, by decide⟩, H, yLe.refl _, rfl, rfl, rfl⟩
  · exact B_X13_value_1_243 G _ _ M H _ a g ⟨_, yG.of hp rfl, _, yG.of hp rfl, ⟨by decide, by decide⟩, yIs.of hp1, _, S_Lf_0 hp1 hx.2.1 hn.2.1 hg hm, _, yG.of hp rfl, ⟨by decide, by decide⟩, yIs.of hp2, _, S_Lf_0 hp2 hx.2.2 hn.2.2 hg hm, ⟨by decide, by decide⟩, _, S_both (by omega) _ _, ⟨by decide, by decide⟩, H, yLe.refl _, rfl, rfl, rfl⟩
  · exact B_X13_value_1_243 G _ _ M H _ a g ⟨_, yG.of hp rfl, _, yG.of hp rfl, ⟨by decide, by decide⟩, yIs.of hp1, _, S_Lf_0 hp1 hx.2.1 hn.2.1 hg hm, _, yG.of hp rfl, ⟨by decide, by decide⟩, yIs.of hp2, _, S_Lf_0 hp2 hx.2.2 hn.2.2 hg hm, ⟨by decide, by decide⟩, _, S_both (by omega) _ _, ⟨by decide, by decide⟩, H, yLe.refl _, rfl, rfl, rfl⟩
  · exact B_X13_value_1_243 G _ _ M H _ a g ⟨_, yG.of hp rfl, _, yG.of hp rfl, ⟨by decide, by decide⟩, yIs.of hp1, _, S_Lf_0 hp1 hx.2.1 hn.2.1 hg hm, _, yG.of hp rfl, ⟨by decide, by decide⟩, yIs.of hp2, _, S_Lf_0 hp2 hx.2.2 hn.2.2 hg hm, ⟨by decide, by decide⟩, _, S_both (by omega) _ _, ⟨by decide, by decide⟩, H, yLe.refl _, rfl, rfl, rfl⟩
  · exact B_X13_value_1_243 G _ _ M H _ a g ⟨_, yG.of hp rfl, _, yG.of hp rfl, ⟨by decide, by decide⟩, yIs.of hp1, _, S_Lf_0 hp1 hx.2.1 hn.2.1 hg hm, _, yG.of hp rfl, ⟨by decide, by decide⟩, yIs.of hp2, _, S_Lf_0 hp2 hx.2.2 hn.2.2 hg hm, ⟨by decide, by decide⟩, _, S_both (by omega) _ _, ⟨by decide, by decide⟩, H, yLe.refl _, rfl, rfl, rfl⟩
  · exact B_X13_value_1_243 G _ _ M H _ a g ⟨_, yG.of hp rfl, _, yG.of hp rfl, ⟨by decide, by decide⟩, yIs.of hp1, _, S_Lf_0 hp1 hx.2.1 hn.2.1 hg hm, _, yG.of hp rfl, ⟨by decide, by decide⟩, yIs.of hp2, _, S_Lf_0 hp2 hx.2.2 hn.2.2 hg hm, ⟨by decide, by decide⟩, _, S_both (by omega) _ _, ⟨by decide, by decide⟩, H, yLe.refl _, rfl, rfl, rfl⟩
  · have hk := nI_k (k := 20) h31 (by decide) q
    exact absurd hk (by omega)
  · have hk := nI_k (k := 21) h31 (by decide) q
    exact absurd hk (by omega)
  · have hk := nI_k (k := 22) h31 (by decide) q
    exact absurd hk (by omega)
set_option maxHeartbeats 4000000 in
theorem S_Lf_2 {a : Nat} {x : xLf} (ha : nLf H a x) (hx : lfOk x) (hn : lfM (bN B) x) (hg : gAt G H g ta oa tk B r) (hm : bGm B) : yRd G (8, 8, 216) kX13_value [.ref a, .ref g] M H (.int (lfV B r x)) := by
  have hb := hm.1
  have h16 := hb.2.2.1
  have hx8 : x.1 < 8 := hx
  have h31 : x.1 < 2 ^ 31 := by omega
  have ha' : H a = some (.inr (11, [.int (nI x.1), .int (nI x.2), .null, .null])) := ha
  refine yRd.of (yCal.weakI (C_X13_value_2 G M H _ a g ⟨_, yG.of ha' rfl, fun q => ?_, fun q => ?_, fun q => ?_, fun q => ?_, fun q => ?_, fun q => ?_, fun q => ?_, fun q => ?_, fun q => ?_, fun q => ?_, fun q => ?_, fun q => ?_, fun q => ?_, fun q => ?_, fun q => ?_, fun q => ?_, fun q => ?_, fun q => ?_, fun q => ?_, fun q => ?_, fun q => ?_, fun q => ?_, fun q => ?_, fun q => ?_⟩))
  · rw [nI_toInt h31] at q; omega
  · have hk := nI_k (k := 0) h31 (by decide) q
    exact ⟨_, yG.of ha' rfl, ⟨by decide, by decide⟩, H, yLe.refl _, by simp [lfV, hk], rfl, rfl⟩
  · have hk := nI_k (k := 1) h31 (by decide) q
    exact ⟨_, yG.of hg.1 rfl, ⟨by decide, by decide⟩, H, yLe.refl _, by simp [lfV, hk], rfl, rfl⟩
  · have hk := nI_k (k := 2) h31 (by decide) q
    exact ⟨⟨by decide, by decide⟩, yIs.of hg.1, S_counts hg hm (fun q hq f f0 f1 f2 f3 f4 => ⟨_, yEI.mk (j := 4) (yU_same _ _ _) (by decide) (by decide), ⟨by decide, by decide⟩, H, yLe.new hq _, by rw [f4]; simp [lfV, hk], rfl, rfl⟩)⟩
  · have hk := nI_k (k := 3) h31 (by decide) q
    exact ⟨⟨by decide, by decide⟩, yIs.of hg.1, S_counts hg hm (fun q hq f f0 f1 f2 f3 f4 => ⟨_, yEI.mk (j := 0) (yU_same _ _ _) (by decide) (by decide), ⟨by decide, by decide⟩, H, yLe.new hq _, by rw [f0]; simp [lfV, hk], rfl, rfl⟩)⟩
  · have hk := nI_k (k := 4) h31 (by decide) q
    exact ⟨⟨by decide, by decide⟩, yIs.of hg.1, S_counts hg hm (fun q hq f f0 f1 f2 f3 f4 => ⟨_, yEI.mk (j := 3) (yU_same _ _ _) (by decide) (by decide), ⟨by decide, by decide⟩, H, yLe.new hq _, by rw [f3]; simp [lfV, hk], rfl, rfl⟩)⟩
  · have hk := nI_k (k := 5) h31 (by decide) q
    exact ⟨⟨by decide, by decide⟩, yIs.of hg.1, S_counts hg hm (fun q hq f f0 f1 f2 f3 f4 => ⟨_, yEI.mk (j := 2) (yU_same _ _ _) (by decide) (by decide), ⟨by decide, by decide⟩, H, yLe.new hq _, by rw [f2]; simp [lfV, hk], rfl, rfl⟩)⟩
  · have hk := nI_k (k := 6) h31 (by decide) q
    exact ⟨_, yG.of hg.1 rfl, _, yG.of hg.1 rfl, ⟨by decide, by decide⟩, yIs.of hg.1, S_counts hg hm (fun q hq f f0 f1 f2 f3 f4 => ⟨_, yEI.mk (j := 4) (yU_same _ _ _) (by decide) (by decide), ⟨by decide, by decide⟩, H, yLe.new hq _, by rw [f4, nI_mul]; simp [lfV, hk], rfl, rfl⟩)⟩
  · have hk := nI_k (k := 7) h31 (by decide) q
    exact ⟨⟨by decide, by decide⟩, yIs.of hg.1, S_board hg hb (fun q hq fb hfb => ⟨_, yG.of (yLe.new hq _ _ _ ha') rfl, ⟨by decide, by decide⟩, yIs.of (hg.new hq _).1, _, S_ways (hg.new hq _) hb ⟨fb, yU_same _ _ _, hfb⟩ (hn hk), ⟨by decide, by decide⟩, H, yLe.new hq _, by simp [lfV, hk], rfl, rfl⟩)⟩
  · have hk := nI_k (k := 8) h31 (by decide) q
    exact absurd hk (by omega)
  · have hk := nI_k (k := 9) h31 (by decide) q
    exact absurd hk (by omega)
  · have hk := nI_k (k := 10) h31 (by decide) q
    exact absurd hk (by omega)
  · have hk := nI_k (k := 11) h31 (by decide) q
    exact absurd hk (by omega)
  · have hk := nI_k (k := 12) h31 (by decide) q
    exact absurd hk (by omega)
  · have hk := nI_k (k := 13) h31 (by decide) q
    exact absurd hk (by omega)
  · have hk := nI_k (k := 14) h31 (by decide) q
    exact absurd hk (by omega)
  · have hk := nI_k (k := 15) h31 (by decide) q
    exact absurd hk (by omega)
  · have hk := nI_k (k := 16) h31 (by decide) q
    exact absurd hk (by omega)
  · have hk := nI_k (k := 17) h31 (by decide) q
    exact absurd hk (by omega)
  · have hk := nI_k (k := 18) h31 (by decide) q
    exact absurd hk (by omega)
  · have hk := nI_k (k := 19) h31 (by decide) q
    exact absurd hk (by omega)
  · have hk := nI_k (k := 20) h31 (by decide) q
    exact absurd hk (by omega)
  · have hk := nI_k (k := 21) h31 (by decide) q
    exact absurd hk (by omega)
  · have hk := nI_k (k := 22) h31 (by decide) q
    exact absurd hk (by omega)
set_option maxHeartbeats 4000000 in
theorem S_S1_2 {a : Nat} {x : xS1} (ha : nS1 H a x) (hx : s1Ok x) (hn : s1M (bN B) x) (hg : gAt G H g ta oa tk B r) (hm : bGm B) : yRd G (8, 8, 216) kX13_value [.ref a, .ref g] M H (.int (s1V B r x)) := by
  have hb := hm.1
  have h16 := hb.2.2.1
  have h31 : x.1 < 2 ^ 31 := by have := hx.1; omega
  by_cases h8 : x.1 < 8
  · have e : s1V B r x = lfV B r (x.1, x.2.1) := by unfold s1V; rw [if_pos h8]
    rw [e]
    exact S_Lf_2 (ha.1 h8) h8 (hn.1 h8) hg hm
  by_cases h9 : x.1 = 8
  · obtain ⟨p, hp, hp1⟩ := ha.2.1 h9
    refine yRd.of (yCal.weakI (C_X13_value_2 G M H _ a g ⟨_, yG.of hp rfl, fun q => ?_, fun q => ?_, fun q => ?_, fun q => ?_, fun q => ?_, fun q => ?_, fun q => ?_, fun q => ?_, fun q => ?_, fun q => ?_, fun q => ?_, fun q => ?_, fun q => ?_, fun q => ?_, fun q => ?_, fun q => ?_, fun q => ?_, fun q => ?_, fun q => ?_, fun q => ?_, fun q => ?_, fun q => ?_, fun q => ?_, fun q => ?_⟩))
    · rw [nI_toInt h31] at q; omega
    · have hk := nI_k (k := 0) h31 (by decide) q
      exact absurd hk (by omega)
    · have hk := nI_k (k := 1) h31 (by decide) q
      exact absurd hk (by omega)
    · have hk := nI_k (k := 2) h31 (by decide) q
      exact absurd hk (by omega)
    · have hk := nI_k (k := 3) h31 (by decide) q
      exact absurd hk (by omega)
    · have hk := nI_k (k := 4) h31 (by decide) q
      exact absurd hk (by omega)
    · have hk := nI_k (k := 5) h31 (by decide) q
      exact absurd hk (by omega)
    · have hk := nI_k (k := 6) h31 (by decide) q
      exact absurd hk (by omega)
    · have hk := nI_k (k := 7) h31 (by decide) q
      exact absurd hk (by omega)
    · exact ⟨_, yG.of hp rfl, ⟨by decide, by decide⟩, yIs.of hp1, _, S_Lf_1 hp1 hx.2.1 hn.2.1 hg hm, ⟨by decide, by decide⟩, H, yLe.refl _, by simp [s1V, h9], rfl, rfl⟩
    · have hk := nI_k (k := 9) h31 (by decide) q
      exact absurd hk (by omega)
    · have hk := nI_k (k := 10) h31 (by decide) q
      exact absurd hk (by omega)
    · have hk := nI_k (k := 11) h31 (by decide) q
      exact absurd hk (by omega)
    · have hk := nI_k (k := 12) h31 (by decide) q
      exact absurd hk (by omega)
    · have hk := nI_k (k := 13) h31 (by decide) q
      exact absurd hk (by omega)
    · have hk := nI_k (k := 14) h31 (by decide) q
      exact absurd hk (by omega)
    · have hk := nI_k (k := 15) h31 (by decide) q
      exact absurd hk (by omega)
    · have hk := nI_k (k := 16) h31 (by decide) q
      exact absurd hk (by omega)
    · have hk := nI_k (k := 17) h31 (by decide) q
      exact absurd hk (by omega)
    · have hk := nI_k (k := 18) h31 (by decide) q
      exact absurd hk (by omega)
    · have hk := nI_k (k := 19) h31 (by decide) q
      exact absurd hk (by omega)
    · have hk := nI_k (k := 20) h31 (by decide) q
      exact absurd hk (by omega)
    · have hk := nI_k (k := 21) h31 (by decide) q
      exact absurd hk (by omega)
    · have hk := nI_k (k := 22) h31 (by decide) q
      exact absurd hk (by omega)
  have h15 := hx.1
  obtain ⟨p, t, hp, hp1, hp2⟩ := ha.2.2 (by omega)
  have e : s1V B r x = bothV x.1 (lfV B r x.2.2.1) (lfV B r x.2.2.2) := by unfold s1V; rw [if_neg h8, if_neg h9]
  rw [e]
  refine yRd.of (yCal.weakI (C_X13_value_2 G M H _ a g ⟨_, yG.of hp rfl, fun q => ?_, fun q => ?_, fun q => ?_, fun q => ?_, fun q => ?_, fun q => ?_, fun q => ?_, fun q => ?_, fun q => ?_, fun q => ?_, fun q => ?_, fun q => ?_, fun q => ?_, fun q => ?_, fun q => ?_, fun q => ?_, fun q => ?_, fun q => ?_, fun q => ?_, fun q => ?_, fun q => ?_, fun q => ?_, fun q => ?_, fun q => ?_⟩))
  · rw [nI_toInt h31] at q; omega
  · have hk := nI_k (k := 0) h31 (by decide) q
    exact absurd hk (by omega)
  · have hk := nI_k (k := 1) h31 (by decide) q
    exact absurd hk (by omega)
  · have hk := nI_k (k := 2) h31 (by decide) q
    exact absurd hk (by omega)
  · have hk := nI_k (k := 3) h31 (by decide) q
    exact absurd hk (by omega)
  · have hk := nI_k (k := 4) h31 (by decide) q
    exact absurd hk (by omega)
  · have hk := nI_k (k := 5) h31 (by decide) q
    exact absurd hk (by omega)
  · have hk := nI_k (k := 6) h31 (by decide) q
    exact absurd hk (by omega)
  · have hk := nI_k (k := 7) h31 (by decide) q
    exact absurd hk (by omega)
  · have hk := nI_k (k := 8) h31 (by decide) q
    exact absurd hk (by omega)
  · exact B_X13_value_2_243 G _ _ M H _ a g ⟨_, yG.of hp rfl, _, yG.of hp rfl, ⟨by decide, by decide⟩, yIs.of hp1, _, S_Lf_1 hp1 hx.2.1 hn.2.1 hg hm, _, yG.of hp rfl, ⟨by decide, by decide⟩, yIs.of hp2, _, S_Lf_1 hp2 hx.2.2 hn.2.2 hg hm, ⟨by decide, by decide⟩, _, S_both (by omega) _ _, ⟨by decide, by decide⟩, H, yLe.refl _, rfl, rfl, rfl⟩
  · exact B_X13_value_2_243 G _ _ M H _ a g ⟨_, yG.of hp rfl, _, yG.of hp rfl, ⟨by decide, by decide⟩, yIs.of hp1, _, S_Lf_1 hp1 hx.2.1 hn.2.1 hg hm, _, yG.of hp rfl, ⟨by decide, by decide⟩, yIs.of hp2, _, S_Lf_1 hp2 hx.2.2 hn.2.2 hg hm, ⟨by decide, by decide⟩, _, S_both (by omega) _ _, ⟨by decide, by decide⟩, H, yLe.refl _, rfl, rfl, rfl⟩
  · exact B_X13_value_2_243 G _ _ M H _ a g ⟨_, yG.of hp rfl, _, yG.of hp rfl, ⟨by decide, by decide⟩, yIs.of hp1, _, S_Lf_1 hp1 hx.2.1 hn.2.1 hg hm, _, yG.of hp rfl, ⟨by decide, by decide⟩, yIs.of hp2, _, S_Lf_1 hp2 hx.2.2 hn.2.2 hg hm, ⟨by decide, by decide⟩, _, S_both (by omega) _ _, ⟨by decide, by decide⟩, H, yLe.refl _, rfl, rfl, rfl⟩
  · exact B_X13_value_2_243 G _ _ M H _ a g ⟨_, yG.of hp rfl, _, yG.of hp rfl, ⟨by decide, by decide⟩, yIs.of hp1, _, S_Lf_1 hp1 hx.2.1 hn.2.1 hg hm, _, yG.of hp rfl, ⟨by decide, by decide⟩, yIs.of hp2, _, S_Lf_1 hp2 hx.2.2 hn.2.2 hg hm, ⟨by decide, by decide⟩, _, S_both (by omega) _ _, ⟨by decide, by decide⟩, H, yLe.refl _, rfl, rfl, rfl⟩
  · exact B_X13_value_2_243 G _ _ M H _ a g ⟨_, yG.of hp rfl, _, yG.of hp rfl, ⟨by decide, by decide⟩, yIs.of hp1, _, S_Lf_1 hp1 hx.2.1 hn.2.1 hg hm, _, yG.of hp rfl, ⟨by decide, by decide⟩, yIs.of hp2, _, S_Lf_1 hp2 hx.2.2 hn.2.2 hg hm, ⟨by decide, by decide⟩, _, S_both (by omega) _ _, ⟨by decide, by decide⟩, H, yLe.refl _, rfl, rfl, rfl⟩
  · exact B_X13_value_2_243 G _ _ M H _ a g ⟨_, yG.of hp rfl, _, yG.of hp rfl, ⟨by decide, by decide⟩, yIs.of hp1, _, S_Lf_1 hp1 hx.2.1 hn.2.1 hg hm, _, yG.of hp rfl, ⟨by decide, by decide⟩, yIs.of hp2, _, S_Lf_1 hp2 hx.2.2 hn.2.2 hg hm, ⟨by decide, by decide⟩, _, S_both (by omega) _ _, ⟨by decide, by decide⟩, H, yLe.refl _, rfl, rfl, rfl⟩
  · exact B_X13_value_2_243 G _ _ M H _ a g ⟨_, yG.of hp rfl, _, yG.of hp rfl, ⟨by decide, by decide⟩, yIs.of hp1, _, S_Lf_1 hp1 hx.2.1 hn.2.1 hg hm, _, yG.of hp rfl, ⟨by decide, by decide⟩, yIs.of hp2, _, S_Lf_1 hp2 hx.2.2 hn.2.2 hg hm, ⟨by decide, by decide⟩, _, S_both (by omega) _ _, ⟨by decide, by decide⟩, H, yLe.refl _, rfl, rfl, rfl⟩
  · exact B_X13_value_2_243 G _ _ M H _ a g ⟨_, yG.of hp rfl, _, yG.of hp rfl, ⟨by decide, by decide⟩, yIs.of hp1, _, S_Lf_1 hp1 hx.2.1 hn.2.1 hg hm, _, yG.of hp rfl, ⟨by decide, by decide⟩, yIs.of hp2, _, S_Lf_1 hp2 hx.2.2 hn.2.2 hg hm, ⟨by decide, by decide⟩, _, S_both (by omega) _ _, ⟨by decide, by decide⟩, H, yLe.refl _, rfl, rfl, rfl⟩
  · exact B_X13_value_2_243 G _ _ M H _ a g ⟨_, yG.of hp rfl, _, yG.of hp rfl, ⟨by decide, by decide⟩, yIs.of hp1, _, S_Lf_1 hp1 hx.2.1 hn.2.1 hg hm, _, yG.of hp rfl, ⟨by decide, by decide⟩, yIs.of hp2, _, S_Lf_1 hp2 hx.2.2 hn.2.2 hg hm, ⟨by decide, by decide⟩, _, S_both (by omega) _ _, ⟨by decide, by decide⟩, H, yLe.refl _, rfl, rfl, rfl⟩
  · exact B_X13_value_2_243 G _ _ M H _ a g ⟨_, yG.of hp rfl, _, yG.of hp rfl, ⟨by decide, by decide⟩, yIs.of hp1, _, S_Lf_1 hp1 hx.2.1 hn.2.1 hg hm, _, yG.of hp rfl, ⟨by decide, by decide⟩, yIs.of hp2, _, S_Lf_1 hp2 hx.2.2 hn.2.2 hg hm, ⟨by decide, by decide⟩, _, S_both (by omega) _ _, ⟨by decide, by decide⟩, H, yLe.refl _, rfl, rfl, rfl⟩
  · exact B_X13_value_2_243 G _ _ M H _ a g ⟨_, yG.of hp rfl, _, yG.of hp rfl, ⟨by decide, by decide⟩, yIs.of hp1, _, S_Lf_1 hp1 hx.2.1 hn.2.1 hg hm, _, yG.of hp rfl, ⟨by decide, by decide⟩, yIs.of hp2, _, S_Lf_1 hp2 hx.2.2 hn.2.2 hg hm, ⟨by decide, by decide⟩, _, S_both (by omega) _ _, ⟨by decide, by decide⟩, H, yLe.refl _, rfl, rfl, rfl⟩
  · have hk := nI_k (k := 20) h31 (by decide) q
    exact absurd hk (by omega)
  · have hk := nI_k (k := 21) h31 (by decide) q
    exact absurd hk (by omega)
  · have hk := nI_k (k := 22) h31 (by decide) q
    exact absurd hk (by omega)
set_option maxHeartbeats 4000000 in
theorem S_T0_2 {a : Nat} {x : xT0} (ha : nT0 H a x) (hx : t0Ok x) (hn : t0M (bN B) x) (hg : gAt G H g ta oa tk B r) (hm : bGm B) : yRd G (8, 8, 216) kX13_value [.ref a, .ref g] M H (.int (t0V B r x)) := by
  have hb := hm.1
  have h16 := hb.2.2.1
  have h31 : x.1 < 2 ^ 31 := by have := hx.1.2; omega
  have h15 := hx.1
  by_cases h20 : x.1 < 20
  · obtain ⟨p, t, hp, hp1, hp2⟩ := ha.1 h20
    have e : t0V B r x = bothV x.1 (s1V B r x.2.2.1) (lfV B r x.2.2.2) := by unfold t0V; rw [if_pos h20]
    rw [e]
    refine yRd.of (yCal.weakI (C_X13_value_2 G M H _ a g ⟨_, yG.of hp rfl, fun q => ?_, fun q => ?_, fun q => ?_, fun q => ?_, fun q => ?_, fun q => ?_, fun q => ?_, fun q => ?_, fun q => ?_, fun q => ?_, fun q => ?_, fun q => ?_, fun q => ?_, fun q => ?_, fun q => ?_, fun q => ?_, fun q => ?_, fun q => ?_, fun q => ?_, fun q => ?_, fun q => ?_, fun q => ?_, fun q => ?_, fun q => ?_⟩))
    · rw [nI_toInt h31] at q; omega
    · have hk := nI_k (k := 0) h31 (by decide) q
      exact absurd hk (by omega)
    · have hk := nI_k (k := 1) h31 (by decide) q
      exact absurd hk (by omega)
    · have hk := nI_k (k := 2) h31 (by decide) q
      exact absurd hk (by omega)
    · have hk := nI_k (k := 3) h31 (by decide) q
      exact absurd hk (by omega)
    · have hk := nI_k (k := 4) h31 (by decide) q
      exact absurd hk (by omega)
    · have hk := nI_k (k := 5) h31 (by decide) q
      exact absurd hk (by omega)
    · have hk := nI_k (k := 6) h31 (by decide) q
      exact absurd hk (by omega)
    · have hk := nI_k (k := 7) h31 (by decide) q
      exact absurd hk (by omega)
    · have hk := nI_k (k := 8) h31 (by decide) q
      exact absurd hk (by omega)
    · exact B_X13_value_2_243 G _ _ M H _ a g ⟨_, yG.of hp rfl, _, yG.of hp rfl, ⟨by decide, by decide⟩, hp1.is, _, S_S1_1 hp1 hx.2.1 hn.2.1 hg hm, _, yG.of hp rfl, ⟨by decide, by decide⟩, yIs.of hp2, _, S_Lf_1 hp2 hx.2.2 hn.2.2 hg hm, ⟨by decide, by decide⟩, _, S_both (by omega) _ _, ⟨by decide, by decide⟩, H, yLe.refl _, rfl, rfl, rfl⟩
    · exact B_X13_value_2_243 G _ _ M H _ a g ⟨_, yG.of hp rfl, _, yG.of hp rfl, ⟨by decide, by decide⟩, hp1.is, _, S_S1_1 hp1 hx.2.1 hn.2.1 hg hm, _, yG.of hp rfl, ⟨by decide, by decide⟩, yIs.of hp2, _, S_Lf_1 hp2 hx.2.2 hn.2.2 hg hm, ⟨by decide, by decide⟩, _, S_both (by omega) _ _, ⟨by decide, by decide⟩, H, yLe.refl _, rfl, rfl, rfl⟩
    · exact B_X13_value_2_243 G _ _ M H _ a g ⟨_, yG.of hp rfl, _, yG.of hp rfl, ⟨by decide, by decide⟩, hp1.is, _, S_S1_1 hp1 hx.2.1 hn.2.1 hg hm, _, yG.of hp rfl, ⟨by decide, by decide⟩, yIs.of hp2, _, S_Lf_1 hp2 hx.2.2 hn.2.2 hg hm, ⟨by decide, by decide⟩, _, S_both (by omega) _ _, ⟨by decide, by decide⟩, H, yLe.refl _, rfl, rfl, rfl⟩
    · exact B_X13_value_2_243 G _ _ M H _ a g ⟨_, yG.of hp rfl, _, yG.of hp rfl, ⟨by decide, by decide⟩, hp1.is, _, S_S1_1 hp1 hx.2.1 hn.2.1 hg hm, _, yG.of hp rfl, ⟨by decide, by decide⟩, yIs.of hp2, _, S_Lf_1 hp2 hx.2.2 hn.2.2 hg hm, ⟨by decide, by decide⟩, _, S_both (by omega) _ _, ⟨by decide, by decide⟩, H, yLe.refl _, rfl, rfl, rfl⟩
    · exact B_X13_value_2_243 G _ _ M H _ a g ⟨_, yG.of hp rfl, _, yG.of hp rfl, ⟨by decide, by decide⟩, hp1.is, _, S_S1_1 hp1 hx.2.1 hn.2.1 hg hm, _, yG.of hp rfl, ⟨by decide, by decide⟩, yIs.of hp2, _, S_Lf_1 hp2 hx.2.2 hn.2.2 hg hm, ⟨by decide, by decide⟩, _, S_both (by omega) _ _, ⟨by decide, by decide⟩, H, yLe.refl _, rfl, rfl, rfl⟩
    · exact B_X13_value_2_243 G _ _ M H _ a g ⟨_, yG.of hp rfl, _, yG.of hp rfl, ⟨by decide, by decide⟩, hp1.is, _, S_S1_1 hp1 hx.2.1 hn.2.1 hg hm, _, yG.of hp rfl, ⟨by decide, by decide⟩, yIs.of hp2, _, S_Lf_1 hp2 hx.2.2 hn.2.2 hg hm, ⟨by decide, by decide⟩, _, S_both (by omega) _ _, ⟨by decide, by decide⟩, H, yLe.refl _, rfl, rfl, rfl⟩
    · exact B_X13_value_2_243 G _ _ M H _ a g ⟨_, yG.of hp rfl, _, yG.of hp rfl, ⟨by decide, by decide⟩, hp1.is, _, S_S1_1 hp1 hx.2.1 hn.2.1 hg hm, _, yG.of hp rfl, ⟨by decide, by decide⟩, yIs.of hp2, _, S_Lf_1 hp2 hx.2.2 hn.2.2 hg hm, ⟨by decide, by decide⟩, _, S_both (by omega) _ _, ⟨by decide, by decide⟩, H, yLe.refl _, rfl, rfl, rfl⟩
    · exact B_X13_value_2_243 G _ _ M H _ a g ⟨_, yG.of hp rfl, _, yG.of hp rfl, ⟨by decide, by decide⟩, hp1.is, _, S_S1_1 hp1 hx.2.1 hn.2.1 hg hm, _, yG.of hp rfl, ⟨by decide, by decide⟩, yIs.of hp2, _, S_Lf_1 hp2 hx.2.2 hn.2.2 hg hm, ⟨by decide, by decide⟩, _, S_both (by omega) _ _, ⟨by decide, by decide⟩, H, yLe.refl _, rfl, rfl, rfl⟩
    · exact B_X13_value_2_243 G _ _ M H _ a g ⟨_, yG.of hp rfl, _, yG.of hp rfl, ⟨by decide, by decide⟩, hp1.is, _, S_S1_1 hp1 hx.2.1 hn.2.1 hg hm, _, yG.of hp rfl, ⟨by decide, by decide⟩, yIs.of hp2, _, S_Lf_1 hp2 hx.2.2 hn.2.2 hg hm, ⟨by decide, by decide⟩, _, S_both (by omega) _ _, ⟨by decide, by decide⟩, H, yLe.refl _, rfl, rfl, rfl⟩
    · exact B_X13_value_2_243 G _ _ M H _ a g ⟨_, yG.of hp rfl, _, yG.of hp rfl, ⟨by decide, by decide⟩, hp1.is, _, S_S1_1 hp1 hx.2.1 hn.2.1 hg hm, _, yG.of hp rfl, ⟨by decide, by decide⟩, yIs.of hp2, _, S_Lf_1 hp2 hx.2.2 hn.2.2 hg hm, ⟨by decide, by decide⟩, _, S_both (by omega) _ _, ⟨by decide, by decide⟩, H, yLe.refl _, rfl, rfl, rfl⟩
    · exact B_X13_value_2_243 G _ _ M H _ a g ⟨_, yG.of hp rfl, _, yG.of hp rfl, ⟨by decide, by decide⟩, hp1.is, _, S_S1_1 hp1 hx.2.1 hn.2.1 hg hm, _, yG.of hp rfl, ⟨by decide, by decide⟩, yIs.of hp2, _, S_Lf_1 hp2 hx.2.2 hn.2.2 hg hm, ⟨by decide, by decide⟩, _, S_both (by omega) _ _, ⟨by decide, by decide⟩, H, yLe.refl _, rfl, rfl, rfl⟩
    · have hk := nI_k (k := 20) h31 (by decide) q
      exact absurd hk (by omega)
    · have hk := nI_k (k := 21) h31 (by decide) q
      exact absurd hk (by omega)
    · have hk := nI_k (k := 22) h31 (by decide) q
      exact absurd hk (by omega)
  have hp := ha.2 (by omega)
  have hnn := hn.1 (by omega)
  refine yRd.of (yCal.weakI (C_X13_value_2 G M H _ a g ⟨_, yG.of hp rfl, fun q => ?_, fun q => ?_, fun q => ?_, fun q => ?_, fun q => ?_, fun q => ?_, fun q => ?_, fun q => ?_, fun q => ?_, fun q => ?_, fun q => ?_, fun q => ?_, fun q => ?_, fun q => ?_, fun q => ?_, fun q => ?_, fun q => ?_, fun q => ?_, fun q => ?_, fun q => ?_, fun q => ?_, fun q => ?_, fun q => ?_, fun q => ?_⟩))
  · rw [nI_toInt h31] at q; omega
  · have hk := nI_k (k := 0) h31 (by decide) q
    exact absurd hk (by omega)
  · have hk := nI_k (k := 1) h31 (by decide) q
    exact absurd hk (by omega)
  · have hk := nI_k (k := 2) h31 (by decide) q
    exact absurd hk (by omega)
  · have hk := nI_k (k := 3) h31 (by decide) q
    exact absurd hk (by omega)
  · have hk := nI_k (k := 4) h31 (by decide) q
    exact absurd hk (by omega)
  · have hk := nI_k (k := 5) h31 (by decide) q
    exact absurd hk (by omega)
  · have hk := nI_k (k := 6) h31 (by decide) q
    exact absurd hk (by omega)
  · have hk := nI_k (k := 7) h31 (by decide) q
    exact absurd hk (by omega)
  · have hk := nI_k (k := 8) h31 (by decide) q
    exact absurd hk (by omega)
  · have hk := nI_k (k := 9) h31 (by decide) q
    exact absurd hk (by omega)
  · have hk := nI_k (k := 10) h31 (by decide) q
    exact absurd hk (by omega)
  · have hk := nI_k (k := 11) h31 (by decide) q
    exact absurd hk (by omega)
  · have hk := nI_k (k := 12) h31 (by decide) q
    exact absurd hk (by omega)
  · have hk := nI_k (k := 13) h31 (by decide) q
    exact absurd hk (by omega)
  · have hk := nI_k (k := 14) h31 (by decide) q
    exact absurd hk (by omega)
  · have hk := nI_k (k := 15) h31 (by decide) q
    exact absurd hk (by omega)
  · have hk := nI_k (k := 16) h31 (by decide) q
    exact absurd hk (by omega)
  · have hk := nI_k (k := 17) h31 (by decide) q
    exact absurd hk (by omega)
  · have hk := nI_k (k := 18) h31 (by decide) q
    exact absurd hk (by omega)
  · have hk := nI_k (k := 19) h31 (by decide) q
    exact absurd hk (by omega)
  · have hk := nI_k (k := 20) h31 (by decide) q
    refine ⟨_, hg.tA, _, yG.of hp rfl, _, hg.tile hb hnn, _, hg.t3 hnn, ?_⟩
    cases h1 : bCe B x.2.1 with
    | none => exact ⟨fun _ => ⟨⟨by decide, by decide⟩, H, yLe.refl _, by simp [t0V, hk, h1], rfl, rfl⟩, fun z => absurd eM1l z⟩
    | some c =>
      have hc := (hb.2.2.2.2.1 _ c hnn h1).1
      have h49 := hb.c49
      exact ⟨fun z => absurd z (nI_pos (by omega)), fun _ => ⟨⟨by decide, by decide⟩, H, yLe.refl _, by simp [t0V, hk, h1], rfl, rfl⟩⟩
  · have hk := nI_k (k := 21) h31 (by decide) q
    have h49 := hb.c49
    have hw : bWays B x.2.1 ≤ 49 * 6 := Nat.le_trans (zSm_le (k := 6) (fun c _ => Nat.le_trans (zSm_le (k := 1) (fun t _ => by split <;> omega)) (by omega))) (Nat.mul_le_mul_right 6 h49)
    refine ⟨⟨by decide, by decide⟩, yIs.of hg.1, S_board hg hb (fun q hq fb hfb => ⟨_, yG.of (yLe.new hq _ _ _ hp) rfl, ⟨by decide, by decide⟩, yIs.of (hg.new hq _).1, _, S_ways (hg.new hq _) hb ⟨fb, yU_same _ _ _, hfb⟩ hnn, fun z => ?_, fun z => ?_⟩)⟩
    · have h0 : ¬ 0 < bWays B x.2.1 := fun y => absurd z (nI_nle y (by omega))
      exact ⟨⟨by decide, by decide⟩, H, yLe.new hq _, by simp [t0V, hk]; omega, rfl, rfl⟩
    · have h0 : 0 < bWays B x.2.1 := Nat.pos_of_ne_zero (fun y => z (by rw [y]; exact Int32.le_refl _))
      exact ⟨⟨by decide, by decide⟩, H, yLe.new hq _, by simp [t0V, hk]; omega, rfl, rfl⟩
  · have hk := nI_k (k := 22) h31 (by decide) q
    exact absurd hk (by omega)
set_option maxHeartbeats 4000000 in
theorem S_T0_3 {a : Nat} {x : xT0} (ha : nT0 H a x) (hx : t0Ok x) (hn : t0M (bN B) x) (hg : gAt G H g ta oa tk B r) (hm : bGm B) : yRd G (9, 16, 432) kX13_value [.ref a, .ref g] M H (.int (t0V B r x)) := by
  have hb := hm.1
  have h16 := hb.2.2.1
  have h31 : x.1 < 2 ^ 31 := by have := hx.1.2; omega
  have h15 := hx.1
  by_cases h20 : x.1 < 20
  · obtain ⟨p, t, hp, hp1, hp2⟩ := ha.1 h20
    have e : t0V B r x = bothV x.1 (s1V B r x.2.2.1) (lfV B r x.2.2.2) := by unfold t0V; rw [if_pos h20]
    rw [e]
    refine yRd.of (yCal.weakI (C_X13_value_3 G M H _ a g ⟨_, yG.of hp rfl, fun q => ?_, fun q => ?_, fun q => ?_, fun q => ?_, fun q => ?_, fun q => ?_, fun q => ?_, fun q => ?_, fun q => ?_, fun q => ?_, fun q => ?_, fun q => ?_, fun q => ?_, fun q => ?_, fun q => ?_, fun q => ?_, fun q => ?_, fun q => ?_, fun q => ?_, fun q => ?_, fun q => ?_, fun q => ?_, fun q => ?_, fun q => ?_⟩))
    · rw [nI_toInt h31] at q; omega
    · have hk := nI_k (k := 0) h31 (by decide) q
      exact absurd hk (by omega)
    · have hk := nI_k (k := 1) h31 (by decide) q
      exact absurd hk (by omega)
    · have hk := nI_k (k := 2) h31 (by decide) q
      exact absurd hk (by omega)
    · have hk := nI_k (k := 3) h31 (by decide) q
      exact absurd hk (by omega)
    · have hk := nI_k (k := 4) h31 (by decide) q
      exact absurd hk (by omega)
    · have hk := nI_k (k := 5) h31 (by decide) q
      exact absurd hk (by omega)
    · have hk := nI_k (k := 6) h31 (by decide) q
      exact absurd hk (by omega)
    · have hk := nI_k (k := 7) h31 (by decide) q
      exact absurd hk (by omega)
    · have hk := nI_k (k := 8) h31 (by decide) q
      exact absurd hk (by omega)
    · exact B_X13_value_3_243 G _ _ M H _ a g ⟨_, yG.of hp rfl, _, yG.of hp rfl, ⟨by decide, by decide⟩, hp1.is, _, S_S1_2 hp1 hx.2.1 hn.2.1 hg hm, _, yG.of hp rfl, ⟨by decide, by decide⟩, yIs.of hp2, _, S_Lf_2 hp2 hx.2.2 hn.2.2 hg hm, ⟨by decide, by decide⟩, _, S_both (by omega) _ _, ⟨by decide, by decide⟩, H, yLe.refl _, rfl, rfl, rfl⟩
    · exact B_X13_value_3_243 G _ _ M H _ a g ⟨_, yG.of hp rfl, _, yG.of hp rfl, ⟨by decide, by decide⟩, hp1.is, _, S_S1_2 hp1 hx.2.1 hn.2.1 hg hm, _, yG.of hp rfl, ⟨by decide, by decide⟩, yIs.of hp2, _, S_Lf_2 hp2 hx.2.2 hn.2.2 hg hm, ⟨by decide, by decide⟩, _, S_both (by omega) _ _, ⟨by decide, by decide⟩, H, yLe.refl _, rfl, rfl, rfl⟩
    · exact B_X13_value_3_243 G _ _ M H _ a g ⟨_, yG.of hp rfl, _, yG.of hp rfl, ⟨by decide, by decide⟩, hp1.is, _, S_S1_2 hp1 hx.2.1 hn.2.1 hg hm, _, yG.of hp rfl, ⟨by decide, by decide⟩, yIs.of hp2, _, S_Lf_2 hp2 hx.2.2 hn.2.2 hg hm, ⟨by decide, by decide⟩, _, S_both (by omega) _ _, ⟨by decide, by decide⟩, H, yLe.refl _, rfl, rfl, rfl⟩
    · exact B_X13_value_3_243 G _ _ M H _ a g ⟨_, yG.of hp rfl, _, yG.of hp rfl, ⟨by decide, by decide⟩, hp1.is, _, S_S1_2 hp1 hx.2.1 hn.2.1 hg hm, _, yG.of hp rfl, ⟨by decide, by decide⟩, yIs.of hp2, _, S_Lf_2 hp2 hx.2.2 hn.2.2 hg hm, ⟨by decide, by decide⟩, _, S_both (by omega) _ _, ⟨by decide, by decide⟩, H, yLe.refl _, rfl, rfl, rfl⟩
    · exact B_X13_value_3_243 G _ _ M H _ a g ⟨_, yG.of hp rfl, _, yG.of hp rfl, ⟨by decide, by decide⟩, hp1.is, _, S_S1_2 hp1 hx.2.1 hn.2.1 hg hm, _, yG.of hp rfl, ⟨by decide, by decide⟩, yIs.of hp2, _, S_Lf_2 hp2 hx.2.2 hn.2.2 hg hm, ⟨by decide, by decide⟩, _, S_both (by omega) _ _, ⟨by decide, by decide⟩, H, yLe.refl _, rfl, rfl, rfl⟩
    · exact B_X13_value_3_243 G _ _ M H _ a g ⟨_, yG.of hp rfl, _, yG.of hp rfl, ⟨by decide, by decide⟩, hp1.is, _, S_S1_2 hp1 hx.2.1 hn.2.1 hg hm, _, yG.of hp rfl, ⟨by decide, by decide⟩, yIs.of hp2, _, S_Lf_2 hp2 hx.2.2 hn.2.2 hg hm, ⟨by decide, by decide⟩, _, S_both (by omega) _ _, ⟨by decide, by decide⟩, H, yLe.refl _, rfl, rfl, rfl⟩
    · exact B_X13_value_3_243 G _ _ M H _ a g ⟨_, yG.of hp rfl, _, yG.of hp rfl, ⟨by decide, by decide⟩, hp1.is, _, S_S1_2 hp1 hx.2.1 hn.2.1 hg hm, _, yG.of hp rfl, ⟨by decide, by decide⟩, yIs.of hp2, _, S_Lf_2 hp2 hx.2.2 hn.2.2 hg hm, ⟨by decide, by decide⟩, _, S_both (by omega) _ _, ⟨by decide, by decide⟩, H, yLe.refl _, rfl, rfl, rfl⟩
    · exact B_X13_value_3_243 G _ _ M H _ a g ⟨_, yG.of hp rfl, _, yG.of hp rfl, ⟨by decide, by decide⟩, hp1.is, _, S_S1_2 hp1 hx.2.1 hn.2.1 hg hm, _, yG.of hp rfl, ⟨by decide, by decide⟩, yIs.of hp2, _, S_Lf_2 hp2 hx.2.2 hn.2.2 hg hm, ⟨by decide, by decide⟩, _, S_both (by omega) _ _, ⟨by decide, by decide⟩, H, yLe.refl _, rfl, rfl, rfl⟩
    · exact B_X13_value_3_243 G _ _ M H _ a g ⟨_, yG.of hp rfl, _, yG.of hp rfl, ⟨by decide, by decide⟩, hp1.is, _, S_S1_2 hp1 hx.2.1 hn.2.1 hg hm, _, yG.of hp rfl, ⟨by decide, by decide⟩, yIs.of hp2, _, S_Lf_2 hp2 hx.2.2 hn.2.2 hg hm, ⟨by decide, by decide⟩, _, S_both (by omega) _ _, ⟨by decide, by decide⟩, H, yLe.refl _, rfl, rfl, rfl⟩
    · exact B_X13_value_3_243 G _ _ M H _ a g ⟨_, yG.of hp rfl, _, yG.of hp rfl, ⟨by decide, by decide⟩, hp1.is, _, S_S1_2 hp1 hx.2.1 hn.2.1 hg hm, _, yG.of hp rfl, ⟨by decide, by decide⟩, yIs.of hp2, _, S_Lf_2 hp2 hx.2.2 hn.2.2 hg hm, ⟨by decide, by decide⟩, _, S_both (by omega) _ _, ⟨by decide, by decide⟩, H, yLe.refl _, rfl, rfl, rfl⟩
    · exact B_X13_value_3_243 G _ _ M H _ a g ⟨_, yG.of hp rfl, _, yG.of hp rfl, ⟨by decide, by decide⟩, hp1.is, _, S_S1_2 hp1 hx.2.1 hn.2.1 hg hm, _, yG.of hp rfl, ⟨by decide, by decide⟩, yIs.of hp2, _, S_Lf_2 hp2 hx.2.2 hn.2.2 hg hm, ⟨by decide, by decide⟩, _, S_both (by omega) _ _, ⟨by decide, by decide⟩, H, yLe.refl _, rfl, rfl, rfl⟩
    · have hk := nI_k (k := 20) h31 (by decide) q
      exact absurd hk (by omega)
    · have hk := nI_k (k := 21) h31 (by decide) q
      exact absurd hk (by omega)
    · have hk := nI_k (k := 22) h31 (by decide) q
      exact absurd hk (by omega)
  have hp := ha.2 (by omega)
  have hnn := hn.1 (by omega)
  refine yRd.of (yCal.weakI (C_X13_value_3 G M H _ a g ⟨_, yG.of hp rfl, fun q => ?_, fun q => ?_, fun q => ?_, fun q => ?_, fun q => ?_, fun q => ?_, fun q => ?_, fun q => ?_, fun q => ?_, fun q => ?_, fun q => ?_, fun q => ?_, fun q => ?_, fun q => ?_, fun q => ?_, fun q => ?_, fun q => ?_, fun q => ?_, fun q => ?_, fun q => ?_, fun q => ?_, fun q => ?_, fun q => ?_, fun q => ?_⟩))
  · rw [nI_toInt h31] at q; omega
  · have hk := nI_k (k := 0) h31 (by decide) q
    exact absurd hk (by omega)
  · have hk := nI_k (k := 1) h31 (by decide) q
    exact absurd hk (by omega)
  · have hk := nI_k (k := 2) h31 (by decide) q
    exact absurd hk (by omega)
  · have hk := nI_k (k := 3) h31 (by decide) q
    exact absurd hk (by omega)
  · have hk := nI_k (k := 4) h31 (by decide) q
    exact absurd hk (by omega)
  · have hk := nI_k (k := 5) h31 (by decide) q
    exact absurd hk (by omega)
  · have hk := nI_k (k := 6) h31 (by decide) q
    exact absurd hk (by omega)
  · have hk := nI_k (k := 7) h31 (by decide) q
    exact absurd hk (by omega)
  · have hk := nI_k (k := 8) h31 (by decide) q
    exact absurd hk (by omega)
  · have hk := nI_k (k := 9) h31 (by decide) q
    exact absurd hk (by omega)
  · have hk := nI_k (k := 10) h31 (by decide) q
    exact absurd hk (by omega)
  · have hk := nI_k (k := 11) h31 (by decide) q
    exact absurd hk (by omega)
  · have hk := nI_k (k := 12) h31 (by decide) q
    exact absurd hk (by omega)
  · have hk := nI_k (k := 13) h31 (by decide) q
    exact absurd hk (by omega)
  · have hk := nI_k (k := 14) h31 (by decide) q
    exact absurd hk (by omega)
  · have hk := nI_k (k := 15) h31 (by decide) q
    exact absurd hk (by omega)
  · have hk := nI_k (k := 16) h31 (by decide) q
    exact absurd hk (by omega)
  · have hk := nI_k (k := 17) h31 (by decide) q
    exact absurd hk (by omega)
  · have hk := nI_k (k := 18) h31 (by decide) q
    exact absurd hk (by omega)
  · have hk := nI_k (k := 19) h31 (by decide) q
    exact absurd hk (by omega)
  · have hk := nI_k (k := 20) h31 (by decide) q
    refine ⟨_, hg.tA, _, yG.of hp rfl, _, hg.tile hb hnn, _, hg.t3 hnn, ?_⟩
    cases h1 : bCe B x.2.1 with
    | none => exact ⟨fun _ => ⟨⟨by decide, by decide⟩, H, yLe.refl _, by simp [t0V, hk, h1], rfl, rfl⟩, fun z => absurd eM1l z⟩
    | some c =>
      have hc := (hb.2.2.2.2.1 _ c hnn h1).1
      have h49 := hb.c49
      exact ⟨fun z => absurd z (nI_pos (by omega)), fun _ => ⟨⟨by decide, by decide⟩, H, yLe.refl _, by simp [t0V, hk, h1], rfl, rfl⟩⟩
  · have hk := nI_k (k := 21) h31 (by decide) q
    have h49 := hb.c49
    have hw : bWays B x.2.1 ≤ 49 * 6 := Nat.le_trans (zSm_le (k := 6) (fun c _ => Nat.le_trans (zSm_le (k := 1) (fun t _ => by split <;> omega)) (by omega))) (Nat.mul_le_mul_right 6 h49)
    refine ⟨⟨by decide, by decide⟩, yIs.of hg.1, S_board hg hb (fun q hq fb hfb => ⟨_, yG.of (yLe.new hq _ _ _ hp) rfl, ⟨by decide, by decide⟩, yIs.of (hg.new hq _).1, _, S_ways (hg.new hq _) hb ⟨fb, yU_same _ _ _, hfb⟩ hnn, fun z => ?_, fun z => ?_⟩)⟩
    · have h0 : ¬ 0 < bWays B x.2.1 := fun y => absurd z (nI_nle y (by omega))
      exact ⟨⟨by decide, by decide⟩, H, yLe.new hq _, by simp [t0V, hk]; omega, rfl, rfl⟩
    · have h0 : 0 < bWays B x.2.1 := Nat.pos_of_ne_zero (fun y => z (by rw [y]; exact Int32.le_refl _))
      exact ⟨⟨by decide, by decide⟩, H, yLe.new hq _, by simp [t0V, hk]; omega, rfl, rfl⟩
  · have hk := nI_k (k := 22) h31 (by decide) q
    exact absurd hk (by omega)
set_option maxHeartbeats 4000000 in
theorem S_T1_3 {a : Nat} {x : xT1} (ha : nT1 H a x) (hx : t1Ok x) (hn : t1M (bN B) x) (hg : gAt G H g ta oa tk B r) (hm : bGm B) : yRd G (9, 16, 432) kX13_value [.ref a, .ref g] M H (.int (t1V B r x)) := by
  have hb := hm.1
  have h16 := hb.2.2.1
  have h31 : x.1 < 2 ^ 31 := by have := hx.1; omega
  have h25 := hx.1
  by_cases h22 : x.1 < 22
  · have e : t1V B r x = t0V B r x.2.1 := by unfold t1V; rw [if_pos h22]
    rw [e]
    exact S_T0_3 (ha.1 h22).2 hx.2.1 hn.1 hg hm
  by_cases h9 : x.1 = 22
  · obtain ⟨p, hp, hp1⟩ := ha.2.1 h9
    refine yRd.of (yCal.weakI (C_X13_value_3 G M H _ a g ⟨_, yG.of hp rfl, fun q => ?_, fun q => ?_, fun q => ?_, fun q => ?_, fun q => ?_, fun q => ?_, fun q => ?_, fun q => ?_, fun q => ?_, fun q => ?_, fun q => ?_, fun q => ?_, fun q => ?_, fun q => ?_, fun q => ?_, fun q => ?_, fun q => ?_, fun q => ?_, fun q => ?_, fun q => ?_, fun q => ?_, fun q => ?_, fun q => ?_, fun q => ?_⟩))
    · rw [nI_toInt h31] at q; omega
    · have hk := nI_k (k := 0) h31 (by decide) q
      exact absurd hk (by omega)
    · have hk := nI_k (k := 1) h31 (by decide) q
      exact absurd hk (by omega)
    · have hk := nI_k (k := 2) h31 (by decide) q
      exact absurd hk (by omega)
    · have hk := nI_k (k := 3) h31 (by decide) q
      exact absurd hk (by omega)
    · have hk := nI_k (k := 4) h31 (by decide) q
      exact absurd hk (by omega)
    · have hk := nI_k (k := 5) h31 (by decide) q
      exact absurd hk (by omega)
    · have hk := nI_k (k := 6) h31 (by decide) q
      exact absurd hk (by omega)
    · have hk := nI_k (k := 7) h31 (by decide) q
      exact absurd hk (by omega)
    · have hk := nI_k (k := 8) h31 (by decide) q
      exact absurd hk (by omega)
    · have hk := nI_k (k := 9) h31 (by decide) q
      exact absurd hk (by omega)
    · have hk := nI_k (k := 10) h31 (by decide) q
      exact absurd hk (by omega)
    · have hk := nI_k (k := 11) h31 (by decide) q
      exact absurd hk (by omega)
    · have hk := nI_k (k := 12) h31 (by decide) q
      exact absurd hk (by omega)
    · have hk := nI_k (k := 13) h31 (by decide) q
      exact absurd hk (by omega)
    · have hk := nI_k (k := 14) h31 (by decide) q
      exact absurd hk (by omega)
    · have hk := nI_k (k := 15) h31 (by decide) q
      exact absurd hk (by omega)
    · have hk := nI_k (k := 16) h31 (by decide) q
      exact absurd hk (by omega)
    · have hk := nI_k (k := 17) h31 (by decide) q
      exact absurd hk (by omega)
    · have hk := nI_k (k := 18) h31 (by decide) q
      exact absurd hk (by omega)
    · have hk := nI_k (k := 19) h31 (by decide) q
      exact absurd hk (by omega)
    · have hk := nI_k (k := 20) h31 (by decide) q
      exact absurd hk (by omega)
    · have hk := nI_k (k := 21) h31 (by decide) q
      exact absurd hk (by omega)
    · exact ⟨_, yG.of hp rfl, ⟨by decide, by decide⟩, hp1.is, _, S_T0_2 hp1 hx.2.2.1 hn.2.1 hg hm, ⟨by decide, by decide⟩, H, yLe.refl _, by simp [t1V, h9], rfl, rfl⟩
  obtain ⟨p, t, hp, hp1, hp2⟩ := ha.2.2 (by omega)
  have e : t1V B r x = bothV x.1 (t0V B r x.2.2.1) (t0V B r x.2.2.2) := by unfold t1V; rw [if_neg h22, if_neg h9]
  rw [e]
  refine yRd.of (yCal.weakI (C_X13_value_3 G M H _ a g ⟨_, yG.of hp rfl, fun q => ?_, fun q => ?_, fun q => ?_, fun q => ?_, fun q => ?_, fun q => ?_, fun q => ?_, fun q => ?_, fun q => ?_, fun q => ?_, fun q => ?_, fun q => ?_, fun q => ?_, fun q => ?_, fun q => ?_, fun q => ?_, fun q => ?_, fun q => ?_, fun q => ?_, fun q => ?_, fun q => ?_, fun q => ?_, fun q => ?_, fun q => ?_⟩))
  · exact B_X13_value_3_243 G _ _ M H _ a g ⟨_, yG.of hp rfl, _, yG.of hp rfl, ⟨by decide, by decide⟩, hp1.is, _, S_T0_2 hp1 hx.2.2.1 hn.2.1 hg hm, _, yG.of hp rfl, ⟨by decide, by decide⟩, hp2.is, _, S_T0_2 hp2 hx.2.2.2 hn.2.2 hg hm, ⟨by decide, by decide⟩, _, S_both (by omega) _ _, ⟨by decide, by decide⟩, H, yLe.refl _, rfl, rfl, rfl⟩
  · have hk := nI_k (k := 0) h31 (by decide) q
    exact absurd hk (by omega)
  · have hk := nI_k (k := 1) h31 (by decide) q
    exact absurd hk (by omega)
  · have hk := nI_k (k := 2) h31 (by decide) q
    exact absurd hk (by omega)
  · have hk := nI_k (k := 3) h31 (by decide) q
    exact absurd hk (by omega)
  · have hk := nI_k (k := 4) h31 (by decide) q
    exact absurd hk (by omega)
  · have hk := nI_k (k := 5) h31 (by decide) q
    exact absurd hk (by omega)
  · have hk := nI_k (k := 6) h31 (by decide) q
    exact absurd hk (by omega)
  · have hk := nI_k (k := 7) h31 (by decide) q
    exact absurd hk (by omega)
  · have hk := nI_k (k := 8) h31 (by decide) q
    exact absurd hk (by omega)
  · have hk := nI_k (k := 9) h31 (by decide) q
    exact absurd hk (by omega)
  · have hk := nI_k (k := 10) h31 (by decide) q
    exact absurd hk (by omega)
  · have hk := nI_k (k := 11) h31 (by decide) q
    exact absurd hk (by omega)
  · have hk := nI_k (k := 12) h31 (by decide) q
    exact absurd hk (by omega)
  · have hk := nI_k (k := 13) h31 (by decide) q
    exact absurd hk (by omega)
  · have hk := nI_k (k := 14) h31 (by decide) q
    exact absurd hk (by omega)
  · have hk := nI_k (k := 15) h31 (by decide) q
    exact absurd hk (by omega)
  · have hk := nI_k (k := 16) h31 (by decide) q
    exact absurd hk (by omega)
  · have hk := nI_k (k := 17) h31 (by decide) q
    exact absurd hk (by omega)
  · have hk := nI_k (k := 18) h31 (by decide) q
    exact absurd hk (by omega)
  · have hk := nI_k (k := 19) h31 (by decide) q
    exact absurd hk (by omega)
  · have hk := nI_k (k := 20) h31 (by decide) q
    exact absurd hk (by omega)
  · have hk := nI_k (k := 21) h31 (by decide) q
    exact absurd hk (by omega)
  · have hk := nI_k (k := 22) h31 (by decide) q
    exact absurd hk (by omega)
end VSpec
