/-! ===== the law: its steps ===== -/
theorem as_gm (brd : Bool) (C R : Nat) (xs : List (Nat × Nat × Nat)) (os : List xO) : yAs (gmX brd C R xs os) := by
  have tl : ∀ (k : Nat) (x : Nat × Nat × Nat), yAs (tlX k x) := fun k x => by
    unfold tlX
    exact (yAs.lit (by decide)).app (yAs.cons (by decide) ((as_tnm k).app (yAs.cons (by decide) ((dg_as _).app (yAs.cons (by decide) ((dg_as _).app (yAs.cons (by decide) ((dg_as _).app (yAs.lit (by decide)))))))))) 
  have ts : ∀ (xs : List (Nat × Nat × Nat)) (k : Nat), yAs (tsX k xs) := fun xs => by
    induction xs with
    | nil => exact fun k => yAs.nil
    | cons x xs ih => exact fun k => (tl k x).app (ih (k + 1))
  have ox : ∀ os : List xO, yAs (osX os) := fun os => by
    induction os with
    | nil => exact yAs.nil
    | cons o os ih => exact (as_ord o).app ih
  unfold gmX
  refine yAs.app ?_ ((ts xs 0).app (ox os))
  split
  · refine yAs.app ?_ (yAs.lit (by decide))
    unfold bdX
    exact (yAs.lit (by decide)).app (yAs.cons (by decide) ((dg_as _).app (yAs.cons (by decide) ((yAs.lit (by decide)).app (yAs.cons (by decide) ((dg_as _).app (yAs.lit (by decide)))))))) 
  · exact yAs.nil
theorem gAt.b0 {G : eG} {H : yH} {g ta oa : Nat} {tk : Nat → Nat} {C R n C' R' n' : Nat} {nu nu' : Nat → Nat} {r : Int32} (h : gAt G H g ta oa tk (b0 C R n nu) r) (eC : C' = C) (eR : R' = R) (en : n' = n) (eu : ∀ i, i < 3 * n → nu' i = nu i) : gAt G H g ta oa tk (b0 C' R' n' nu') r := by
  subst eC eR en
  refine ⟨h.1, h.2.1, fun k hk => ?_, h.2.2.2⟩
  have hk' : k < n' := hk
  obtain ⟨f, a0, a1, a2, a3, a4⟩ := h.2.2.1 k hk
  refine ⟨f, a0, ?_, ?_, ?_, a4⟩
  · show f 0 = nI (nu' (3 * k))
    rw [eu (3 * k) (by omega)]
    exact a1
  · show f 1 = nI (nu' (3 * k + 1))
    rw [eu (3 * k + 1) (by omega)]
    exact a2
  · show f 2 = nI (nu' (3 * k + 2))
    rw [eu (3 * k + 2) (by omega)]
    exact a3
section LSteps
variable {b L : Nat} {xs : Nat → Int32} {G : eG} {M : eM} {H : yH} {S : gS} {g ta oa d : Nat} {tk : Nat → Nat} {A : eBd} {os : List xO} {x2 x8 : Int32} {C T : Nat}
theorem lwNx.sz {A0 : eBd} (h : lwNx b L xs G x2 d g ta oa tk os A0 x8 C T) (hs : bSz A0 A) : lwNx b L xs G x2 d g ta oa tk os A x8 C T := fun M H S A1 ca sl l s d' h1 h2 => by
  have e1 : bN A = bN A0 := hs.2.2.1
  have e2 : bC A = bC A0 := by
    show bW A * bR A = bW A0 * bR A0
    rw [hs.1, hs.2.1]
  rw [e1, e2]
  exact h M H S A1 ca sl l (hs.trans s) d' h1 h2
set_option maxHeartbeats 4000000 in
set_option maxRecDepth 100000 in
theorem L_115 {A0 : eBd} (hC : C ≤ room_1.cells) (hT : T ≤ room_1.slots) (next : lwNx b L xs G x2 d g ta oa tk os A0 x8 C T) :
    ∀ (j i : Nat) (M : eM) (H : yH) (S : gS) (A : eBd) (ca sl : Nat), i + j = 3 → lk G M H S g ta oa tk A os → bSz A0 A → nD H d → ca + 700 * j + 991 ≤ C → sl + 19600 * j + 33862 ≤ T →
    Yx (yXL b L xs) lwZ G room_1 kL_law 115 [(0, .ref b), (1, .ref (G.1 0)), (2, .int x2), (3, .ref d), (5, .ref g), (6, .int (nI (bN A0))), (7, .int (nI (bC A0))), (8, .int x8), (9, .int (nI i))] [] M H ca sl := by
  intro j
  induction j with
  | zero =>
    intro i M H S A ca sl hi hl hs hd hca hsl
    have e : i = 3 := by omega
    subst e
    have hN := hl.2.2.2.2.2
    have e1 : bN A = bN A0 := hs.2.2.1
    have e2 : bC A = bC A0 := by
      show bW A * bR A = bW A0 * bR A0
      rw [hs.1, hs.2.1]
    rw [← e1, ← e2]
    refine B_L_law_115 G ca sl M H _ _ _ _ _ _ _ ⟨fun _ => ⟨⟨by omega, by omega⟩, Q_digest hl.c (fun M1 l1 => ⟨bN A, nI_pos (by omega), nI_clamp (by omega), by omega, ⟨by omega, by omega⟩, fun q hq => ?_⟩)⟩, fun z => absurd (by decide) z⟩
    refine B_L_law_163 G _ _ M1 _ _ _ _ _ _ _ _ _ _ _ _ _ ?_
    exact L_166 hC hT (next.sz hs) hd hq (by omega) (by omega) (bC A) 0 M1 (fun _ => 0) (by omega) (hl.m l1) (fun k _ => by rw [bTh_0]; rfl)
  | succ j ih =>
    intro i M H S A ca sl hi hl hs hd hca hsl
    refine B_L_law_115 G ca sl M H _ _ _ _ _ _ _ ⟨fun z => absurd z (nI_ge (b := 3) (by omega) (by decide)), fun _ => ⟨⟨by omega, by omega⟩, S_act hl hd (fun M' H' S' A' l' s' d' => ⟨fun _ => ?_, fun z => by cases z⟩)⟩⟩
    rw [← nI_succ]
    exact ih (i + 1) M' H' S' A' _ _ (by omega) l' (hs.trans s') d' (by omega) (by omega)
/-! sums with large numbers: without them (with them omega runs into the recursion's limit) -/
theorem ar_a {sl T j k m N : Nat} (h : sl + k * (j + 1) + m ≤ T) (hT : T ≤ N) : sl + k ≤ N := by
  rw [Nat.mul_succ] at h
  omega
theorem ar_b {sl x y z : Nat} (h : x + y ≤ z) : sl + x + y ≤ sl + z := by omega
theorem ar_c {sl sl' T j k m : Nat} (h : sl + k * (j + 1) + m ≤ T) (h2 : sl' ≤ sl + k) : sl' + k * j + m ≤ T := by
  rw [Nat.mul_succ] at h
  omega
theorem ar_1 {x k C N a : Nat} (h : x + k ≤ C) (hC : C ≤ N) (ha : a ≤ k) : x + a ≤ N := by omega
theorem ar_2 {x k C N a b : Nat} (h : x + k ≤ C) (hC : C ≤ N) (ha : a + b ≤ k) : x + a + b ≤ N := by omega
theorem ar_3 {x k C N a b c : Nat} (h : x + k ≤ C) (hC : C ≤ N) (ha : a + b + c ≤ k) : x + a + b + c ≤ N := by omega
theorem ar_4 {x k C N a b c d : Nat} (h : x + k ≤ C) (hC : C ≤ N) (ha : a + b + c + d ≤ k) : x + a + b + c + d ≤ N := by omega
theorem ar_5 {x k C N a b c d e : Nat} (h : x + k ≤ C) (hC : C ≤ N) (ha : a + b + c + d + e ≤ k) : x + a + b + c + d + e ≤ N := by omega
theorem ar_6 {x k C N a b c d e f : Nat} (h : x + k ≤ C) (hC : C ≤ N) (ha : a + b + c + d + e + f ≤ k) : x + a + b + c + d + e + f ≤ N := by omega
theorem ar_7 {x k C a b c d e f g : Nat} (h : x + k ≤ C) (ha : a + b + c + d + e + f + g ≤ k) : x + a + b + c + d + e + f + g ≤ C := by omega
/-- what goes on behind one game -/
def lwNt (b L : Nat) (xs : Nat → Int32) (G : eG) (x2 : Int32) (C T : Nat) : Prop :=
  ∀ (M : eM) (S : gS) (ca sl : Nat), sC M S → sOk S → gSz S = 0 → ca ≤ C → sl ≤ T → Yx (yXL b L xs) lwZ G room_1 kL_law 10 [(0, .ref b), (1, .ref (G.1 0)), (2, .int (x2 + 1))] [] M (fun _ => none) ca sl
set_option maxHeartbeats 4000000 in
set_option maxRecDepth 100000 in
theorem L_105 {A0 : eBd} (hC : C ≤ room_1.cells) (hT : T ≤ room_1.slots) (next : lwNt b L xs G x2 C T) :
    ∀ (j i : Nat) (M : eM) (H : yH) (S : gS) (A : eBd) (ca sl : Nat), i + j = 7 → lk G M H S g ta oa tk A os → bSz A0 A → nD H d → ca + 3091 * j + 10 ≤ C → sl + 92662 * j + 700 ≤ T →
    Yx (yXL b L xs) lwZ G room_1 kL_law 105 (lwC b G x2 d g (nI (bN A0)) (nI (bC A0)) (nI i)) [] M H ca sl := by
  intro j
  induction j with
  | zero =>
    intro i M H S A ca sl hi hl hs hd hca hsl
    have e : i = 7 := by omega
    subst e
    refine B_L_law_105 G ca sl M H _ _ _ _ _ _ ⟨fun _ => ⟨⟨by omega, by omega⟩, yIs.of hl.2.1.1, S_isSame hl (fun M' l' => ⟨fun _ => ?_, fun z => by cases z⟩)⟩, fun z => absurd (by decide) z⟩
    exact Yx.less (fun a e z => by cases z) (next M' S _ _ l'.1.1 l'.1.2 l'.2.2.2.2.2.2.2 (by omega) (by omega))
  | succ j ih =>
    intro i M H S A ca sl hi hl hs hd hca hsl
    refine B_L_law_105 G ca sl M H _ _ _ _ _ _ ⟨fun z => absurd z (nI_ge (b := 7) (by omega) (by decide)), fun _ => ?_⟩
    refine L_115 (C := ca + 3091) (T := sl + 92662) (by omega) (ar_a hsl hT) (fun M' H' S' A' ca' sl' l' s' d' h1 h2 => ?_) 3 0 M H S A ca sl (by omega) hl hs hd (by omega) (ar_b (Nat.le_of_ble_eq_true rfl))
    rw [← nI_succ]
    exact ih (i + 1) M' H' S' A' ca' sl' (by omega) l' s' d' (by omega) (ar_c hsl h2)
end LSteps
