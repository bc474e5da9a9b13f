/-! ===== the law: the ways of one tile ===== -/
theorem bWays_w (A : eBd) (k : Nat) : bWays A k = zSm (bWyC A k) (bC A) := rfl
theorem bWyC_6 (A : eBd) (k c : Nat) : bWyC A k c ≤ 6 := bWaysC_le A k c 6
theorem bWays_le9 {A : eBd} (hb : bOk A) (k : Nat) : bWays A k ≤ 294 := by
  have h := zSm_le (f := bWyC A k) (k := 6) (n := bC A) (fun c _ => bWyC_6 A k c)
  have h49 := hb.c49
  rw [bWays_w]
  omega
theorem bLeft_v (A : eBd) (k : Nat) : bLeft A k = ((bCe A k).isNone && decide (bWays A k = 0)) := by
  unfold bLeft
  cases h : bCe A k with
  | some c => rfl
  | none =>
    show (true && (bFirst A k).isNone) = (true && decide (bWays A k = 0))
    rw [Bool.true_and, Bool.true_and]
    cases h2 : bFirst A k with
    | none => exact (decide_eq_true ((bWays_0 h).mpr h2)).symm
    | some c => exact (decide_eq_false (fun z => by rw [(bWays_0 h).mp z] at h2; cases h2)).symm
section LWays
variable {b L : Nat} {xs : Nat → Int32} {G : eG} {M : eM} {H : yH} {S : gS} {g ta oa d : Nat} {tk : Nat → Nat} {A : eBd} {os : List xO} {x2 x8 : Int32} {C T : Nat}
abbrev lwD (b : Nat) (G : eG) (x2 : Int32) (d g : Nat) (A : eBd) (x8 : Int32) (dg : Int64) : List (Nat × Value) := [(0, .ref b), (1, .ref (G.1 0)), (2, .int x2), (3, .ref d), (5, .ref g), (6, .int (nI (bN A))), (7, .int (nI (bC A))), (8, .int x8), (9, .long dg)]
set_option maxHeartbeats 4000000 in
set_option maxRecDepth 100000 in
theorem L_564 {one c : Nat} {c0 s0 : Nat} {dg : Int64} (hC : C ≤ room_1.cells) (hT : T ≤ room_1.slots) (h1 : one < bN A) (hcC : c < bC A) (hc0 : c0 + 6 ≤ C) (hs0 : s0 + 294 ≤ T)
    (k : ∀ (M' : eM) (H' : yH), lk G M' H' S g ta oa tk A os → nD H' d → Yx (yXL b L xs) lwZ G room_1 kL_law 554 [(0, .ref b), (1, .ref (G.1 0)), (2, .int x2), (3, .ref d), (5, .ref g), (6, .int (nI (bN A))), (7, .int (nI (bC A))), (8, .int x8), (9, .long dg), (11, .int (nI (bP A))), (16, .int (nI one)), (17, .int (nI (zSm (bWyC A one) (c + 1)))), (18, .int (nI (c + 1)))] [] M' H' (c0 + 6) (s0 + 294)) :
    ∀ (j t : Nat) (M : eM) (H : yH) (ca sl : Nat), t + j = 6 → lk G M H S g ta oa tk A os → nD H d → ca + j ≤ c0 + 6 → sl + 49 * j ≤ s0 + 294 →
    Yx (yXL b L xs) lwZ G room_1 kL_law 564 [(0, .ref b), (1, .ref (G.1 0)), (2, .int x2), (3, .ref d), (5, .ref g), (6, .int (nI (bN A))), (7, .int (nI (bC A))), (8, .int x8), (9, .long dg), (11, .int (nI (bP A))), (16, .int (nI one)), (17, .int (nI (zSm (bWyC A one) c + zSm (fun t => if bFits A one c t then 1 else 0) t))), (18, .int (nI c)), (19, .int (nI t))] [] M H ca sl := by
  intro j
  induction j with
  | zero =>
    intro t M H ca sl ht hl hd hca hsl
    have e : t = 6 := by omega
    subst e
    refine B_L_law_564 G ca sl M H _ _ _ _ _ _ _ _ _ _ _ _ ⟨fun _ => ?_, fun z => absurd (by decide) z⟩
    rw [← nI_succ]
    exact Yx.wide (by omega) (by omega) (k M H hl hd)
  | succ j ih =>
    intro t M H ca sl ht hl hd hca hsl
    have go : ∀ (M' : eM) (H' : yH), lk G M' H' S g ta oa tk A os → nD H' d → Yx (yXL b L xs) lwZ G room_1 kL_law 656 [(0, .ref b), (1, .ref (G.1 0)), (2, .int x2), (3, .ref d), (5, .ref g), (6, .int (nI (bN A))), (7, .int (nI (bC A))), (8, .int x8), (9, .long dg), (11, .int (nI (bP A))), (16, .int (nI one)), (17, .int (nI (zSm (bWyC A one) c + zSm (fun t => if bFits A one c t then 1 else 0) (t + 1)))), (18, .int (nI c)), (19, .int (nI t))] [] M' H' (ca + 1) (sl + 49) := fun M' H' l' d' => by
      refine B_L_law_656 G _ _ M' H' _ _ _ _ _ _ _ _ _ _ _ _ ?_
      rw [← nI_succ]
      exact ih (t + 1) M' H' (ca + 1) (sl + 49) (by omega) l' d' (by omega) (by omega)
    refine B_L_law_564 G ca sl M H _ _ _ _ _ _ _ _ _ _ _ _ ⟨fun z => absurd z (nI_ge (b := 6) (by omega) (by decide)), fun _ => ⟨⟨by omega, by omega⟩, Q_fits hl.c h1 hcC (by omega) (fun M1 l1 => ⟨fun hf => ?_, fun hf => ?_⟩)⟩⟩
    · refine L_598 hC hT h1 hcC (by omega) (hl.m l1) hd (by omega) (by omega) (fun M' H' l' d' => ?_)
      have e : nI (zSm (bWyC A one) c + zSm (fun t => if bFits A one c t then 1 else 0) t) + 0 = nI (zSm (bWyC A one) c + zSm (fun t => if bFits A one c t then 1 else 0) (t + 1)) := by
        show _ = nI (zSm (bWyC A one) c + (zSm (fun t => if bFits A one c t then 1 else 0) t + (if bFits A one c t then 1 else 0)))
        rw [hf, Int32.add_zero]
        rfl
      rw [e]
      exact go M' H' l' d'
    · refine L_598 hC hT h1 hcC (by omega) (hl.m l1) hd (by omega) (by omega) (fun M' H' l' d' => ?_)
      have e : nI (zSm (bWyC A one) c + zSm (fun t => if bFits A one c t then 1 else 0) t) + 1 = nI (zSm (bWyC A one) c + zSm (fun t => if bFits A one c t then 1 else 0) (t + 1)) := by
        rw [← nI_succ]
        show _ = nI (zSm (bWyC A one) c + (zSm (fun t => if bFits A one c t then 1 else 0) t + (if bFits A one c t then 1 else 0)))
        rw [hf]
        rfl
      rw [e]
      exact go M' H' l' d'
set_option maxHeartbeats 4000000 in
set_option maxRecDepth 100000 in
theorem L_554 (hC : C ≤ room_1.cells) (hT : T ≤ room_1.slots) (next : lwNx b L xs G x2 d g ta oa tk os A x8 C T) {one : Nat} (h1 : one < bN A) :
    ∀ (j c : Nat) (M : eM) (H : yH) (ca sl : Nat), c + j = bC A → lk G M H S g ta oa tk A os → nD H d → ca + 6 * j + 696 ≤ C → sl + 294 * j + 19440 ≤ T →
    Yx (yXL b L xs) lwZ G room_1 kL_law 554 [(0, .ref b), (1, .ref (G.1 0)), (2, .int x2), (3, .ref d), (5, .ref g), (6, .int (nI (bN A))), (7, .int (nI (bC A))), (8, .int x8), (9, .long (z_digest S)), (11, .int (nI (bP A))), (16, .int (nI one)), (17, .int (nI (zSm (bWyC A one) c))), (18, .int (nI c))] [] M H ca sl := by
  intro j
  induction j with
  | zero =>
    intro c M H ca sl hj hl hd hca hsl
    have e : c = bC A := by omega
    subst e
    have hb := hl.2.2.2.1.1.1
    have hw := bWays_le9 hb one
    have last : ∀ M', lc M' S A → Yx (yXL b L xs) lwZ G room_1 kL_law 707 [(0, .ref b), (1, .ref (G.1 0)), (2, .int x2), (3, .ref d), (5, .ref g), (6, .int (nI (bN A))), (7, .int (nI (bC A))), (8, .int x8), (9, .long (z_digest S)), (16, .int (nI one)), (17, .int (nI (zSm (bWyC A one) (bC A))))] [] M' H ca sl := fun M' l' => L_707 hC hT next h1 (hl.m l') hd (by omega) (by omega)
    refine B_L_law_554 G ca sl M H _ _ _ _ _ _ _ _ _ _ _ ⟨fun _ => ⟨⟨by omega, by omega⟩, Q_waysOf hl.c h1 (fun M1 l1 => ⟨fun z => absurd rfl z, fun _ => ⟨⟨by omega, by omega⟩, Q_isLeftover l1 h1 (fun M2 l2 => ?_)⟩⟩)⟩, fun z => absurd (Int32.le_refl _) z⟩
    rw [bLeft_v]
    refine ⟨fun z => ?_, fun z => ⟨⟨by omega, by omega⟩, Q_isPlaced l2 h1 (fun M3 l3 => ⟨fun y => ?_, fun y => ?_⟩)⟩⟩
    · have hne : decide (bWays A one = 0) = false := decide_eq_false (fun y => z (by rw [← bWays_w, y]; rfl))
      rw [hne, Bool.and_false]
      exact ⟨fun y => absurd rfl y, fun _ => last M2 l2⟩
    · have hn : (bCe A one).isNone = false := by
        cases hce : bCe A one with
        | none => rw [hce] at y; cases y
        | some c => rfl
      rw [hn, Bool.false_and]
      exact ⟨fun y => absurd rfl y, fun _ => last M3 l3⟩
    · have hn : (bCe A one).isNone = true := by
        cases hce : bCe A one with
        | none => rfl
        | some c => rw [hce] at y; cases y
      have h0 : decide (bWays A one = 0) = true := decide_eq_true (nI_eq9 (b := 0) (by omega) (by decide) z)
      rw [hn, h0]
      exact ⟨fun y => absurd rfl y, fun _ => last M3 l3⟩
  | succ j ih =>
    intro c M H ca sl hj hl hd hca hsl
    have h49 := hl.2.2.2.1.1.1.c49
    refine B_L_law_554 G ca sl M H _ _ _ _ _ _ _ _ _ _ _ ⟨fun z => absurd z (nI_ge (by omega) (by omega)), fun _ => ?_⟩
    exact L_564 (c0 := ca) (s0 := sl) hC hT h1 (by omega) (by omega) (by omega) (fun M' H' l' d' => ih (c + 1) M' H' (ca + 6) (sl + 294) (by omega) l' d' (by omega) (by omega)) 6 0 M H ca sl (by omega) hl hd (by omega) (by omega)
set_option maxHeartbeats 4000000 in
set_option maxRecDepth 100000 in
theorem L_540 {ca sl : Nat} (hC : C ≤ room_1.cells) (hT : T ≤ room_1.slots) (next : lwNx b L xs G x2 d g ta oa tk os A x8 C T) (hl : lk G M H S g ta oa tk A os) (hd : nD H d) (hca : ca + 990 ≤ C) (hsl : sl + 33846 ≤ T) :
    Yx (yXL b L xs) lwZ G room_1 kL_law 540 [(0, .ref b), (1, .ref (G.1 0)), (2, .int x2), (3, .ref d), (5, .ref g), (6, .int (nI (bN A))), (7, .int (nI (bC A))), (8, .int x8), (9, .long (z_digest S)), (11, .int (nI (bP A)))] [] M H ca sl := by
  have h49 := hl.2.2.2.1.1.1.c49
  have hN := hl.2.2.2.2.2
  refine B_L_law_540 G ca sl M H _ _ _ _ _ _ _ _ ⟨⟨by omega, by omega⟩, hd.is, S_next hd (n := bN A) (by omega) (by omega) (fun v H2 hv d2 k2 => ?_)⟩
  exact L_554 hC hT next hv (bC A) 0 M H2 ca sl (by omega) (hl.dn hd k2) d2 (by omega) (by omega)
end LWays
/-! ===== the law: counts ===== -/
section LCounts
variable {b L : Nat} {xs : Nat → Int32} {G : eG} {M : eM} {H : yH} {S : gS} {g ta oa d : Nat} {tk : Nat → Nat} {A : eBd} {os : List xO} {x2 x8 : Int32} {C T : Nat}
theorem bMatch_294 {A : eBd} (hb : bOk A) : bMatch A ≤ 147 := by
  have h := zSm_le (f := fun c => if (bAt A c).isSome then bTb A c else 0) (k := 6) (n := bC A) (fun c _ => by
    show (if (bAt A c).isSome then bTb A c else 0) ≤ 6
    have := bTb_le A c
    split <;> omega)
  have h49 := hb.c49
  have e : bEnds A ≤ 294 := by unfold bEnds; omega
  unfold bMatch
  omega
set_option maxHeartbeats 4000000 in
set_option maxRecDepth 100000 in
theorem L_473 {ca sl : Nat} (hC : C ≤ room_1.cells) (hT : T ≤ room_1.slots) (next : lwNx b L xs G x2 d g ta oa tk os A x8 C T) (hl : lk G M H S g ta oa tk A os) (hd : nD H d) (hca : ca + 990 ≤ C) (hsl : sl + 33846 ≤ T) :
    Yx (yXL b L xs) lwZ G room_1 kL_law 473 [(0, .ref b), (1, .ref (G.1 0)), (2, .int x2), (3, .ref d), (5, .ref g), (6, .int (nI (bN A))), (7, .int (nI (bC A))), (8, .int x8), (9, .long (z_digest S)), (11, .int (nI (bP A))), (12, .int (nI (zSm (fun c => zSm (fun e => bV1 A c e) 6) (bC A)))), (13, .int (nI (bRings A)))] [] M H ca sl := by
  have hm := hl.2.2.2.1.1
  have hb := hm.1
  obtain ⟨g1, g2, g3⟩ := groups_le hb
  have hP := bP_49 hb
  have hM := bMatch_294 hb
  have lp := law_points hm
  have e1 : nI (zSm (fun c => zSm (fun e => bV1 A c e) 6) (bC A)) + (20 : Int32) * nI (bRings A) = (2 : Int32) * nI (bPoints A) := by
    rw [show (20 : Int32) = nI 20 from rfl, show (2 : Int32) = nI 2 from rfl, nI_mul, nI_mul, nI_add, lp]
  refine B_L_law_473 G ca sl M H _ _ _ _ _ _ _ _ _ _ ⟨⟨by omega, by omega⟩, Q_points hl.c (fun M1 l1 => ⟨fun z => absurd e1 z, fun _ => ⟨⟨by omega, by omega⟩, Q_groups l1 (fun M2 l2 => ⟨fun z => absurd z (nI_nlt g1 (by omega)), fun _ => ⟨⟨by omega, by omega⟩, Q_groups l2 (fun M3 l3 => ⟨⟨by omega, by omega⟩, Q_matches l3 (fun M4 l4 => ?_)⟩)⟩⟩)⟩⟩)⟩
  rw [nI_sub g1]
  refine ⟨fun z => absurd z (nI_nlt g2 (by omega)), fun _ => ⟨fun z => ?_, fun z => ⟨⟨by omega, by omega⟩, Q_groups l4 (fun M5 l5 => ⟨fun y => ?_, fun _ => L_540 hC hT next (hl.m l5) hd hca hsl⟩)⟩⟩⟩
  · refine B_L_law_522 G ca sl M4 H _ _ _ _ _ _ _ _ ⟨⟨by omega, by omega⟩, Q_groups l4 (fun M5 l5 => ⟨fun _ => L_540 hC hT next (hl.m l5) hd hca hsl, fun y => ?_⟩)⟩
    have e0 := nI_eq9 (b := 0) (by omega) (by decide) y
    exact z (by rw [g3.mpr e0]; rfl)
  · have e0 := nI_eq9 (b := 0) (by omega) (by decide) z
    exact y (by rw [g3.mp e0]; rfl)
end LCounts
