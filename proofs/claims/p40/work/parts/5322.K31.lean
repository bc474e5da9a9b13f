/-! ===== the law: the rounds ===== -/
theorem xRnd_len {r : Int32} : ∀ (os : List xO) (x : eBd × Nat), (xRnd r os x).2 ≤ x.2 + os.length
  | [], x => Nat.le_refl _
  | o :: os, x => by
    have h := xRnd_len (r := r) os ((xAct r x.1 o).1, x.2 + (if (xAct r x.1 o).2 then 1 else 0))
    refine Nat.le_trans h ?_
    show x.2 + (if (xAct r x.1 o).2 then 1 else 0) + os.length ≤ x.2 + (os.length + 1)
    split <;> omega
theorem xPl_r {os : List xO} : ∀ (n : Nat) (x : gX), (xPl os n x).2 = x.2 + nI n
  | 0, x => (Int32.add_zero x.2).symm
  | n + 1, x => by
    rw [xPl_succ, nI_succ]
    show (xPl os n x).2 + 1 = x.2 + (nI n + 1)
    rw [xPl_r n x, Int32.add_assoc]
theorem bRings_49 {A : eBd} (hb : bOk A) : bRings A ≤ 49 := by
  have h49 := hb.c49
  have key : ∀ n, zSm (fun c => if bRing A c then 1 else 0) n ≤ n := fun n => by
    induction n with
    | zero => exact Nat.le_refl _
    | succ n ih =>
      show zSm (fun c => if bRing A c then 1 else 0) n + (if bRing A n then 1 else 0) ≤ n + 1
      split <;> omega
  exact Nat.le_trans (key _) h49
theorem nI_eq9 {a b : Nat} (ha : a < 2 ^ 31) (hb : b < 2 ^ 31) (h : nI a = nI b) : a = b := by
  have z := congrArg Int32.toNatClampNeg h
  rw [nI_clamp ha, nI_clamp hb] at z
  exact z
theorem nI_le0 {n : Nat} (hn : n < 2 ^ 31) : (nI n ≤ (0 : Int32)) ↔ n = 0 := by
  constructor
  · intro h
    rcases Nat.eq_zero_or_pos n with z | z
    · exact z
    · exact absurd h (nI_ge (a := 0) z hn)
  · intro h
    rw [h]
    exact Int32.le_refl _
section LRounds
variable {b L : Nat} {xs : Nat → Int32} {G : eG} {M : eM} {H : yH} {S : gS} {g ta oa d : Nat} {tk : Nat → Nat} {A : eBd} {os : List xO}
abbrev lwC (b : Nat) (G : eG) (x2 : Int32) (d g : Nat) (x6 x7 x8 : Int32) : List (Nat × Value) := [(0, .ref b), (1, .ref (G.1 0)), (2, .int x2), (3, .ref d), (5, .ref g), (6, .int x6), (7, .int x7), (8, .int x8)]
theorem lk.no {G : eG} {M : eM} {H : yH} {S : gS} {g ta oa : Nat} {tk : Nat → Nat} {A : eBd} {os : List xO} (hl : lk G M H S g ta oa tk A os) : ∀ o ∈ os, o.1.2 < bN A := fun o ho => (hl.2.2.1.2.2 o ho).2.1
set_option maxHeartbeats 4000000 in
set_option maxRecDepth 100000 in
theorem L_rounds {m : Nat} (h6 : m ≤ 6) {A0 : eBd} {r0 x2 x6 x7 x8 : Int32} {C T : Nat} (hC : C ≤ room_1.cells) (hT : T ≤ room_1.slots)
    (next : ∀ (M : eM) (H : yH) (S : gS) (A : eBd) (ca sl : Nat), lk G M H S g ta oa tk A os → bSz A0 A → nD H d → ca ≤ C → sl ≤ T → Yx (yXL b L xs) lwZ G room_1 kL_law 105 (lwC b G x2 d g x6 x7 (x8 + 1)) [] M H ca sl) :
    ∀ (j i : Nat) (M : eM) (H : yH) (S : gS) (ca sl : Nat), i + j = m → lk G M H S g ta oa tk (xPl os i (A0, r0)).1 os → bSz A0 (xPl os i (A0, r0)).1 → gR S = (xPl os i (A0, r0)).2 → nD H d → ca + 116 * j ≤ C → sl + 3240 * j ≤ T →
      Yx (yXL b L xs) lwZ G room_1 kL_law 992 [(0, .ref b), (1, .ref (G.1 0)), (2, .int x2), (3, .ref d), (5, .ref g), (6, .int x6), (7, .int x7), (8, .int x8), (20, .int (eO (xUr os 20 0 (A0, r0)))), (21, .int (nI m)), (22, .int (nI (bPoints (xPl os m (A0, r0)).1))), (23, .int r0), (24, .int (nI (i + 1)))] [] M H ca sl := by
  intro j
  induction j with
  | zero =>
    intro i M H S ca sl hi hl hsz hr hd hca hsl
    have e : i = m := by omega
    subst e
    refine B_L_law_992 G ca sl M H _ _ _ _ _ _ _ _ _ _ _ ⟨fun _ => ⟨⟨by omega, by omega⟩, Q_points hl.c (fun M1 l1 => ⟨fun _ => next M1 H S _ ca sl (hl.m l1) hsz hd (by omega) (by omega), fun z => absurd rfl z⟩)⟩, fun z => absurd (nI_lt (Nat.lt_succ_self i) (by omega)) z⟩
  | succ j ih =>
    intro i M H S ca sl hi hl hsz hr hd hca hsl
    have hl' := hl
    obtain ⟨⟨hc, hs⟩, hg, ⟨hos, h4, hk⟩, ⟨hm, hsim⟩, hgr, hN⟩ := hl'
    have hno := hl.no
    refine B_L_law_992 G ca sl M H _ _ _ _ _ _ _ _ _ _ _ ⟨fun z => absurd z (nI_nlt (by omega) (by omega)), fun _ => ⟨⟨by omega, by omega⟩, Q_play1 hl.c hgr hno (fun M1 S1 hgr1 hr1 hz1 l1 => ⟨⟨by omega, by omega⟩, yIs.of hg.1, S_play hg hm hos h4 hk (fun H2 g2 o2 k2 => ?_)⟩)⟩⟩
    have hA := xRnd_gm (r := gR S) os ((xPl os i (A0, r0)).1, 0) hm hno
    have hlen := xRnd_len (r := gR S) os ((xPl os i (A0, r0)).1, 0)
    have e1 : (xPl os (i + 1) (A0, r0)).1 = (xRnd (gR S) os ((xPl os i (A0, r0)).1, 0)).1 := by rw [xPl_succ, hr]; rfl
    have e2 : (xPl os (i + 1) (A0, r0)).2 = gR S1 := by rw [xPl_succ, hr1, hr]; rfl
    have hsz1 : bSz A0 (xPl os (i + 1) (A0, r0)).1 := by rw [e1]; exact hsz.trans hA.2
    have l2 : ∀ M2, lc M2 S1 (xRnd (gR S) os ((xPl os i (A0, r0)).1, 0)).1 → lk G M2 H2 S1 g ta oa tk (xPl os (i + 1) (A0, r0)).1 os := fun M2 l2 => by
      rw [e1]
      refine ⟨l2.1, ?_, ⟨o2, h4, fun o ho => ?_⟩, l2.2, hgr1, ?_⟩
      · rw [hr1]; exact g2
      · rw [hA.2.2.2.1]; exact hk o ho
      · rw [hA.2.2.2.1, hz1]; exact hN
    have d2 := hd.kp k2 (hd.out hg)
    have o2' := o2
    obtain ⟨fo, f1, -⟩ := o2'
    refine ⟨fun z => absurd rfl z, fun _ => ⟨fun z => absurd z (nI_pos (by omega)), fun _ => ⟨oa, yG.of g2.1 rfl, os.length, ⟨_, f1, rfl⟩, fun z => absurd z (nI_nlt (by omega) (by omega)), fun _ => ⟨⟨by omega, by omega⟩, Q_went l1 (fun M2 l1' => ?_)⟩⟩⟩⟩
    have l3 := l2 M2 l1'
    have er : gR S1 = r0 + nI (i + 1) := by rw [← e2, xPl_r]
    refine ⟨fun z => absurd er z, fun _ => ?_⟩
    have go : ∀ M3, lc M3 S1 (xPl os (i + 1) (A0, r0)).1 → Yx (yXL b L xs) lwZ G room_1 kL_law 992 [(0, .ref b), (1, .ref (G.1 0)), (2, .int x2), (3, .ref d), (5, .ref g), (6, .int x6), (7, .int x7), (8, .int x8), (20, .int (eO (xUr os 20 0 (A0, r0)))), (21, .int (nI m)), (22, .int (nI (bPoints (xPl os m (A0, r0)).1))), (23, .int r0), (24, .int (nI (i + 1) + 1))] [] M3 H2 (ca + 116) (sl + 3240) := fun M3 l4 => by
      rw [← nI_succ]
      exact ih (i + 1) M3 H2 S1 (ca + 116) (sl + 3240) (by omega) (l3.m l4) hsz1 e2.symm d2 (by omega) (by omega)
    have hb1 : bOk (xPl os (i + 1) (A0, r0)).1 := l3.2.2.2.1.1.1
    have h49 := bRings_49 hb1
    -- behind the ring's test
    have last : ∀ M3, lc M3 S1 (xPl os (i + 1) (A0, r0)).1 → Yx (yXL b L xs) lwZ G room_1 kL_law 1083 [(0, .ref b), (1, .ref (G.1 0)), (2, .int x2), (3, .ref d), (5, .ref g), (6, .int x6), (7, .int x7), (8, .int x8), (20, .int (eO (xUr os 20 0 (A0, r0)))), (21, .int (nI m)), (22, .int (nI (bPoints (xPl os m (A0, r0)).1))), (23, .int r0), (24, .int (nI (i + 1)))] [] M3 H2 (ca + 116) (sl + 3240) := fun M3 l4 => by
      refine B_L_law_1083 G _ _ M3 H2 _ _ _ _ _ _ _ _ _ _ _ ⟨fun _ => go M3 l4, fun z => ⟨⟨by omega, by omega⟩, Q_rings l4 (fun M4 l5 => ⟨fun _ => go M4 l5, fun y => ?_⟩)⟩⟩
      cases hu : xUr os 20 0 (A0, r0) with
      | some q =>
        rw [hu] at z
        have hq := xUr_some 20 0 _ hu
        exact absurd (show (0 : Int32) ≤ nI q from nI_pos' (by omega)) z
      | none =>
        have h0 := xUr_none 20 0 _ hu (i + 1) (by omega)
        exact y ((nI_le0 (by omega)).mpr h0)
    refine ⟨fun _ => last M2 (by rw [e1]; exact l1'), fun z => ?_⟩
    refine B_L_law_1049 G _ _ M2 H2 _ _ _ _ _ _ _ _ _ _ _ ⟨fun _ => last M2 (by rw [e1]; exact l1'), fun y => ⟨⟨by omega, by omega⟩, Q_rings (show lc M2 S1 (xPl os (i + 1) (A0, r0)).1 from by rw [e1]; exact l1') (fun M4 l5 => ?_)⟩⟩
    cases hu : xUr os 20 0 (A0, r0) with
    | none =>
      rw [hu] at z
      exact absurd (by decide) z
    | some q =>
      rw [hu] at y
      obtain ⟨-, u2, u3, u4⟩ := xUr_some 20 0 _ hu
      rw [Nat.sub_zero] at u3 u4
      have hle : i + 1 ≤ q := by
        rcases Nat.lt_or_ge q (i + 1) with t | t
        · exact absurd (nI_lt t (by omega)) y
        · exact t
      have eq1 : nI (i + 1) = eO (some q) ↔ i + 1 = q := ⟨fun t => nI_eq9 (by omega) (by omega) t, fun t => by rw [t]; rfl⟩
      rw [← hu] at eq1
      rw [← hu]
      refine ⟨fun t => ?_, fun t => ?_⟩
      · have t0 := (nI_le0 (by omega)).mp t
        refine ⟨fun _ => last M4 l5, fun v => ?_⟩
        have v' := eq1.mp v
        rw [← v'] at u3
        omega
      · have hp : 0 < bRings (xPl os (i + 1) (A0, r0)).1 := by
          rcases Nat.eq_zero_or_pos (bRings (xPl os (i + 1) (A0, r0)).1) with w | w
          · exact absurd ((nI_le0 (by omega)).mpr w) t
          · exact w
        refine ⟨fun v => ?_, fun _ => last M4 l5⟩
        rcases Nat.lt_or_ge (i + 1) q with w | w
        · have := u4 (i + 1) w
          omega
        · exact v (eq1.mpr (by omega))
end LRounds
