/-! ===== the law: ways, the best tile, tries ===== -/
theorem lgc_self (x : Int64) : lg_cmp x x = 0 := by
  unfold lg_cmp
  rw [if_neg (fun h => absurd (Int64.lt_iff_toInt_lt.mp h) (Int.lt_irrefl _)), if_pos rfl]
theorem bFits_more {B : eBd} (hb : bOk B) {k c t : Nat} (hc : c < bC B) (h : bFits B k c t = true) : bAgainst B k c t = none ∧ (0 < bP B → 0 < bTb B c) := by
  refine ⟨zFf_none (fun e he => ?_), fun hp => ?_⟩
  · obtain ⟨-, -, h0 | hf⟩ := bFits_face h
    · have h1 : bFace B c e = none := by
        unfold bFace bTile
        cases hd : bBes B c e with
        | none => rfl
        | some x =>
          show (match bAt B x with | none => none | some k => some (bNm B k (bTr B k) ((e + 3) % 6))) = none
          rw [bNone_of0 hb h0 (hb.bes hc he hd).1]
      unfold bClash
      rw [h1]
    · unfold bClash
      cases hx : bFace B c e with
      | none => rfl
      | some x => exact decide_eq_false (fun z => z (hf e x he hx))
  · unfold bFits at h
    simp only [Bool.and_eq_true, Bool.or_eq_true, decide_eq_true_eq] at h
    omega
theorem bP_49 {A : eBd} (hb : bOk A) : bP A ≤ 49 := by
  have h := zSm_le (f := fun c => if hT A c then 1 else 0) (k := 1) (n := bC A) (fun i _ => by show (if hT A i then 1 else 0) ≤ 1; split <;> omega)
  have e : zSm (fun c => if hT A c then 1 else 0) (bC A) = bP A := bCnt_p hb
  have h49 := hb.c49
  omega
section LBest
variable {b L : Nat} {xs : Nat → Int32} {G : eG} {M : eM} {H : yH} {S : gS} {g ta oa d : Nat} {tk : Nat → Nat} {A : eBd} {os : List xO} {x2 x8 : Int32} {C T : Nat}
/-- what goes on behind a step -/
def lwNx (b L : Nat) (xs : Nat → Int32) (G : eG) (x2 : Int32) (d g ta oa : Nat) (tk : Nat → Nat) (os : List xO) (A0 : eBd) (x8 : Int32) (C T : Nat) : Prop :=
  ∀ (M : eM) (H : yH) (S : gS) (A : eBd) (ca sl : Nat), lk G M H S g ta oa tk A os → bSz A0 A → nD H d → ca ≤ C → sl ≤ T → Yx (yXL b L xs) lwZ G room_1 kL_law 105 (lwC b G x2 d g (nI (bN A0)) (nI (bC A0)) (x8 + 1)) [] M H ca sl
set_option maxHeartbeats 4000000 in
set_option maxRecDepth 100000 in
theorem L_922 {ca sl : Nat} (hC : C ≤ room_1.cells) (hT : T ≤ room_1.slots) (next : lwNx b L xs G x2 d g ta oa tk os A x8 C T) (hl : lk G M H S g ta oa tk A os) (hd : nD H d) (hca : ca + 696 ≤ C) (hsl : sl + 19440 ≤ T) :
    Yx (yXL b L xs) lwZ G room_1 kL_law 922 [(0, .ref b), (1, .ref (G.1 0)), (2, .int x2), (3, .ref d), (5, .ref g), (6, .int (nI (bN A))), (7, .int (nI (bC A))), (8, .int x8), (9, .long (z_digest S))] [] M H ca sl := by
  have hgr := hl.2.2.2.2.1
  have hno := hl.no
  have h49 := bRings_49 hl.2.2.2.1.1.1
  refine B_L_law_922 G ca sl M H _ _ _ _ _ _ _ ⟨⟨by omega, by omega⟩, Q_until hl.c hgr hno (fun M1 l1 => ⟨⟨by omega, by omega⟩, hd.is, S_next hd (n := 6) (by decide) (by decide) (fun v H2 hv d2 k2 => ?_)⟩)⟩
  have hl2 := hl.dn hd k2
  have e : (1 : Int32) + nI v = nI (v + 1) := by rw [nI_succ, Int32.add_comm]
  rw [e]
  have last : ∀ M', lc M' S A → Yx (yXL b L xs) lwZ G room_1 kL_law 983 [(0, .ref b), (1, .ref (G.1 0)), (2, .int x2), (3, .ref d), (5, .ref g), (6, .int (nI (bN A))), (7, .int (nI (bC A))), (8, .int x8), (20, .int (eO (xUr os 20 0 (A, gR S)))), (21, .int (nI (v + 1))), (22, .int (nI (bPoints (xPl os (v + 1) (A, gR S)).1)))] [] M' H2 ca sl := fun M' l' =>
    B_L_law_983 G ca sl M' H2 _ _ _ _ _ _ _ _ _ ⟨⟨by omega, by omega⟩, Q_went l' (fun M2 l2 => L_rounds (m := v + 1) (by omega) hC hT next (v + 1) 0 M2 H2 S ca sl (by omega) (hl2.m l2) (bSz.refl A) rfl d2 (by omega) (by omega))⟩
  refine ⟨⟨by omega, by omega⟩, Q_pointsAfter l1 hgr hno (by omega) (by omega) (fun M3 l3 => ⟨⟨by omega, by omega⟩, Q_digest l3 (fun M4 l4 => ⟨fun z => absurd (lgc_self _) z, fun _ => ⟨fun z => ⟨⟨by omega, by omega⟩, Q_rings l4 (fun M5 l5 => ⟨fun _ => last M5 l5, fun y => ?_⟩)⟩, fun z => ⟨⟨by omega, by omega⟩, Q_rings l4 (fun M5 l5 => ⟨fun y => ?_, fun _ => last M5 l5⟩)⟩⟩⟩)⟩)⟩
  · refine z ?_
    have hp : 0 < bRings A := by
      rcases Nat.eq_zero_or_pos (bRings A) with w | w
      · exact absurd ((nI_le0 (by omega)).mpr w) y
      · exact w
    show eO (if 0 < bRings A then some 0 else _) = 0
    rw [if_pos hp]
    rfl
  · have h0 := (nI_le0 (by omega)).mp y
    cases hu : xUr os 20 0 (A, gR S) with
    | none => rw [hu] at z; exact absurd z (by decide)
    | some q =>
      rw [hu] at z
      obtain ⟨-, u2, u3, -⟩ := xUr_some 20 0 _ hu
      have e0 : q = 0 := nI_eq9 (by omega) (by decide) z
      subst e0
      have u3' : 0 < bRings A := u3
      omega
set_option maxHeartbeats 4000000 in
set_option maxRecDepth 100000 in
theorem L_821 (hC : C ≤ room_1.cells) (hT : T ≤ room_1.slots) (next : lwNx b L xs G x2 d g ta oa tk os A x8 C T) {bz : Nat} (hbz : bz ≤ 120) (hmax : ∀ k c t, k < bN A → c < bC A → t < 6 → bFits A k c t = true → bGain A c ≤ bz) {dg : Int64} :
    ∀ (j i : Nat) (M : eM) (H : yH) (S : gS) (ca sl : Nat), i + j = 20 → lk G M H S g ta oa tk A os → z_digest S = dg → nD H d → ca + 696 ≤ C → sl + 19440 ≤ T →
    Yx (yXL b L xs) lwZ G room_1 kL_law 821 [(0, .ref b), (1, .ref (G.1 0)), (2, .int x2), (3, .ref d), (5, .ref g), (6, .int (nI (bN A))), (7, .int (nI (bC A))), (8, .int x8), (9, .long dg), (22, .int (nI bz)), (23, .int (nI i))] [] M H ca sl := by
  intro j
  induction j with
  | zero =>
    intro i M H S ca sl hi hl hdg hd hca hsl
    have e : i = 20 := by omega
    subst e
    subst hdg
    exact B_L_law_821 G ca sl M H _ _ _ _ _ _ _ _ _ ⟨fun _ => L_922 hC hT next hl hd hca hsl, fun z => absurd (by decide) z⟩
  | succ j ih =>
    intro i M H S ca sl hi hl hdg hd hca hsl
    have hb := hl.2.2.2.1.1.1
    have h49 := hb.c49
    have h9 := hb.1.1
    have hR3 := hb.2.1.1
    have hC0 : 0 < bC A := Nat.mul_pos (by omega) (by omega)
    have hN := hl.2.2.2.2.2
    refine B_L_law_821 G ca sl M H _ _ _ _ _ _ _ _ _ ⟨fun z => absurd z (nI_ge (b := 20) (by omega) (by decide)), fun _ => ⟨⟨by omega, by omega⟩, hd.is, S_next hd (n := bN A) (by omega) (by omega) (fun k H1 hk d1 k1 => ⟨⟨by omega, by omega⟩, d1.is, S_next d1 (n := bC A) hC0 (by omega) (fun c H2 hc d2 k2 => ⟨⟨by omega, by omega⟩, d2.is, S_next d2 (n := 6) (by decide) (by decide) (fun t H3 ht d3 k3 => ?_)⟩)⟩)⟩⟩
    have l3 := hl.dn hd ((k1.trans k2).trans k3)
    have hgain := bGain_le hb hc
    refine ⟨⟨by omega, by omega⟩, Q_fits l3.c hk hc ht (fun M4 l4 => ⟨fun hf => ⟨⟨by omega, by omega⟩, Q_put l4 hk hc ht hf (fun M5 l5 => ⟨fun z => absurd z (nI_nlt (hmax k c t hk hc ht hf) (by omega)), fun _ => ?_⟩)⟩, fun _ => ?_⟩)⟩
    · refine B_L_law_883 G ca sl M5 H3 _ _ _ _ _ _ _ _ _ _ ⟨⟨by omega, by omega⟩, Q_putTake l4 hk hc ht hf l5 (fun M6 S6 s6 l6 => ⟨fun z => absurd z (nI_nlt (hmax k c t hk hc ht hf) (by omega)), fun _ => ⟨⟨by omega, by omega⟩, Q_digest l6 (fun M7 l7 => ?_)⟩⟩)⟩
      have e7 : z_digest S6 = dg := (s6.dig hl.1.2.2.2.1.1).trans hdg
      rw [e7]
      refine ⟨fun _ => ?_, fun z => absurd (lgc_self _) z⟩
      rw [← nI_succ]
      exact ih (i + 1) M7 H3 S6 ca sl (by omega) ((s6.toK (l3.m l4) l6).m l7) e7 d3 hca hsl
    · rw [← nI_succ]
      exact ih (i + 1) M4 H3 S ca sl (by omega) (l3.m l4) hdg d3 hca hsl
set_option maxHeartbeats 4000000 in
set_option maxRecDepth 100000 in
theorem L_723 {ca sl : Nat} (hC : C ≤ room_1.cells) (hT : T ≤ room_1.slots) (next : lwNx b L xs G x2 d g ta oa tk os A x8 C T) {one : Nat} (h1 : one < bN A) (hl : lk G M H S g ta oa tk A os) (hd : nD H d) (hca : ca + 696 ≤ C) (hsl : sl + 19440 ≤ T) :
    Yx (yXL b L xs) lwZ G room_1 kL_law 723 [(0, .ref b), (1, .ref (G.1 0)), (2, .int x2), (3, .ref d), (5, .ref g), (6, .int (nI (bN A))), (7, .int (nI (bC A))), (8, .int x8), (9, .long (z_digest S)), (17, .int (nI (bWays A one)))] [] M H ca sl := by
  have hb := hl.2.2.2.1.1.1
  have hN := hl.2.2.2.2.2
  have h49 := hb.c49
  refine B_L_law_723 G ca sl M H _ _ _ _ _ _ _ _ ⟨⟨by omega, by omega⟩, Q_bestTile hl.c (fun M1 l1 => ⟨⟨by omega, by omega⟩, Q_points l1 (fun M2 l2 => ?_)⟩)⟩
  cases hbt : bBestT A with
  | none =>
    refine ⟨fun _ => ⟨fun _ => L_922 hC hT next (hl.m l2) hd hca hsl, fun z => ?_⟩, fun z => absurd (by decide) z⟩
    rw [bBest_none hbt h1] at z
    exact z (Int32.le_refl _)
  | some k =>
    obtain ⟨c, u, hri, han, ⟨hk, hc, hu, hf⟩, hmax⟩ := bBest_max hbt
    have hgain := bGain_le hb hc
    refine ⟨fun z => absurd z (nI_pos (by omega)), fun _ => ⟨⟨by omega, by omega⟩, Q_bestCell l2 hk hri (fun M3 l3 => ⟨⟨by omega, by omega⟩, Q_bestTurn l3 hk hc hri han (fun M4 l4 => ⟨⟨by omega, by omega⟩, Q_fits l4 hk hc hu (fun M5 l5 => ⟨fun _ => ⟨⟨by omega, by omega⟩, Q_put l5 hk hc hu hf (fun M6 l6 => ?_)⟩, fun z => ?_⟩)⟩)⟩)⟩⟩
    · refine B_L_law_783 G ca sl M6 H _ _ _ _ _ _ _ _ _ _ ⟨⟨by omega, by omega⟩, Q_points l6 (fun M7 l7 => ⟨fun z => absurd ?_ z, fun _ => ⟨⟨by omega, by omega⟩, Q_putTake l5 hk hc hu hf l7 (fun M8 S8 s8 l8 => ⟨fun z => absurd rfl z, fun _ => ⟨⟨by omega, by omega⟩, Q_digest l8 (fun M9 l9 => ?_)⟩⟩)⟩⟩)⟩
      · rw [put_points (hl.2.2.2.1.1) hk hc hu hf, nI_add]
      · have e9 : z_digest S8 = z_digest S := s8.dig hl.1.2.2.2.1.1
        rw [e9]
        exact ⟨fun _ => L_821 hC hT next (by omega) hmax 20 0 M9 H S8 ca sl (by omega) ((s8.toK (hl.m l5) l8).m l9) e9 hd hca hsl, fun z => absurd (lgc_self _) z⟩
    · rw [hf] at z
      cases z
set_option maxHeartbeats 4000000 in
set_option maxRecDepth 100000 in
theorem L_707 {ca sl : Nat} (hC : C ≤ room_1.cells) (hT : T ≤ room_1.slots) (next : lwNx b L xs G x2 d g ta oa tk os A x8 C T) {one : Nat} (h1 : one < bN A) (hl : lk G M H S g ta oa tk A os) (hd : nD H d) (hca : ca + 696 ≤ C) (hsl : sl + 19440 ≤ T) :
    Yx (yXL b L xs) lwZ G room_1 kL_law 707 [(0, .ref b), (1, .ref (G.1 0)), (2, .int x2), (3, .ref d), (5, .ref g), (6, .int (nI (bN A))), (7, .int (nI (bC A))), (8, .int x8), (9, .long (z_digest S)), (16, .int (nI one)), (17, .int (nI (bWays A one)))] [] M H ca sl := by
  refine B_L_law_707 G ca sl M H _ _ _ _ _ _ _ _ _ ⟨⟨by omega, by omega⟩, Q_isPlaced hl.c h1 (fun M1 l1 => ⟨fun _ => L_723 hC hT next h1 (hl.m l1) hd hca hsl, fun z => ⟨fun _ => L_723 hC hT next h1 (hl.m l1) hd hca hsl, fun y => ?_⟩⟩)⟩
  obtain ⟨c, hce⟩ := Option.isSome_iff_exists.mp z
  rw [bWays_lie hce] at y
  exact y (Int32.le_refl _)
/-- the ways of a tile at the cells before c -/
def bWyC (A : eBd) (k c : Nat) : Nat := zSm (fun t => if bFits A k c t then 1 else 0) 6
set_option maxHeartbeats 4000000 in
set_option maxRecDepth 100000 in
theorem L_598 {one c t : Nat} {ca sl : Nat} (hC : C ≤ room_1.cells) (hT : T ≤ room_1.slots) {x17 : Int32} {dg : Int64} (h1 : one < bN A) (hcC : c < bC A) (ht : t < 6) (hl : lk G M H S g ta oa tk A os) (hd : nD H d) (hca : ca + 1 ≤ C) (hsl : sl + 49 ≤ T)
    (k : ∀ (M' : eM) (H' : yH), lk G M' H' S g ta oa tk A os → nD H' d → Yx (yXL b L xs) lwZ G room_1 kL_law 656 [(0, .ref b), (1, .ref (G.1 0)), (2, .int x2), (3, .ref d), (5, .ref g), (6, .int (nI (bN A))), (7, .int (nI (bC A))), (8, .int x8), (9, .long dg), (11, .int (nI (bP A))), (16, .int (nI one)), (17, .int x17), (18, .int (nI c)), (19, .int (nI t))] [] M' H' (ca + 1) (sl + 49)) :
    Yx (yXL b L xs) lwZ G room_1 kL_law 598 [(0, .ref b), (1, .ref (G.1 0)), (2, .int x2), (3, .ref d), (5, .ref g), (6, .int (nI (bN A))), (7, .int (nI (bC A))), (8, .int x8), (9, .long dg), (11, .int (nI (bP A))), (16, .int (nI one)), (17, .int x17), (18, .int (nI c)), (19, .int (nI t)), (20, .int (eZi (bFits A one c t)))] [] M H ca sl := by
  have hb := hl.2.2.2.1.1.1
  have h16 := hb.2.2.1
  refine B_L_law_598 G ca sl M H _ _ _ _ _ _ _ _ _ _ _ _ _ ⟨fun _ => Yx.wide (by omega) (by omega) (k M H hl hd), fun hf => ?_⟩
  obtain ⟨f1, f2⟩ := bFits_lies hf
  obtain ⟨m1, m2⟩ := bFits_more hb hcC hf
  have h7 := bTb_le A c
  have hP : bP A ≤ 49 := bP_49 hb
  refine ⟨⟨by omega, by omega⟩, Q_isPlaced hl.c h1 (fun M1 l1 => ⟨fun z => by (rw [f1] at z; cases z), fun _ => ⟨⟨by omega, by omega⟩, Q_hasTile l1 hcC (fun M2 l2 => ⟨fun z => by (rw [f2] at z; cases z), fun _ => ⟨⟨by omega, by omega⟩, Q_edgeAgainst l2 h1 hcC ht (fun M3 l3 => ⟨fun z => by (rw [m1] at z; exact absurd z (by decide)), fun _ => ⟨fun _ => Yx.wide (by omega) (by omega) (k M3 H (hl.m l3) hd), fun z => ?_⟩⟩)⟩⟩)⟩⟩)⟩
  have hp0 : 0 < bP A := by
    rcases Nat.eq_zero_or_pos (bP A) with w | w
    · exact absurd ((nI_le0 (by omega)).mpr w) z
    · exact w
  have hl3 := hl.m l3
  refine ⟨⟨by omega, by omega⟩, yIs.of hl.2.1.1, S_board hl.2.1 hb (fun q hq f hf2 => ?_)⟩
  have l5 := hl3.le (yLe.new hq (.inl (G.2.2.2 0, (bC A, .inl f))))
  have d5 := hd.le (yLe.new hq (.inl (G.2.2.2 0, (bC A, .inl f))))
  refine ⟨⟨by omega, by omega⟩, yIs.of l5.2.1.1, _, S_many l5.2.1 hb ⟨f, yU_same _ _ _, hf2⟩ hcC, fun _ => k M3 _ l5 d5, fun y => ?_⟩
  have e0 : bTb A c = 0 := nI_eq9 (b := 0) (by omega) (by decide) y
  have := m2 hp0
  omega
end LBest
