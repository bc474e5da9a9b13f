/-! ===== isSame ===== -/
section Same
variable {G : eG} {M : eM} {H : yH} {S : gS} {g ta oa : Nat} {tk : Nat → Nat} {A : eBd} {os : List xO}
def zMean (A : eBd) : UInt64 := if bMatch A = 0 then FP.dconst0 else FP.ddiv (FP.i2d (nI (bMatched A))) (FP.i2d (nI (bMatch A)))
theorem Q_mean (h0 : lc M S A) {F : UInt64 → eM → Prop} (h : ∀ M', lc M' S A → F (zMean A) M') : Cal G 0 68 (3, 0, 0) kX10_meanMatch [.ref (G.1 0)] M (eFD F) := by
  have h0' := h0
  obtain ⟨⟨hc, hs⟩, hm, tr, etr, ag⟩ := h0'
  refine P_meanMatch hs hc F (fun M' c' => ?_)
  have e : z_mean S = zMean A := by
    unfold z_mean zMean
    rw [etr, bMatched_tw hm.1 ag]
    rfl
  rw [e]
  exact h M' ⟨⟨c', hs⟩, h0.2⟩
set_option maxHeartbeats 4000000 in
theorem S_isSame {F : Bool → eM → yH → Prop} (hl : lk G M H S g ta oa tk A os) (h : ∀ M', lk G M' H S g ta oa tk A os → F true M' H) : yCal G (10, 10, 700) kX12_isSame [.ref g, .ref (G.1 0)] M H (yFZ F) := by
  have hg := hl.2.1
  have hm := hl.2.2.2.1.1
  have hb := hm.1
  have h49 := hb.c49
  have h16 := hb.2.2.1
  refine yCal.weakZ (C_X12_isSame G M H _ g ⟨⟨by decide, by decide⟩, yIs.of hg.1, S_board hg hb (fun q hq fb hfb => ?_)⟩)
  have g1 := hg.new hq (.inl (G.2.2.2 0, (bC A, .inl fb)))
  have b1 : bA G (yU H q (.inl (G.2.2.2 0, (bC A, .inl fb)))) q A := ⟨fb, yU_same _ _ _, hfb⟩
  have le1 := yLe.new hq (.inl (G.2.2.2 0, (bC A, .inl fb)))
  refine ⟨⟨by decide, by decide⟩, yIs.of g1.1, S_counts g1 hm (fun r hr fc c0 c1 c2 c3 c4 => ?_)⟩
  have g2 := g1.new hr (.inl (G.2.2.2 0, (5, .inl fc)))
  have b2 := (yLe.new hr (.inl (G.2.2.2 0, (5, .inl fc)))).bA b1
  have le2 := le1.trans (yLe.new hr (.inl (G.2.2.2 0, (5, .inl fc))))
  have rd : ∀ j, j < 5 → yEI G (yU (yU H q (.inl (G.2.2.2 0, (bC A, .inl fb)))) r (.inl (G.2.2.2 0, (5, .inl fc)))) r (nI j) (fc j) := fun j hj => yEI.mk (yU_same _ _ _) hj (by decide)
  have r0 := rd 0 (by decide)
  have r1 := rd 1 (by decide)
  have r2 := rd 2 (by decide)
  have r3 := rd 3 (by decide)
  have r4 := rd 4 (by decide)
  rw [c0] at r0
  rw [c1] at r1
  rw [c2] at r2
  rw [c3] at r3
  rw [c4] at r4
  generalize hH2 : yU (yU H q (.inl (G.2.2.2 0, (bC A, .inl fb)))) r (.inl (G.2.2.2 0, (5, .inl fc))) = H2 at g2 b2 le2 r0 r1 r2 r3 r4
  have g2' := g2
  obtain ⟨e1, ⟨ft, t1, t2⟩, -⟩ := g2'
  -- the tiles
  have tiles : ∀ k, k ≤ bN A → ∀ (M' : eM) (ca sl : Nat), lc M' S A → ca ≤ 10 → sl ≤ 700 → Yx (yX "isSame") (yZ G 10 700 (yFZ (fun r M' H' => ∃ H0, yLe H0 H' ∧ F r M' H0))) G (eR (10, 10, 700)) kX12_isSame 306 [(0, .ref g), (1, .ref (G.1 0)), (4, .int (nI k))] [] M' H2 ca sl := by
    refine eDown (P := fun k => ∀ (M' : eM) (ca sl : Nat), lc M' S A → ca ≤ 10 → sl ≤ 700 → Yx (yX "isSame") (yZ G 10 700 (yFZ (fun r M' H' => ∃ H0, yLe H0 H' ∧ F r M' H0))) G (eR (10, 10, 700)) kX12_isSame 306 [(0, .ref g), (1, .ref (G.1 0)), (4, .int (nI k))] [] M' H2 ca sl) ?_ ?_
    · intro M' ca sl l hca hsl
      exact B_X12_isSame_306 G _ _ M' H2 _ g _ ⟨ta, g2.tA, bN A, ⟨_, t1, rfl⟩, fun _ => ⟨⟨hca, hsl⟩, H, le2, h M' (hl.m l)⟩, fun z => absurd (Int32.le_refl _) z⟩
    · intro k hk hn M' ca sl l hca hsl
      refine B_X12_isSame_306 G _ _ M' H2 _ g _ ⟨ta, g2.tA, bN A, ⟨_, t1, rfl⟩, fun z => absurd z (nI_ge hk (by omega)), fun _ => ⟨ta, g2.tA, _, g2.tile hb hk, _, g2.t3 hk, ?_⟩⟩
      cases hce : bCe A k with
      | none =>
        refine ⟨fun _ => B_X12_isSame_335 G _ _ M' H2 _ g _ _ ⟨⟨by omega, by omega⟩, Q_isPlaced l hk (fun M2 l2 => ?_)⟩, fun z => absurd eM1l z⟩
        rw [hce]
        refine ⟨fun y => absurd rfl y, fun _ => ⟨fun _ => B_X12_isSame_392 G _ _ M2 H2 _ g _ ?_, fun y => absurd rfl y⟩⟩
        rw [← nI_succ]
        exact hn M2 _ _ l2 hca hsl
      | some c =>
        have hcC := (hb.2.2.2.2.1 k c hk hce).1
        refine ⟨fun z => absurd z (nI_pos (by omega)), fun _ => B_X12_isSame_335 G _ _ M' H2 _ g _ _ ⟨⟨by omega, by omega⟩, Q_isPlaced l hk (fun M2 l2 => ?_)⟩⟩
        rw [hce]
        have t3 := g2.t3 hk
        rw [hce] at t3
        refine ⟨fun y => absurd rfl y, fun _ => ⟨fun y => absurd y (by decide), fun _ => ⟨⟨by omega, by omega⟩, Q_cellOf l2 hk hce (fun M3 l3 => ⟨ta, g2.tA, _, g2.tile hb hk, _, t3, fun y => absurd rfl y, fun _ => ⟨⟨by omega, by omega⟩, Q_turnOf l3 hk hce (fun M4 l4 => ⟨ta, g2.tA, _, g2.tile hb hk, _, g2.t4 hk, fun _ => B_X12_isSame_392 G _ _ M4 H2 _ g _ ?_, fun y => absurd rfl y⟩)⟩⟩)⟩⟩⟩
        rw [← nI_succ]
        exact hn M4 _ _ l4 hca hsl
  -- the cells
  have cells : ∀ c, c ≤ bC A → ∀ (M' : eM) (ca sl : Nat), lc M' S A → ca ≤ 10 → sl ≤ 700 → Yx (yX "isSame") (yZ G 10 700 (yFZ (fun r M' H' => ∃ H0, yLe H0 H' ∧ F r M' H0))) G (eR (10, 10, 700)) kX12_isSame 138 [(0, .ref g), (1, .ref (G.1 0)), (2, .ref q), (4, .int (nI c))] [] M' H2 ca sl := by
    refine eDown (P := fun c => ∀ (M' : eM) (ca sl : Nat), lc M' S A → ca ≤ 10 → sl ≤ 700 → Yx (yX "isSame") (yZ G 10 700 (yFZ (fun r M' H' => ∃ H0, yLe H0 H' ∧ F r M' H0))) G (eR (10, 10, 700)) kX12_isSame 138 [(0, .ref g), (1, .ref (G.1 0)), (2, .ref q), (4, .int (nI c))] [] M' H2 ca sl) ?_ ?_
    · intro M' ca sl l hca hsl
      exact B_X12_isSame_138 G _ _ M' H2 _ g q _ ⟨bC A, b2.len, fun _ => tiles 0 (Nat.zero_le _) M' _ _ l hca hsl, fun z => absurd (Int32.le_refl _) z⟩
    · intro c hc hn M' ca sl l hca hsl
      have h6 : bTb A c ≤ 6 := bTb_le A c
      have rw6 : bRing A c = decide (bTb A c = 6) := rfl
      -- from the tile on
      have at220 : ∀ M3, lc M3 S A → Yx (yX "isSame") (yZ G 10 700 (yFZ (fun r M' H' => ∃ H0, yLe H0 H' ∧ F r M' H0))) G (eR (10, 10, 700)) kX12_isSame 220 [(0, .ref g), (1, .ref (G.1 0)), (2, .ref q), (4, .int (nI c))] [] M3 H2 ca sl := by
        intro M3 l3
        have bq := b2.at hb hc
        refine B_X12_isSame_220 G _ _ M3 H2 _ g q _ ⟨_, bq, ?_⟩
        cases hat : bAt A c with
        | none =>
          refine ⟨fun z => absurd eM1l (Int32.not_lt.mpr z), fun _ => ?_⟩
          rw [← nI_succ]
          exact hn M3 _ _ l3 hca hsl
        | some k =>
          obtain ⟨hk, hce⟩ := hb.2.2.2.1 c k hc hat
          have ht := (hb.2.2.2.2.1 k c hk hce).2.2
          rw [hat] at bq
          refine ⟨fun _ => ⟨ta, g2.tA, _, bq, _, g2.tile hb hk, ⟨by omega, by omega⟩, Q_tileAt l3 hc hat (fun M4 l4 => ⟨_, bq, fun _ => ?_, fun y => absurd rfl y⟩)⟩, fun z => absurd (nI_pos' (by omega)) z⟩
          have edges : ∀ e, e ≤ 6 → ∀ M5, lc M5 S A → Yx (yX "isSame") (yZ G 10 700 (yFZ (fun r M' H' => ∃ H0, yLe H0 H' ∧ F r M' H0))) G (eR (10, 10, 700)) kX12_isSame 259 [(0, .ref g), (1, .ref (G.1 0)), (2, .ref q), (4, .int (nI c)), (6, .ref (tk k)), (7, .int (nI e))] [] M5 H2 ca sl := by
            refine eDown (P := fun e => ∀ M5, lc M5 S A → Yx (yX "isSame") (yZ G 10 700 (yFZ (fun r M' H' => ∃ H0, yLe H0 H' ∧ F r M' H0))) G (eR (10, 10, 700)) kX12_isSame 259 [(0, .ref g), (1, .ref (G.1 0)), (2, .ref q), (4, .int (nI c)), (6, .ref (tk k)), (7, .int (nI e))] [] M5 H2 ca sl) ?_ ?_
            · intro M5 l5
              refine B_X12_isSame_259 G _ _ M5 H2 _ g q _ _ _ ⟨fun _ => ?_, fun z => absurd (Int32.le_refl _) z⟩
              rw [← nI_succ]
              exact hn M5 _ _ l5 hca hsl
            · intro e he hn2 M5 l5
              refine B_X12_isSame_259 G _ _ M5 H2 _ g q _ _ _ ⟨fun z => absurd z (nI_ge (b := 6) he (by decide)), fun _ => ⟨⟨by omega, by omega⟩, Q_numberAt l5 hc he hat (fun M6 l6 => ⟨_, g2.t4 hk, ⟨by omega, by omega⟩, yIs.of g2.1, _, S_num g2 hk ht he, fun _ => ?_, fun y => absurd rfl y⟩)⟩⟩
              rw [← nI_succ]
              exact hn2 M6 l6
          exact edges 0 (Nat.zero_le _) M4 l4
      -- matches
      have at196 : ∀ M3, lc M3 S A → Yx (yX "isSame") (yZ G 10 700 (yFZ (fun r M' H' => ∃ H0, yLe H0 H' ∧ F r M' H0))) G (eR (10, 10, 700)) kX12_isSame 196 [(0, .ref g), (1, .ref (G.1 0)), (2, .ref q), (4, .int (nI c)), (5, .int (nI (bTb A c)))] [] M3 H2 ca sl := by
        intro M3 l3
        have bq := b2.at hb hc
        refine B_X12_isSame_196 G _ _ M3 H2 _ g q _ _ ⟨⟨by omega, by omega⟩, Q_matchesOf l3 hc (fun M4 l4 => ⟨_, bq, ?_⟩)⟩
        unfold bMatchOn
        cases hat : bAt A c with
        | none => exact ⟨fun z => absurd eM1l (Int32.not_lt.mpr z), fun _ => ⟨fun _ => at220 M4 l4, fun y => absurd rfl y⟩⟩
        | some k =>
          have hk := (hb.2.2.2.1 c k hc hat).1
          exact ⟨fun _ => ⟨fun _ => at220 M4 l4, fun y => absurd rfl y⟩, fun z => absurd (nI_pos' (by omega)) z⟩
      -- the ring
      have at175 : ∀ M3, lc M3 S A → Yx (yX "isSame") (yZ G 10 700 (yFZ (fun r M' H' => ∃ H0, yLe H0 H' ∧ F r M' H0))) G (eR (10, 10, 700)) kX12_isSame 175 [(0, .ref g), (1, .ref (G.1 0)), (2, .ref q), (4, .int (nI c)), (5, .int (nI (bTb A c)))] [] M3 H2 ca sl := by
        intro M3 l3
        refine B_X12_isSame_175 G _ _ M3 H2 _ g q _ _ ⟨⟨by omega, by omega⟩, Q_isRing l3 hc (fun M4 l4 => ⟨fun y => ?_, fun y => ?_⟩)⟩
        · have hn6 : ¬ bTb A c = 6 := fun z => y (by rw [z]; rfl)
          rw [rw6, decide_eq_false hn6]
          exact ⟨fun y => absurd rfl y, fun _ => at196 M4 l4⟩
        · have hn6 : bTb A c = 6 := nI_k (k := 6) (by omega) (by decide) y
          rw [rw6, decide_eq_true hn6]
          exact ⟨fun y => absurd rfl y, fun _ => at196 M4 l4⟩
      have bq := b2.at hb hc
      refine B_X12_isSame_138 G _ _ M' H2 _ g q _ ⟨bC A, b2.len, fun z => absurd z (nI_ge hc (by omega)), fun _ => ⟨⟨by omega, by omega⟩, yIs.of g2.1, _, S_many g2 hb b2 hc, ⟨by omega, by omega⟩, Q_hasTile l hc (fun M3 l3 => ⟨_, bq, ?_⟩)⟩⟩
      cases hat : bAt A c with
      | none => exact ⟨fun _ => ⟨fun y => absurd rfl y, fun _ => at175 M3 l3⟩, fun z => absurd eM1l z⟩
      | some k =>
        have hk := (hb.2.2.2.1 c k hc hat).1
        exact ⟨fun z => absurd z (nI_pos (by omega)), fun _ => ⟨fun y => absurd rfl y, fun _ => at175 M3 l3⟩⟩
  -- the counts
  have nn : ∀ {P : Prop} {x : Int32}, ¬ x = x → P := fun y => absurd rfl y
  refine ⟨⟨by decide, by decide⟩, Q_columns hl.c (fun M1 l1 => ⟨_, yG.of e1 rfl, fun y => nn y, fun _ => ⟨⟨by decide, by decide⟩, Q_rows l1 (fun M2 l2 => ⟨_, yG.of e1 rfl, fun y => nn y, fun _ => ⟨⟨by decide, by decide⟩, Q_tiles l2 (fun M3 l3 => ⟨ta, g2.tA, bN A, ⟨_, t1, rfl⟩, fun y => nn y, fun _ => ⟨⟨by decide, by decide⟩, Q_went l3 (fun M4 l4 => ⟨_, yG.of e1 rfl, fun y => nn y, fun _ => ⟨⟨by decide, by decide⟩, Q_matches l4 (fun M5 l5 => ⟨_, r0, fun y => nn y, fun _ => ?_⟩)⟩⟩)⟩⟩)⟩⟩)⟩⟩)⟩
  refine B_X12_isSame_65 G _ _ M5 H2 _ g q r ⟨⟨by decide, by decide⟩, Q_points l5 (fun M6 l6 => ⟨_, r3, fun y => nn y, fun _ => ⟨⟨by decide, by decide⟩, Q_rings l6 (fun M7 l7 => ⟨_, r2, fun y => nn y, fun _ => ⟨⟨by decide, by decide⟩, Q_placedTiles l7 (fun M8 l8 => ⟨_, r4, fun y => nn y, fun _ => ⟨⟨by decide, by decide⟩, Q_groups l8 (fun M9 l9 => ⟨⟨by decide, by decide⟩, yIs.of g2.1, S_groups g2 hb ⟨fun y => nn y, fun _ => ⟨⟨by decide, by decide⟩, Q_mean l9 (fun M10 l10 => ⟨_, r0, fun y => ?_, fun y => ?_⟩)⟩⟩⟩)⟩⟩)⟩⟩)⟩⟩)⟩
  · have h0 : ¬ bMatch A = 0 := fun z => y (by rw [z]; rfl)
    have en := eNaN (t := bMatched A) (n := bMatch A) (bMatched_le hm) (by omega) (bMatch_147 hb)
    have ez : zMean A = FP.ddiv (FP.i2d (nI (bMatched A))) (FP.i2d (nI (bMatch A))) := if_neg h0
    rw [ez]
    exact ⟨_, r1, _, r0, en, fun _ => B_X12_isSame_135 G _ _ M10 H2 _ g q (cells 0 (Nat.zero_le _) M10 _ _ l10 (by decide) (by decide)), fun z => absurd (fC_self en) z⟩
  · have h0 : bMatch A = 0 := nI_k (k := 0) (by have := bMatch_147 hb; omega) (by decide) y
    have ez : zMean A = FP.dconst0 := if_pos h0
    rw [ez]
    exact ⟨fun _ => B_X12_isSame_135 G _ _ M10 H2 _ g q (cells 0 (Nat.zero_le _) M10 _ _ l10 (by decide) (by decide)), fun z => absurd (fC_self (v := FP.dconst0) (by unfold vf_n64; decide)) z⟩
end Same
