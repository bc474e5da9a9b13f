/-! ===== the class's public calls, on ===== -/
section Pub2
variable {G : eG}
theorem P_columns {M : eM} {S : gS} (hc : sC M S) (F : Int32 → eM → Prop) (hF : ∀ M', sC M' S → F (nI (bW (gB S))) M') : Cal G 0 68 (1, 0, 0) kX10_columns [.ref (G.1 0)] M (eFI F) :=
  C_X10_columns G M F (by rw [hc.2.2.2.1.1.1]; exact hF M hc)
theorem P_rows {M : eM} {S : gS} (hc : sC M S) (F : Int32 → eM → Prop) (hF : ∀ M', sC M' S → F (nI (bR (gB S))) M') : Cal G 0 68 (1, 0, 0) kX10_rows [.ref (G.1 0)] M (eFI F) :=
  C_X10_rows G M F (by rw [hc.2.2.2.1.1.2.1]; exact hF M hc)
theorem P_tiles {M : eM} {S : gS} (hc : sC M S) (F : Int32 → eM → Prop) (hF : ∀ M', sC M' S → F (nI (bN (gB S))) M') : Cal G 0 68 (1, 0, 0) kX10_tiles [.ref (G.1 0)] M (eFI F) :=
  C_X10_tiles G M F (by rw [hc.2.2.2.1.nn]; exact hF M hc)
theorem P_rounds {M : eM} {S : gS} (hc : sC M S) (F : Int32 → eM → Prop) (hF : ∀ M', sC M' S → F (gR S) M') : Cal G 0 68 (1, 0, 0) kX10_rounds [.ref (G.1 0)] M (eFI F) :=
  C_X10_rounds G M F (by rw [hc.2.2.2.2]; exact hF M hc)
theorem P_placedTiles {M : eM} {S : gS} (hc : sC M S) (F : Int32 → eM → Prop) (hF : ∀ M', sC M' S → F (nI (bP (gB S))) M') : Cal G 0 68 (1, 0, 0) kX10_placedTiles [.ref (G.1 0)] M (eFI F) :=
  C_X10_placedTiles G M F (by rw [hc.2.2.2.1.np]; exact hF M hc)
theorem P_matches {M : eM} {S : gS} (hs : sOk S) (hc : sC M S) (F : Int32 → eM → Prop) (hF : ∀ M', sC M' S → F (nI (bMatch (gB S))) M') : Cal G 0 68 (3, 0, 0) kX10_matches [.ref (G.1 0)] M (eFI F) :=
  C_X10_matches G M F (S_countMatches G hs.2.2.1.1 hc.2.2.2.1 _ (hF M hc))
theorem P_points {M : eM} {S : gS} (hs : sOk S) (hc : sC M S) (F : Int32 → eM → Prop) (hF : ∀ M', sC M' S → F (nI (bPoints (gB S))) M') : Cal G 0 68 (4, 0, 0) kX10_points [.ref (G.1 0)] M (eFI F) :=
  C_X10_points G M F (S_countPoints G hs.2.2.1.1 hs.2.2.1.2 hc.2.2.2.1 _ (hF M hc))
theorem P_rings {M : eM} {S : gS} (hs : sOk S) (hc : sC M S) (F : Int32 → eM → Prop) (hF : ∀ M', sC M' S → F (nI (bRings (gB S))) M') : Cal G 0 68 (3, 0, 0) kX10_rings [.ref (G.1 0)] M (eFI F) :=
  C_X10_rings G M F (S_countRings G hs.2.2.1.1 hc.2.2.2.1 _ (hF M hc))
theorem P_bestTile {M : eM} {S : gS} (hs : sOk S) (hc : sC M S) (F : Int32 → eM → Prop) (hF : ∀ M', sC M' S → F (eO (bBestT (gB S))) M') : Cal G 0 68 (5, 0, 0) kX10_bestTile [.ref (G.1 0)] M (eFI F) :=
  C_X10_bestTile G M F (S_richestTile G hs.2.2.1.1 hc.2.2.2.1 _ (hF M hc))
theorem P_groups {M : eM} {S : gS} (hs : sOk S) (hc : sC M S) (F : Int32 → eM → Prop) (hF : ∀ M', sC M' S → F (nI (bGroups (gB S))) M') : Cal G 0 68 (3, 0, 0) kX10_groups [.ref (G.1 0)] M (eFI F) :=
  C_X10_groups G M F (S_countGroups hs.2.2.1.1 hc.2.2.2.1 _ (fun M' b' f' => hF M' (hc.b b' (fun c hx => f' c (by omega) (by omega)) (by rw [f' 16 (by decide) (by decide)]; exact hc.2.2.2.2))))
/-! bytes -/
/-- the tape's cells alone are written -/
def tFr (M M' : eM) : Prop := (∀ c, c ≠ 1 → c ≠ 2 → M' c = M c) ∧ ∀ j, j ≠ 1 → M' 1 j = M 1 j
theorem tFr.refl (M : eM) : tFr M M := ⟨fun _ _ _ => rfl, fun _ _ => rfl⟩
theorem tFr.trans {M M1 M2 : eM} (h : tFr M M1) (h1 : tFr M1 M2) : tFr M M2 := ⟨fun c a b => (h1.1 c a b).trans (h.1 c a b), fun j a => (h1.2 j a).trans (h.2 j a)⟩
theorem Z_byte {M : eM} {bt : Nat → Nat} {sz : Nat} (hT : cTape M bt sz) (hsz : sz < 2000) (F : eM → Prop) (x s : Int32) (s' : Int32) (hs0 : ¬ s < 0) (hs1 : s &&& 31 = s) (hs2 : s + -8 = s') (h : ∀ M', tFr M M' → cTape M' (zU bt sz (fB (x >>> s))) (sz + 1) → Ev (eZ G 0 68 0 0 (eFV F)) G 0 68 (1, 0, 0) kX8_append 3 [(0, .ref (G.1 1)), (1, .int x), (2, .int s')] [] M' 0 0) : Ev (eZ G 0 68 0 0 (eFV F)) G 0 68 (1, 0, 0) kX8_append 3 [(0, .ref (G.1 1)), (1, .int x), (2, .int s)] [] M 0 0 := by
  obtain ⟨t1, t2, t3⟩ := hT
  refine B_X8_append_3 G M F _ _ ⟨fun q => absurd q hs0, fun _ => ⟨fun q => absurd q ?_, fun _ => ?_⟩⟩
  · rw [t1]; exact nI_ge (b := 2000) hsz (by decide)
  rw [t1, hs1, hs2, nI_clamp (show sz < 2 ^ 31 by omega), eU_cell _ _ _ _ (by decide), t1, Int8.toInt8_toInt32, fB_sb, ← nI_succ]
  refine ⟨vp_in_nI hsz (by decide), h _ ⟨fun c a b => ?_, fun j a => ?_⟩ ⟨eU_same _ _ _ _, by omega, fun j hj => ?_⟩⟩
  · rw [eU_other _ _ _ a, eU_other _ _ _ b]
  · rw [eU_place _ _ _ _ a, eU_cell _ _ _ _ (by decide)]
  · rw [eU_cell _ _ _ _ (by decide)]
    by_cases hq : j = sz
    · rw [hq, eU_same, zU_same]
      exact ⟨rfl, fB_lt _⟩
    · rw [eU_place _ _ _ _ hq, zU_ne _ _ hq]
      exact t3 j (by omega)
theorem Z_append {M : eM} {bt : Nat → Nat} {sz : Nat} (hT : cTape M bt sz) (hsz : sz + 4 ≤ 2000) (F : eM → Prop) (x : Int32) (h : ∀ M', tFr M M' → cTape M' (fW bt sz x) (sz + 4) → F M') : Cal G 0 68 (1, 0, 0) kX8_append [.ref (G.1 1), .int x] M (eFV F) := by
  refine C_X8_append G M F x ?_
  refine Z_byte hT (by omega) F x 24 16 (by decide) (by decide) (by decide) (fun M1 f1 t1 => ?_)
  refine Z_byte t1 (by omega) F x 16 8 (by decide) (by decide) (by decide) (fun M2 f2 t2 => ?_)
  refine Z_byte t2 (by omega) F x 8 0 (by decide) (by decide) (by decide) (fun M3 f3 t3 => ?_)
  refine Z_byte t3 (by omega) F x 0 (-8) (by decide) (by decide) (by decide) (fun M4 f4 t4 => ?_)
  exact B_X8_append_3 G M4 F _ _ ⟨fun _ => h M4 (((f1.trans f2).trans f3).trans f4) t4, fun q => absurd (by decide) q⟩
theorem sC.t {M M' : eM} {S : gS} {sz : Nat} {bt : Nat → Nat} (h : sC M S) (hf : tFr M M') (ht : cTape M' bt sz) : sC M' ((sz, bt), S.2) := by
  obtain ⟨h1, h2, h3, h4, h5⟩ := h
  refine ⟨ht, ?_, h3.fr (fun c hc => hf.1 c (by omega) (by omega)), h4.fr (fun c c1 c2 => hf.1 c (by omega) (by omega)), ?_⟩
  · show M' 0 7 = gEr S
    rw [hf.1 0 (by decide) (by decide)]; exact h2
  · show M' 16 5 = gR S
    rw [hf.1 16 (by decide) (by decide)]; exact h5
theorem P_feed {M : eM} {S : gS} (hs : sOk S) (hc : sC M S) (a b c d e : Int32) : ((z_feed S a b c d e).1 = 0 → ∀ F : Int32 → eM → Prop, (∀ M', sC M' (z_feed S a b c d e).2.2 → F (z_feed S a b c d e).2.1 M') → Cal G 0 68 (2, 0, 0) kX10_feed [.ref (G.1 0), .int a, .int b, .int c, .int d, .int e] M (eFI F)) ∧ ((z_feed S a b c d e).1 = 1 → CalX G 0 68 (10, 1, 6) kX10_feed [.ref (G.1 0), .int a, .int b, .int c, .int d, .int e] M "java/lang/IllegalStateException") := by
  have hT := hc.1
  have hsz := hs.1
  unfold z_feed
  by_cases h : gSz S + 20 ≤ 2000
  · rw [if_pos h]
    refine ⟨fun _ F hF => ?_, fun q => absurd q (by decide : ¬ (0 : Nat) = 1)⟩
    refine C_X10_feed G M F _ _ _ _ _ (C_X8_hasRoomFor G M _ _ ?_)
    rw [hT.1, show (2000 : Int32) - nI (gSz S) = nI (2000 - gSz S) from nI_sub (a := 2000) (by omega)]
    refine ⟨fun q => absurd q (nI_nlt (b := 20) (by omega) (by omega)), fun _ => ⟨fun _ => ?_, cTF⟩⟩
    refine Z_append hT (by omega) _ a (fun M1 f1 t1 => Z_append t1 (by omega) _ b (fun M2 f2 t2 => Z_append t2 (by omega) _ c (fun M3 f3 t3 => Z_append t3 (by omega) _ d (fun M4 f4 t4 => Z_append t4 (by omega) _ e (fun M5 f5 t5 => ?_)))))
    rw [t5.1]
    exact hF M5 (hc.t ((((f1.trans f2).trans f3).trans f4).trans f5) t5)
  · rw [if_neg h]
    refine ⟨fun q => absurd q (by decide : ¬ (1 : Nat) = 0), fun _ => CX_X10_feed G M _ _ _ _ _ _ (C_X8_hasRoomFor G M _ _ ?_)⟩
    rw [hT.1, show (2000 : Int32) - nI (gSz S) = nI (2000 - gSz S) from nI_sub (a := 2000) (by omega)]
    exact ⟨fun _ => ⟨cFT, fun _ => ⟨rfl, rfl⟩⟩, fun q => absurd (nI_lt (b := 20) (by omega) (by decide)) q⟩
theorem P_trim {M : eM} {S : gS} (hs : sOk S) (hc : sC M S) (a : Int32) : ((z_trim S a).1 = 0 → ∀ F : Int32 → eM → Prop, (∀ M', sC M' (z_trim S a).2.2 → F (z_trim S a).2.1 M') → Cal G 0 68 (1, 0, 0) kX10_trim [.ref (G.1 0), .int a] M (eFI F)) ∧ ((z_trim S a).1 = 1 → CalX G 0 68 (10, 1, 6) kX10_trim [.ref (G.1 0), .int a] M "java/lang/IllegalArgumentException") := by
  have hT := hc.1
  have hsz := hs.1
  unfold z_trim
  by_cases h : 0 ≤ a ∧ a ≤ nI (gSz S)
  · rw [if_pos h]
    refine ⟨fun _ F hF => ?_, fun q => absurd q (by decide : ¬ (0 : Nat) = 1)⟩
    obtain ⟨k, hk, rfl⟩ := dTrim (by omega) h
    rw [nI_clamp (show k < 2 ^ 31 by omega)] at hF
    refine C_X10_trim G M F _ ⟨fun q => Int32.not_le.mpr q h.1, fun _ => ⟨fun _ => ?_, fun q => q (by rw [hT.1]; exact h.2)⟩⟩
    refine hF _ (hc.t ⟨fun c a b => eU_other _ _ _ a, fun j a => eU_place _ _ _ _ a⟩ ⟨eU_same _ _ _ _, by omega, fun j hj => ?_⟩)
    rw [eU_cell _ _ _ _ (by decide)]
    exact hT.2.2 j (by omega)
  · rw [if_neg h]
    refine ⟨fun q => absurd q (by decide : ¬ (1 : Nat) = 0), fun _ => CX_X10_trim G M _ a ⟨fun _ => rfl, fun q => ⟨fun q2 => h ⟨Int32.not_lt.mp q, by rw [← hT.1]; exact q2⟩, fun _ => rfl⟩⟩⟩
/-! teaching -/
theorem P_teach {M : eM} {S : gS} (hc : sC M S) (F : Int32 → eM → Prop) (hF : ∀ M', sC M' (z_taught S) → F (z_taughtV S) M') : Cal G 0 68 (103, 0, 0) kX10_teach [.ref (G.1 0)] M (eFI F) := by
  unfold z_taught z_taughtV at hF
  refine T_teach hc.1 F (fun h0 M' f' z' e' => ?_) (fun h0 M' z' e' p' b' r' => ?_)
  · rw [if_neg h0] at hF
    exact hF M' ⟨⟨z', Nat.zero_le _, fun j hj => absurd hj (Nat.not_lt_zero _)⟩, e', hc.2.2.1.fr (fun c hx => f' c (by omega)), hc.2.2.2.1.fr (fun c c1 c2 => f' c (by omega)), by rw [f' 16 (by decide)]; exact hc.2.2.2.2⟩
  · rw [if_pos h0, h0] at hF
    exact hF M' ⟨⟨z', Nat.zero_le _, fun j hj => absurd hj (Nat.not_lt_zero _)⟩, e', p', b', r'⟩
/-! rounds -/
theorem L_play {tv : Nat → Nat} {os : List pOrd} (F : Int32 → eM → Prop) {m : Nat} (hm : m ≤ 20) : ∀ (n i : Nat) (x : gX) (v : Int32) (M : eM), i + n = m → bGm x.1 → gPrg (bN x.1) tv os → cPg M tv os → cB M x.1 → M 16 5 = x.2 → (∀ M', qFr M M' → cB M' (gPl tv os n x).1 → M' 16 5 = (gPl tv os n x).2 → F (gPc tv os n x v) M') → Ev (eZ G 0 68 0 0 (eFI F)) G 0 68 (8, 0, 0) kX10_playRounds 9 [(0, .ref (G.1 0)), (1, .int (nI m)), (2, .int v), (3, .int (nI i))] [] M 0 0
  | 0, i, x, v, M, hi, _, _, _, hB, hr, hF => by
    have hi' : i = m := hi
    subst hi'
    exact B_X10_playRounds_9 G M F _ _ _ ⟨fun _ => hF M (qFr.refl M) hB hr, fun q => absurd (Int32.le_refl _) q⟩
  | n + 1, i, x, v, M, hi, hg, hp, hP, hB, hr, hF => by
    refine B_X10_playRounds_9 G M F _ _ _ ⟨fun q => absurd q (nI_ge (by omega) (by omega)), fun _ => E_round hg hp hP hB _ (fun M1 f1 b1 r1 => ?_)⟩
    rw [hr] at b1 r1
    rw [← nI_succ, hr]
    obtain ⟨h1, h2⟩ := gNx_gm hg hp
    exact L_play F hm n (i + 1) (gNx tv os x) _ M1 (by omega) h1 (by rw [h2.2.2.1]; exact hp) (hP.q f1) b1 r1 (fun M2 f2 b2 r2 => hF M2 (f1.trans f2) b2 r2)
theorem L_points {tv : Nat → Nat} {os : List pOrd} (F : Int32 → eM → Prop) {m : Nat} (hm : m ≤ 20) {S : gS} (hs : sOk S) {M0 : eM} (hc0 : sC M0 S) : ∀ (n i : Nat) (x : gX) (M : eM), i + n = m → bGm x.1 → gPrg (bN x.1) tv os → bSz (gB S) x.1 → cPg M tv os → cB M x.1 → M 16 5 = x.2 → cKp M (gB S) → M 16 4 = gR S → (∀ c, c < 16 ∨ (18 ≤ c ∧ c < 23) ∨ 34 ≤ c → M c = M0 c) → (∀ M', sC M' S → F (nI (bPoints (gPl tv os n x).1)) M') → Ev (eZ G 0 68 0 0 (eFI F)) G 0 68 (8, 0, 0) kX10_pointsAfter 14 [(0, .ref (G.1 0)), (1, .int (nI m)), (2, .int (nI i))] [] M 0 0
  | 0, i, x, M, hi, hg, _, hz, hP, hB, hr, hK, h4, hf, hF => by
    have hi' : i = m := hi
    subst hi'
    refine B_X10_pointsAfter_14 G M F _ _ ⟨fun _ => S_countPoints G hg.1 hg.2 hB _ (S_bringBack hs.2.2.1.1 hg.1 hz hB hK _ (fun M' b' r' f' g' => ?_)), fun q => absurd (Int32.le_refl _) q⟩
    exact hF M' (hc0.b b' (fun c hx => by rw [f' c (by omega) (by omega)]; exact hf c (by omega)) (r'.trans h4))
  | n + 1, i, x, M, hi, hg, hp, hz, hP, hB, hr, hK, h4, hf, hF => by
    refine B_X10_pointsAfter_14 G M F _ _ ⟨fun q => absurd q (nI_ge (by omega) (by omega)), fun _ => E_round hg hp hP hB _ (fun M1 f1 b1 r1 => ?_)⟩
    rw [hr] at b1 r1
    rw [← nI_succ]
    obtain ⟨h1, h2⟩ := gNx_gm hg hp
    refine L_points F hm hs hc0 n (i + 1) (gNx tv os x) M1 (by omega) h1 (by rw [h2.2.2.1]; exact hp) (hz.trans h2) (hP.q f1) b1 r1 ?_ (by rw [f1.2 4 (by decide) (by decide)]; exact h4) (fun c hx => by rw [f1.1 c (by omega) (by omega) (by omega)]; exact hf c hx) hF
    unfold cKp
    rw [f1.1 32 (by decide) (by decide) (by decide), f1.1 33 (by decide) (by decide) (by decide)]
    exact hK
theorem L_until {tv : Nat → Nat} {os : List pOrd} (F : Int32 → eM → Prop) {S : gS} (hs : sOk S) {M0 : eM} (hc0 : sC M0 S) : ∀ (n i : Nat) (x : gX) (M : eM), i + n = 20 → bGm x.1 → gPrg (bN x.1) tv os → bSz (gB S) x.1 → cPg M tv os → cB M x.1 → M 16 5 = x.2 → cKp M (gB S) → M 16 4 = gR S → (∀ c, c < 16 ∨ (18 ≤ c ∧ c < 23) ∨ 34 ≤ c → M c = M0 c) → (∀ M', sC M' S → F (eO (gUr tv os n i x)) M') → Ev (eZ G 0 68 0 0 (eFI F)) G 0 68 (8, 0, 0) kX10_roundsUntilRing 9 [(0, .ref (G.1 0)), (1, .int (nI i))] [] M 0 0 := by
  have rle : ∀ B : eBd, bOk B → bRings B < 2 ^ 31 := fun B hb => by
    have h49 := hb.c49
    have := zSm_le (f := fun c => if bRing B c then 1 else 0) (k := 1) (n := bC B) (fun i _ => by split <;> omega)
    unfold bRings
    omega
  -- the end: counted, and all as it was
  have fin : ∀ (i : Nat) (x : gX) (M : eM) (o : Option Nat), bGm x.1 → bSz (gB S) x.1 → cB M x.1 → cKp M (gB S) → M 16 4 = gR S → (∀ c, c < 16 ∨ (18 ≤ c ∧ c < 23) ∨ 34 ≤ c → M c = M0 c) → o = (if 0 < bRings x.1 then some i else none) → (∀ M', sC M' S → F (eO o) M') → Ev (eZ G 0 68 0 0 (eFI F)) G 0 68 (8, 0, 0) kX10_roundsUntilRing 39 [(0, .ref (G.1 0)), (1, .int (nI i))] [] M 0 0 := by
    intro i x M o hg hz hB hK h4 hf ho hF
    have hr31 := rle x.1 hg.1
    refine B_X10_roundsUntilRing_39 G M F _ (S_countRings G hg.1 hB _ ⟨fun q => ?_, fun q => ?_⟩)
    · have : ¬ 0 < bRings x.1 := fun z => absurd q (nI_ge (a := 0) z hr31)
      rw [if_neg this] at ho
      subst ho
      exact S_bringBack hs.2.2.1.1 hg.1 hz hB hK _ (fun M' b' r' f' g' => ⟨fun _ => hF M' (hc0.b b' (fun c hx => by rw [f' c (by omega) (by omega)]; exact hf c (by omega)) (r'.trans h4)), fun q => absurd rfl q⟩)
    · have : 0 < bRings x.1 := by
        rcases Nat.eq_zero_or_pos (bRings x.1) with z | z
        · rw [z] at q; exact absurd (by decide) q
        · exact z
      rw [if_pos this] at ho
      subst ho
      exact S_bringBack hs.2.2.1.1 hg.1 hz hB hK _ (fun M' b' r' f' g' => ⟨fun q => absurd q (by decide), fun _ => hF M' (hc0.b b' (fun c hx => by rw [f' c (by omega) (by omega)]; exact hf c (by omega)) (r'.trans h4))⟩)
  intro n
  induction n with
  | zero =>
    intro i x M hi hg hp hz hP hB hr hK h4 hf hF
    have hi' : i = 20 := hi
    subst hi'
    exact B_X10_roundsUntilRing_9 G M F _ ⟨fun _ => fin 20 x M _ hg hz hB hK h4 hf rfl hF, fun q => absurd (Int32.le_refl 20) q⟩
  | succ n ih =>
    intro i x M hi hg hp hz hP hB hr hK h4 hf hF
    have hr31 := rle x.1 hg.1
    refine B_X10_roundsUntilRing_9 G M F _ ⟨fun q => absurd q (nI_ge (b := 20) (by omega) (by decide)), fun _ => S_countRings G hg.1 hB _ ⟨fun q => ?_, fun q => ?_⟩⟩
    · have h0 : 0 < bRings x.1 := by
        rcases Nat.eq_zero_or_pos (bRings x.1) with z | z
        · rw [z] at q; exact absurd rfl q
        · exact z
      refine fin i x M _ hg hz hB hK h4 hf ?_ hF
      show (if 0 < bRings x.1 then some i else gUr tv os n (i + 1) (gNx tv os x)) = _
      rw [if_pos h0, if_pos h0]
    · have h0 : ¬ 0 < bRings x.1 := fun z => by
        have := (nI_eq (b := 0) hr31 (by decide)).mp q
        omega
      refine E_round hg hp hP hB _ (fun M1 f1 b1 r1 => ?_)
      rw [hr] at b1 r1
      rw [← nI_succ]
      obtain ⟨h1, h2⟩ := gNx_gm hg hp
      refine ih (i + 1) (gNx tv os x) M1 (by omega) h1 (by rw [h2.2.2.1]; exact hp) (hz.trans h2) (hP.q f1) b1 r1 ?_ (by rw [f1.2 4 (by decide) (by decide)]; exact h4) (fun c hx => by rw [f1.1 c (by omega) (by omega) (by omega)]; exact hf c hx) (fun M' hM' => ?_)
      · unfold cKp
        rw [f1.1 32 (by decide) (by decide) (by decide), f1.1 33 (by decide) (by decide) (by decide)]
        exact hK
      · have e := hF M' hM'
        have e2 : gUr tv os (n + 1) i x = gUr tv os n (i + 1) (gNx tv os x) := if_neg h0
        rw [e2] at e
        exact e
theorem P_playRounds {M : eM} {S : gS} (hs : sOk S) (hc : sC M S) (a : Int32) : ((z_playRounds S a).1 = 0 → ∀ F : Int32 → eM → Prop, (∀ M', sC M' (z_playRounds S a).2.2 → F (z_playRounds S a).2.1 M') → Cal G 0 68 (8, 0, 0) kX10_playRounds [.ref (G.1 0), .int a] M (eFI F)) ∧ ((z_playRounds S a).1 = 1 → CalX G 0 68 (10, 1, 6) kX10_playRounds [.ref (G.1 0), .int a] M "java/lang/IllegalArgumentException") := by
  unfold z_playRounds
  by_cases h : dRn a
  · rw [if_pos h]
    refine ⟨fun _ F hF => ?_, fun q => absurd q (by decide : ¬ (0 : Nat) = 1)⟩
    have hrn := h
    obtain ⟨k, hk, rfl⟩ := dRn_nat h
    rw [nI_clamp (show k < 2 ^ 31 by omega)] at hF
    refine C_X10_playRounds G M F _ (Q_rounds hrn _ ?_)
    refine L_play F hk.2 k 0 (gB S, gR S) 0 M (Nat.zero_add _) hs.2.2.1 hs.2.2.2 hc.2.2.1 hc.2.2.2.1 hc.2.2.2.2 (fun M' f' b' r' => ?_)
    exact hF M' (hc.b b' (fun c hx => f'.1 c (by omega) (by omega) (by omega)) r')
  · rw [if_neg h]
    exact ⟨fun q => absurd q (by decide : ¬ (1 : Nat) = 0), fun _ => CX_X10_playRounds G M _ a (QX_rounds h)⟩
theorem P_pointsAfter {M : eM} {S : gS} (hs : sOk S) (hc : sC M S) (a : Int32) : ((z_pointsAfter S a).1 = 0 → ∀ F : Int32 → eM → Prop, (∀ M', sC M' (z_pointsAfter S a).2.2 → F (z_pointsAfter S a).2.1 M') → Cal G 0 68 (8, 0, 0) kX10_pointsAfter [.ref (G.1 0), .int a] M (eFI F)) ∧ ((z_pointsAfter S a).1 = 1 → CalX G 0 68 (10, 1, 6) kX10_pointsAfter [.ref (G.1 0), .int a] M "java/lang/IllegalArgumentException") := by
  unfold z_pointsAfter
  by_cases h : dRn a
  · rw [if_pos h]
    refine ⟨fun _ F hF => ?_, fun q => absurd q (by decide : ¬ (0 : Nat) = 1)⟩
    have hrn := h
    obtain ⟨k, hk, rfl⟩ := dRn_nat h
    rw [nI_clamp (show k < 2 ^ 31 by omega)] at hF
    refine C_X10_pointsAfter G M F _ (Q_rounds hrn _ (S_keep hs.2.2.1.1 hc.2.2.2.1 _ (fun M1 b1 k1 r1 f1 g1 => ?_)))
    refine L_points F hk.2 hs hc k 0 (gB S, gR S) M1 (Nat.zero_add _) hs.2.2.1 hs.2.2.2 (bSz.refl _) (hc.2.2.1.fr (fun c hx => f1 c (by omega) (by omega) (by omega))) b1 (by rw [g1 5 (by decide)]; exact hc.2.2.2.2) k1 (r1.trans hc.2.2.2.2) (fun c hx => f1 c (by omega) (by omega) (by omega)) hF
  · rw [if_neg h]
    exact ⟨fun q => absurd q (by decide : ¬ (1 : Nat) = 0), fun _ => CX_X10_pointsAfter G M _ a (QX_rounds h)⟩
theorem P_until {M : eM} {S : gS} (hs : sOk S) (hc : sC M S) (F : Int32 → eM → Prop) (hF : ∀ M', sC M' S → F (z_until S) M') : Cal G 0 68 (8, 0, 0) kX10_roundsUntilRing [.ref (G.1 0)] M (eFI F) := by
  refine C_X10_roundsUntilRing G M F (S_keep hs.2.2.1.1 hc.2.2.2.1 _ (fun M1 b1 k1 r1 f1 g1 => ?_))
  exact L_until F hs hc 20 0 (gB S, gR S) M1 rfl hs.2.2.1 hs.2.2.2 (bSz.refl _) (hc.2.2.1.fr (fun c hx => f1 c (by omega) (by omega) (by omega))) b1 (by rw [g1 5 (by decide)]; exact hc.2.2.2.2) k1 (r1.trans hc.2.2.2.2) (fun c hx => f1 c (by omega) (by omega) (by omega)) hF
/-! the mean, the digest -/
theorem P_meanMatch {M : eM} {S : gS} (hs : sOk S) (hc : sC M S) (F : UInt64 → eM → Prop) (hF : ∀ M', sC M' S → F (z_mean S) M') : Cal G 0 68 (3, 0, 0) kX10_meanMatch [.ref (G.1 0)] M (eFD F) := by
  have hb := hs.2.2.1.1
  have hB := hc.2.2.2.1
  have h31 := bMatch_le hb
  have hF' := hF M hc
  unfold z_mean at hF'
  refine C_X10_meanMatch G M F (S_countMatches G hb hB _ ⟨fun q => S_sumOfMatches G hb hB _ ?_, fun q => ?_⟩)
  · have h0 : ¬ bMatch (gB S) = 0 := fun z => by rw [z] at q; exact absurd q (by decide)
    have e : zSm (bHereF (gB S)) (bC (gB S)) = bMatched (gB S) := zSm_ext (fun c hcc => bHereF_eq hs.2.2.1.2 hcc)
    rw [if_neg h0] at hF'
    rw [e]
    exact ⟨eNaN (bMatched_le hs.2.2.1) (by omega) (bMatch_147 hb), hF'⟩
  · have h0 : bMatch (gB S) = 0 := by
      rcases Nat.eq_zero_or_pos (bMatch (gB S)) with z | z
      · exact z
      · exact absurd (nI_lt (a := 0) z h31) q
    rw [if_pos h0] at hF'
    exact hF'
theorem L_dt (F : Int64 → eM → Prop) {S : gS} (hs : sOk S) {M : eM} (hc : sC M S) : ∀ (n k : Nat) (d : Int64), k + n = bN (gB S) → (∀ M', sC M' S → F (zDt (gB S) n k d) M') → Ev (eZ G 0 68 0 0 (eFL F)) G 0 68 (6, 0, 0) kX10_digest 202 [(0, .ref (G.1 0)), (1, .long d), (3, .int (nI k))] [] M 0 0
  | 0, k, d, hk, hF => by
    have hk' : k = bN (gB S) := hk
    refine B_X10_digest_202 G M F _ _ ⟨fun _ => hF M hc, fun q => absurd ?_ q⟩
    rw [hc.2.2.2.1.nn, hk']; exact Int32.le_refl _
  | n + 1, k, d, hk, hF => by
    have hb := hs.2.2.1.1
    have hB := hc.2.2.2.1
    have h16 := hb.2.2.1
    have h49 := hb.c49
    have hkN : k < bN (gB S) := by omega
    have hw31 : bWays (gB S) k < 2 ^ 31 := by
      have := zSm_le (f := fun c => zSm (fun t => if bFits (gB S) k c t then 1 else 0) 6) (k := 6) (n := bC (gB S)) (fun i _ => bWaysC_le (gB S) k i 6)
      unfold bWays
      omega
    have next : ∀ v l : Int32, v = (if (bCe (gB S) k).isSome then nI (bTr (gB S) k) else -1) → l = (if bLeft (gB S) k then (1 : Int32) else 0) → Ev (eZ G 0 68 0 0 (eFL F)) G 0 68 (6, 0, 0) kX10_digest 202 [(0, .ref (G.1 0)), (1, .long ((((((d * 31) + v.toInt64) * 31) + (nI (bWays (gB S) k)).toInt64) * 31) + l.toInt64)), (3, .int (nI k + 1))] [] M 0 0 := by
      intro v l hv hl
      rw [← nI_succ]
      subst hv hl
      exact L_dt F hs hc n (k + 1) _ (by omega) hF
    refine B_X10_digest_202 G M F _ _ ⟨fun q => absurd q ?_, fun _ => S_countWays G hb hB _ hkN (S_lies G hb hB _ hkN ?_)⟩
    · rw [hB.nn]; exact nI_ge hkN (by omega)
    · cases h1 : bCe (gB S) k with
      | none =>
        rw [h1] at next
        refine ⟨fun _ => ⟨fun q => next _ _ rfl ?_, fun q => S_lies G hb hB _ hkN ?_⟩, fun q => by cases q⟩
        · have h2 : ¬ bWays (gB S) k = 0 := fun z => q (by rw [z]; rfl)
          have h3 : bLeft (gB S) k = false := by
            unfold bLeft
            rw [h1]
            cases h4 : bFirst (gB S) k with
            | none => exact absurd ((bWays_0 h1).mpr h4) h2
            | some c => rfl
          rw [h3]
          rfl
        · have h2 : bWays (gB S) k = 0 := (nI_eq (b := 0) hw31 (by decide)).mp q
          have h3 : bLeft (gB S) k = true := by
            unfold bLeft
            rw [h1, (bWays_0 h1).mp h2]
            rfl
          rw [h1]
          exact ⟨fun q => (by cases q), fun _ => next _ _ rfl (by rw [h3]; rfl)⟩
      | some c =>
        rw [h1] at next
        have h0 := bWays_lie h1
        have h3 : bLeft (gB S) k = false := by unfold bLeft; rw [h1]; rfl
        refine ⟨fun q => (by cases q), fun _ => ⟨vp_in_nI (by omega) (by decide), fun q => absurd (by rw [h0]; rfl) q, fun _ => S_lies G hb hB _ hkN ?_⟩⟩
        rw [h1, nI_clamp (show k < 2 ^ 31 by omega), hB.tr hkN h1]
        exact ⟨fun _ => next _ _ rfl (by rw [h3]; rfl), fun q => (by cases q)⟩
theorem L_dc (F : Int64 → eM → Prop) {S : gS} (hs : sOk S) {M : eM} (hc : sC M S) : ∀ (n k : Nat) (d : Int64), k + n = bC (gB S) → (∀ M', sC M' S → F (zDt (gB S) (bN (gB S)) 0 (zDc (gB S) n k d)) M') → Ev (eZ G 0 68 0 0 (eFL F)) G 0 68 (6, 0, 0) kX10_digest 126 [(0, .ref (G.1 0)), (1, .long d), (3, .int (nI k))] [] M 0 0
  | 0, k, d, hk, hF => by
    have hk' : k = bC (gB S) := hk
    refine B_X10_digest_126 G M F _ _ ⟨fun _ => L_dt F hs hc (bN (gB S)) 0 d (Nat.zero_add _) hF, fun q => absurd ?_ q⟩
    rw [hc.2.2.2.1.nc, hk']; exact Int32.le_refl _
  | n + 1, k, d, hk, hF => by
    have hb := hs.2.2.1.1
    have hB := hc.2.2.2.1
    have h49 := hb.c49
    have hkC : k < bC (gB S) := by omega
    refine B_X10_digest_126 G M F _ _ ⟨fun q => absurd q ?_, fun _ => ⟨vp_in_nI (by omega) (by decide), S_matchesOn G hb hB _ hkC (S_isEnc G hb hB _ hkC ?_)⟩⟩
    · rw [hB.nc]; exact nI_ge hkC (by omega)
    · rw [nI_clamp (show k < 2 ^ 31 by omega), hB.at hkC, ← nI_succ]
      have go := L_dc F hs hc n (k + 1) _ (by omega) hF
      refine ⟨fun q => ?_, fun q => ?_⟩
      · rw [q] at go; exact go
      · rw [q] at go; exact go
theorem P_digest {M : eM} {S : gS} (hs : sOk S) (hc : sC M S) (F : Int64 → eM → Prop) (hF : ∀ M', sC M' S → F (z_digest S) M') : Cal G 0 68 (6, 0, 0) kX10_digest [.ref (G.1 0)] M (eFL F) := by
  refine C_X10_digest G M F (P_columns hc _ (fun M1 c1 => P_rows c1 _ (fun M2 c2 => P_tiles c2 _ (fun M3 c3 => P_rounds c3 _ (fun M4 c4 => P_placedTiles c4 _ (fun M5 c5 => P_matches hs c5 _ (fun M6 c6 => P_points hs c6 _ (fun M7 c7 => P_rings hs c7 _ (fun M8 c8 => P_groups hs c8 _ (fun M9 c9 => P_bestTile hs c9 _ (fun M10 c10 => ?_)))))))))))
  exact L_dc F hs c10 (bC (gB S)) 0 _ (Nat.zero_add _) hF
end Pub2
