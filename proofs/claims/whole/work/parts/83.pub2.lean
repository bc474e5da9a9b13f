/-! ===== the class's public calls, on ===== -/
section Pub2
variable {G : eG}
theorem P_columns {M : eM} {S : gS} (hc : sC M S) (F : Int32 → eM → Prop) (hF : ∀ M', sC M' S → F (nI (bW (gB S))) M') : Cal G 0 68 (1, 0, 0) kX10_columns [.ref (G.1 0)] M (eFI F) :=
  C_X10_columns G M F (by rw [hc.2.2.2.1.1.1]; exact hF M hc)
theorem P_rows {M : eM} {S : gS} (hc : sC M S) (F : Int32 → eM → Prop) (hF : ∀ M', sC M' S → F (nI (bR (gB S))) M') : Cal G 0 68 (1, 0, 0) kX10_rows [.ref (G.1 0)] M (eFI F) :=
  C_X10_rows G M F (by rw [hc.2.2.2.1.1.2.1]; exact hF M hc)
theorem P_tiles {M : eM} {S : gS} (hc : sC M S) (F : Int32 → eM → Prop) (hF : ∀ M', sC M' S → F (nI (bN (gB S))) M') : Cal G 0 68 (1, 0, 0) kX10_tiles [.ref (G.1 0)] M (eFI F) :=
  C_X10_tiles G M F (by rw [hc.2.2.2.1.nn]; exact hF M hc)
theorem P_rounds {M : eM} {S : gS} (hc : sC M S) (F : Int32 → eM → Prop) (hF : ∀ M', sC M' S → F (gR S) M') : Cal G 0 68 (1, 0, 0) kX10_rounds [.ref (G.1 0)] M (eFI F) :=
  C_X10_rounds G M F (by rw [hc.2.2.2.2]; exact hF M hc)
theorem P_placedTiles {M : eM} {S : gS} (hc : sC M S) (F : Int32 → eM → Prop) (hF : ∀ M', sC M' S → F (nI (bP (gB S))) M') : Cal G 0 68 (1, 0, 0) kX10_placedTiles [.ref (G.1 0)] M (eFI F) :=
  C_X10_placedTiles G M F (by rw [hc.2.2.2.1.np]; exact hF M hc)
theorem P_errorAt {M : eM} {S : gS} (hc : sC M S) (F : Int32 → eM → Prop) (hF : ∀ M', sC M' S → F (gEr S) M') : Cal G 0 68 (1, 0, 0) kX10_errorAt [.ref (G.1 0)] M (eFI F) :=
  C_X10_errorAt G M F (by rw [hc.2.1]; exact hF M hc)
theorem P_matches {M : eM} {S : gS} (hs : sOk S) (hc : sC M S) (F : Int32 → eM → Prop) (hF : ∀ M', sC M' S → F (nI (bMatch (gB S))) M') : Cal G 0 68 (3, 0, 0) kX10_matches [.ref (G.1 0)] M (eFI F) :=
  C_X10_matches G M F (S_countMatches G hs.2.2.1.1 hc.2.2.2.1 _ (hF M hc))
theorem P_points {M : eM} {S : gS} (hs : sOk S) (hc : sC M S) (F : Int32 → eM → Prop) (hF : ∀ M', sC M' S → F (nI (bPoints (gB S))) M') : Cal G 0 68 (4, 0, 0) kX10_points [.ref (G.1 0)] M (eFI F) :=
  C_X10_points G M F (S_countPoints G hs.2.2.1.1 hs.2.2.1.2 hc.2.2.2.1 _ (hF M hc))
theorem P_rings {M : eM} {S : gS} (hs : sOk S) (hc : sC M S) (F : Int32 → eM → Prop) (hF : ∀ M', sC M' S → F (nI (bRings (gB S))) M') : Cal G 0 68 (3, 0, 0) kX10_rings [.ref (G.1 0)] M (eFI F) :=
  C_X10_rings G M F (S_countRings G hs.2.2.1.1 hc.2.2.2.1 _ (hF M hc))
theorem P_bestTile {M : eM} {S : gS} (hs : sOk S) (hc : sC M S) (F : Int32 → eM → Prop) (hF : ∀ M', sC M' S → F (eO (bBestT (gB S))) M') : Cal G 0 68 (5, 0, 0) kX10_bestTile [.ref (G.1 0)] M (eFI F) :=
  C_X10_bestTile G M F (S_richestTile G hs.2.2.1.1 hc.2.2.2.1 _ (hF M hc))
theorem P_groups {M : eM} {S : gS} (hs : sOk S) (hc : sC M S) (F : Int32 → eM → Prop) (hF : ∀ M', sC M' S → F (nI (bGroups (gB S))) M') : Cal G 0 68 (3, 0, 0) kX10_groups [.ref (G.1 0)] M (eFI F) :=
  C_X10_groups G M F (S_countGroups hs.2.2.1.1 hc.2.2.2.1 _ (fun M' b' f' => hF M' (hc.b b' (fun c hx => f' c (by omega) (by omega)) (by rw [f' 16 (by decide) (by decide)]; exact hc.2.2.2.2))))
/-! bytes -/
def fB (y : Int32) : Nat := (y.toInt % 256).toNat
theorem fB_lt (y : Int32) : fB y < 256 := by
  have h1 := Int.emod_nonneg y.toInt (show (256 : Int) ≠ 0 by decide)
  have h2 := Int.emod_lt_of_pos y.toInt (show (0 : Int) < 256 by decide)
  unfold fB
  omega
theorem fB_sb (y : Int32) : y.toInt8.toInt32 = sb (fB y) := by
  have h1 := Int.emod_nonneg y.toInt (show (256 : Int) ≠ 0 by decide)
  have h2 := Int.emod_lt_of_pos y.toInt (show (0 : Int) < 256 by decide)
  refine Int32.toInt_inj.mp ?_
  rw [Int8.toInt_toInt32, Int32.toInt_toInt8, sb_toInt _ (fB_lt y)]
  have e : Int.bmod y.toInt (2 ^ 8) = (if y.toInt % 256 < 128 then y.toInt % 256 else y.toInt % 256 - 256) := by
    first | exact (Int.bmod_def _ _).trans rfl | (unfold Int.bmod; rfl) | (simp [Int.bmod])
  rw [e]
  unfold fB
  split <;> split <;> omega
theorem fB_and (y : Int32) : y &&& 255 = nI (fB y) := by
  have h0 := fB_lt y
  refine Int32.toInt_inj.mp ?_
  rw [nI_toInt (by omega)]
  have e1 : (y &&& 255).toBitVec.toNat = y.toBitVec.toNat % 256 := by
    rw [Int32.toBitVec_and, BitVec.toNat_and]
    exact Nat.and_two_pow_sub_one_eq_mod y.toBitVec.toNat 8
  have e2 : (y &&& 255).toInt = ((y &&& 255).toBitVec.toNat : Int) := BitVec.toInt_eq_toNat_of_lt (by rw [e1]; omega)
  have e3 : y.toInt % 256 = ((y.toBitVec.toNat % 256 : Nat) : Int) := by
    have h : y.toInt = if 2 * y.toBitVec.toNat < 2 ^ 32 then (y.toBitVec.toNat : Int) else (y.toBitVec.toNat : Int) - (2 ^ 32 : Nat) := rfl
    rw [h]
    split <;> omega
  rw [e2, e1]
  unfold fB
  omega
def fW (bt : Nat → Nat) (sz : Nat) (x : Int32) : Nat → Nat := zU (zU (zU (zU bt sz (fB (x >>> 24))) (sz + 1) (fB (x >>> 16))) (sz + 2) (fB (x >>> 8))) (sz + 3) (fB (x >>> 0))
def fW5 (bt : Nat → Nat) (sz : Nat) (a b c d e : Int32) : Nat → Nat := fW (fW (fW (fW (fW bt sz a) (sz + 4) b) (sz + 8) c) (sz + 12) d) (sz + 16) e
theorem zU_lt {bt : Nat → Nat} {k v : Nat} (h : ∀ j, bt j < 256) (hv : v < 256) : ∀ j, zU bt k v j < 256 := fun j => by
  by_cases hq : j = k
  · rw [hq, zU_same]; exact hv
  · rw [zU_ne _ _ hq]; exact h j
theorem fW_lt {bt : Nat → Nat} {sz : Nat} {x : Int32} (h : ∀ j, bt j < 256) : ∀ j, fW bt sz x j < 256 := zU_lt (zU_lt (zU_lt (zU_lt h (fB_lt _)) (fB_lt _)) (fB_lt _)) (fB_lt _)
theorem fW5_lt {bt : Nat → Nat} {sz : Nat} {a b c d e : Int32} (h : ∀ j, bt j < 256) : ∀ j, fW5 bt sz a b c d e j < 256 := fW_lt (fW_lt (fW_lt (fW_lt (fW_lt h))))
/-- the tape's cells alone are written -/
def tFr (M M' : eM) : Prop := (∀ c, c ≠ 1 → c ≠ 2 → M' c = M c) ∧ ∀ j, j ≠ 1 → M' 1 j = M 1 j
theorem tFr.refl (M : eM) : tFr M M := ⟨fun _ _ _ => rfl, fun _ _ => rfl⟩
theorem tFr.trans {M M1 M2 : eM} (h : tFr M M1) (h1 : tFr M1 M2) : tFr M M2 := ⟨fun c a b => (h1.1 c a b).trans (h.1 c a b), fun j a => (h1.2 j a).trans (h.2 j a)⟩
theorem Z_byte {M : eM} {bt : Nat → Nat} {sz : Nat} (hT : cTape M bt sz) (hsz : sz < 2000) (F : eM → Prop) (x s : Int32) (s' : Int32) (hs0 : ¬ s < 0) (hs1 : s &&& 31 = s) (hs2 : s + -8 = s') (h : ∀ M', tFr M M' → cTape M' (zU bt sz (fB (x >>> s))) (sz + 1) → Ev (eZ G 0 68 0 0 (eFV F)) G 0 68 (1, 0, 0) kX8_append 3 [(0, .ref (G.1 1)), (1, .int x), (2, .int s')] [] M' 0 0) : Ev (eZ G 0 68 0 0 (eFV F)) G 0 68 (1, 0, 0) kX8_append 3 [(0, .ref (G.1 1)), (1, .int x), (2, .int s)] [] M 0 0 := by
  obtain ⟨t1, t2, t3⟩ := hT
  refine B_X8_append_3 G M F _ _ ⟨fun q => absurd q hs0, fun _ => ⟨fun q => absurd q ?_, fun _ => ?_⟩⟩
  · rw [t1]; exact nI_ge (b := 2000) hsz (by decide)
  rw [t1, hs1, hs2, nI_clamp (show sz < 2 ^ 31 by omega), eU_cell _ _ _ _ (by decide), t1, Int8.toInt8_toInt32, fB_sb, ← nI_succ]
  refine ⟨vp_in_nI hsz (by decide), h _ ⟨fun c a b => ?_, fun j a => ?_⟩ ⟨eU_same _ _ _ _, by omega, fun j hj => ?_⟩⟩
  · rw [eU_other _ _ _ a, eU_other _ _ _ b]
  · rw [eU_place _ _ _ _ a, eU_cell _ _ _ _ (by decide)]
  · rw [eU_cell _ _ _ _ (by decide)]
    by_cases hq : j = sz
    · rw [hq, eU_same, zU_same]
      exact ⟨rfl, fB_lt _⟩
    · rw [eU_place _ _ _ _ hq, zU_ne _ _ hq]
      exact t3 j (by omega)
theorem Z_append {M : eM} {bt : Nat → Nat} {sz : Nat} (hT : cTape M bt sz) (hsz : sz + 4 ≤ 2000) (F : eM → Prop) (x : Int32) (h : ∀ M', tFr M M' → cTape M' (fW bt sz x) (sz + 4) → F M') : Cal G 0 68 (1, 0, 0) kX8_append [.ref (G.1 1), .int x] M (eFV F) := by
  refine C_X8_append G M F x ?_
  refine Z_byte hT (by omega) F x 24 16 (by decide) (by decide) (by decide) (fun M1 f1 t1 => ?_)
  refine Z_byte t1 (by omega) F x 16 8 (by decide) (by decide) (by decide) (fun M2 f2 t2 => ?_)
  refine Z_byte t2 (by omega) F x 8 0 (by decide) (by decide) (by decide) (fun M3 f3 t3 => ?_)
  refine Z_byte t3 (by omega) F x 0 (-8) (by decide) (by decide) (by decide) (fun M4 f4 t4 => ?_)
  exact B_X8_append_3 G M4 F _ _ ⟨fun _ => h M4 (((f1.trans f2).trans f3).trans f4) t4, fun q => absurd (by decide) q⟩
def z_feed (S : gS) (a b c d e : Int32) : zI := if gSz S + 20 ≤ 2000 then (0, nI (gSz S + 20), ((gSz S + 20, fW5 (gBt S) (gSz S) a b c d e), S.2)) else (1, 0, S)
theorem sC.t {M M' : eM} {S : gS} {sz : Nat} {bt : Nat → Nat} (h : sC M S) (hf : tFr M M') (ht : cTape M' bt sz) : sC M' ((sz, bt), S.2) := by
  obtain ⟨h1, h2, h3, h4, h5⟩ := h
  refine ⟨ht, ?_, h3.fr (fun c hc => hf.1 c (by omega) (by omega)), h4.fr (fun c c1 c2 => hf.1 c (by omega) (by omega)), ?_⟩
  · show M' 0 7 = gEr S
    rw [hf.1 0 (by decide) (by decide)]; exact h2
  · show M' 16 5 = gR S
    rw [hf.1 16 (by decide) (by decide)]; exact h5
theorem P_feed {M : eM} {S : gS} (hs : sOk S) (hc : sC M S) (a b c d e : Int32) : ((z_feed S a b c d e).1 = 0 → ∀ F : Int32 → eM → Prop, (∀ M', sC M' (z_feed S a b c d e).2.2 → F (z_feed S a b c d e).2.1 M') → Cal G 0 68 (2, 0, 0) kX10_feed [.ref (G.1 0), .int a, .int b, .int c, .int d, .int e] M (eFI F)) ∧ ((z_feed S a b c d e).1 = 1 → CalX G 0 68 (10, 1, 6) kX10_feed [.ref (G.1 0), .int a, .int b, .int c, .int d, .int e] M "java/lang/IllegalStateException") := by
  have hT := hc.1
  have hsz := hs.1
  unfold z_feed
  by_cases h : gSz S + 20 ≤ 2000
  · rw [if_pos h]
    refine ⟨fun _ F hF => ?_, fun q => absurd q (by decide : ¬ (0 : Nat) = 1)⟩
    refine C_X10_feed G M F _ _ _ _ _ (C_X8_hasRoomFor G M _ _ ?_)
    rw [hT.1, show (2000 : Int32) - nI (gSz S) = nI (2000 - gSz S) from nI_sub (a := 2000) (by omega)]
    refine ⟨fun q => absurd q (nI_nlt (b := 20) (by omega) (by omega)), fun _ => ⟨fun _ => ?_, cTF⟩⟩
    refine Z_append hT (by omega) _ a (fun M1 f1 t1 => Z_append t1 (by omega) _ b (fun M2 f2 t2 => Z_append t2 (by omega) _ c (fun M3 f3 t3 => Z_append t3 (by omega) _ d (fun M4 f4 t4 => Z_append t4 (by omega) _ e (fun M5 f5 t5 => ?_)))))
    rw [t5.1]
    exact hF M5 (hc.t ((((f1.trans f2).trans f3).trans f4).trans f5) t5)
  · rw [if_neg h]
    refine ⟨fun q => absurd q (by decide : ¬ (1 : Nat) = 0), fun _ => CX_X10_feed G M _ _ _ _ _ _ (C_X8_hasRoomFor G M _ _ ?_)⟩
    rw [hT.1, show (2000 : Int32) - nI (gSz S) = nI (2000 - gSz S) from nI_sub (a := 2000) (by omega)]
    exact ⟨fun _ => ⟨cFT, fun _ => ⟨rfl, rfl⟩⟩, fun q => absurd (nI_lt (b := 20) (by omega) (by decide)) q⟩
def z_trim (S : gS) (a : Int32) : zI := if 0 ≤ a ∧ a ≤ nI (gSz S) then (0, a, ((a.toNatClampNeg, gBt S), S.2)) else (1, 0, S)
theorem dTrim {a : Int32} {n : Nat} (hn : n < 2 ^ 31) (h : 0 ≤ a ∧ a ≤ nI n) : ∃ k, k ≤ n ∧ a = nI k := by
  have h1 := Int32.le_iff_toInt_le.mp h.1
  have h2 := Int32.le_iff_toInt_le.mp h.2
  rw [nI_toInt hn] at h2
  rw [Int32.toInt_zero] at h1
  refine ⟨a.toInt.toNat, by omega, Int32.toInt_inj.mp ?_⟩
  rw [nI_toInt (by omega)]
  omega
theorem P_trim {M : eM} {S : gS} (hs : sOk S) (hc : sC M S) (a : Int32) : ((z_trim S a).1 = 0 → ∀ F : Int32 → eM → Prop, (∀ M', sC M' (z_trim S a).2.2 → F (z_trim S a).2.1 M') → Cal G 0 68 (1, 0, 0) kX10_trim [.ref (G.1 0), .int a] M (eFI F)) ∧ ((z_trim S a).1 = 1 → CalX G 0 68 (10, 1, 6) kX10_trim [.ref (G.1 0), .int a] M "java/lang/IllegalArgumentException") := by
  have hT := hc.1
  have hsz := hs.1
  unfold z_trim
  by_cases h : 0 ≤ a ∧ a ≤ nI (gSz S)
  · rw [if_pos h]
    refine ⟨fun _ F hF => ?_, fun q => absurd q (by decide : ¬ (0 : Nat) = 1)⟩
    obtain ⟨k, hk, rfl⟩ := dTrim (by omega) h
    rw [nI_clamp (show k < 2 ^ 31 by omega)] at hF
    refine C_X10_trim G M F _ ⟨fun q => Int32.not_le.mpr q h.1, fun _ => ⟨fun _ => ?_, fun q => q (by rw [hT.1]; exact h.2)⟩⟩
    refine hF _ (hc.t ⟨fun c a b => eU_other _ _ _ a, fun j a => eU_place _ _ _ _ a⟩ ⟨eU_same _ _ _ _, by omega, fun j hj => ?_⟩)
    rw [eU_cell _ _ _ _ (by decide)]
    exact hT.2.2 j (by omega)
  · rw [if_neg h]
    refine ⟨fun q => absurd q (by decide : ¬ (1 : Nat) = 0), fun _ => CX_X10_trim G M _ a ⟨fun _ => rfl, fun q => ⟨fun q2 => h ⟨Int32.not_lt.mp q, by rw [← hT.1]; exact q2⟩, fun _ => rfl⟩⟩⟩
/-! teaching -/
def z_taughtV (S : gS) : Int32 := nI (tEr (gBt S) (gSz S)).1
def z_taught (S : gS) : gS := if (tEr (gBt S) (gSz S)).1 = 0 then ((0, gBt S), -1, (tV (gBt S) (gSz S), tOs (gBt S) (gSz S)), tB0 (gBt S) (gSz S), 0) else ((0, gBt S), nI (tAt (gBt S) (gSz S) (tEr (gBt S) (gSz S)).2), S.2.2)
theorem sOk.taught {S : gS} (h : sOk S) : sOk (z_taught S) := by
  unfold z_taught
  split
  · rename_i h0
    obtain ⟨g1, g2⟩ := tOut_gm h0
    exact ⟨Nat.zero_le _, h.2.1, g2, g1⟩
  · exact ⟨Nat.zero_le _, h.2.1, h.2.2⟩
theorem P_teach {M : eM} {S : gS} (hc : sC M S) (F : Int32 → eM → Prop) (hF : ∀ M', sC M' (z_taught S) → F (z_taughtV S) M') : Cal G 0 68 (103, 0, 0) kX10_teach [.ref (G.1 0)] M (eFI F) := by
  unfold z_taught z_taughtV at hF
  refine T_teach hc.1 F (fun h0 M' f' z' e' => ?_) (fun h0 M' z' e' p' b' r' => ?_)
  · rw [if_neg h0] at hF
    exact hF M' ⟨⟨z', Nat.zero_le _, fun j hj => absurd hj (Nat.not_lt_zero _)⟩, e', hc.2.2.1.fr (fun c hx => f' c (by omega)), hc.2.2.2.1.fr (fun c c1 c2 => f' c (by omega)), by rw [f' 16 (by decide)]; exact hc.2.2.2.2⟩
  · rw [if_pos h0, h0] at hF
    exact hF M' ⟨⟨z', Nat.zero_le _, fun j hj => absurd hj (Nat.not_lt_zero _)⟩, e', p', b', r'⟩
/-! rounds -/
theorem gNx_gm {tv : Nat → Nat} {os : List pOrd} {x : gX} (h : bGm x.1) (hp : gPrg (bN x.1) tv os) : bGm (gNx tv os x).1 ∧ bSz x.1 (gNx tv os x).1 := gRnd_gm (N := bN x.1) os (x.1, 0) h rfl (fun o ho => (hp.2.2 o ho).2.1)
theorem gPl_gm {tv : Nat → Nat} {os : List pOrd} : ∀ (n : Nat) (x : gX), bGm x.1 → gPrg (bN x.1) tv os → bGm (gPl tv os n x).1 ∧ bSz x.1 (gPl tv os n x).1
  | 0, x, h, _ => ⟨h, bSz.refl _⟩
  | n + 1, x, h, hp => by
    obtain ⟨h1, h2⟩ := gNx_gm h hp
    obtain ⟨h3, h4⟩ := gPl_gm n (gNx tv os x) h1 (by rw [h2.2.2.1]; exact hp)
    exact ⟨h3, h2.trans h4⟩
theorem L_play {tv : Nat → Nat} {os : List pOrd} (F : Int32 → eM → Prop) {m : Nat} (hm : m ≤ 20) : ∀ (n i : Nat) (x : gX) (v : Int32) (M : eM), i + n = m → bGm x.1 → gPrg (bN x.1) tv os → cPg M tv os → cB M x.1 → M 16 5 = x.2 → (∀ M', qFr M M' → cB M' (gPl tv os n x).1 → M' 16 5 = (gPl tv os n x).2 → F (gPc tv os n x v) M') → Ev (eZ G 0 68 0 0 (eFI F)) G 0 68 (8, 0, 0) kX10_playRounds 9 [(0, .ref (G.1 0)), (1, .int (nI m)), (2, .int v), (3, .int (nI i))] [] M 0 0
  | 0, i, x, v, M, hi, _, _, _, hB, hr, hF => by
    have hi' : i = m := hi
    subst hi'
    exact B_X10_playRounds_9 G M F _ _ _ ⟨fun _ => hF M (qFr.refl M) hB hr, fun q => absurd (Int32.le_refl _) q⟩
  | n + 1, i, x, v, M, hi, hg, hp, hP, hB, hr, hF => by
    refine B_X10_playRounds_9 G M F _ _ _ ⟨fun q => absurd q (nI_ge (by omega) (by omega)), fun _ => E_round hg hp hP hB _ (fun M1 f1 b1 r1 => ?_)⟩
    rw [hr] at b1 r1
    rw [← nI_succ, hr]
    obtain ⟨h1, h2⟩ := gNx_gm hg hp
    exact L_play F hm n (i + 1) (gNx tv os x) _ M1 (by omega) h1 (by rw [h2.2.2.1]; exact hp) (hP.q f1) b1 r1 (fun M2 f2 b2 r2 => hF M2 (f1.trans f2) b2 r2)
theorem L_points {tv : Nat → Nat} {os : List pOrd} (F : Int32 → eM → Prop) {m : Nat} (hm : m ≤ 20) {S : gS} (hs : sOk S) {M0 : eM} (hc0 : sC M0 S) : ∀ (n i : Nat) (x : gX) (M : eM), i + n = m → bGm x.1 → gPrg (bN x.1) tv os → bSz (gB S) x.1 → cPg M tv os → cB M x.1 → M 16 5 = x.2 → cKp M (gB S) → M 16 4 = gR S → (∀ c, c < 16 ∨ (18 ≤ c ∧ c < 23) ∨ 34 ≤ c → M c = M0 c) → (∀ M', sC M' S → F (nI (bPoints (gPl tv os n x).1)) M') → Ev (eZ G 0 68 0 0 (eFI F)) G 0 68 (8, 0, 0) kX10_pointsAfter 14 [(0, .ref (G.1 0)), (1, .int (nI m)), (2, .int (nI i))] [] M 0 0
  | 0, i, x, M, hi, hg, _, hz, hP, hB, hr, hK, h4, hf, hF => by
    have hi' : i = m := hi
    subst hi'
    refine B_X10_pointsAfter_14 G M F _ _ ⟨fun _ => S_countPoints G hg.1 hg.2 hB _ (S_bringBack hs.2.2.1.1 hg.1 hz hB hK _ (fun M' b' r' f' g' => ?_)), fun q => absurd (Int32.le_refl _) q⟩
    exact hF M' (hc0.b b' (fun c hx => by rw [f' c (by omega) (by omega)]; exact hf c (by omega)) (r'.trans h4))
  | n + 1, i, x, M, hi, hg, hp, hz, hP, hB, hr, hK, h4, hf, hF => by
    refine B_X10_pointsAfter_14 G M F _ _ ⟨fun q => absurd q (nI_ge (by omega) (by omega)), fun _ => E_round hg hp hP hB _ (fun M1 f1 b1 r1 => ?_)⟩
    rw [hr] at b1 r1
    rw [← nI_succ]
    obtain ⟨h1, h2⟩ := gNx_gm hg hp
    refine L_points F hm hs hc0 n (i + 1) (gNx tv os x) M1 (by omega) h1 (by rw [h2.2.2.1]; exact hp) (hz.trans h2) (hP.q f1) b1 r1 ?_ (by rw [f1.2 4 (by decide) (by decide)]; exact h4) (fun c hx => by rw [f1.1 c (by omega) (by omega) (by omega)]; exact hf c hx) hF
    unfold cKp
    rw [f1.1 32 (by decide) (by decide) (by decide), f1.1 33 (by decide) (by decide) (by decide)]
    exact hK
theorem L_until {tv : Nat → Nat} {os : List pOrd} (F : Int32 → eM → Prop) {S : gS} (hs : sOk S) {M0 : eM} (hc0 : sC M0 S) : ∀ (n i : Nat) (x : gX) (M : eM), i + n = 20 → bGm x.1 → gPrg (bN x.1) tv os → bSz (gB S) x.1 → cPg M tv os → cB M x.1 → M 16 5 = x.2 → cKp M (gB S) → M 16 4 = gR S → (∀ c, c < 16 ∨ (18 ≤ c ∧ c < 23) ∨ 34 ≤ c → M c = M0 c) → (∀ M', sC M' S → F (eO (gUr tv os n i x)) M') → Ev (eZ G 0 68 0 0 (eFI F)) G 0 68 (8, 0, 0) kX10_roundsUntilRing 9 [(0, .ref (G.1 0)), (1, .int (nI i))] [] M 0 0 := by
  have rle : ∀ B : eBd, bOk B → bRings B < 2 ^ 31 := fun B hb => by
    have h49 := hb.c49
    have := zSm_le (f := fun c => if bRing B c then 1 else 0) (k := 1) (n := bC B) (fun i _ => by split <;> omega)
    unfold bRings
    omega
  -- the end: counted, and all as it was
  have fin : ∀ (i : Nat) (x : gX) (M : eM) (o : Option Nat), bGm x.1 → bSz (gB S) x.1 → cB M x.1 → cKp M (gB S) → M 16 4 = gR S → (∀ c, c < 16 ∨ (18 ≤ c ∧ c < 23) ∨ 34 ≤ c → M c = M0 c) → o = (if 0 < bRings x.1 then some i else none) → (∀ M', sC M' S → F (eO o) M') → Ev (eZ G 0 68 0 0 (eFI F)) G 0 68 (8, 0, 0) kX10_roundsUntilRing 39 [(0, .ref (G.1 0)), (1, .int (nI i))] [] M 0 0 := by
    intro i x M o hg hz hB hK h4 hf ho hF
    have hr31 := rle x.1 hg.1
    refine B_X10_roundsUntilRing_39 G M F _ (S_countRings G hg.1 hB _ ⟨fun q => ?_, fun q => ?_⟩)
    · have : ¬ 0 < bRings x.1 := fun z => absurd q (nI_ge (a := 0) z hr31)
      rw [if_neg this] at ho
      subst ho
      exact S_bringBack hs.2.2.1.1 hg.1 hz hB hK _ (fun M' b' r' f' g' => ⟨fun _ => hF M' (hc0.b b' (fun c hx => by rw [f' c (by omega) (by omega)]; exact hf c (by omega)) (r'.trans h4)), fun q => absurd rfl q⟩)
    · have : 0 < bRings x.1 := by
        rcases Nat.eq_zero_or_pos (bRings x.1) with z | z
        · rw [z] at q; exact absurd (by decide) q
        · exact z
      rw [if_pos this] at ho
      subst ho
      exact S_bringBack hs.2.2.1.1 hg.1 hz hB hK _ (fun M' b' r' f' g' => ⟨fun q => absurd q (by decide), fun _ => hF M' (hc0.b b' (fun c hx => by rw [f' c (by omega) (by omega)]; exact hf c (by omega)) (r'.trans h4))⟩)
  intro n
  induction n with
  | zero =>
    intro i x M hi hg hp hz hP hB hr hK h4 hf hF
    have hi' : i = 20 := hi
    subst hi'
    exact B_X10_roundsUntilRing_9 G M F _ ⟨fun _ => fin 20 x M _ hg hz hB hK h4 hf rfl hF, fun q => absurd (Int32.le_refl 20) q⟩
  | succ n ih =>
    intro i x M hi hg hp hz hP hB hr hK h4 hf hF
    have hr31 := rle x.1 hg.1
    refine B_X10_roundsUntilRing_9 G M F _ ⟨fun q => absurd q (nI_ge (b := 20) (by omega) (by decide)), fun _ => S_countRings G hg.1 hB _ ⟨fun q => ?_, fun q => ?_⟩⟩
    · have h0 : 0 < bRings x.1 := by
        rcases Nat.eq_zero_or_pos (bRings x.1) with z | z
        · rw [z] at q; exact absurd rfl q
        · exact z
      refine fin i x M _ hg hz hB hK h4 hf ?_ hF
      show (if 0 < bRings x.1 then some i else gUr tv os n (i + 1) (gNx tv os x)) = _
      rw [if_pos h0, if_pos h0]
    · have h0 : ¬ 0 < bRings x.1 := fun z => by
        have := (nI_eq (b := 0) hr31 (by decide)).mp q
        omega
      refine E_round hg hp hP hB _ (fun M1 f1 b1 r1 => ?_)
      rw [hr] at b1 r1
      rw [← nI_succ]
      obtain ⟨h1, h2⟩ := gNx_gm hg hp
      refine ih (i + 1) (gNx tv os x) M1 (by omega) h1 (by rw [h2.2.2.1]; exact hp) (hz.trans h2) (hP.q f1) b1 r1 ?_ (by rw [f1.2 4 (by decide) (by decide)]; exact h4) (fun c hx => by rw [f1.1 c (by omega) (by omega) (by omega)]; exact hf c hx) (fun M' hM' => ?_)
      · unfold cKp
        rw [f1.1 32 (by decide) (by decide) (by decide), f1.1 33 (by decide) (by decide) (by decide)]
        exact hK
      · have e := hF M' hM'
        have e2 : gUr tv os (n + 1) i x = gUr tv os n (i + 1) (gNx tv os x) := if_neg h0
        rw [e2] at e
        exact e
theorem P_playRounds {M : eM} {S : gS} (hs : sOk S) (hc : sC M S) (a : Int32) : ((z_playRounds S a).1 = 0 → ∀ F : Int32 → eM → Prop, (∀ M', sC M' (z_playRounds S a).2.2 → F (z_playRounds S a).2.1 M') → Cal G 0 68 (8, 0, 0) kX10_playRounds [.ref (G.1 0), .int a] M (eFI F)) ∧ ((z_playRounds S a).1 = 1 → CalX G 0 68 (10, 1, 6) kX10_playRounds [.ref (G.1 0), .int a] M "java/lang/IllegalArgumentException") := by
  unfold z_playRounds
  by_cases h : dRn a
  · rw [if_pos h]
    refine ⟨fun _ F hF => ?_, fun q => absurd q (by decide : ¬ (0 : Nat) = 1)⟩
    have hrn := h
    obtain ⟨k, hk, rfl⟩ := dRn_nat h
    rw [nI_clamp (show k < 2 ^ 31 by omega)] at hF
    refine C_X10_playRounds G M F _ (Q_rounds hrn _ ?_)
    refine L_play F hk.2 k 0 (gB S, gR S) 0 M (Nat.zero_add _) hs.2.2.1 hs.2.2.2 hc.2.2.1 hc.2.2.2.1 hc.2.2.2.2 (fun M' f' b' r' => ?_)
    exact hF M' (hc.b b' (fun c hx => f'.1 c (by omega) (by omega) (by omega)) r')
  · rw [if_neg h]
    exact ⟨fun q => absurd q (by decide : ¬ (1 : Nat) = 0), fun _ => CX_X10_playRounds G M _ a (QX_rounds h)⟩
theorem P_pointsAfter {M : eM} {S : gS} (hs : sOk S) (hc : sC M S) (a : Int32) : ((z_pointsAfter S a).1 = 0 → ∀ F : Int32 → eM → Prop, (∀ M', sC M' (z_pointsAfter S a).2.2 → F (z_pointsAfter S a).2.1 M') → Cal G 0 68 (8, 0, 0) kX10_pointsAfter [.ref (G.1 0), .int a] M (eFI F)) ∧ ((z_pointsAfter S a).1 = 1 → CalX G 0 68 (10, 1, 6) kX10_pointsAfter [.ref (G.1 0), .int a] M "java/lang/IllegalArgumentException") := by
  unfold z_pointsAfter
  by_cases h : dRn a
  · rw [if_pos h]
    refine ⟨fun _ F hF => ?_, fun q => absurd q (by decide : ¬ (0 : Nat) = 1)⟩
    have hrn := h
    obtain ⟨k, hk, rfl⟩ := dRn_nat h
    rw [nI_clamp (show k < 2 ^ 31 by omega)] at hF
    refine C_X10_pointsAfter G M F _ (Q_rounds hrn _ (S_keep hs.2.2.1.1 hc.2.2.2.1 _ (fun M1 b1 k1 r1 f1 g1 => ?_)))
    refine L_points F hk.2 hs hc k 0 (gB S, gR S) M1 (Nat.zero_add _) hs.2.2.1 hs.2.2.2 (bSz.refl _) (hc.2.2.1.fr (fun c hx => f1 c (by omega) (by omega) (by omega))) b1 (by rw [g1 5 (by decide)]; exact hc.2.2.2.2) k1 (r1.trans hc.2.2.2.2) (fun c hx => f1 c (by omega) (by omega) (by omega)) hF
  · rw [if_neg h]
    exact ⟨fun q => absurd q (by decide : ¬ (1 : Nat) = 0), fun _ => CX_X10_pointsAfter G M _ a (QX_rounds h)⟩
theorem P_until {M : eM} {S : gS} (hs : sOk S) (hc : sC M S) (F : Int32 → eM → Prop) (hF : ∀ M', sC M' S → F (z_until S) M') : Cal G 0 68 (8, 0, 0) kX10_roundsUntilRing [.ref (G.1 0)] M (eFI F) := by
  refine C_X10_roundsUntilRing G M F (S_keep hs.2.2.1.1 hc.2.2.2.1 _ (fun M1 b1 k1 r1 f1 g1 => ?_))
  exact L_until F hs hc 20 0 (gB S, gR S) M1 rfl hs.2.2.1 hs.2.2.2 (bSz.refl _) (hc.2.2.1.fr (fun c hx => f1 c (by omega) (by omega) (by omega))) b1 (by rw [g1 5 (by decide)]; exact hc.2.2.2.2) k1 (r1.trans hc.2.2.2.2) (fun c hx => f1 c (by omega) (by omega) (by omega)) hF
/-! the mean, the digest -/
def fdOk : FP.Core.Datum → Bool
  | .fin _ _ _ => true
  | _ => false
def fdNz : FP.Core.Datum → Bool
  | .fin _ c _ => decide (c ≠ 0)
  | _ => false
theorem fd_t : ∀ t, t < 1471 → fdOk (FP.Core.decode FP.Core.b64 (FP.i2d (nI t)).toNat) = true := by decide +kernel
theorem fd_n : ∀ n, n < 148 → 0 < n → fdNz (FP.Core.decode FP.Core.b64 (FP.i2d (nI n)).toNat) = true := by decide +kernel
theorem fE_le (s : Bool) (e t : Nat) (he : e ≤ 2046) (ht : t < 2 ^ 52) : FP.Core.assemble FP.Core.b64 s e t % 2 ^ 63 ≤ 2047 * 2 ^ 52 := by
  have h : FP.Core.assemble FP.Core.b64 s e t = (s.toNat * 2 ^ 11 + e) * 2 ^ 52 + t := rfl
  have hs : s.toNat ≤ 1 := by cases s <;> decide
  rw [h]
  omega
theorem fI_le (s : Bool) : FP.Core.encode FP.Core.b64 (.inf s) % 2 ^ 63 ≤ 2047 * 2 ^ 52 := by cases s <;> decide +kernel
theorem fF_le (s : Bool) (c : Nat) (q : Int) (hc : c < 2 ^ 53) (hq1 : FP.Core.b64.qmin ≤ q) (hq2 : q ≤ FP.Core.b64.qmax) : FP.Core.encode FP.Core.b64 (.fin s c q) % 2 ^ 63 ≤ 2047 * 2 ^ 52 := by
  have e1 : FP.Core.b64.qmin = -1074 := by decide +kernel
  have e2 : FP.Core.b64.qmax = 971 := by decide +kernel
  have h : FP.Core.encode FP.Core.b64 (.fin s c q) = if c < 2 ^ 52 then FP.Core.assemble FP.Core.b64 s 0 c else FP.Core.assemble FP.Core.b64 s ((q - FP.Core.b64.qmin).toNat + 1) (c - 2 ^ 52) := rfl
  rw [h]
  split
  · rename_i hlt
    exact fE_le s 0 c (by omega) hlt
  · exact fE_le s _ _ (by omega) (by omega)
theorem fB_le (s : Bool) (c : Nat) (q : Int) (hc : c < 2 ^ 53) (hq1 : FP.Core.b64.qmin ≤ q) : FP.Core.encode FP.Core.b64 (FP.Core.bound FP.Core.b64 s c q) % 2 ^ 63 ≤ 2047 * 2 ^ 52 := by
  unfold FP.Core.bound
  split
  · rename_i hq
    exact fF_le s c q hc hq1 hq
  · exact fI_le s
theorem fR_le (s : Bool) (num den : Nat) (e : Int) : FP.Core.encode FP.Core.b64 (FP.Core.roundRatio FP.Core.b64 s num den e) % 2 ^ 63 ≤ 2047 * 2 ^ 52 := by
  unfold FP.Core.roundRatio
  split
  · exact fF_le s 0 _ (by decide) (Int.le_refl _) (by decide +kernel)
  · have hq : FP.Core.b64.qmin ≤ FP.Core.quantum FP.Core.b64 num den e := Int.le_max_left _ _
    unfold FP.Core.roundAt FP.Core.settle
    split
    · rename_i hc
      exact fB_le s _ _ hc hq
    · exact fB_le s _ _ (by decide +kernel) (by omega)
theorem fN_of {x : Nat} (h : x % 2 ^ 63 ≤ 2047 * 2 ^ 52) : vf_n64 (UInt64.ofNat x) := by
  unfold vf_n64
  have e0 : (UInt64.ofNat x).toNat = x % 2 ^ 64 := rfl
  have e1 : (0x7fffffffffffffff : UInt64).toNat = 2 ^ 63 - 1 := by decide
  have e2 : (0x7ff0000000000000 : UInt64).toNat = 2047 * 2 ^ 52 := by decide
  rw [UInt64.le_iff_toNat_le, UInt64.toNat_and, e0, e1, e2, Nat.and_two_pow_sub_one_eq_mod]
  omega
theorem fQ_le (a b : FP.Core.Datum) (h1 : fdOk a = true) (h2 : fdNz b = true) : FP.Core.encode FP.Core.b64 (FP.Core.quotient FP.Core.b64 a b) % 2 ^ 63 ≤ 2047 * 2 ^ 52 := by
  cases a with
  | nan => cases h1
  | inf s => cases h1
  | fin s c q =>
    cases b with
    | nan => cases h2
    | inf s => cases h2
    | fin t d r =>
      have hd : ¬ d = 0 := of_decide_eq_true h2
      have e : FP.Core.quotient FP.Core.b64 (.fin s c q) (.fin t d r) = FP.Core.roundRatio FP.Core.b64 (s != t) c d (q - r) := if_neg hd
      rw [e]
      exact fR_le _ _ _ _
theorem eNaN {t n : Nat} (ht : t ≤ 1470) (hn : 0 < n) (hn2 : n ≤ 147) : vf_n64 (FP.ddiv (FP.i2d (nI t)) (FP.i2d (nI n))) :=
  fN_of (fQ_le _ _ (fd_t t (by omega)) (fd_n n (by omega) hn))
theorem bMatch_147 {B : eBd} (hb : bOk B) : bMatch B ≤ 147 := by
  have h49 := hb.c49
  have := zSm_le (f := fun c => if (bAt B c).isSome then bTb B c else 0) (k := 6) (n := bC B) (fun i _ => by
    split
    · exact bTb_le B i
    · omega)
  unfold bMatch bEnds
  omega
theorem bMatched_le {B : eBd} (hg : bGm B) : bMatched B ≤ 1470 := by
  have h49 := hg.1.c49
  have e : zSm (bHereF B) (bC B) = bMatched B := zSm_ext (fun c hcc => bHereF_eq hg.2 hcc)
  have h := zSm_le (f := bHereF B) (k := 30) (n := bC B) (fun c hc => by
    unfold bHereF
    split
    · have h3 := zSm_le (f := fun e => (bFace B c e).getD 0) (k := 10) (n := 3) (fun e he => by
        show (bFace B c e).getD 0 ≤ 10
        cases h2 : bFace B c e with
        | none => exact Nat.zero_le _
        | some x => exact Nat.le_of_lt (hg.1.face hc (by omega) h2))
      omega
    · omega)
  rw [← e]
  omega
theorem bMatch_le {B : eBd} (hb : bOk B) : bMatch B < 2 ^ 31 := by
  have h49 := hb.c49
  have := zSm_le (f := fun c => if (bAt B c).isSome then bTb B c else 0) (k := 6) (n := bC B) (fun i _ => by
    split
    · exact bTb_le B i
    · omega)
  unfold bMatch bEnds
  omega
theorem P_meanMatch {M : eM} {S : gS} (hs : sOk S) (hc : sC M S) (F : UInt64 → eM → Prop) (hF : ∀ M', sC M' S → F (z_mean S) M') : Cal G 0 68 (3, 0, 0) kX10_meanMatch [.ref (G.1 0)] M (eFD F) := by
  have hb := hs.2.2.1.1
  have hB := hc.2.2.2.1
  have h31 := bMatch_le hb
  have hF' := hF M hc
  unfold z_mean at hF'
  refine C_X10_meanMatch G M F (S_countMatches G hb hB _ ⟨fun q => S_sumOfMatches G hb hB _ ?_, fun q => ?_⟩)
  · have h0 : ¬ bMatch (gB S) = 0 := fun z => by rw [z] at q; exact absurd q (by decide)
    have e : zSm (bHereF (gB S)) (bC (gB S)) = bMatched (gB S) := zSm_ext (fun c hcc => bHereF_eq hs.2.2.1.2 hcc)
    rw [if_neg h0] at hF'
    rw [e]
    exact ⟨eNaN (bMatched_le hs.2.2.1) (by omega) (bMatch_147 hb), hF'⟩
  · have h0 : bMatch (gB S) = 0 := by
      rcases Nat.eq_zero_or_pos (bMatch (gB S)) with z | z
      · exact z
      · exact absurd (nI_lt (a := 0) z h31) q
    rw [if_pos h0] at hF'
    exact hF'
/-- the digest, cell by cell and tile by tile -/
def zDc (B : eBd) : Nat → Nat → Int64 → Int64
  | 0, _, d => d
  | f + 1, c, d => zDc B f (c + 1) ((((d * 31) + (eO (bAt B c)).toInt64) * 31 + (nI (bMatchOn B c)).toInt64) * 31 + ((if bRing B c then (1 : Int32) else 0)).toInt64)
def zDt (B : eBd) : Nat → Nat → Int64 → Int64
  | 0, _, d => d
  | f + 1, k, d => zDt B f (k + 1) ((((d * 31) + (if (bCe B k).isSome then nI (bTr B k) else -1).toInt64) * 31 + (nI (bWays B k)).toInt64) * 31 + ((if bLeft B k then (1 : Int32) else 0)).toInt64)
def zD0 (S : gS) : Int64 := (((((((((((((((((((1009 * 31) + (nI (bW (gB S))).toInt64) * 31) + (nI (bR (gB S))).toInt64) * 31) + (nI (bN (gB S))).toInt64) * 31) + (gR S).toInt64) * 31) + (nI (bP (gB S))).toInt64) * 31) + (nI (bMatch (gB S))).toInt64) * 31) + (nI (bPoints (gB S))).toInt64) * 31) + (nI (bRings (gB S))).toInt64) * 31) + (nI (bGroups (gB S))).toInt64) * 31) + (eO (bBestT (gB S))).toInt64
def z_digest (S : gS) : Int64 := zDt (gB S) (bN (gB S)) 0 (zDc (gB S) (bC (gB S)) 0 (zD0 S))
theorem bWays_0 {B : eBd} {k : Nat} (hk : bCe B k = none) : bWays B k = 0 ↔ bFirst B k = none := by
  constructor
  · intro h
    refine zFf_none (fun c hc => ?_)
    have h1 : zSm (fun t => if bFits B k c t then 1 else 0) 6 = 0 := zSm_of0 h c hc
    have h2 : bAny B k c = none := zFf_none (fun t ht => by
      have h3 := zSm_of0 h1 t ht
      cases h4 : bFits B k c t with
      | false => rfl
      | true =>
        have h5 : (if bFits B k c t then 1 else 0) = 0 := h3
        rw [h4] at h5
        cases h5)
    rw [h2]
    rfl
  · intro h
    refine zSm_zero (fun c hc => zSm_zero (fun t ht => ?_))
    have h1 := zFf_none' h c hc
    cases h2 : bAny B k c with
    | some t' => rw [h2] at h1; cases h1
    | none =>
      have h3 := zFf_none' h2 t ht
      rw [h3]
      rfl
theorem bWays_lie {B : eBd} {k c : Nat} (hk : bCe B k = some c) : bWays B k = 0 := zSm_zero (fun c' _ => zSm_zero (fun t _ => by
  have : bFits B k c' t = false := by unfold bFits; rw [hk]; rfl
  rw [this]
  rfl))
theorem L_dt (F : Int64 → eM → Prop) {S : gS} (hs : sOk S) {M : eM} (hc : sC M S) : ∀ (n k : Nat) (d : Int64), k + n = bN (gB S) → (∀ M', sC M' S → F (zDt (gB S) n k d) M') → Ev (eZ G 0 68 0 0 (eFL F)) G 0 68 (6, 0, 0) kX10_digest 202 [(0, .ref (G.1 0)), (1, .long d), (3, .int (nI k))] [] M 0 0
  | 0, k, d, hk, hF => by
    have hk' : k = bN (gB S) := hk
    refine B_X10_digest_202 G M F _ _ ⟨fun _ => hF M hc, fun q => absurd ?_ q⟩
    rw [hc.2.2.2.1.nn, hk']; exact Int32.le_refl _
  | n + 1, k, d, hk, hF => by
    have hb := hs.2.2.1.1
    have hB := hc.2.2.2.1
    have h16 := hb.2.2.1
    have h49 := hb.c49
    have hkN : k < bN (gB S) := by omega
    have hw31 : bWays (gB S) k < 2 ^ 31 := by
      have := zSm_le (f := fun c => zSm (fun t => if bFits (gB S) k c t then 1 else 0) 6) (k := 6) (n := bC (gB S)) (fun i _ => bWaysC_le (gB S) k i 6)
      unfold bWays
      omega
    have next : ∀ v l : Int32, v = (if (bCe (gB S) k).isSome then nI (bTr (gB S) k) else -1) → l = (if bLeft (gB S) k then (1 : Int32) else 0) → Ev (eZ G 0 68 0 0 (eFL F)) G 0 68 (6, 0, 0) kX10_digest 202 [(0, .ref (G.1 0)), (1, .long ((((((d * 31) + v.toInt64) * 31) + (nI (bWays (gB S) k)).toInt64) * 31) + l.toInt64)), (3, .int (nI k + 1))] [] M 0 0 := by
      intro v l hv hl
      rw [← nI_succ]
      subst hv hl
      exact L_dt F hs hc n (k + 1) _ (by omega) hF
    refine B_X10_digest_202 G M F _ _ ⟨fun q => absurd q ?_, fun _ => S_countWays G hb hB _ hkN (S_lies G hb hB _ hkN ?_)⟩
    · rw [hB.nn]; exact nI_ge hkN (by omega)
    · cases h1 : bCe (gB S) k with
      | none =>
        rw [h1] at next
        refine ⟨fun _ => ⟨fun q => next _ _ rfl ?_, fun q => S_lies G hb hB _ hkN ?_⟩, fun q => by cases q⟩
        · have h2 : ¬ bWays (gB S) k = 0 := fun z => q (by rw [z]; rfl)
          have h3 : bLeft (gB S) k = false := by
            unfold bLeft
            rw [h1]
            cases h4 : bFirst (gB S) k with
            | none => exact absurd ((bWays_0 h1).mpr h4) h2
            | some c => rfl
          rw [h3]
          rfl
        · have h2 : bWays (gB S) k = 0 := (nI_eq (b := 0) hw31 (by decide)).mp q
          have h3 : bLeft (gB S) k = true := by
            unfold bLeft
            rw [h1, (bWays_0 h1).mp h2]
            rfl
          rw [h1]
          exact ⟨fun q => (by cases q), fun _ => next _ _ rfl (by rw [h3]; rfl)⟩
      | some c =>
        rw [h1] at next
        have h0 := bWays_lie h1
        have h3 : bLeft (gB S) k = false := by unfold bLeft; rw [h1]; rfl
        refine ⟨fun q => (by cases q), fun _ => ⟨vp_in_nI (by omega) (by decide), fun q => absurd (by rw [h0]; rfl) q, fun _ => S_lies G hb hB _ hkN ?_⟩⟩
        rw [h1, nI_clamp (show k < 2 ^ 31 by omega), hB.tr hkN h1]
        exact ⟨fun _ => next _ _ rfl (by rw [h3]; rfl), fun q => (by cases q)⟩
theorem L_dc (F : Int64 → eM → Prop) {S : gS} (hs : sOk S) {M : eM} (hc : sC M S) : ∀ (n k : Nat) (d : Int64), k + n = bC (gB S) → (∀ M', sC M' S → F (zDt (gB S) (bN (gB S)) 0 (zDc (gB S) n k d)) M') → Ev (eZ G 0 68 0 0 (eFL F)) G 0 68 (6, 0, 0) kX10_digest 126 [(0, .ref (G.1 0)), (1, .long d), (3, .int (nI k))] [] M 0 0
  | 0, k, d, hk, hF => by
    have hk' : k = bC (gB S) := hk
    refine B_X10_digest_126 G M F _ _ ⟨fun _ => L_dt F hs hc (bN (gB S)) 0 d (Nat.zero_add _) hF, fun q => absurd ?_ q⟩
    rw [hc.2.2.2.1.nc, hk']; exact Int32.le_refl _
  | n + 1, k, d, hk, hF => by
    have hb := hs.2.2.1.1
    have hB := hc.2.2.2.1
    have h49 := hb.c49
    have hkC : k < bC (gB S) := by omega
    refine B_X10_digest_126 G M F _ _ ⟨fun q => absurd q ?_, fun _ => ⟨vp_in_nI (by omega) (by decide), S_matchesOn G hb hB _ hkC (S_isEnc G hb hB _ hkC ?_)⟩⟩
    · rw [hB.nc]; exact nI_ge hkC (by omega)
    · rw [nI_clamp (show k < 2 ^ 31 by omega), hB.at hkC, ← nI_succ]
      have go := L_dc F hs hc n (k + 1) _ (by omega) hF
      refine ⟨fun q => ?_, fun q => ?_⟩
      · rw [q] at go; exact go
      · rw [q] at go; exact go
theorem P_digest {M : eM} {S : gS} (hs : sOk S) (hc : sC M S) (F : Int64 → eM → Prop) (hF : ∀ M', sC M' S → F (z_digest S) M') : Cal G 0 68 (6, 0, 0) kX10_digest [.ref (G.1 0)] M (eFL F) := by
  refine C_X10_digest G M F (P_columns hc _ (fun M1 c1 => P_rows c1 _ (fun M2 c2 => P_tiles c2 _ (fun M3 c3 => P_rounds c3 _ (fun M4 c4 => P_placedTiles c4 _ (fun M5 c5 => P_matches hs c5 _ (fun M6 c6 => P_points hs c6 _ (fun M7 c7 => P_rings hs c7 _ (fun M8 c8 => P_groups hs c8 _ (fun M9 c9 => P_bestTile hs c9 _ (fun M10 c10 => ?_)))))))))))
  exact L_dc F hs c10 (bC (gB S)) 0 _ (Nat.zero_add _) hF
end Pub2
