/-! ===== the class's public calls ===== -/
def sC (M : eM) (S : gS) : Prop := cTape M (gBt S) (gSz S) ∧ M 0 7 = gEr S ∧ cPg M (gTv S) (gOs S) ∧ cB M (gB S) ∧ M 16 5 = gR S
theorem sC.b {M M' : eM} {S : gS} {B : eBd} {r : Int32} (h : sC M S) (hB : cB M' B) (hf : ∀ c, (c < 3 ∨ (19 ≤ c ∧ c ≤ 21) ∨ 52 ≤ c) → M' c = M c) (h5 : M' 16 5 = r) : sC M' (gWB S B r) := by
  obtain ⟨h1, h2, h3, h4, h5'⟩ := h
  refine ⟨h1.of (hf 1 (by decide)) (hf 2 (by decide)), ?_, h3.fr (fun c hc => hf c (by omega)), hB, h5⟩
  show M' 0 7 = gEr S
  rw [hf 0 (by decide)]
  exact h2
section Pub
variable {G : eG}
theorem Q_cell {M : eM} {B : eBd} (hM : cB M B) {a : Int32} (h : dIn a (bC B)) (F : eM → Prop) (hF : F M) : Cal G 0 68 (1, 0, 0) kX10_requireCell [.ref (G.1 0), .int a] M (eFV F) :=
  C_X10_requireCell G M F a ⟨fun q => Int32.not_le.mpr q h.1, fun _ => ⟨fun _ => hF, fun q => q (by rw [hM.nc]; exact h.2)⟩⟩
theorem QX_cell {M : eM} {B : eBd} (hM : cB M B) {a : Int32} (h : ¬ dIn a (bC B)) : CalX G 0 68 (8, 1, 6) kX10_requireCell [.ref (G.1 0), .int a] M "java/lang/IndexOutOfBoundsException" :=
  CX_X10_requireCell G M _ a ⟨fun _ => rfl, fun q => ⟨fun q2 => h ⟨Int32.not_lt.mp q, by rw [← hM.nc]; exact q2⟩, fun _ => rfl⟩⟩
theorem Q_tile {M : eM} {B : eBd} (hb : bOk B) (hM : cB M B) {a : Int32} (h : dIn a (bN B)) (F : eM → Prop) (hF : F M) : Cal G 0 68 (2, 0, 0) kX10_requireTile [.ref (G.1 0), .int a] M (eFV F) :=
  C_X10_requireTile G M F a (S_knows G hb hM _ a ⟨fun _ => hF, fun q => of_decide_eq_false q h⟩)
theorem QX_tile {M : eM} {B : eBd} (hb : bOk B) (hM : cB M B) {a : Int32} (h : ¬ dIn a (bN B)) : CalX G 0 68 (8, 1, 6) kX10_requireTile [.ref (G.1 0), .int a] M "java/lang/IndexOutOfBoundsException" :=
  CX_X10_requireTile G M _ a (S_knows G hb hM _ a ⟨fun q => h (of_decide_eq_true q), fun _ => ⟨rfl, rfl⟩⟩)
theorem Q_edge {M : eM} {a : Int32} (h : dIn a 6) (F : eM → Prop) (hF : F M) : Cal G 0 68 (1, 0, 0) kX10_requireEdge [.ref (G.1 0), .int a] M (eFV F) :=
  C_X10_requireEdge G M F a ⟨fun q => Int32.not_le.mpr q h.1, fun _ => ⟨fun _ => hF, fun q => q h.2⟩⟩
theorem QX_edge {M : eM} {a : Int32} (h : ¬ dIn a 6) : CalX G 0 68 (8, 1, 6) kX10_requireEdge [.ref (G.1 0), .int a] M "java/lang/IndexOutOfBoundsException" :=
  CX_X10_requireEdge G M _ a ⟨fun _ => rfl, fun q => ⟨fun q2 => h ⟨Int32.not_lt.mp q, q2⟩, fun _ => rfl⟩⟩
theorem Q_way {M : eM} {B : eBd} (hb : bOk B) (hM : cB M B) {k c u : Int32} (h : dWay B k c u) (F : eM → Prop) (hF : F M) : Cal G 0 68 (3, 0, 0) kX10_requireWay [.ref (G.1 0), .int k, .int c, .int u] M (eFV F) :=
  C_X10_requireWay G M F k c u (Q_tile hb hM h.1 _ (Q_cell hM h.2.1 _ (Q_edge h.2.2 _ hF)))
theorem QX_way {M : eM} {B : eBd} (hb : bOk B) (hM : cB M B) {k c u : Int32} (h : ¬ dWay B k c u) : CalX G 0 68 (9, 1, 6) kX10_requireWay [.ref (G.1 0), .int k, .int c, .int u] M "java/lang/IndexOutOfBoundsException" := by
  refine CX_X10_requireWay G M _ k c u ?_
  by_cases hk : dIn k (bN B)
  · refine Or.inr (Q_tile hb hM hk _ ?_)
    by_cases hc : dIn c (bC B)
    · exact Or.inr (Q_cell hM hc _ ⟨QX_edge (fun z => h ⟨hk, hc, z⟩), rfl⟩)
    · exact Or.inl ⟨QX_cell hM hc, rfl⟩
  · exact Or.inl (QX_tile hb hM hk)
theorem Q_tileOn {M : eM} {B : eBd} (hb : bOk B) (hM : cB M B) {c k : Nat} (hc : c < bC B) (h : bAt B c = some k) (F : eM → Prop) (hF : F M) : Cal G 0 68 (1, 0, 0) kX10_requireTileOn [.ref (G.1 0), .int (nI c)] M (eFV F) := by
  have h49 := hb.c49
  have h16 := hb.2.2.1
  have hk := (hb.2.2.2.1 c k hc h).1
  refine C_X10_requireTileOn G M F _ ⟨vp_in_nI (by omega) (by decide), ?_⟩
  rw [nI_clamp (show c < 2 ^ 31 by omega), hM.at hc, h]
  exact ⟨fun _ => hF, fun q => q (nI_pos' (by omega))⟩
theorem QX_tileOn {M : eM} {B : eBd} (hb : bOk B) (hM : cB M B) {c : Nat} (hc : c < bC B) (h : bAt B c = none) : CalX G 0 68 (8, 1, 6) kX10_requireTileOn [.ref (G.1 0), .int (nI c)] M "java/lang/IllegalStateException" := by
  have h49 := hb.c49
  refine CX_X10_requireTileOn G M _ _ ⟨vp_in_nI (by omega) (by decide), ?_⟩
  rw [nI_clamp (show c < 2 ^ 31 by omega), hM.at hc, h]
  exact ⟨fun q => absurd q (by decide), fun _ => rfl⟩
theorem Q_lying {M : eM} {B : eBd} (hb : bOk B) (hM : cB M B) {k : Nat} (hk : k < bN B) (h : (bCe B k).isSome = true) (F : eM → Prop) (hF : F M) : Cal G 0 68 (3, 0, 0) kX10_requireLying [.ref (G.1 0), .int (nI k)] M (eFV F) :=
  C_X10_requireLying G M F _ (S_lies G hb hM _ hk ⟨fun _ => hF, fun q => by rw [h] at q; cases q⟩)
theorem QX_lying {M : eM} {B : eBd} (hb : bOk B) (hM : cB M B) {k : Nat} (hk : k < bN B) (h : bCe B k = none) : CalX G 0 68 (8, 1, 6) kX10_requireLying [.ref (G.1 0), .int (nI k)] M "java/lang/IllegalStateException" :=
  CX_X10_requireLying G M _ _ (S_lies G hb hM _ hk ⟨fun q => (by rw [h] at q; cases q), fun _ => ⟨rfl, rfl⟩⟩)
theorem Q_some {M : eM} {k : Nat} (hk : k < 2 ^ 31) (F : eM → Prop) (hF : F M) : Cal G 0 68 (1, 0, 0) kX10_requireSome [.ref (G.1 0), .int (eO (some k))] M (eFV F) :=
  C_X10_requireSome G M F _ ⟨fun _ => hF, fun q => q (nI_pos' hk)⟩
theorem QX_some {M : eM} : CalX G 0 68 (8, 1, 6) kX10_requireSome [.ref (G.1 0), .int (eO none)] M "java/lang/IllegalStateException" :=
  CX_X10_requireSome G M _ _ ⟨fun q => absurd q (by decide), fun _ => rfl⟩
theorem Q_rounds {M : eM} {a : Int32} (h : dRn a) (F : eM → Prop) (hF : F M) : Cal G 0 68 (1, 0, 0) kX10_requireRounds [.ref (G.1 0), .int a] M (eFV F) :=
  C_X10_requireRounds G M F a ⟨fun q => Int32.not_le.mpr q h.1, fun _ => ⟨fun _ => hF, fun q => q h.2⟩⟩
theorem QX_rounds {M : eM} {a : Int32} (h : ¬ dRn a) : CalX G 0 68 (8, 1, 6) kX10_requireRounds [.ref (G.1 0), .int a] M "java/lang/IllegalArgumentException" :=
  CX_X10_requireRounds G M _ a ⟨fun _ => rfl, fun q => ⟨fun q2 => h ⟨Int32.not_lt.mp q, q2⟩, fun _ => rfl⟩⟩
/-! what the calls answer -/
theorem P_hasTile {M : eM} {S : gS} (hs : sOk S) (hc : sC M S) (a : Int32) : ((z_hasTile S a).1 = 0 → ∀ F : Bool → eM → Prop, (∀ M', sC M' (z_hasTile S a).2.2 → F (z_hasTile S a).2.1 M') → Cal G 0 68 (2, 0, 0) kX10_hasTile [.ref (G.1 0), .int a] M (eFZ F)) ∧ ((z_hasTile S a).1 = 1 → CalX G 0 68 (10, 1, 6) kX10_hasTile [.ref (G.1 0), .int a] M "java/lang/IndexOutOfBoundsException") := by
  have hb := hs.2.2.1.1
  have hB := hc.2.2.2.1
  have h49 := hb.c49
  have h16 := hb.2.2.1
  unfold z_hasTile
  by_cases h : dIn a (bC (gB S))
  · rw [if_pos h]
    refine ⟨fun _ F hF => ?_, fun q => absurd q (by decide : ¬ (0 : Nat) = 1)⟩
    obtain ⟨k, hk, rfl⟩ := dIn_nat (by omega) h
    rw [nI_clamp (show k < 2 ^ 31 by omega)] at hF
    refine C_X10_hasTile G M F _ (Q_cell hB h _ ?_)
    rw [nI_clamp (show k < 2 ^ 31 by omega), hB.at hk]
    refine ⟨vp_in_nI (by omega) (by decide), ?_⟩
    have hF' := hF M hc
    cases h1 : bAt (gB S) k with
    | none => rw [h1] at hF'; exact ⟨fun _ => hF', fun q => absurd (by decide) q⟩
    | some t =>
      rw [h1] at hF'
      have ht := (hb.2.2.2.1 k t hk h1).1
      exact ⟨fun q => absurd q (nI_pos (by omega)), fun _ => hF'⟩
  · rw [if_neg h]
    exact ⟨fun q => absurd q (by decide : ¬ (1 : Nat) = 0), fun _ => CX_X10_hasTile G M _ a (QX_cell hB h)⟩
theorem P_matchesOf {M : eM} {S : gS} (hs : sOk S) (hc : sC M S) (a : Int32) : ((z_matchesOf S a).1 = 0 → ∀ F : Int32 → eM → Prop, (∀ M', sC M' (z_matchesOf S a).2.2 → F (z_matchesOf S a).2.1 M') → Cal G 0 68 (2, 0, 0) kX10_matchesOf [.ref (G.1 0), .int a] M (eFI F)) ∧ ((z_matchesOf S a).1 = 1 → CalX G 0 68 (10, 1, 6) kX10_matchesOf [.ref (G.1 0), .int a] M "java/lang/IndexOutOfBoundsException") := by
  have hb := hs.2.2.1.1
  have hB := hc.2.2.2.1
  have h49 := hb.c49
  have h16 := hb.2.2.1
  unfold z_matchesOf
  by_cases h : dIn a (bC (gB S))
  · rw [if_pos h]
    refine ⟨fun _ F hF => ?_, fun q => absurd q (by decide : ¬ (0 : Nat) = 1)⟩
    obtain ⟨k, hk, rfl⟩ := dIn_nat (by omega) h
    rw [nI_clamp (show k < 2 ^ 31 by omega)] at hF
    refine C_X10_matchesOf G M F _ (Q_cell hB h _ ?_)
    exact S_matchesOn G hb hB _ hk (hF M hc)
  · rw [if_neg h]
    exact ⟨fun q => absurd q (by decide : ¬ (1 : Nat) = 0), fun _ => CX_X10_matchesOf G M _ a (QX_cell hB h)⟩
theorem P_isRing {M : eM} {S : gS} (hs : sOk S) (hc : sC M S) (a : Int32) : ((z_isRing S a).1 = 0 → ∀ F : Bool → eM → Prop, (∀ M', sC M' (z_isRing S a).2.2 → F (z_isRing S a).2.1 M') → Cal G 0 68 (2, 0, 0) kX10_isRing [.ref (G.1 0), .int a] M (eFZ F)) ∧ ((z_isRing S a).1 = 1 → CalX G 0 68 (10, 1, 6) kX10_isRing [.ref (G.1 0), .int a] M "java/lang/IndexOutOfBoundsException") := by
  have hb := hs.2.2.1.1
  have hB := hc.2.2.2.1
  have h49 := hb.c49
  have h16 := hb.2.2.1
  unfold z_isRing
  by_cases h : dIn a (bC (gB S))
  · rw [if_pos h]
    refine ⟨fun _ F hF => ?_, fun q => absurd q (by decide : ¬ (0 : Nat) = 1)⟩
    obtain ⟨k, hk, rfl⟩ := dIn_nat (by omega) h
    rw [nI_clamp (show k < 2 ^ 31 by omega)] at hF
    refine C_X10_isRing G M F _ (Q_cell hB h _ ?_)
    exact S_isEnc G hb hB _ hk (hF M hc)
  · rw [if_neg h]
    exact ⟨fun q => absurd q (by decide : ¬ (1 : Nat) = 0), fun _ => CX_X10_isRing G M _ a (QX_cell hB h)⟩
theorem P_isPlaced {M : eM} {S : gS} (hs : sOk S) (hc : sC M S) (a : Int32) : ((z_isPlaced S a).1 = 0 → ∀ F : Bool → eM → Prop, (∀ M', sC M' (z_isPlaced S a).2.2 → F (z_isPlaced S a).2.1 M') → Cal G 0 68 (3, 0, 0) kX10_isPlaced [.ref (G.1 0), .int a] M (eFZ F)) ∧ ((z_isPlaced S a).1 = 1 → CalX G 0 68 (10, 1, 6) kX10_isPlaced [.ref (G.1 0), .int a] M "java/lang/IndexOutOfBoundsException") := by
  have hb := hs.2.2.1.1
  have hB := hc.2.2.2.1
  have h49 := hb.c49
  have h16 := hb.2.2.1
  unfold z_isPlaced
  by_cases h : dIn a (bN (gB S))
  · rw [if_pos h]
    refine ⟨fun _ F hF => ?_, fun q => absurd q (by decide : ¬ (0 : Nat) = 1)⟩
    obtain ⟨k, hk, rfl⟩ := dIn_nat (by omega) h
    rw [nI_clamp (show k < 2 ^ 31 by omega)] at hF
    refine C_X10_isPlaced G M F _ (Q_tile hb hB h _ ?_)
    exact S_lies G hb hB _ hk (hF M hc)
  · rw [if_neg h]
    exact ⟨fun q => absurd q (by decide : ¬ (1 : Nat) = 0), fun _ => CX_X10_isPlaced G M _ a (QX_tile hb hB h)⟩
theorem P_waysOf {M : eM} {S : gS} (hs : sOk S) (hc : sC M S) (a : Int32) : ((z_waysOf S a).1 = 0 → ∀ F : Int32 → eM → Prop, (∀ M', sC M' (z_waysOf S a).2.2 → F (z_waysOf S a).2.1 M') → Cal G 0 68 (3, 0, 0) kX10_waysOf [.ref (G.1 0), .int a] M (eFI F)) ∧ ((z_waysOf S a).1 = 1 → CalX G 0 68 (10, 1, 6) kX10_waysOf [.ref (G.1 0), .int a] M "java/lang/IndexOutOfBoundsException") := by
  have hb := hs.2.2.1.1
  have hB := hc.2.2.2.1
  have h49 := hb.c49
  have h16 := hb.2.2.1
  unfold z_waysOf
  by_cases h : dIn a (bN (gB S))
  · rw [if_pos h]
    refine ⟨fun _ F hF => ?_, fun q => absurd q (by decide : ¬ (0 : Nat) = 1)⟩
    obtain ⟨k, hk, rfl⟩ := dIn_nat (by omega) h
    rw [nI_clamp (show k < 2 ^ 31 by omega)] at hF
    refine C_X10_waysOf G M F _ (Q_tile hb hB h _ ?_)
    exact S_countWays G hb hB _ hk (hF M hc)
  · rw [if_neg h]
    exact ⟨fun q => absurd q (by decide : ¬ (1 : Nat) = 0), fun _ => CX_X10_waysOf G M _ a (QX_tile hb hB h)⟩
theorem P_isLeftover {M : eM} {S : gS} (hs : sOk S) (hc : sC M S) (a : Int32) : ((z_isLeftover S a).1 = 0 → ∀ F : Bool → eM → Prop, (∀ M', sC M' (z_isLeftover S a).2.2 → F (z_isLeftover S a).2.1 M') → Cal G 0 68 (3, 0, 0) kX10_isLeftover [.ref (G.1 0), .int a] M (eFZ F)) ∧ ((z_isLeftover S a).1 = 1 → CalX G 0 68 (10, 1, 6) kX10_isLeftover [.ref (G.1 0), .int a] M "java/lang/IndexOutOfBoundsException") := by
  have hb := hs.2.2.1.1
  have hB := hc.2.2.2.1
  have h49 := hb.c49
  have h16 := hb.2.2.1
  unfold z_isLeftover
  by_cases h : dIn a (bN (gB S))
  · rw [if_pos h]
    refine ⟨fun _ F hF => ?_, fun q => absurd q (by decide : ¬ (0 : Nat) = 1)⟩
    obtain ⟨k, hk, rfl⟩ := dIn_nat (by omega) h
    rw [nI_clamp (show k < 2 ^ 31 by omega)] at hF
    refine C_X10_isLeftover G M F _ (Q_tile hb hB h _ ?_)
    have hF' := hF M hc
    unfold bLeft at hF'
    refine S_lies G hb hB _ hk ⟨fun q => ?_, fun q => S_firstCell G hb hB _ hk ?_⟩
    · have : (bCe (gB S) k).isNone = false := by
        cases h1 : bCe (gB S) k with
        | none => rw [h1] at q; cases q
        | some c => rfl
      rw [this] at hF'
      exact hF'
    · have : (bCe (gB S) k).isNone = true := by
        cases h1 : bCe (gB S) k with
        | none => rfl
        | some c => rw [h1] at q; cases q
      rw [this] at hF'
      cases h1 : bFirst (gB S) k with
      | none => rw [h1] at hF'; exact ⟨fun q => absurd q (by decide), fun _ => hF'⟩
      | some c =>
        rw [h1] at hF'
        have := (bFirst_some h1).1
        exact ⟨fun _ => hF', fun q => absurd (nI_pos' (by omega)) q⟩
  · rw [if_neg h]
    exact ⟨fun q => absurd q (by decide : ¬ (1 : Nat) = 0), fun _ => CX_X10_isLeftover G M _ a (QX_tile hb hB h)⟩
theorem P_tileAt {M : eM} {S : gS} (hs : sOk S) (hc : sC M S) (a : Int32) : ((z_tileAt S a).1 = 0 → ∀ F : Int32 → eM → Prop, (∀ M', sC M' (z_tileAt S a).2.2 → F (z_tileAt S a).2.1 M') → Cal G 0 68 (2, 0, 0) kX10_tileAt [.ref (G.1 0), .int a] M (eFI F)) ∧ ((z_tileAt S a).1 = 1 → CalX G 0 68 (10, 1, 6) kX10_tileAt [.ref (G.1 0), .int a] M "java/lang/IndexOutOfBoundsException") ∧ ((z_tileAt S a).1 = 2 → CalX G 0 68 (10, 1, 6) kX10_tileAt [.ref (G.1 0), .int a] M "java/lang/IllegalStateException") := by
  have hb := hs.2.2.1.1
  have hB := hc.2.2.2.1
  have h49 := hb.c49
  have h16 := hb.2.2.1
  unfold z_tileAt
  by_cases h : dIn a (bC (gB S))
  · rw [if_pos h]
    obtain ⟨k, hk, rfl⟩ := dIn_nat (by omega) h
    rw [nI_clamp (show k < 2 ^ 31 by omega)]
    cases h1 : bAt (gB S) k with
    | none =>
      refine ⟨fun q => absurd q (by decide : ¬ (2 : Nat) = 0), fun q => absurd q (by decide : ¬ (2 : Nat) = 1), fun _ => CX_X10_tileAt G M _ _ (Or.inr (Q_cell hB h _ ?_))⟩
      exact ⟨QX_tileOn hb hB hk h1, rfl⟩
    | some t =>
      refine ⟨fun _ F hF => ?_, fun q => absurd q (by decide : ¬ (0 : Nat) = 1), fun q => absurd q (by decide : ¬ (0 : Nat) = 2)⟩
      refine C_X10_tileAt G M F _ (Q_cell hB h _ ?_)
      refine Q_tileOn hb hB hk h1 _ ⟨vp_in_nI (by omega) (by decide), ?_⟩
      rw [nI_clamp (show k < 2 ^ 31 by omega), hB.at hk, h1]
      exact hF M hc
  · rw [if_neg h]
    exact ⟨fun q => absurd q (by decide : ¬ (1 : Nat) = 0), fun _ => CX_X10_tileAt G M _ a (Or.inl (QX_cell hB h)), fun q => absurd q (by decide : ¬ (1 : Nat) = 2)⟩
theorem P_cellOf {M : eM} {S : gS} (hs : sOk S) (hc : sC M S) (a : Int32) : ((z_cellOf S a).1 = 0 → ∀ F : Int32 → eM → Prop, (∀ M', sC M' (z_cellOf S a).2.2 → F (z_cellOf S a).2.1 M') → Cal G 0 68 (4, 0, 0) kX10_cellOf [.ref (G.1 0), .int a] M (eFI F)) ∧ ((z_cellOf S a).1 = 1 → CalX G 0 68 (10, 1, 6) kX10_cellOf [.ref (G.1 0), .int a] M "java/lang/IndexOutOfBoundsException") ∧ ((z_cellOf S a).1 = 2 → CalX G 0 68 (10, 1, 6) kX10_cellOf [.ref (G.1 0), .int a] M "java/lang/IllegalStateException") := by
  have hb := hs.2.2.1.1
  have hB := hc.2.2.2.1
  have h49 := hb.c49
  have h16 := hb.2.2.1
  unfold z_cellOf
  by_cases h : dIn a (bN (gB S))
  · rw [if_pos h]
    obtain ⟨k, hk, rfl⟩ := dIn_nat (by omega) h
    rw [nI_clamp (show k < 2 ^ 31 by omega)]
    cases h1 : bCe (gB S) k with
    | none =>
      refine ⟨fun q => absurd q (by decide : ¬ (2 : Nat) = 0), fun q => absurd q (by decide : ¬ (2 : Nat) = 1), fun _ => CX_X10_cellOf G M _ _ (Or.inr (Q_tile hb hB h _ ?_))⟩
      exact ⟨QX_lying hb hB hk h1, rfl⟩
    | some t =>
      refine ⟨fun _ F hF => ?_, fun q => absurd q (by decide : ¬ (0 : Nat) = 1), fun q => absurd q (by decide : ¬ (0 : Nat) = 2)⟩
      refine C_X10_cellOf G M F _ (Q_tile hb hB h _ ?_)
      refine Q_lying hb hB hk (by rw [h1]; rfl) _ ⟨vp_in_nI (by omega) (by decide), ?_⟩
      rw [nI_clamp (show k < 2 ^ 31 by omega), hB.ce hk, h1]
      exact hF M hc
  · rw [if_neg h]
    exact ⟨fun q => absurd q (by decide : ¬ (1 : Nat) = 0), fun _ => CX_X10_cellOf G M _ a (Or.inl (QX_tile hb hB h)), fun q => absurd q (by decide : ¬ (1 : Nat) = 2)⟩
theorem P_turnOf {M : eM} {S : gS} (hs : sOk S) (hc : sC M S) (a : Int32) : ((z_turnOf S a).1 = 0 → ∀ F : Int32 → eM → Prop, (∀ M', sC M' (z_turnOf S a).2.2 → F (z_turnOf S a).2.1 M') → Cal G 0 68 (4, 0, 0) kX10_turnOf [.ref (G.1 0), .int a] M (eFI F)) ∧ ((z_turnOf S a).1 = 1 → CalX G 0 68 (10, 1, 6) kX10_turnOf [.ref (G.1 0), .int a] M "java/lang/IndexOutOfBoundsException") ∧ ((z_turnOf S a).1 = 2 → CalX G 0 68 (10, 1, 6) kX10_turnOf [.ref (G.1 0), .int a] M "java/lang/IllegalStateException") := by
  have hb := hs.2.2.1.1
  have hB := hc.2.2.2.1
  have h49 := hb.c49
  have h16 := hb.2.2.1
  unfold z_turnOf
  by_cases h : dIn a (bN (gB S))
  · rw [if_pos h]
    obtain ⟨k, hk, rfl⟩ := dIn_nat (by omega) h
    rw [nI_clamp (show k < 2 ^ 31 by omega)]
    cases h1 : bCe (gB S) k with
    | none =>
      refine ⟨fun q => absurd q (by decide : ¬ (2 : Nat) = 0), fun q => absurd q (by decide : ¬ (2 : Nat) = 1), fun _ => CX_X10_turnOf G M _ _ (Or.inr (Q_tile hb hB h _ ?_))⟩
      exact ⟨QX_lying hb hB hk h1, rfl⟩
    | some t =>
      refine ⟨fun _ F hF => ?_, fun q => absurd q (by decide : ¬ (0 : Nat) = 1), fun q => absurd q (by decide : ¬ (0 : Nat) = 2)⟩
      refine C_X10_turnOf G M F _ (Q_tile hb hB h _ ?_)
      refine Q_lying hb hB hk (by rw [h1]; rfl) _ ⟨vp_in_nI (by omega) (by decide), ?_⟩
      rw [nI_clamp (show k < 2 ^ 31 by omega), hB.tr hk h1]
      exact hF M hc
  · rw [if_neg h]
    exact ⟨fun q => absurd q (by decide : ¬ (1 : Nat) = 0), fun _ => CX_X10_turnOf G M _ a (Or.inl (QX_tile hb hB h)), fun q => absurd q (by decide : ¬ (1 : Nat) = 2)⟩
theorem P_takeTile {M : eM} {S : gS} (hs : sOk S) (hc : sC M S) (a : Int32) : ((z_takeTile S a).1 = 0 → ∀ F : Int32 → eM → Prop, (∀ M', sC M' (z_takeTile S a).2.2 → F (z_takeTile S a).2.1 M') → Cal G 0 68 (4, 0, 0) kX10_takeTile [.ref (G.1 0), .int a] M (eFI F)) ∧ ((z_takeTile S a).1 = 1 → CalX G 0 68 (10, 1, 6) kX10_takeTile [.ref (G.1 0), .int a] M "java/lang/IndexOutOfBoundsException") ∧ ((z_takeTile S a).1 = 2 → CalX G 0 68 (10, 1, 6) kX10_takeTile [.ref (G.1 0), .int a] M "java/lang/IllegalStateException") := by
  have hb := hs.2.2.1.1
  have hB := hc.2.2.2.1
  have h49 := hb.c49
  have h16 := hb.2.2.1
  unfold z_takeTile
  by_cases h : dIn a (bN (gB S))
  · rw [if_pos h]
    obtain ⟨k, hk, rfl⟩ := dIn_nat (by omega) h
    rw [nI_clamp (show k < 2 ^ 31 by omega)]
    cases h1 : bCe (gB S) k with
    | none =>
      refine ⟨fun q => absurd q (by decide : ¬ (2 : Nat) = 0), fun q => absurd q (by decide : ¬ (2 : Nat) = 1), fun _ => CX_X10_takeTile G M _ _ (Or.inr (Q_tile hb hB h _ ?_))⟩
      exact ⟨QX_lying hb hB hk h1, rfl⟩
    | some t =>
      refine ⟨fun _ F hF => ?_, fun q => absurd q (by decide : ¬ (0 : Nat) = 1), fun q => absurd q (by decide : ¬ (0 : Nat) = 2)⟩
      refine C_X10_takeTile G M F _ (Q_tile hb hB h _ ?_)
      have ht := (hb.2.2.2.2.1 k t hk h1).1
      refine Q_lying hb hB hk (by rw [h1]; rfl) _ ⟨vp_in_nI (by omega) (by decide), ?_⟩
      rw [nI_clamp (show k < 2 ^ 31 by omega), hB.ce hk, h1]
      refine S_lift G hb hB _ hk h1 (fun M' b' f' => ?_)
      refine S_pointsFor G (hb.lift hk h1) b' _ (show t < bC (bLift (gB S) k t) from ht) (hF M' (hc.b b' (fun c hx => f' c (by omega)) ?_))
      rw [f' 16 (by decide)]
      exact hc.2.2.2.2
  · rw [if_neg h]
    exact ⟨fun q => absurd q (by decide : ¬ (1 : Nat) = 0), fun _ => CX_X10_takeTile G M _ a (Or.inl (QX_tile hb hB h)), fun q => absurd q (by decide : ¬ (1 : Nat) = 2)⟩
theorem P_fitTile {M : eM} {S : gS} (hs : sOk S) (hc : sC M S) (a : Int32) : ((z_fitTile S a).1 = 0 → ∀ F : Int32 → eM → Prop, (∀ M', sC M' (z_fitTile S a).2.2 → F (z_fitTile S a).2.1 M') → Cal G 0 68 (3, 0, 0) kX10_fitTile [.ref (G.1 0), .int a] M (eFI F)) ∧ ((z_fitTile S a).1 = 1 → CalX G 0 68 (10, 1, 6) kX10_fitTile [.ref (G.1 0), .int a] M "java/lang/IndexOutOfBoundsException") ∧ ((z_fitTile S a).1 = 2 → CalX G 0 68 (10, 1, 6) kX10_fitTile [.ref (G.1 0), .int a] M "java/lang/IllegalStateException") := by
  have hb := hs.2.2.1.1
  have hB := hc.2.2.2.1
  have h49 := hb.c49
  have h16 := hb.2.2.1
  unfold z_fitTile
  by_cases h : dIn a (bN (gB S))
  · rw [if_pos h]
    obtain ⟨k, hk, rfl⟩ := dIn_nat (by omega) h
    rw [nI_clamp (show k < 2 ^ 31 by omega)]
    cases h1 : bFirst (gB S) k with
    | none =>
      refine ⟨fun q => absurd q (by decide : ¬ (2 : Nat) = 0), fun q => absurd q (by decide : ¬ (2 : Nat) = 1), fun _ => CX_X10_fitTile G M _ _ (Or.inr (Q_tile hb hB h _ ?_))⟩
      refine S_firstCell G hb hB _ hk ?_
      rw [h1]
      exact ⟨QX_some, rfl⟩
    | some t =>
      refine ⟨fun _ F hF => ?_, fun q => absurd q (by decide : ¬ (0 : Nat) = 1), fun q => absurd q (by decide : ¬ (0 : Nat) = 2)⟩
      refine C_X10_fitTile G M F _ (Q_tile hb hB h _ ?_)
      obtain ⟨ht, u, hu, hu6, hf⟩ := bFirst_some h1
      obtain ⟨f1, f2, -⟩ := bFits_face hf
      refine S_firstCell G hb hB _ hk ?_
      rw [h1]
      refine Q_some (by omega) _ (S_firstTurn G hb hB _ hk ht hu (S_put G hb hB _ hk ht hu6 f2 f1 (fun M' b' f' => ?_)))
      replace hF : ∀ M', sC M' (gWB S (bPut (gB S) k t ((bAny (gB S) k t).getD 0)) (gR S)) → F (nI t) M' := hF
      rw [hu] at hF
      refine hF M' (hc.b b' (fun c hx => f' c (by omega)) ?_)
      rw [f' 16 (by decide)]
      exact hc.2.2.2.2
  · rw [if_neg h]
    exact ⟨fun q => absurd q (by decide : ¬ (1 : Nat) = 0), fun _ => CX_X10_fitTile G M _ a (Or.inl (QX_tile hb hB h)), fun q => absurd q (by decide : ¬ (1 : Nat) = 2)⟩
theorem P_bestCell {M : eM} {S : gS} (hs : sOk S) (hc : sC M S) (a : Int32) : ((z_bestCell S a).1 = 0 → ∀ F : Int32 → eM → Prop, (∀ M', sC M' (z_bestCell S a).2.2 → F (z_bestCell S a).2.1 M') → Cal G 0 68 (4, 0, 0) kX10_bestCell [.ref (G.1 0), .int a] M (eFI F)) ∧ ((z_bestCell S a).1 = 1 → CalX G 0 68 (10, 1, 6) kX10_bestCell [.ref (G.1 0), .int a] M "java/lang/IndexOutOfBoundsException") ∧ ((z_bestCell S a).1 = 2 → CalX G 0 68 (10, 1, 6) kX10_bestCell [.ref (G.1 0), .int a] M "java/lang/IllegalStateException") := by
  have hb := hs.2.2.1.1
  have hB := hc.2.2.2.1
  have h49 := hb.c49
  have h16 := hb.2.2.1
  unfold z_bestCell
  by_cases h : dIn a (bN (gB S))
  · rw [if_pos h]
    obtain ⟨k, hk, rfl⟩ := dIn_nat (by omega) h
    rw [nI_clamp (show k < 2 ^ 31 by omega)]
    cases h1 : bRich (gB S) k with
    | none =>
      refine ⟨fun q => absurd q (by decide : ¬ (2 : Nat) = 0), fun q => absurd q (by decide : ¬ (2 : Nat) = 1), fun _ => CX_X10_bestCell G M _ _ (Or.inr (Q_tile hb hB h _ ?_))⟩
      refine S_richestCell G hb hB _ hk ?_
      rw [h1]
      exact ⟨QX_some, rfl⟩
    | some t =>
      refine ⟨fun _ F hF => ?_, fun q => absurd q (by decide : ¬ (0 : Nat) = 1), fun q => absurd q (by decide : ¬ (0 : Nat) = 2)⟩
      refine C_X10_bestCell G M F _ (Q_tile hb hB h _ ?_)
      have ht := (zBest_lt h1).1
      refine S_richestCell G hb hB _ hk ?_
      rw [h1]
      exact Q_some (by omega) _ (hF M hc)
  · rw [if_neg h]
    exact ⟨fun q => absurd q (by decide : ¬ (1 : Nat) = 0), fun _ => CX_X10_bestCell G M _ a (Or.inl (QX_tile hb hB h)), fun q => absurd q (by decide : ¬ (1 : Nat) = 2)⟩
theorem P_bestTurn {M : eM} {S : gS} (hs : sOk S) (hc : sC M S) (a : Int32) : ((z_bestTurn S a).1 = 0 → ∀ F : Int32 → eM → Prop, (∀ M', sC M' (z_bestTurn S a).2.2 → F (z_bestTurn S a).2.1 M') → Cal G 0 68 (4, 0, 0) kX10_bestTurn [.ref (G.1 0), .int a] M (eFI F)) ∧ ((z_bestTurn S a).1 = 1 → CalX G 0 68 (10, 1, 6) kX10_bestTurn [.ref (G.1 0), .int a] M "java/lang/IndexOutOfBoundsException") ∧ ((z_bestTurn S a).1 = 2 → CalX G 0 68 (10, 1, 6) kX10_bestTurn [.ref (G.1 0), .int a] M "java/lang/IllegalStateException") := by
  have hb := hs.2.2.1.1
  have hB := hc.2.2.2.1
  have h49 := hb.c49
  have h16 := hb.2.2.1
  unfold z_bestTurn
  by_cases h : dIn a (bN (gB S))
  · rw [if_pos h]
    obtain ⟨k, hk, rfl⟩ := dIn_nat (by omega) h
    rw [nI_clamp (show k < 2 ^ 31 by omega)]
    cases h1 : bRich (gB S) k with
    | none =>
      refine ⟨fun q => absurd q (by decide : ¬ (2 : Nat) = 0), fun q => absurd q (by decide : ¬ (2 : Nat) = 1), fun _ => CX_X10_bestTurn G M _ _ (Or.inr (Q_tile hb hB h _ ?_))⟩
      refine S_richestCell G hb hB _ hk ?_
      rw [h1]
      exact ⟨QX_some, rfl⟩
    | some t =>
      refine ⟨fun _ F hF => ?_, fun q => absurd q (by decide : ¬ (0 : Nat) = 1), fun q => absurd q (by decide : ¬ (0 : Nat) = 2)⟩
      refine C_X10_bestTurn G M F _ (Q_tile hb hB h _ ?_)
      obtain ⟨ht, hsm⟩ := zBest_lt h1
      refine S_richestCell G hb hB _ hk ?_
      rw [h1]
      have hF' := hF M hc
      cases hu : bAny (gB S) k t with
      | none =>
        have hsm' : (bAny (gB S) k t).isSome = true := hsm
        rw [hu] at hsm'
        cases hsm'
      | some u =>
        replace hF' : F (nI ((bAny (gB S) k t).getD 0)) M := hF'
        rw [hu] at hF'
        exact Q_some (by omega) _ (S_firstTurn G hb hB _ hk ht hu hF')
  · rw [if_neg h]
    exact ⟨fun q => absurd q (by decide : ¬ (1 : Nat) = 0), fun _ => CX_X10_bestTurn G M _ a (Or.inl (QX_tile hb hB h)), fun q => absurd q (by decide : ¬ (1 : Nat) = 2)⟩
theorem P_numberAt {M : eM} {S : gS} (hs : sOk S) (hc : sC M S) (a e : Int32) : ((z_numberAt S a e).1 = 0 → ∀ F : Int32 → eM → Prop, (∀ M', sC M' (z_numberAt S a e).2.2 → F (z_numberAt S a e).2.1 M') → Cal G 0 68 (2, 0, 0) kX10_numberAt [.ref (G.1 0), .int a, .int e] M (eFI F)) ∧ ((z_numberAt S a e).1 = 1 → CalX G 0 68 (10, 1, 6) kX10_numberAt [.ref (G.1 0), .int a, .int e] M "java/lang/IndexOutOfBoundsException") ∧ ((z_numberAt S a e).1 = 2 → CalX G 0 68 (10, 1, 6) kX10_numberAt [.ref (G.1 0), .int a, .int e] M "java/lang/IllegalStateException") := by
  have hb := hs.2.2.1.1
  have hB := hc.2.2.2.1
  have h49 := hb.c49
  have h16 := hb.2.2.1
  unfold z_numberAt
  by_cases h : dIn a (bC (gB S)) ∧ dIn e 6
  · rw [if_pos h]
    obtain ⟨k, hk, rfl⟩ := dIn_nat (by omega) h.1
    obtain ⟨d, hd, rfl⟩ := dIn_nat (by decide) h.2
    rw [nI_clamp (show k < 2 ^ 31 by omega), nI_clamp (show d < 2 ^ 31 by omega)]
    cases h1 : bAt (gB S) k with
    | none => exact ⟨fun q => absurd q (by decide : ¬ (2 : Nat) = 0), fun q => absurd q (by decide : ¬ (2 : Nat) = 1), fun _ => CX_X10_numberAt G M _ _ _ (Or.inr (Q_cell hB h.1 _ (Or.inr (Q_edge h.2 _ ⟨QX_tileOn hb hB hk h1, rfl⟩))))⟩
    | some t =>
      obtain ⟨t1, t2⟩ := hb.2.2.2.1 k t hk h1
      have t3 := (hb.2.2.2.2.1 t k t1 t2).2.2
      refine ⟨fun _ F hF => ?_, fun q => absurd q (by decide : ¬ (0 : Nat) = 1), fun q => absurd q (by decide : ¬ (0 : Nat) = 2)⟩
      refine C_X10_numberAt G M F _ _ (Q_cell hB h.1 _ (Q_edge h.2 _ (Q_tileOn hb hB hk h1 _ ⟨vp_in_nI (by omega) (by decide), ?_⟩)))
      rw [nI_clamp (show k < 2 ^ 31 by omega), hB.at hk, h1, eO_some, nI_clamp (show t < 2 ^ 31 by omega), hB.tr t1 t2]
      exact ⟨vp_in_nI (by omega) (by decide), S_nm G hb hB _ t1 t3 hd (hF M hc)⟩
  · rw [if_neg h]
    refine ⟨fun q => absurd q (by decide : ¬ (1 : Nat) = 0), fun _ => CX_X10_numberAt G M _ a e ?_, fun q => absurd q (by decide : ¬ (1 : Nat) = 2)⟩
    by_cases ha : dIn a (bC (gB S))
    · exact Or.inr (Q_cell hB ha _ (Or.inl ⟨QX_edge (fun z => h ⟨ha, z⟩), rfl⟩))
    · exact Or.inl (QX_cell hB ha)
theorem P_fits {M : eM} {S : gS} (hs : sOk S) (hc : sC M S) (k c u : Int32) : ((z_fits S k c u).1 = 0 → ∀ F : Bool → eM → Prop, (∀ M', sC M' (z_fits S k c u).2.2 → F (z_fits S k c u).2.1 M') → Cal G 0 68 (4, 0, 0) kX10_fits [.ref (G.1 0), .int k, .int c, .int u] M (eFZ F)) ∧ ((z_fits S k c u).1 = 1 → CalX G 0 68 (10, 1, 6) kX10_fits [.ref (G.1 0), .int k, .int c, .int u] M "java/lang/IndexOutOfBoundsException") := by
  have hb := hs.2.2.1.1
  have hB := hc.2.2.2.1
  have h49 := hb.c49
  have h16 := hb.2.2.1
  unfold z_fits
  by_cases h : dWay (gB S) k c u
  · rw [if_pos h]
    have hway := h
    obtain ⟨ik, hk, rfl⟩ := dIn_nat (by omega) h.1
    obtain ⟨ic, hcc, rfl⟩ := dIn_nat (by omega) h.2.1
    obtain ⟨iu, hu, rfl⟩ := dIn_nat (by decide) h.2.2
    rw [nI_clamp (show ik < 2 ^ 31 by omega), nI_clamp (show ic < 2 ^ 31 by omega), nI_clamp (show iu < 2 ^ 31 by omega)]
    exact ⟨fun _ F hF => C_X10_fits G M F _ _ _ (Q_way hb hB hway _ (S_fitsSo G hb hB _ hk hcc hu (hF M hc))), fun q => absurd q (by decide : ¬ (0 : Nat) = 1)⟩
  · rw [if_neg h]
    exact ⟨fun q => absurd q (by decide : ¬ (1 : Nat) = 0), fun _ => CX_X10_fits G M _ k c u (QX_way hb hB h)⟩
theorem P_edgeAgainst {M : eM} {S : gS} (hs : sOk S) (hc : sC M S) (k c u : Int32) : ((z_edgeAgainst S k c u).1 = 0 → ∀ F : Int32 → eM → Prop, (∀ M', sC M' (z_edgeAgainst S k c u).2.2 → F (z_edgeAgainst S k c u).2.1 M') → Cal G 0 68 (4, 0, 0) kX10_edgeAgainst [.ref (G.1 0), .int k, .int c, .int u] M (eFI F)) ∧ ((z_edgeAgainst S k c u).1 = 1 → CalX G 0 68 (10, 1, 6) kX10_edgeAgainst [.ref (G.1 0), .int k, .int c, .int u] M "java/lang/IndexOutOfBoundsException") := by
  have hb := hs.2.2.1.1
  have hB := hc.2.2.2.1
  have h49 := hb.c49
  have h16 := hb.2.2.1
  unfold z_edgeAgainst
  by_cases h : dWay (gB S) k c u
  · rw [if_pos h]
    have hway := h
    obtain ⟨ik, hk, rfl⟩ := dIn_nat (by omega) h.1
    obtain ⟨ic, hcc, rfl⟩ := dIn_nat (by omega) h.2.1
    obtain ⟨iu, hu, rfl⟩ := dIn_nat (by decide) h.2.2
    rw [nI_clamp (show ik < 2 ^ 31 by omega), nI_clamp (show ic < 2 ^ 31 by omega), nI_clamp (show iu < 2 ^ 31 by omega)]
    exact ⟨fun _ F hF => C_X10_edgeAgainst G M F _ _ _ (Q_way hb hB hway _ (S_firstClash G hb hB _ hk hcc hu (hF M hc))), fun q => absurd q (by decide : ¬ (0 : Nat) = 1)⟩
  · rw [if_neg h]
    exact ⟨fun q => absurd q (by decide : ¬ (1 : Nat) = 0), fun _ => CX_X10_edgeAgainst G M _ k c u (QX_way hb hB h)⟩
theorem P_putTile {M : eM} {S : gS} (hs : sOk S) (hc : sC M S) (k c u : Int32) : ((z_putTile S k c u).1 = 0 → ∀ F : Int32 → eM → Prop, (∀ M', sC M' (z_putTile S k c u).2.2 → F (z_putTile S k c u).2.1 M') → Cal G 0 68 (4, 0, 0) kX10_putTile [.ref (G.1 0), .int k, .int c, .int u] M (eFI F)) ∧ ((z_putTile S k c u).1 = 1 → CalX G 0 68 (10, 1, 6) kX10_putTile [.ref (G.1 0), .int k, .int c, .int u] M "java/lang/IndexOutOfBoundsException") ∧ ((z_putTile S k c u).1 = 2 → CalX G 0 68 (10, 1, 6) kX10_putTile [.ref (G.1 0), .int k, .int c, .int u] M "java/lang/IllegalStateException") := by
  have hb := hs.2.2.1.1
  have hB := hc.2.2.2.1
  have h49 := hb.c49
  have h16 := hb.2.2.1
  unfold z_putTile
  by_cases h : dWay (gB S) k c u
  · rw [if_pos h]
    have hway := h
    obtain ⟨ik, hk, rfl⟩ := dIn_nat (by omega) h.1
    obtain ⟨ic, hcc, rfl⟩ := dIn_nat (by omega) h.2.1
    obtain ⟨iu, hu, rfl⟩ := dIn_nat (by decide) h.2.2
    rw [nI_clamp (show ik < 2 ^ 31 by omega), nI_clamp (show ic < 2 ^ 31 by omega), nI_clamp (show iu < 2 ^ 31 by omega)]
    cases hf : bFits (gB S) ik ic iu with
    | true =>
      rw [if_pos rfl]
      obtain ⟨f1, f2, -⟩ := bFits_face hf
      refine ⟨fun _ F hF => ?_, fun q => absurd q (by decide : ¬ (0 : Nat) = 1), fun q => absurd q (by decide : ¬ (0 : Nat) = 2)⟩
      refine C_X10_putTile G M F _ _ _ (Q_way hb hB hway _ (S_fitsSo G hb hB _ hk hcc hu ?_))
      rw [hf]
      refine ⟨fun _ => S_pointsFor G hb hB _ hcc (S_put G hb hB _ hk hcc hu f2 f1 (fun M' b' f' => hF M' (hc.b b' (fun c hx => f' c (by omega)) ?_))), fun q => by cases q⟩
      rw [f' 16 (by decide)]
      exact hc.2.2.2.2
    | false =>
      rw [if_neg (by decide)]
      refine ⟨fun q => absurd q (by decide : ¬ (2 : Nat) = 0), fun q => absurd q (by decide : ¬ (2 : Nat) = 1), fun _ => CX_X10_putTile G M _ _ _ _ (Or.inr (Q_way hb hB hway _ (S_fitsSo G hb hB _ hk hcc hu ?_)))⟩
      rw [hf]
      exact ⟨fun q => (by cases q), fun _ => ⟨rfl, rfl⟩⟩
  · rw [if_neg h]
    exact ⟨fun q => absurd q (by decide : ¬ (1 : Nat) = 0), fun _ => CX_X10_putTile G M _ k c u (Or.inl (QX_way hb hB h)), fun q => absurd q (by decide : ¬ (1 : Nat) = 2)⟩
end Pub
