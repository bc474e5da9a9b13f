/-! ===== the class's calls, told by the hand's board ===== -/
theorem fO_self {d : FP.Core.Datum} (h : d ≠ .nan) : FP.Core.order d d = some .eq := by
  have c : ∀ x : Int, compare x x = Ordering.eq := fun x => by
    show compareOfLessAndEq x x = .eq
    unfold compareOfLessAndEq
    rw [if_neg (Int.lt_irrefl x), if_pos rfl]
  cases d with
  | nan => exact absurd rfl h
  | inf s => exact congrArg some (c _)
  | fin s n q => exact congrArg some (c _)
theorem fD_nn {v : UInt64} (h : vf_n64 v) : FP.Core.decode FP.Core.b64 v.toNat ≠ .nan := by
  unfold vf_n64 at h
  have e1 : (0x7fffffffffffffff : UInt64).toNat = 2 ^ 63 - 1 := by decide
  have e2 : (0x7ff0000000000000 : UInt64).toNat = 2047 * 2 ^ 52 := by decide
  rw [UInt64.le_iff_toNat_le, UInt64.toNat_and, e1, e2, Nat.and_two_pow_sub_one_eq_mod] at h
  unfold FP.Core.decode
  split
  · rename_i hE
    have hE' : v.toNat / 2 ^ 52 % 2 ^ 11 = 2 ^ 11 - 1 := hE
    have hT : FP.Core.fieldT FP.Core.b64 v.toNat = 0 := by
      show v.toNat % 2 ^ 52 = 0
      omega
    rw [if_pos hT]
    exact fun z => by cases z
  · split
    · exact fun z => by cases z
    · exact fun z => by cases z
theorem fC_self {v : UInt64} (h : vf_n64 v) : Op.cmpValue (FP.dcmp v v) .l = 0 := by
  have e : FP.dcmp v v = some .eq := fO_self (fD_nn h)
  rw [e]
  rfl
def lc (M : eM) (S : gS) (A : eBd) : Prop := (sC M S ∧ sOk S) ∧ bGm A ∧ bSim A (gB S)
theorem lk.c {G : eG} {M : eM} {H : yH} {S : gS} {g ta oa : Nat} {tk : Nat → Nat} {A : eBd} {os : List xO} (h : lk G M H S g ta oa tk A os) : lc M S A := ⟨h.1, h.2.2.2.1⟩
theorem lk.m {G : eG} {M M' : eM} {H : yH} {S : gS} {g ta oa : Nat} {tk : Nat → Nat} {A : eBd} {os : List xO} (h : lk G M H S g ta oa tk A os) (h' : lc M' S A) : lk G M' H S g ta oa tk A os := ⟨h'.1, h.2⟩
section Q
variable {G : eG} {M : eM} {S : gS} {A : eBd}
theorem Q_columns (h0 : lc M S A) {F : Int32 → eM → Prop} (h : ∀ M', lc M' S A → F (nI (bW A)) M') : Cal G 0 68 (1, 0, 0) kX10_columns [.ref (G.1 0)] M (eFI F) := by
  have h0' := h0
  obtain ⟨⟨hc, hs⟩, hm, tr, etr, ag⟩ := h0'
  refine P_columns hc F (fun M' c' => ?_)
  rw [etr]
  exact h M' ⟨⟨c', hs⟩, h0.2⟩
theorem Q_rows (h0 : lc M S A) {F : Int32 → eM → Prop} (h : ∀ M', lc M' S A → F (nI (bR A)) M') : Cal G 0 68 (1, 0, 0) kX10_rows [.ref (G.1 0)] M (eFI F) := by
  have h0' := h0
  obtain ⟨⟨hc, hs⟩, hm, tr, etr, ag⟩ := h0'
  refine P_rows hc F (fun M' c' => ?_)
  rw [etr]
  exact h M' ⟨⟨c', hs⟩, h0.2⟩
theorem Q_tiles (h0 : lc M S A) {F : Int32 → eM → Prop} (h : ∀ M', lc M' S A → F (nI (bN A)) M') : Cal G 0 68 (1, 0, 0) kX10_tiles [.ref (G.1 0)] M (eFI F) := by
  have h0' := h0
  obtain ⟨⟨hc, hs⟩, hm, tr, etr, ag⟩ := h0'
  refine P_tiles hc F (fun M' c' => ?_)
  rw [etr]
  exact h M' ⟨⟨c', hs⟩, h0.2⟩
theorem Q_went (h0 : lc M S A) {F : Int32 → eM → Prop} (h : ∀ M', lc M' S A → F (gR S) M') : Cal G 0 68 (1, 0, 0) kX10_rounds [.ref (G.1 0)] M (eFI F) := by
  have h0' := h0
  obtain ⟨⟨hc, hs⟩, hm, tr, etr, ag⟩ := h0'
  refine P_rounds hc F (fun M' c' => ?_)
  exact h M' ⟨⟨c', hs⟩, h0.2⟩
theorem Q_placedTiles (h0 : lc M S A) {F : Int32 → eM → Prop} (h : ∀ M', lc M' S A → F (nI (bP A)) M') : Cal G 0 68 (1, 0, 0) kX10_placedTiles [.ref (G.1 0)] M (eFI F) := by
  have h0' := h0
  obtain ⟨⟨hc, hs⟩, hm, tr, etr, ag⟩ := h0'
  refine P_placedTiles hc F (fun M' c' => ?_)
  rw [etr]
  exact h M' ⟨⟨c', hs⟩, h0.2⟩
theorem Q_matches (h0 : lc M S A) {F : Int32 → eM → Prop} (h : ∀ M', lc M' S A → F (nI (bMatch A)) M') : Cal G 0 68 (3, 0, 0) kX10_matches [.ref (G.1 0)] M (eFI F) := by
  have h0' := h0
  obtain ⟨⟨hc, hs⟩, hm, tr, etr, ag⟩ := h0'
  refine P_matches hs hc F (fun M' c' => ?_)
  rw [etr]
  exact h M' ⟨⟨c', hs⟩, h0.2⟩
theorem Q_points (h0 : lc M S A) {F : Int32 → eM → Prop} (h : ∀ M', lc M' S A → F (nI (bPoints A)) M') : Cal G 0 68 (4, 0, 0) kX10_points [.ref (G.1 0)] M (eFI F) := by
  have h0' := h0
  obtain ⟨⟨hc, hs⟩, hm, tr, etr, ag⟩ := h0'
  refine P_points hs hc F (fun M' c' => ?_)
  rw [etr, bPoints_tw hm.1 ag]
  exact h M' ⟨⟨c', hs⟩, h0.2⟩
theorem Q_rings (h0 : lc M S A) {F : Int32 → eM → Prop} (h : ∀ M', lc M' S A → F (nI (bRings A)) M') : Cal G 0 68 (3, 0, 0) kX10_rings [.ref (G.1 0)] M (eFI F) := by
  have h0' := h0
  obtain ⟨⟨hc, hs⟩, hm, tr, etr, ag⟩ := h0'
  refine P_rings hs hc F (fun M' c' => ?_)
  rw [etr]
  exact h M' ⟨⟨c', hs⟩, h0.2⟩
theorem Q_groups (h0 : lc M S A) {F : Int32 → eM → Prop} (h : ∀ M', lc M' S A → F (nI (bGroups A)) M') : Cal G 0 68 (3, 0, 0) kX10_groups [.ref (G.1 0)] M (eFI F) := by
  have h0' := h0
  obtain ⟨⟨hc, hs⟩, hm, tr, etr, ag⟩ := h0'
  refine P_groups hs hc F (fun M' c' => ?_)
  rw [etr, bGroups_tw]
  exact h M' ⟨⟨c', hs⟩, h0.2⟩
theorem Q_bestTile (h0 : lc M S A) {F : Int32 → eM → Prop} (h : ∀ M', lc M' S A → F (eO (bBestT A)) M') : Cal G 0 68 (5, 0, 0) kX10_bestTile [.ref (G.1 0)] M (eFI F) := by
  have h0' := h0
  obtain ⟨⟨hc, hs⟩, hm, tr, etr, ag⟩ := h0'
  refine P_bestTile hs hc F (fun M' c' => ?_)
  rw [etr, bBestT_tw hm.1 ag]
  exact h M' ⟨⟨c', hs⟩, h0.2⟩
theorem Q_digest (h0 : lc M S A) {F : Int64 → eM → Prop} (h : ∀ M', lc M' S A → F (z_digest S) M') : Cal G 0 68 (6, 0, 0) kX10_digest [.ref (G.1 0)] M (eFL F) := by
  have h0' := h0
  obtain ⟨⟨hc, hs⟩, hm, tr, etr, ag⟩ := h0'
  refine P_digest hs hc F (fun M' c' => ?_)
  exact h M' ⟨⟨c', hs⟩, h0.2⟩
theorem Q_hasTile {c : Nat} (h0 : lc M S A) (hcC : c < bC A) {F : Bool → eM → Prop} (h : ∀ M', lc M' S A → F (bAt A c).isSome M') : Cal G 0 68 (2, 0, 0) kX10_hasTile [.ref (G.1 0), .int (nI c)] M (eFZ F) := by
  have h0' := h0
  obtain ⟨⟨hc, hs⟩, hm, tr, etr, ag⟩ := h0'
  have h49 := hm.1.c49
  have h16 := hm.1.2.2.1
  have hp := P_hasTile (G := G) hs hc (nI c)
  have ez : z_hasTile S (nI c) = (0, (bAt A c).isSome, S) := by
    unfold z_hasTile
    rw [etr]
    rw [if_pos ⟨nI_pos' (by omega), nI_lt (b := bC A) hcC (by omega)⟩, nI_clamp (by omega)]; rfl
  rw [ez] at hp
  exact hp.1 rfl F (fun M' c' => h M' ⟨⟨c', hs⟩, h0.2⟩)
theorem Q_matchesOf {c : Nat} (h0 : lc M S A) (hcC : c < bC A) {F : Int32 → eM → Prop} (h : ∀ M', lc M' S A → F (nI (bMatchOn A c)) M') : Cal G 0 68 (2, 0, 0) kX10_matchesOf [.ref (G.1 0), .int (nI c)] M (eFI F) := by
  have h0' := h0
  obtain ⟨⟨hc, hs⟩, hm, tr, etr, ag⟩ := h0'
  have h49 := hm.1.c49
  have h16 := hm.1.2.2.1
  have hp := P_matchesOf (G := G) hs hc (nI c)
  have ez : z_matchesOf S (nI c) = (0, (nI (bMatchOn A c)), S) := by
    unfold z_matchesOf
    rw [etr]
    rw [if_pos ⟨nI_pos' (by omega), nI_lt (b := bC A) hcC (by omega)⟩, nI_clamp (by omega)]; rfl
  rw [ez] at hp
  exact hp.1 rfl F (fun M' c' => h M' ⟨⟨c', hs⟩, h0.2⟩)
theorem Q_isRing {c : Nat} (h0 : lc M S A) (hcC : c < bC A) {F : Bool → eM → Prop} (h : ∀ M', lc M' S A → F (bRing A c) M') : Cal G 0 68 (2, 0, 0) kX10_isRing [.ref (G.1 0), .int (nI c)] M (eFZ F) := by
  have h0' := h0
  obtain ⟨⟨hc, hs⟩, hm, tr, etr, ag⟩ := h0'
  have h49 := hm.1.c49
  have h16 := hm.1.2.2.1
  have hp := P_isRing (G := G) hs hc (nI c)
  have ez : z_isRing S (nI c) = (0, (bRing A c), S) := by
    unfold z_isRing
    rw [etr]
    rw [if_pos ⟨nI_pos' (by omega), nI_lt (b := bC A) hcC (by omega)⟩, nI_clamp (by omega)]; rfl
  rw [ez] at hp
  exact hp.1 rfl F (fun M' c' => h M' ⟨⟨c', hs⟩, h0.2⟩)
theorem Q_isPlaced {k : Nat} (h0 : lc M S A) (hkN : k < bN A) {F : Bool → eM → Prop} (h : ∀ M', lc M' S A → F (bCe A k).isSome M') : Cal G 0 68 (3, 0, 0) kX10_isPlaced [.ref (G.1 0), .int (nI k)] M (eFZ F) := by
  have h0' := h0
  obtain ⟨⟨hc, hs⟩, hm, tr, etr, ag⟩ := h0'
  have h49 := hm.1.c49
  have h16 := hm.1.2.2.1
  have hp := P_isPlaced (G := G) hs hc (nI k)
  have ez : z_isPlaced S (nI k) = (0, (bCe A k).isSome, S) := by
    unfold z_isPlaced
    rw [etr]
    rw [if_pos ⟨nI_pos' (by omega), nI_lt (b := bN A) hkN (by omega)⟩, nI_clamp (by omega)]; rfl
  rw [ez] at hp
  exact hp.1 rfl F (fun M' c' => h M' ⟨⟨c', hs⟩, h0.2⟩)
theorem Q_waysOf {k : Nat} (h0 : lc M S A) (hkN : k < bN A) {F : Int32 → eM → Prop} (h : ∀ M', lc M' S A → F (nI (bWays A k)) M') : Cal G 0 68 (3, 0, 0) kX10_waysOf [.ref (G.1 0), .int (nI k)] M (eFI F) := by
  have h0' := h0
  obtain ⟨⟨hc, hs⟩, hm, tr, etr, ag⟩ := h0'
  have h49 := hm.1.c49
  have h16 := hm.1.2.2.1
  have hp := P_waysOf (G := G) hs hc (nI k)
  have ez : z_waysOf S (nI k) = (0, (nI (bWays A k)), S) := by
    unfold z_waysOf
    rw [etr]
    rw [if_pos ⟨nI_pos' (by omega), nI_lt (b := bN A) hkN (by omega)⟩, nI_clamp (by omega), bWays_tw hm.1 ag]
  rw [ez] at hp
  exact hp.1 rfl F (fun M' c' => h M' ⟨⟨c', hs⟩, h0.2⟩)
theorem Q_isLeftover {k : Nat} (h0 : lc M S A) (hkN : k < bN A) {F : Bool → eM → Prop} (h : ∀ M', lc M' S A → F (bLeft A k) M') : Cal G 0 68 (3, 0, 0) kX10_isLeftover [.ref (G.1 0), .int (nI k)] M (eFZ F) := by
  have h0' := h0
  obtain ⟨⟨hc, hs⟩, hm, tr, etr, ag⟩ := h0'
  have h49 := hm.1.c49
  have h16 := hm.1.2.2.1
  have hp := P_isLeftover (G := G) hs hc (nI k)
  have ez : z_isLeftover S (nI k) = (0, (bLeft A k), S) := by
    unfold z_isLeftover
    rw [etr]
    rw [if_pos ⟨nI_pos' (by omega), nI_lt (b := bN A) hkN (by omega)⟩, nI_clamp (by omega), bLeft_tw hm.1 ag]
  rw [ez] at hp
  exact hp.1 rfl F (fun M' c' => h M' ⟨⟨c', hs⟩, h0.2⟩)
theorem Q_fits {k c t : Nat} (h0 : lc M S A) (hkN : k < bN A) (hcC : c < bC A) (ht6 : t < 6) {F : Bool → eM → Prop} (h : ∀ M', lc M' S A → F (bFits A k c t) M') : Cal G 0 68 (4, 0, 0) kX10_fits [.ref (G.1 0), .int (nI k), .int (nI c), .int (nI t)] M (eFZ F) := by
  have h0' := h0
  obtain ⟨⟨hc, hs⟩, hm, tr, etr, ag⟩ := h0'
  have h49 := hm.1.c49
  have h16 := hm.1.2.2.1
  have hp := P_fits (G := G) hs hc (nI k) (nI c) (nI t)
  have ez : z_fits S (nI k) (nI c) (nI t) = (0, (bFits A k c t), S) := by
    unfold z_fits
    rw [etr]
    rw [if_pos ⟨⟨nI_pos' (by omega), nI_lt (b := bN A) hkN (by omega)⟩, ⟨nI_pos' (by omega), nI_lt (b := bC A) hcC (by omega)⟩, ⟨nI_pos' (by omega), nI_lt (b := 6) ht6 (by decide)⟩⟩, nI_clamp (n := k) (by omega), nI_clamp (n := c) (by omega), nI_clamp (n := t) (by omega), bFits_tw hm.1 ag hcC]
  rw [ez] at hp
  exact hp.1 rfl F (fun M' c' => h M' ⟨⟨c', hs⟩, h0.2⟩)
theorem Q_edgeAgainst {k c t : Nat} (h0 : lc M S A) (hkN : k < bN A) (hcC : c < bC A) (ht6 : t < 6) {F : Int32 → eM → Prop} (h : ∀ M', lc M' S A → F (eO (bAgainst A k c t)) M') : Cal G 0 68 (4, 0, 0) kX10_edgeAgainst [.ref (G.1 0), .int (nI k), .int (nI c), .int (nI t)] M (eFI F) := by
  have h0' := h0
  obtain ⟨⟨hc, hs⟩, hm, tr, etr, ag⟩ := h0'
  have h49 := hm.1.c49
  have h16 := hm.1.2.2.1
  have hp := P_edgeAgainst (G := G) hs hc (nI k) (nI c) (nI t)
  have ez : z_edgeAgainst S (nI k) (nI c) (nI t) = (0, (eO (bAgainst A k c t)), S) := by
    unfold z_edgeAgainst
    rw [etr]
    rw [if_pos ⟨⟨nI_pos' (by omega), nI_lt (b := bN A) hkN (by omega)⟩, ⟨nI_pos' (by omega), nI_lt (b := bC A) hcC (by omega)⟩, ⟨nI_pos' (by omega), nI_lt (b := 6) ht6 (by decide)⟩⟩, nI_clamp (n := k) (by omega), nI_clamp (n := c) (by omega), nI_clamp (n := t) (by omega), bAgainst_tw hm.1 ag hcC]
  rw [ez] at hp
  exact hp.1 rfl F (fun M' c' => h M' ⟨⟨c', hs⟩, h0.2⟩)
theorem Q_tileAt {c : Nat} (h0 : lc M S A) {k : Nat} (hcC : c < bC A) (hat : bAt A c = some k) {F : Int32 → eM → Prop} (h : ∀ M', lc M' S A → F (nI k) M') : Cal G 0 68 (2, 0, 0) kX10_tileAt [.ref (G.1 0), .int (nI c)] M (eFI F) := by
  have h0' := h0
  obtain ⟨⟨hc, hs⟩, hm, tr, etr, ag⟩ := h0'
  have h49 := hm.1.c49
  have h16 := hm.1.2.2.1
  have hp := P_tileAt (G := G) hs hc (nI c)
  have ez : z_tileAt S (nI c) = (0, (nI k), S) := by
    unfold z_tileAt
    rw [etr]
    rw [if_pos ⟨nI_pos' (by omega), nI_lt (b := bC A) hcC (by omega)⟩, nI_clamp (by omega), show bAt (bTw A tr) c = some k from hat]
  rw [ez] at hp
  exact hp.1 rfl F (fun M' c' => h M' ⟨⟨c', hs⟩, h0.2⟩)
theorem Q_cellOf {k : Nat} (h0 : lc M S A) {c : Nat} (hkN : k < bN A) (hce : bCe A k = some c) {F : Int32 → eM → Prop} (h : ∀ M', lc M' S A → F (nI c) M') : Cal G 0 68 (4, 0, 0) kX10_cellOf [.ref (G.1 0), .int (nI k)] M (eFI F) := by
  have h0' := h0
  obtain ⟨⟨hc, hs⟩, hm, tr, etr, ag⟩ := h0'
  have h49 := hm.1.c49
  have h16 := hm.1.2.2.1
  have hp := P_cellOf (G := G) hs hc (nI k)
  have ez : z_cellOf S (nI k) = (0, (nI c), S) := by
    unfold z_cellOf
    rw [etr]
    rw [if_pos ⟨nI_pos' (by omega), nI_lt (b := bN A) hkN (by omega)⟩, nI_clamp (by omega), show bCe (bTw A tr) k = some c from hce]
  rw [ez] at hp
  exact hp.1 rfl F (fun M' c' => h M' ⟨⟨c', hs⟩, h0.2⟩)
theorem Q_turnOf {k : Nat} (h0 : lc M S A) {c : Nat} (hkN : k < bN A) (hce : bCe A k = some c) {F : Int32 → eM → Prop} (h : ∀ M', lc M' S A → F (nI (bTr A k)) M') : Cal G 0 68 (4, 0, 0) kX10_turnOf [.ref (G.1 0), .int (nI k)] M (eFI F) := by
  have h0' := h0
  obtain ⟨⟨hc, hs⟩, hm, tr, etr, ag⟩ := h0'
  have h49 := hm.1.c49
  have h16 := hm.1.2.2.1
  have hp := P_turnOf (G := G) hs hc (nI k)
  have ez : z_turnOf S (nI k) = (0, (nI (bTr A k)), S) := by
    unfold z_turnOf
    rw [etr]
    rw [if_pos ⟨nI_pos' (by omega), nI_lt (b := bN A) hkN (by omega)⟩, nI_clamp (by omega), show bCe (bTw A tr) k = some c from hce, show bTr (bTw A tr) k = bTr A k from ag k c hkN hce]
  rw [ez] at hp
  exact hp.1 rfl F (fun M' c' => h M' ⟨⟨c', hs⟩, h0.2⟩)
theorem Q_numberAt {c t : Nat} (h0 : lc M S A) {k : Nat} (hcC : c < bC A) (ht6 : t < 6) (hat : bAt A c = some k) {F : Int32 → eM → Prop} (h : ∀ M', lc M' S A → F (nI (bNm A k (bTr A k) t)) M') : Cal G 0 68 (2, 0, 0) kX10_numberAt [.ref (G.1 0), .int (nI c), .int (nI t)] M (eFI F) := by
  have h0' := h0
  obtain ⟨⟨hc, hs⟩, hm, tr, etr, ag⟩ := h0'
  have h49 := hm.1.c49
  have h16 := hm.1.2.2.1
  have hp := P_numberAt (G := G) hs hc (nI c) (nI t)
  have ez : z_numberAt S (nI c) (nI t) = (0, (nI (bNm A k (bTr A k) t)), S) := by
    unfold z_numberAt
    rw [etr]
    obtain ⟨hkN, hce⟩ := hm.1.2.2.2.1 c k hcC hat
    rw [if_pos ⟨⟨nI_pos' (by omega), nI_lt (b := bC A) hcC (by omega)⟩, ⟨nI_pos' (by omega), nI_lt (b := 6) ht6 (by decide)⟩⟩, nI_clamp (n := c) (by omega), nI_clamp (n := t) (by omega), show bAt (bTw A tr) c = some k from hat]
    show (0, nI (bNm (bTw A tr) k (bTr (bTw A tr) k) t), S) = _
    rw [show bTr (bTw A tr) k = bTr A k from ag k c hkN hce]
    rfl
  rw [ez] at hp
  exact hp.1 rfl F (fun M' c' => h M' ⟨⟨c', hs⟩, h0.2⟩)
end Q
