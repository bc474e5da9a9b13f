/-! ===== the class's calls that put, take, play, told by the hand's board ===== -/
/-- the same board but for the turns of tiles that lie nowhere -/
def sEq (S S' : gS) : Prop := ∃ tr, S' = gWB S (bTw (gB S) tr) (gR S) ∧ bAg (gB S) tr
theorem sEq.refl (S : gS) : sEq S S := ⟨bTr (gB S), rfl, fun _ _ _ _ => rfl⟩
theorem sEq.trans {S S1 S2 : gS} (h : sEq S S1) (h1 : sEq S1 S2) : sEq S S2 := by
  obtain ⟨tr, rfl, ha⟩ := h
  obtain ⟨tr1, rfl, ha1⟩ := h1
  exact ⟨tr1, rfl, fun k c hk hc => (ha1 k c hk hc).trans (ha k c hk hc)⟩
theorem sEq.dig {S S' : gS} (h : sEq S S') (hb : bOk (gB S)) : z_digest S' = z_digest S := by
  obtain ⟨tr, rfl, ha⟩ := h
  exact digest_tw hb ha
theorem sEq.toL {M : eM} {S S' : gS} {A : eBd} (h : sEq S S') (h0 : lc M S A) {M' : eM} (hc : sC M' S') (hs : sOk S') : lc M' S' A := by
  obtain ⟨tr, rfl, ha⟩ := h
  exact ⟨⟨hc, hs⟩, h0.2.1, h0.2.2.trans ⟨tr, rfl, ha⟩⟩
theorem sEq.toK {G : eG} {M M' : eM} {H : yH} {S S' : gS} {g ta oa : Nat} {tk : Nat → Nat} {A : eBd} {os : List xO} (h : sEq S S') (h0 : lk G M H S g ta oa tk A os) (h1 : lc M' S' A) : lk G M' H S' g ta oa tk A os := by
  obtain ⟨tr, rfl, ha⟩ := h
  exact ⟨h1.1, h0.2.1, h0.2.2.1, h1.2, h0.2.2.2.2.1, h0.2.2.2.2.2⟩
section Q2
variable {G : eG} {M : eM} {S : gS} {A : eBd}
theorem Q_bestCell {k c : Nat} (h0 : lc M S A) (hkN : k < bN A) (hri : bRich A k = some c) {F : Int32 → eM → Prop} (h : ∀ M', lc M' S A → F (nI c) M') : Cal G 0 68 (4, 0, 0) kX10_bestCell [.ref (G.1 0), .int (nI k)] M (eFI F) := by
  have h0' := h0
  obtain ⟨⟨hc, hs⟩, hm, tr, etr, ag⟩ := h0'
  have h16 := hm.1.2.2.1
  have hp := P_bestCell (G := G) hs hc (nI k)
  have ez : z_bestCell S (nI k) = (0, (nI c), S) := by
    unfold z_bestCell
    rw [etr]
    rw [if_pos ⟨nI_pos' (by omega), nI_lt (b := bN A) hkN (by omega)⟩, nI_clamp (by omega), bRich_tw hm.1 ag, hri]
  rw [ez] at hp
  exact hp.1 rfl F (fun M' c' => h M' ⟨⟨c', hs⟩, h0.2⟩)
theorem Q_bestTurn {k c u : Nat} (h0 : lc M S A) (hkN : k < bN A) (hcC : c < bC A) (hri : bRich A k = some c) (han : bAny A k c = some u) {F : Int32 → eM → Prop} (h : ∀ M', lc M' S A → F (nI u) M') : Cal G 0 68 (4, 0, 0) kX10_bestTurn [.ref (G.1 0), .int (nI k)] M (eFI F) := by
  have h0' := h0
  obtain ⟨⟨hc, hs⟩, hm, tr, etr, ag⟩ := h0'
  have h16 := hm.1.2.2.1
  have hp := P_bestTurn (G := G) hs hc (nI k)
  have ez : z_bestTurn S (nI k) = (0, (nI u), S) := by
    unfold z_bestTurn
    rw [etr]
    rw [if_pos ⟨nI_pos' (by omega), nI_lt (b := bN A) hkN (by omega)⟩, nI_clamp (by omega), bRich_tw hm.1 ag, hri]
    show (0, nI ((bAny (bTw A tr) k c).getD 0), S) = (0, nI u, S)
    rw [bAny_tw hm.1 ag hcC, han]
    rfl
  rw [ez] at hp
  exact hp.1 rfl F (fun M' c' => h M' ⟨⟨c', hs⟩, h0.2⟩)
theorem Q_put {k c t : Nat} (h0 : lc M S A) (hkN : k < bN A) (hcC : c < bC A) (ht6 : t < 6) (hf : bFits A k c t = true) {F : Int32 → eM → Prop} (h : ∀ M', lc M' (gWB S (bPut (gB S) k c t) (gR S)) (bPut A k c t) → F (nI (bGain A c)) M') : Cal G 0 68 (4, 0, 0) kX10_putTile [.ref (G.1 0), .int (nI k), .int (nI c), .int (nI t)] M (eFI F) := by
  have h0' := h0
  obtain ⟨⟨hc, hs⟩, hm, hsim⟩ := h0'
  have hsz := hsim.sz
  have hsim' := hsim
  obtain ⟨tr, etr, ag⟩ := hsim'
  have h49 := hm.1.c49
  have h16 := hm.1.2.2.1
  have eF : bFits (gB S) k c t = true := by rw [etr, bFits_tw hm.1 ag hcC]; exact hf
  have hW : dWay (gB S) (nI k) (nI c) (nI t) := by
    refine ⟨?_, ?_, ⟨nI_pos' (by omega), nI_lt (b := 6) ht6 (by decide)⟩⟩
    · rw [hsz.2.2.1]; exact ⟨nI_pos' (by omega), nI_lt hkN (by omega)⟩
    · rw [eLie hsim]; exact ⟨nI_pos' (by omega), nI_lt hcC (by omega)⟩
  have hp := P_putTile (G := G) hs hc (nI k) (nI c) (nI t)
  have ez : z_putTile S (nI k) (nI c) (nI t) = (0, nI (bGain A c), gWB S (bPut (gB S) k c t) (gR S)) := by
    unfold z_putTile
    rw [if_pos hW, nI_clamp (n := k) (by omega), nI_clamp (n := c) (by omega), nI_clamp (n := t) (by omega), if_pos eF, show bGain (gB S) c = bGain A c from by rw [etr]; exact bGain_tw hm.1 ag hcC]
  rw [ez] at hp
  have hSg : bGm (bPut (gB S) k c t) := hs.2.2.1.put (by rw [hsz.2.2.1]; exact hkN) (by rw [eLie hsim]; exact hcC) ht6 eF
  exact hp.1 rfl F (fun M' c' => h M' ⟨⟨c', hs.b hSg (bSz.put _ _ _ _)⟩, hm.put hkN hcC ht6 hf, hsim.put k c t⟩)
theorem Q_take {k c : Nat} (h0 : lc M S A) (hkN : k < bN A) (hce : bCe A k = some c) {F : Int32 → eM → Prop} (h : ∀ M', sC M' (gWB S (bLift (gB S) k c) (gR S)) → sOk (gWB S (bLift (gB S) k c) (gR S)) → F (nI (bGain (bLift A k c) c)) M') : Cal G 0 68 (4, 0, 0) kX10_takeTile [.ref (G.1 0), .int (nI k)] M (eFI F) := by
  have h0' := h0
  obtain ⟨⟨hc, hs⟩, hm, hsim⟩ := h0'
  have hsz := hsim.sz
  have hsim' := hsim
  obtain ⟨tr, etr, ag⟩ := hsim'
  have h16 := hm.1.2.2.1
  have hcC : c < bC A := (hm.1.2.2.2.2.1 k c hkN hce).1
  have hceS : bCe (gB S) k = some c := by rw [etr]; exact hce
  have hp := P_takeTile (G := G) hs hc (nI k)
  have hl := hm.lift hkN hce
  have ez : z_takeTile S (nI k) = (0, nI (bGain (bLift A k c) c), gWB S (bLift (gB S) k c) (gR S)) := by
    unfold z_takeTile
    rw [if_pos (by rw [hsz.2.2.1]; exact ⟨nI_pos' (by omega), nI_lt hkN (by omega)⟩), nI_clamp (n := k) (by omega), hceS]
    show (0, nI (bGain (bLift (gB S) k c) c), gWB S (bLift (gB S) k c) (gR S)) = _
    rw [show bGain (bLift (gB S) k c) c = bGain (bLift A k c) c from by rw [etr, bTw_lift]; exact bGain_tw hl.1 ag.lift hcC]
  rw [ez] at hp
  exact hp.1 rfl F (fun M' c' => h M' c' (hs.b (hs.2.2.1.lift (by rw [hsz.2.2.1]; exact hkN) hceS) (bSz.lift _ _ _)))
/-- put and taken away again -/
theorem Q_putTake {k c t : Nat} (h0 : lc M S A) (hkN : k < bN A) (hcC : c < bC A) (ht6 : t < 6) (hf : bFits A k c t = true) {M1 : eM} (h1 : lc M1 (gWB S (bPut (gB S) k c t) (gR S)) (bPut A k c t)) {F : Int32 → eM → Prop} (h : ∀ M' S', sEq S S' → lc M' S' A → F (nI (bGain A c)) M') : Cal G 0 68 (4, 0, 0) kX10_takeTile [.ref (G.1 0), .int (nI k)] M1 (eFI F) := by
  have hsim := h0.2.2
  obtain ⟨tr, etr, ag⟩ := hsim
  have hl := bFits_lies hf
  have e1 : bCe (bPut A k c t) k = some c := zU_same _ _ _
  refine Q_take h1 hkN e1 (fun M' c' s' => ?_)
  rw [gain_lift h0.2.1 hkN hcC ht6 hf]
  have hl2 : bAt (gB S) c = none ∧ bCe (gB S) k = none := by
    rw [etr]
    exact ⟨hl.2, hl.1⟩
  have eS : gWB (gWB S (bPut (gB S) k c t) (gR S)) (bLift (gB (gWB S (bPut (gB S) k c t) (gR S))) k c) (gR (gWB S (bPut (gB S) k c t) (gR S))) = gWB S (bTw (gB S) (zU (bTr (gB S)) k t)) (gR S) := by
    show gWB S (bLift (bPut (gB S) k c t) k c) (gR S) = _
    rw [put_lift hl2.1 hl2.2]
  rw [eS] at c' s'
  have he : sEq S (gWB S (bTw (gB S) (zU (bTr (gB S)) k t)) (gR S)) := ⟨_, rfl, put_ag hl2.2⟩
  exact h M' _ he (he.toL h0 c' s')
/-! rounds -/
theorem Q_pointsAfter {os : List xO} {n : Nat} (h0 : lc M S A) (hr : gRl S os) (ho : ∀ o ∈ os, o.1.2 < bN A) (h1 : 1 ≤ n) (h6 : n ≤ 6) {F : Int32 → eM → Prop} (h : ∀ M', lc M' S A → F (nI (bPoints (xPl os n (A, gR S)).1)) M') : Cal G 0 68 (8, 0, 0) kX10_pointsAfter [.ref (G.1 0), .int (nI n)] M (eFI F) := by
  have h0' := h0
  obtain ⟨⟨hc, hs⟩, hm, hsim⟩ := h0'
  have hp := P_pointsAfter (G := G) hs hc (nI n)
  have hx := xPl_sim (os := os) n A (gB S) (gR S) 0 hm hsim ho
  obtain ⟨tr, etr, ag⟩ := hx.1
  have ez : z_pointsAfter S (nI n) = (0, nI (bPoints (xPl os n (A, gR S)).1), S) := by
    unfold z_pointsAfter
    rw [if_pos (by match n, h1, h6 with | 1, _, _ => decide | 2, _, _ => decide | 3, _, _ => decide | 4, _, _ => decide | 5, _, _ => decide | 6, _, _ => decide), nI_clamp (by omega), xPl_eq hr, etr, bPoints_tw hx.2.2.2.1.1 ag]
  rw [ez] at hp
  exact hp.1 rfl F (fun M' c' => h M' ⟨⟨c', hs⟩, h0.2⟩)
theorem Q_play1 {os : List xO} (h0 : lc M S A) (hr : gRl S os) (ho : ∀ o ∈ os, o.1.2 < bN A) {F : Int32 → eM → Prop} (h : ∀ M' S', gRl S' os → gR S' = gR S + 1 → gSz S' = gSz S → lc M' S' (xRnd (gR S) os (A, 0)).1 → F (nI (xRnd (gR S) os (A, 0)).2) M') : Cal G 0 68 (8, 0, 0) kX10_playRounds [.ref (G.1 0), .int 1] M (eFI F) := by
  have h0' := h0
  obtain ⟨⟨hc, hs⟩, hm, hsim⟩ := h0'
  have hp := P_playRounds (G := G) hs hc 1
  have hx := xRnd_sim (r := gR S) os A (gB S) 0 hm hsim ho
  have hgA := xRnd_gm (r := gR S) os (A, 0) hm ho
  have hgS := xRnd_gm (r := gR S) os (gB S, 0) hs.2.2.1 (fun o z => by rw [hsim.sz.2.2.1]; exact ho o z)
  have ez : z_playRounds S 1 = (0, nI (xRnd (gR S) os (A, 0)).2, gWB S (xRnd (gR S) os (gB S, 0)).1 (gR S + 1)) := by
    unfold z_playRounds
    rw [if_pos (by decide)]
    show (0, (0 : Int32) + nI (gRnd (gTv S) (gR S) (gOs S) (gB S, 0)).2, gWB S (gRnd (gTv S) (gR S) (gOs S) (gB S, 0)).1 (gR S + 1)) = _
    rw [hr, hx.2, Int32.zero_add]
  rw [ez] at hp
  exact hp.1 rfl F (fun M' c' => h M' (gWB S (xRnd (gR S) os (gB S, 0)).1 (gR S + 1)) hr rfl rfl ⟨⟨c', hs.b hgS.1 hgS.2⟩, hgA.1, hx.1⟩)
/-- the first of the next rounds behind which there is a ring -/
def xUr (os : List xO) : Nat → Nat → gX → Option Nat
  | 0, k, x => if 0 < bRings x.1 then some k else none
  | f + 1, k, x => if 0 < bRings x.1 then some k else xUr os f (k + 1) (xNx os x)
theorem xUr_eq {os : List xO} (h : gRl S os) : ∀ (f k : Nat) (x : gX), gUr (gTv S) (gOs S) f k x = xUr os f k x
  | 0, k, x => rfl
  | f + 1, k, x => by
    show (if 0 < bRings x.1 then some k else gUr (gTv S) (gOs S) f (k + 1) (gNx (gTv S) (gOs S) x)) = _
    rw [xNx_eq h, xUr_eq h f]
    rfl
theorem xUr_sim {os : List xO} : ∀ (f k : Nat) (A A' : eBd) (r : Int32), bGm A → bSim A A' → (∀ o ∈ os, o.1.2 < bN A) → xUr os f k (A', r) = xUr os f k (A, r)
  | 0, k, A, A', r, hA, hs, _ => by
    obtain ⟨tr, rfl, -⟩ := hs
    rfl
  | f + 1, k, A, A', r, hA, hs, ho => by
    obtain ⟨s1, -⟩ := xRnd_sim (r := r) os A A' 0 hA hs ho
    obtain ⟨g1, g2⟩ := xRnd_gm (r := r) os (A, 0) hA ho
    have ih := xUr_sim f (k + 1) (xRnd r os (A, 0)).1 (xRnd r os (A', 0)).1 (r + 1) g1 s1 (fun o h => by rw [g2.2.2.1]; exact ho o h)
    show (if 0 < bRings A' then some k else xUr os f (k + 1) ((xRnd r os (A', 0)).1, r + 1)) = (if 0 < bRings A then some k else xUr os f (k + 1) ((xRnd r os (A, 0)).1, r + 1))
    rw [ih]
    obtain ⟨tr, rfl, -⟩ := hs
    rfl
theorem xUr_some {os : List xO} : ∀ (f k : Nat) (x : gX) {j : Nat}, xUr os f k x = some j → k ≤ j ∧ j ≤ k + f ∧ 0 < bRings (xPl os (j - k) x).1 ∧ ∀ i, i < j - k → bRings (xPl os i x).1 = 0
  | 0, k, x, j, h => by
    unfold xUr at h
    split at h
    · rename_i hr
      cases h
      refine ⟨Nat.le_refl _, Nat.le_refl _, ?_, fun i hi => absurd hi (by omega)⟩
      rw [Nat.sub_self]
      exact hr
    · cases h
  | f + 1, k, x, j, h => by
    unfold xUr at h
    split at h
    · rename_i hr
      cases h
      refine ⟨Nat.le_refl _, by omega, ?_, fun i hi => absurd hi (by omega)⟩
      rw [Nat.sub_self]
      exact hr
    · rename_i hr
      obtain ⟨h1, h2, h3, h4⟩ := xUr_some f (k + 1) (xNx os x) h
      refine ⟨by omega, by omega, ?_, fun i hi => ?_⟩
      · rw [show j - k = (j - (k + 1)) + 1 by omega]
        exact h3
      · match i, hi with
        | 0, _ => exact Nat.eq_zero_of_not_pos hr
        | i + 1, hi => exact h4 i (by omega)
theorem xUr_none {os : List xO} : ∀ (f k : Nat) (x : gX), xUr os f k x = none → ∀ i, i ≤ f → bRings (xPl os i x).1 = 0
  | 0, k, x, h, i, hi => by
    unfold xUr at h
    split at h
    · cases h
    · rename_i hr
      rw [show i = 0 by omega]
      exact Nat.eq_zero_of_not_pos hr
  | f + 1, k, x, h, i, hi => by
    unfold xUr at h
    split at h
    · cases h
    · rename_i hr
      match i, hi with
      | 0, _ => exact Nat.eq_zero_of_not_pos hr
      | i + 1, hi => exact xUr_none f (k + 1) (xNx os x) h i (by omega)
theorem xPl_succ {os : List xO} : ∀ (n : Nat) (x : gX), xPl os (n + 1) x = xNx os (xPl os n x)
  | 0, x => rfl
  | n + 1, x => by
    show xPl os (n + 1) (xNx os x) = xNx os (xPl os n (xNx os x))
    exact xPl_succ n (xNx os x)
theorem Q_until {os : List xO} (h0 : lc M S A) (hr : gRl S os) (ho : ∀ o ∈ os, o.1.2 < bN A) {F : Int32 → eM → Prop} (h : ∀ M', lc M' S A → F (eO (xUr os 20 0 (A, gR S))) M') : Cal G 0 68 (8, 0, 0) kX10_roundsUntilRing [.ref (G.1 0)] M (eFI F) := by
  have h0' := h0
  obtain ⟨⟨hc, hs⟩, hm, hsim⟩ := h0'
  refine P_until hs hc F (fun M' c' => ?_)
  have e : z_until S = eO (xUr os 20 0 (A, gR S)) := by
    unfold z_until
    rw [xUr_eq hr, xUr_sim 20 0 A (gB S) (gR S) hm hsim ho]
  rw [e]
  exact h M' ⟨⟨c', hs⟩, h0.2⟩
end Q2
