/-! ===== the law's game: what it is on the heap, and what its methods answer ===== -/
/-- a game by hand: g the object, ta its row of tiles, tk the tiles, oa its row of orders -/
def gAt (G : eG) (H : yH) (g ta oa : Nat) (tk : Nat → Nat) (B : eBd) (r : Int32) : Prop :=
  H g = some (.inr (10, [.int (nI (bW B)), .int (nI (bR B)), .ref ta, .int r, .ref oa])) ∧
  (∃ f, H ta = some (.inl (G.2.2.2 5, (bN B, .inr (.inr (.inr (.inr f)))))) ∧ ∀ k, k < bN B → f k = some (tk k)) ∧
  (∀ k, k < bN B → ∃ f, H (tk k) = some (.inl (G.2.2.2 0, (5, .inl f))) ∧ f 0 = nI (bNu B (3 * k)) ∧ f 1 = nI (bNu B (3 * k + 1)) ∧ f 2 = nI (bNu B (3 * k + 2)) ∧ f 3 = eO (bCe B k) ∧ f 4 = nI (bTr B k)) ∧
  (∀ k j, k < bN B → j < bN B → tk k = tk j → k = j)
/-- a row that says which tile lies on each cell -/
def bA (G : eG) (H : yH) (b : Nat) (B : eBd) : Prop := ∃ f, H b = some (.inl (G.2.2.2 0, (bC B, .inl f))) ∧ ∀ c, c < bC B → f c = eO (bAt B c)
theorem yRd.of {G : eG} {b : eB} {K : eK} {av : List Value} {M : eM} {H : yH} {r : Int32} (h : yCal G b K av M H (yFI (fun r' M' H' => r' = r ∧ M' = M ∧ H' = H))) : yRd G b K av M H (.int r) :=
  h.imp (fun v M' H' ⟨r', e, e1, e2, e3⟩ => ⟨by rw [e, e1], e2, e3⟩)
theorem yRd.ofZ {G : eG} {b : eB} {K : eK} {av : List Value} {M : eM} {H : yH} {r : Bool} (h : yCal G b K av M H (yFZ (fun r' M' H' => r' = r ∧ M' = M ∧ H' = H))) : yRd G b K av M H (.int (eZi r)) :=
  h.imp (fun v M' H' ⟨r', e, e1, e2, e3⟩ => ⟨by rw [e, e1], e2, e3⟩)
theorem yLe.g {G : eG} {H H' : yH} (hl : yLe H H') {g ta oa : Nat} {tk : Nat → Nat} {B : eBd} {r : Int32} (h : gAt G H g ta oa tk B r) : gAt G H' g ta oa tk B r := by
  obtain ⟨h1, ⟨f, h2, h3⟩, h4, h5⟩ := h
  refine ⟨hl _ _ h1, ⟨f, hl _ _ h2, h3⟩, fun k hk => ?_, h5⟩
  obtain ⟨f, q1, q2⟩ := h4 k hk
  exact ⟨f, hl _ _ q1, q2⟩
theorem yLe.bA {G : eG} {H H' : yH} (hl : yLe H H') {b : Nat} {B : eBd} (h : bA G H b B) : bA G H' b B := by
  obtain ⟨f, q1, q2⟩ := h
  exact ⟨f, hl _ _ q1, q2⟩
theorem eM1l : (-1 : Int32) < 0 := by decide
theorem cl0 : (0 : Int32).toNatClampNeg = 0 := by decide
theorem cl1 : (1 : Int32).toNatClampNeg = 1 := by decide
theorem cl2 : (2 : Int32).toNatClampNeg = 2 := by decide
theorem cl3 : (3 : Int32).toNatClampNeg = 3 := by decide
theorem cl4 : (4 : Int32).toNatClampNeg = 4 := by decide
def lBes (W R c : Int32) (e : Nat) : Int32 := if c - c / W * W + eCol e < 0 then -1 else if W ≤ c - c / W * W + eCol e then -1 else if c / W + eRow e < 0 then -1 else if c / W + eRow e < R then W * (c / W + eRow e) + (c - c / W * W + eCol e) else -1
set_option maxRecDepth 1000000 in
theorem lBes_tab : ∀ w, w < 5 → ∀ r, r < 5 → ∀ c, c < (w + 3) * (r + 3) → ∀ e, e < 6 → lBes (nI (w + 3)) (nI (r + 3)) (nI c) e = eO (bBesW (w + 3) (r + 3) c e) := by decide +kernel
theorem lBes_eq {w r c e : Nat} (hw : 3 ≤ w ∧ w ≤ 7) (hr : 3 ≤ r ∧ r ≤ 7) (hc : c < w * r) (he : e < 6) : lBes (nI w) (nI r) (nI c) e = eO (bBesW w r c e) := by
  obtain ⟨a, rfl⟩ : ∃ a, w = a + 3 := ⟨w - 3, by omega⟩
  obtain ⟨b, rfl⟩ : ∃ b, r = b + 3 := ⟨r - 3, by omega⟩
  exact lBes_tab a (by omega) b (by omega) c hc e he
section GSpec
variable {G : eG} {M : eM} {H : yH} {g ta oa : Nat} {tk : Nat → Nat} {B : eBd} {r : Int32}
theorem gAt.tile (h : gAt G H g ta oa tk B r) (hb : bOk B) {k : Nat} (hk : k < bN B) : yER G 5 H ta (nI k) (tk k) := by
  obtain ⟨f, h2, h3⟩ := h.2.1
  have h16 := hb.2.2.1
  exact ⟨_, f, h2, vp_in_nI hk (by omega), by rw [nI_clamp (by omega)]; exact h3 k hk⟩
theorem gAt.t3 (h : gAt G H g ta oa tk B r) {k : Nat} (hk : k < bN B) : yEI G H (tk k) 3 (eO (bCe B k)) := by
  obtain ⟨f, q1, q2, q3, q4, q5, q6⟩ := h.2.2.1 k hk
  exact ⟨_, f, q1, vp_in_nI (n := 3) (by decide) (by decide), by rw [cl3]; exact q5⟩
theorem gAt.t4 (h : gAt G H g ta oa tk B r) {k : Nat} (hk : k < bN B) : yEI G H (tk k) 4 (nI (bTr B k)) := by
  obtain ⟨f, q1, q2, q3, q4, q5, q6⟩ := h.2.2.1 k hk
  exact ⟨_, f, q1, vp_in_nI (n := 4) (by decide) (by decide), by rw [cl4]; exact q6⟩
theorem gAt.tA (h : gAt G H g ta oa tk B r) : yG H g 10 2 (.ref ta) := yG.of h.1 rfl
theorem bA.at (h : bA G H g B) (hb : bOk B) {c : Nat} (hc : c < bC B) : yEI G H g (nI c) (eO (bAt B c)) := by
  obtain ⟨f, h2, h3⟩ := h
  have h49 := hb.c49
  exact ⟨_, f, h2, vp_in_nI hc (by omega), by rw [nI_clamp (by omega)]; exact h3 c hc⟩
theorem bA.len (h : bA G H g B) : yLn G 0 H g (bC B) := by
  obtain ⟨f, h2, h3⟩ := h
  exact ⟨_, h2, rfl⟩
theorem S_beside (hg : gAt G H g ta oa tk B r) (hb : bOk B) {c e : Nat} (hc : c < bC B) (he : e < 6) : yRd G (1, 0, 0) kX12_beside [.ref g, .int (nI c), .int (nI e)] M H (.int (eO (bBes B c e))) := by
  have hw0 := hb.1
  have hr0 := hb.2.1
  have hw : ¬ nI (bW B) = 0 := nI_ne0 (by omega) (by omega)
  have ex := lBes_eq hb.1 hb.2.1 hc he
  have hW : yG H g 10 0 (.int (nI (bW B))) := yG.of hg.1 rfl
  have hR : yG H g 10 1 (.int (nI (bR B))) := yG.of hg.1 rfl
  have e0 : yWy (nI e).toNatClampNeg (0 : Int32).toNatClampNeg = eCol e := by rw [nI_clamp (by omega), cl0]; rfl
  have e1 : yWy (nI e).toNatClampNeg (1 : Int32).toNatClampNeg = eRow e := by rw [nI_clamp (by omega), cl1]; rfl
  refine yRd.of (C_X12_beside G M H _ g (nI c) (nI e) ?_)
  rw [e0, e1]
  unfold lBes at ex
  have hi := vp_in_nI (n := e) he (by decide)
  refine ⟨_, hW, hw, hi, vp_in_nI (n := 0) (by decide) (by decide), _, hW, hw, hi, vp_in_nI (n := 1) (by decide) (by decide), fun q1 => ?_, fun q1 => ⟨_, hW, fun q2 => ?_, fun q2 => ⟨fun q3 => ?_, fun q3 => ⟨_, hR, fun q4 => ⟨_, hW, ?_⟩, fun q4 => ?_⟩⟩⟩⟩
  · rw [if_pos q1] at ex; exact ⟨ex, rfl, rfl⟩
  · rw [if_neg q1, if_pos q2] at ex; exact ⟨ex, rfl, rfl⟩
  · rw [if_neg q1, if_neg q2, if_pos q3] at ex; exact ⟨ex, rfl, rfl⟩
  · rw [if_neg q1, if_neg q2, if_neg q3, if_pos q4] at ex; exact ⟨ex, rfl, rfl⟩
  · rw [if_neg q1, if_neg q2, if_neg q3, if_neg q4] at ex; exact ⟨ex, rfl, rfl⟩
def lNum (t e : Int32) : Int32 := let x := if 0 ≤ e - t then e - t else e - t + 6
  if 2 ≤ x then (if 4 ≤ x then 2 else 1) else 0
theorem lNum_tab : ∀ t, t < 6 → ∀ e, e < 6 → lNum (nI t) (nI e) = nI ((e + 6 - t) % 6 / 2) := by decide +kernel
/-- number(tile, turn, e): the tile's three numbers are at a -/
theorem S_number {a t e : Nat} {n : Nat → Nat} (ha : ∀ j, j < 3 → yEI G H a (nI j) (nI (n j))) (ht : t < 6) (he : e < 6) : yRd G (1, 0, 0) kX12_number [.ref g, .ref a, .int (nI t), .int (nI e)] M H (.int (nI (n ((e + 6 - t) % 6 / 2)))) := by
  have ex := lNum_tab t ht e he
  have key : ∀ x4 : Int32, (if 2 ≤ x4 then (if 4 ≤ x4 then (2 : Int32) else 1) else 0) = nI ((e + 6 - t) % 6 / 2) → Yx (yX "number") (yZ G 0 0 (yFI (fun r' M' H' => r' = nI (n ((e + 6 - t) % 6 / 2)) ∧ M' = M ∧ H' = H))) G (eR (1, 0, 0)) kX12_number 13 [(1, .ref a), (4, .int x4)] [] M H 0 0 := by
    intro x4 hx
    have hj : (e + 6 - t) % 6 / 2 < 3 := by omega
    have hp := ha _ hj
    refine B_X12_number_13 G M H _ a x4 ⟨fun q1 => ⟨fun q2 => ?_, fun q2 => ?_⟩, fun q1 => ?_⟩
    · rw [if_pos q1, if_pos q2] at hx; rw [← hx] at hp; exact ⟨_, hp, rfl, rfl, rfl⟩
    · rw [if_pos q1, if_neg q2] at hx; rw [← hx] at hp; exact ⟨_, hp, rfl, rfl, rfl⟩
    · rw [if_neg q1] at hx; rw [← hx] at hp; exact ⟨_, hp, rfl, rfl, rfl⟩
  refine yRd.of (C_X12_number G M H _ g a (nI t) (nI e) ⟨fun q => ?_, fun q => ?_⟩)
  · unfold lNum at ex; rw [if_pos q] at ex; exact key _ ex
  · unfold lNum at ex; rw [if_neg q] at ex; exact key _ ex
theorem gAt.nums (h : gAt G H g ta oa tk B r) {k : Nat} (hk : k < bN B) : ∀ j, j < 3 → yEI G H (tk k) (nI j) (nI (bNu B (3 * k + j))) := by
  obtain ⟨f, q1, q2, q3, q4, q5, q6⟩ := h.2.2.1 k hk
  intro j hj
  refine ⟨_, f, q1, vp_in_nI (by omega) (by decide), ?_⟩
  rw [nI_clamp (by omega)]
  match j, hj with
  | 0, _ => exact q2
  | 1, _ => exact q3
  | 2, _ => exact q4
theorem S_num (hg : gAt G H g ta oa tk B r) {k t e : Nat} (hk : k < bN B) (ht : t < 6) (he : e < 6) : yRd G (1, 0, 0) kX12_number [.ref g, .ref (tk k), .int (nI t), .int (nI e)] M H (.int (nI (bNm B k t e))) := S_number (n := fun j => bNu B (3 * k + j)) (hg.nums hk) ht he
theorem bTile_none {c e : Nat} (h : bBes B c e = none) : bTile B c e = none := by unfold bTile; rw [h]
theorem bTile_some {c e d : Nat} (h : bBes B c e = some d) : bTile B c e = bAt B d := by unfold bTile; rw [h]
theorem nI_01 (a : Nat) : nI a + 0 = nI a := by rw [eL0, nI_add, Nat.add_zero]
theorem S_many {b c : Nat} (hg : gAt G H g ta oa tk B r) (hb : bOk B) (hB : bA G H b B) (hc : c < bC B) : yRd G (2, 0, 0) kX12_many [.ref g, .ref b, .int (nI c)] M H (.int (nI (bTb B c))) := by
  have h49 := hb.c49
  have h16 := hb.2.2.1
  have hi := yIs.of hg.1
  let f : Nat → Nat := fun e => if (bTile B c e).isSome then 1 else 0
  refine yRd.of (C_X12_many G M H _ g b (nI c) ?_)
  refine eDown (P := fun e => Yx (yX "many") (yZ G 0 0 (yFI (fun r' M' H' => r' = nI (bTb B c) ∧ M' = M ∧ H' = H))) G (eR (2, 0, 0)) kX12_many 5 [(0, .ref g), (1, .ref b), (2, .int (nI c)), (3, .int (nI (zSm f e))), (4, .int (nI e))] [] M H 0 0) (N := 6) ?_ ?_ 0 (Nat.zero_le _)
  · exact B_X12_many_5 G M H _ g b _ _ _ ⟨fun _ => ⟨rfl, rfl, rfl⟩, fun q => absurd (Int32.le_refl _) q⟩
  · intro e he hn
    refine B_X12_many_5 G M H _ g b _ _ _ ⟨fun q => absurd q (nI_ge (b := 6) he (by decide)), fun _ => ⟨hi, _, S_beside hg hb hc he, ?_⟩⟩
    cases h1 : bBes B c e with
    | none =>
      refine ⟨fun _ => B_X12_many_42 G M H _ g b _ _ _ ?_, fun q => absurd eM1l q⟩
      have e1 : zSm f (e + 1) = zSm f e := by show zSm f e + f e = _; simp only [f, bTile_none h1]; rfl
      rw [e1, nI_succ] at hn
      rw [nI_01]
      exact hn
    | some d =>
      have hd := hb.bes hc he h1
      refine ⟨fun q => absurd q (nI_pos (by omega)), fun _ => ⟨hi, _, S_beside hg hb hc he, ?_⟩⟩
      rw [h1]
      refine ⟨_, hB.at hb hd.1, ?_⟩
      cases h2 : bAt B d with
      | none =>
        refine ⟨fun _ => B_X12_many_42 G M H _ g b _ _ _ ?_, fun q => absurd eM1l q⟩
        have e1 : zSm f (e + 1) = zSm f e := by show zSm f e + f e = _; simp only [f, bTile_some h1, h2]; rfl
        rw [e1, nI_succ] at hn
        rw [nI_01]
        exact hn
      | some k =>
        have hk := (hb.2.2.2.1 d k hd.1 h2).1
        refine ⟨fun q => absurd q (nI_pos (by omega)), fun _ => B_X12_many_42 G M H _ g b _ _ _ ?_⟩
        have e1 : zSm f (e + 1) = zSm f e + 1 := by show zSm f e + f e = _; simp only [f, bTile_some h1, h2]; rfl
        rw [e1, nI_succ, nI_succ] at hn
        exact hn
theorem S_against {b k c t : Nat} (hg : gAt G H g ta oa tk B r) (hb : bOk B) (hB : bA G H b B) (hk : k < bN B) (hc : c < bC B) (ht : t < 6) : yRd G (2, 0, 0) kX12_against [.ref g, .ref b, .int (nI k), .int (nI c), .int (nI t)] M H (.int (eO (bAgainst B k c t))) := by
  have h49 := hb.c49
  have h16 := hb.2.2.1
  have hi := yIs.of hg.1
  refine yRd.of (C_X12_against G M H _ g b (nI k) (nI c) (nI t) ?_)
  have key : ∀ e, e ≤ 6 → (∀ j, j < e → bClash B k t c j = false) → Yx (yX "against") (yZ G 0 0 (yFI (fun r' M' H' => r' = eO (bAgainst B k c t) ∧ M' = M ∧ H' = H))) G (eR (2, 0, 0)) kX12_against 3 [(0, .ref g), (1, .ref b), (2, .int (nI k)), (3, .int (nI c)), (4, .int (nI t)), (5, .int (nI e))] [] M H 0 0 := by
    refine eDown (P := fun e => (∀ j, j < e → bClash B k t c j = false) → Yx (yX "against") (yZ G 0 0 (yFI (fun r' M' H' => r' = eO (bAgainst B k c t) ∧ M' = M ∧ H' = H))) G (eR (2, 0, 0)) kX12_against 3 [(0, .ref g), (1, .ref b), (2, .int (nI k)), (3, .int (nI c)), (4, .int (nI t)), (5, .int (nI e))] [] M H 0 0) (N := 6) ?_ ?_
    · intro hj
      refine B_X12_against_3 G M H _ g b _ _ _ _ ⟨fun _ => ⟨?_, rfl, rfl⟩, fun q => absurd (Int32.le_refl _) q⟩
      unfold bAgainst
      rw [zFf_none hj]; rfl
    · intro e he hn hj
      have go : bClash B k t c e = false → Yx (yX "against") (yZ G 0 0 (yFI (fun r' M' H' => r' = eO (bAgainst B k c t) ∧ M' = M ∧ H' = H))) G (eR (2, 0, 0)) kX12_against 92 [(0, .ref g), (1, .ref b), (2, .int (nI k)), (3, .int (nI c)), (4, .int (nI t)), (5, .int (nI e))] [] M H 0 0 := fun hf => by
        refine B_X12_against_92 G M H _ g b _ _ _ _ ?_
        rw [← nI_succ]
        exact hn (fun j hj' => by
          by_cases hq : j = e
          · subst hq; exact hf
          · exact hj j (by omega))
      refine B_X12_against_3 G M H _ g b _ _ _ _ ⟨fun q => absurd q (nI_ge (b := 6) he (by decide)), fun _ => ⟨hi, _, S_beside hg hb hc he, ?_⟩⟩
      cases h1 : bBes B c e with
      | none =>
        exact ⟨fun _ => go (by unfold bClash bFace; rw [bTile_none h1]), fun q => absurd eM1l q⟩
      | some d =>
        have hd := hb.bes hc he h1
        refine ⟨fun q => absurd q (nI_pos (by omega)), fun _ => ⟨_, hB.at hb hd.1, ?_⟩⟩
        cases h2 : bAt B d with
        | none =>
          exact ⟨fun q => absurd eM1l (Int32.not_lt.mpr q), fun _ => go (by unfold bClash bFace; rw [bTile_some h1, h2])⟩
        | some k' =>
          obtain ⟨hk', hce⟩ := hb.2.2.2.1 d k' hd.1 h2
          have ht' := (hb.2.2.2.2.1 k' d hk' hce).2.2
          have hf : bFace B c e = some (bNm B k' (bTr B k') ((e + 3) % 6)) := by unfold bFace; rw [bTile_some h1, h2]
          have hcl : bClash B k t c e = decide (bNm B k' (bTr B k') ((e + 3) % 6) ≠ bNm B k t e) := by unfold bClash; rw [hf]
          have hm1 : bNm B k' (bTr B k') ((e + 3) % 6) < 10 := hb.nm hk' ht' (Nat.mod_lt _ (by decide))
          have hm2 : bNm B k t e < 10 := hb.nm hk ht he
          refine ⟨fun _ => ⟨_, hg.tA, _, by have e := hB.at hb hd.1; rw [h2] at e; exact e, _, hg.tile hb hk', _, hg.t4 hk', fun q => ?_, fun q => ?_⟩, fun q => absurd (nI_pos' (by omega)) q⟩
          · have he3 : 3 ≤ e := (nI_leI (a := 3) (by decide) (by omega)).mp q
            have e3 : nI e - 3 = nI ((e + 3) % 6) := by rw [eL3, nI_sub he3]; congr 1; omega
            refine ⟨hi, _, by rw [e3]; exact S_num hg hk' ht' (Nat.mod_lt _ (by decide)), _, hg.tA, _, hg.tile hb hk, hi, _, S_num hg hk ht he, fun z => go ?_, fun z => ⟨?_, rfl, rfl⟩⟩
            · rw [hcl]; exact decide_eq_false (fun y => y ((nI_eq (by omega) (by omega)).mp z))
            · unfold bAgainst
              rw [zFf_some he (by rw [hcl]; exact decide_eq_true (fun y => z (by rw [y]))) hj]; rfl
          · have he3 : e < 3 := by
              have := mt (nI_leI (a := 3) (b := e) (by decide) (by omega)).mpr q
              omega
            have e3 : nI e + 3 = nI ((e + 3) % 6) := by rw [eL3, nI_add]; congr 1; omega
            refine ⟨hi, _, by rw [e3]; exact S_num hg hk' ht' (Nat.mod_lt _ (by decide)), _, hg.tA, _, hg.tile hb hk, hi, _, S_num hg hk ht he, fun z => go ?_, fun z => ⟨?_, rfl, rfl⟩⟩
            · rw [hcl]; exact decide_eq_false (fun y => y ((nI_eq (by omega) (by omega)).mp z))
            · unfold bAgainst
              rw [zFf_some he (by rw [hcl]; exact decide_eq_true (fun y => z (by rw [y]))) hj]; rfl
  exact key 0 (Nat.zero_le _) (fun j hj => absurd hj (by omega))
theorem yU_yU (H : yH) (a : Nat) (e e' : va_E) : yU (yU H a e) a e' = yU H a e' := by
  funext b
  by_cases h : b = a
  · subst h; rw [yU_same, yU_same]
  · rw [yU_ne _ _ h, yU_ne _ _ h, yU_ne _ _ h]
theorem gAt.new (h : gAt G H g ta oa tk B r) {q : Nat} (hq : H q = none) (e : va_E) : gAt G (yU H q e) g ta oa tk B r := (yLe.new hq e).g h
theorem yEI.mk {a N : Nat} {f : Nat → Int32} (h : H a = some (.inl (G.2.2.2 0, (N, .inl f)))) {j : Nat} (hj : j < N) (hN : N < 2 ^ 31) : yEI G H a (nI j) (f j) := ⟨N, f, h, vp_in_nI hj hN, by rw [nI_clamp (by omega)]⟩
theorem S_board {F : Nat → eM → yH → Prop} (hg : gAt G H g ta oa tk B r) (hb : bOk B) (h : ∀ q, H q = none → ∀ f, (∀ c, c < bC B → f c = eO (bAt B c)) → F q M (yU H q (.inl (G.2.2.2 0, (bC B, .inl f))))) : yCal G (1, 1, 49) kX12_board [.ref g] M H (yFR F) := by
  have h49 := hb.c49
  have h16 := hb.2.2.1
  have hm : nI (bW B) * nI (bR B) = nI (bC B) := nI_mul _ _
  refine C_X12_board G M H F g ⟨_, yG.of hg.1 rfl, _, yG.of hg.1 rfl, bC B, ?_, ?_, by omega, ⟨by decide, by omega⟩, fun q hq => ?_⟩
  · rw [hm]; exact nI_pos (by omega)
  · rw [hm, nI_clamp (by omega)]
  -- the second loop: tiles below k are told
  have two : ∀ k, k ≤ bN B → ∀ f : Nat → Int32, (∀ c, c < bC B → f c = match bAt B c with | none => -1 | some j => if j < k then nI j else -1) → Yx (yX "board") (yZ G 1 49 (yFR F)) G (eR (1, 1, 49)) kX12_board 32 [(0, .ref g), (1, .ref q), (2, .int (nI k))] [] M (yU H q (.inl (G.2.2.2 0, (bC B, .inl f)))) (0 + 1) (0 + bC B) := by
    refine eDown (P := fun k => ∀ f : Nat → Int32, (∀ c, c < bC B → f c = match bAt B c with | none => -1 | some j => if j < k then nI j else -1) → Yx (yX "board") (yZ G 1 49 (yFR F)) G (eR (1, 1, 49)) kX12_board 32 [(0, .ref g), (1, .ref q), (2, .int (nI k))] [] M (yU H q (.inl (G.2.2.2 0, (bC B, .inl f)))) (0 + 1) (0 + bC B)) ?_ ?_
    · intro f hf
      have hg2 := hg.new hq (.inl (G.2.2.2 0, (bC B, .inl f)))
      obtain ⟨ft, t1, t2⟩ := hg2.2.1
      refine B_X12_board_32 G _ _ M _ F g q _ ⟨_, hg2.tA, _, ⟨_, t1, rfl⟩, fun _ => ⟨⟨by omega, by omega⟩, h q hq f (fun c hc => ?_)⟩, fun q => absurd (Int32.le_refl _) q⟩
      rw [hf c hc]
      cases h1 : bAt B c with
      | none => rfl
      | some j => exact if_pos (hb.2.2.2.1 c j hc h1).1
    · intro k hk hn f hf
      have hg2 := hg.new hq (.inl (G.2.2.2 0, (bC B, .inl f)))
      obtain ⟨ft, t1, t2⟩ := hg2.2.1
      refine B_X12_board_32 G _ _ M _ F g q _ ⟨_, hg2.tA, _, ⟨_, t1, rfl⟩, fun z => absurd z (nI_ge hk (by omega)), fun _ => ⟨_, hg2.tA, _, hg2.tile hb hk, _, hg2.t3 hk, ?_⟩⟩
      rw [← nI_succ]
      cases h1 : bCe B k with
      | none =>
        refine ⟨fun _ => hn f (fun c hc => ?_), fun z => absurd eM1l z⟩
        rw [hf c hc]
        cases h2 : bAt B c with
        | none => rfl
        | some j =>
          have h3 := (hb.2.2.2.1 c j hc h2).2
          have hne : j ≠ k := fun z => by rw [z, h1] at h3; cases h3
          show (if j < k then nI j else -1) = if j < k + 1 then nI j else -1
          by_cases hj : j < k
          · rw [if_pos hj, if_pos (by omega)]
          · rw [if_neg hj, if_neg (by omega)]
      | some c =>
        obtain ⟨hc, hat, -⟩ := hb.2.2.2.2.1 k c hk h1
        refine ⟨fun z => absurd z (nI_pos (by omega)), fun _ => ⟨_, hg2.tA, _, hg2.tile hb hk, _, hg2.t3 hk, bC B, f, yU_same _ _ _, by rw [h1]; exact vp_in_nI hc (by omega), ?_⟩⟩
        rw [h1, eO_some, nI_clamp (by omega), yU_yU]
        refine hn _ (fun d hd => ?_)
        by_cases hdc : d = c
        · subst hdc
          rw [pk_us, hat]
          exact (if_pos (Nat.lt_succ_self k)).symm
        · rw [pk_un hdc, hf d hd]
          cases h2 : bAt B d with
          | none => rfl
          | some j =>
            have h3 := (hb.2.2.2.1 d j hd h2).2
            have hne : j ≠ k := fun z => by rw [z, h1] at h3; cases h3; exact hdc rfl
            show (if j < k then nI j else -1) = if j < k + 1 then nI j else -1
            by_cases hj : j < k
            · rw [if_pos hj, if_pos (by omega)]
            · rw [if_neg hj, if_neg (by omega)]
  -- the first loop: -1 below c
  have one : ∀ c, c ≤ bC B → ∀ f : Nat → Int32, (∀ j, j < c → f j = -1) → Yx (yX "board") (yZ G 1 49 (yFR F)) G (eR (1, 1, 49)) kX12_board 14 [(0, .ref g), (1, .ref q), (2, .int (nI c))] [] M (yU H q (.inl (G.2.2.2 0, (bC B, .inl f)))) (0 + 1) (0 + bC B) := by
    refine eDown (P := fun c => ∀ f : Nat → Int32, (∀ j, j < c → f j = -1) → Yx (yX "board") (yZ G 1 49 (yFR F)) G (eR (1, 1, 49)) kX12_board 14 [(0, .ref g), (1, .ref q), (2, .int (nI c))] [] M (yU H q (.inl (G.2.2.2 0, (bC B, .inl f)))) (0 + 1) (0 + bC B)) ?_ ?_
    · intro f hf
      refine B_X12_board_14 G _ _ M _ F g q _ ⟨bC B, ⟨_, yU_same _ _ _, rfl⟩, fun _ => ?_, fun z => absurd (Int32.le_refl _) z⟩
      refine two 0 (Nat.zero_le _) f (fun c hc => ?_)
      rw [hf c hc]
      cases bAt B c with
      | none => rfl
      | some j => exact (if_neg (Nat.not_lt_zero j)).symm
    · intro c hc hn f hf
      refine B_X12_board_14 G _ _ M _ F g q _ ⟨bC B, ⟨_, yU_same _ _ _, rfl⟩, fun z => absurd z (nI_ge hc (by omega)), fun _ => ⟨bC B, f, yU_same _ _ _, vp_in_nI hc (by omega), ?_⟩⟩
      rw [← nI_succ, nI_clamp (by omega), yU_yU]
      refine hn _ (fun j hj => ?_)
      by_cases hjc : j = c
      · subst hjc; exact pk_us
      · rw [pk_un hjc]; exact hf j (by omega)
  exact one 0 (Nat.zero_le _) _ (fun j hj => absurd hj (by omega))
theorem S_fits {b k c t : Nat} (hg : gAt G H g ta oa tk B r) (hb : bOk B) (hB : bA G H b B) (hk : k < bN B) (hc : c < bC B) (ht : t < 6) : yRd G (3, 0, 0) kX12_fits [.ref g, .ref b, .int (nI k), .int (nI c), .int (nI t)] M H (.int (eZi (bFits B k c t))) := by
  have h49 := hb.c49
  have h16 := hb.2.2.1
  have hi := yIs.of hg.1
  refine yRd.ofZ (C_X12_fits G M H _ g b (nI k) (nI c) (nI t) ⟨_, hg.tA, _, hg.tile hb hk, _, hg.t3 hk, ?_⟩)
  unfold bFits
  cases h1 : bCe B k with
  | some d =>
    have hd := (hb.2.2.2.2.1 k d hk h1).1
    exact ⟨fun _ => ⟨rfl, rfl, rfl⟩, fun q => absurd (nI_pos' (by omega)) q⟩
  | none =>
    refine ⟨fun q => absurd eM1l (Int32.not_lt.mpr q), fun _ => ⟨_, hB.at hb hc, ?_⟩⟩
    cases h2 : bAt B c with
    | some j =>
      have hj := (hb.2.2.2.1 c j hc h2).1
      exact ⟨fun q => absurd q (nI_pos (by omega)), fun _ => ⟨rfl, rfl, rfl⟩⟩
    | none =>
      refine ⟨fun _ => ⟨_, hB.len, ?_⟩, fun q => absurd eM1l q⟩
      have key : ∀ d, d ≤ bC B → ∀ x : Bool, (x = true ↔ ∀ j, j < d → bAt B j = none) → Yx (yX "fits") (yZ G 0 0 (yFZ (fun r' M' H' => r' = ((none : Option Nat).isNone && (none : Option Nat).isNone && (decide (bP B = 0) || (decide (0 < bTb B c) && (bAgainst B k c t).isNone))) ∧ M' = M ∧ H' = H))) G (eR (3, 0, 0)) kX12_fits 33 [(0, .ref g), (1, .ref b), (2, .int (nI k)), (3, .int (nI c)), (4, .int (nI t)), (5, .int (eZi x)), (6, .ref b), (7, .int (nI (bC B))), (8, .int (nI d))] [] M H 0 0 := by
        refine eDown (P := fun d => ∀ x : Bool, (x = true ↔ ∀ j, j < d → bAt B j = none) → Yx (yX "fits") (yZ G 0 0 (yFZ (fun r' M' H' => r' = ((none : Option Nat).isNone && (none : Option Nat).isNone && (decide (bP B = 0) || (decide (0 < bTb B c) && (bAgainst B k c t).isNone))) ∧ M' = M ∧ H' = H))) G (eR (3, 0, 0)) kX12_fits 33 [(0, .ref g), (1, .ref b), (2, .int (nI k)), (3, .int (nI c)), (4, .int (nI t)), (5, .int (eZi x)), (6, .ref b), (7, .int (nI (bC B))), (8, .int (nI d))] [] M H 0 0) ?_ ?_
        · intro x hx
          rw [bare_iff hb] at hx
          refine B_X12_fits_33 G M H _ g b _ _ _ _ b _ _ ⟨fun _ => ⟨fun q => ?_, fun q => ?_⟩, fun q => absurd (Int32.le_refl _) q⟩
          · have hx1 : x = true := by cases x with | false => exact absurd rfl q | true => rfl
            rw [decide_eq_true (hx.mp hx1)]
            exact ⟨rfl, rfl, rfl⟩
          · have hx0 : ¬ bP B = 0 := fun z => by rw [hx.mpr z] at q; exact absurd q (by decide)
            rw [decide_eq_false hx0]
            refine ⟨hi, _, S_many hg hb hB hc, fun z => ?_, fun z => ?_⟩
            · have : ¬ 0 < bTb B c := fun y => absurd z (nI_nle y (by have := bTb_le B c; omega))
              rw [decide_eq_false this]
              exact ⟨rfl, rfl, rfl⟩
            · have : 0 < bTb B c := Nat.pos_of_ne_zero (fun y => z (by rw [y]; exact Int32.le_refl _))
              rw [decide_eq_true this]
              refine ⟨hi, _, S_against hg hb hB hk hc ht, ?_⟩
              cases h3 : bAgainst B k c t with
              | none => exact ⟨fun y => absurd eM1l (Int32.not_lt.mpr y), fun _ => ⟨rfl, rfl, rfl⟩⟩
              | some e =>
                have he := (zFf_some' h3).1
                exact ⟨fun _ => ⟨rfl, rfl, rfl⟩, fun y => absurd (nI_pos' (by omega)) y⟩
        · intro d hd hn x hx
          refine B_X12_fits_33 G M H _ g b _ _ _ _ b _ _ ⟨fun q => absurd q (nI_ge hd (by omega)), fun _ => ⟨_, hB.at hb hd, ?_⟩⟩
          cases h3 : bAt B d with
          | none =>
            refine ⟨fun q => absurd eM1l (Int32.not_lt.mpr q), fun _ => B_X12_fits_62 G M H _ g b _ _ _ _ b _ _ ?_⟩
            rw [← nI_succ, show eZi x &&& 1 = eZi x from by cases x <;> decide]
            refine hn x (hx.trans ⟨fun z j hj => ?_, fun z j hj => z j (by omega)⟩)
            by_cases hjd : j = d
            · subst hjd; exact h3
            · exact z j (by omega)
          | some j =>
            have hj := (hb.2.2.2.1 d j hd h3).1
            refine ⟨fun _ => B_X12_fits_62 G M H _ g b _ _ _ _ b _ _ ?_, fun q => absurd (nI_pos' (by omega)) q⟩
            rw [← nI_succ, show eZi x &&& 0 = eZi false from by cases x <;> decide]
            refine hn false ⟨(by intro z; cases z), fun z => ?_⟩
            have := z d (Nat.lt_succ_self d)
            rw [h3] at this; cases this
      exact key 0 (Nat.zero_le _) true ⟨fun _ j hj => absurd hj (by omega), fun _ => rfl⟩
theorem S_ways {b k : Nat} (hg : gAt G H g ta oa tk B r) (hb : bOk B) (hB : bA G H b B) (hk : k < bN B) : yRd G (4, 0, 0) kX12_ways [.ref g, .ref b, .int (nI k)] M H (.int (nI (bWays B k))) := by
  have h49 := hb.c49
  have h16 := hb.2.2.1
  have hi := yIs.of hg.1
  let f : Nat → Nat → Nat := fun c t => if bFits B k c t then 1 else 0
  refine yRd.of (C_X12_ways G M H _ g b (nI k) ?_)
  refine eDown (P := fun c => Yx (yX "ways") (yZ G 0 0 (yFI (fun r' M' H' => r' = nI (bWays B k) ∧ M' = M ∧ H' = H))) G (eR (4, 0, 0)) kX12_ways 5 [(0, .ref g), (1, .ref b), (2, .int (nI k)), (3, .int (nI (zSm (fun c => zSm (f c) 6) c))), (4, .int (nI c))] [] M H 0 0) (N := bC B) ?_ ?_ 0 (Nat.zero_le _)
  · exact B_X12_ways_5 G M H _ g b _ _ _ ⟨_, hB.len, fun _ => ⟨rfl, rfl, rfl⟩, fun q => absurd (Int32.le_refl _) q⟩
  · intro c hc hn
    refine B_X12_ways_5 G M H _ g b _ _ _ ⟨_, hB.len, fun q => absurd q (nI_ge hc (by omega)), fun _ => ?_⟩
    refine eDown (P := fun t => Yx (yX "ways") (yZ G 0 0 (yFI (fun r' M' H' => r' = nI (bWays B k) ∧ M' = M ∧ H' = H))) G (eR (4, 0, 0)) kX12_ways 15 [(0, .ref g), (1, .ref b), (2, .int (nI k)), (3, .int (nI (zSm (fun c => zSm (f c) 6) c + zSm (f c) t))), (4, .int (nI c)), (5, .int (nI t))] [] M H 0 0) (N := 6) ?_ ?_ 0 (Nat.zero_le _)
    · refine B_X12_ways_15 G M H _ g b _ _ _ _ ⟨fun _ => ?_, fun q => absurd (Int32.le_refl _) q⟩
      rw [← nI_succ]
      exact hn
    · intro t ht hm
      refine B_X12_ways_15 G M H _ g b _ _ _ _ ⟨fun q => absurd q (nI_ge (b := 6) ht (by decide)), fun _ => ⟨hi, _, S_fits hg hb hB hk hc ht, fun q => ?_, fun q => ?_⟩⟩
      · refine B_X12_ways_43 G M H _ g b _ _ _ _ ?_
        have e1 : zSm (f c) (t + 1) = zSm (f c) t := by show zSm (f c) t + f c t = _; simp only [f, q]; rfl
        rw [e1] at hm
        rw [← nI_succ, nI_01]
        exact hm
      · refine B_X12_ways_43 G M H _ g b _ _ _ _ ?_
        have e1 : zSm (f c) (t + 1) = zSm (f c) t + 1 := by show zSm (f c) t + f c t = _; simp only [f, q]; rfl
        rw [e1, ← Nat.add_assoc] at hm
        rw [← nI_succ, ← nI_succ]
        exact hm
end GSpec
theorem yCal.weakI {G : eG} {b : eB} {K : eK} {av : List Value} {M : eM} {H : yH} {F : Int32 → eM → yH → Prop} (h : yCal G b K av M H (yFI (fun r M' H' => ∃ H0, yLe H0 H' ∧ F r M' H0))) : yCal G b K av M H (yFI F) := h.mono (fun v M' H' ⟨r, e, H0, q1, q2⟩ => ⟨H0, q1, r, e, q2⟩)
theorem yCal.weakZ {G : eG} {b : eB} {K : eK} {av : List Value} {M : eM} {H : yH} {F : Bool → eM → yH → Prop} (h : yCal G b K av M H (yFZ (fun r M' H' => ∃ H0, yLe H0 H' ∧ F r M' H0))) : yCal G b K av M H (yFZ F) := h.mono (fun v M' H' ⟨r, e, H0, q1, q2⟩ => ⟨H0, q1, r, e, q2⟩)
theorem yCal.weakR {G : eG} {b : eB} {K : eK} {av : List Value} {M : eM} {H : yH} {F : Nat → eM → yH → Prop} (h : yCal G b K av M H (yFR (fun r M' H' => ∃ H0, yLe H0 H' ∧ F r M' H0))) : yCal G b K av M H (yFR F) := h.mono (fun v M' H' ⟨r, e, H0, q1, q2⟩ => ⟨H0, q1, r, e, q2⟩)
section GSpec2
variable {G : eG} {M : eM} {H : yH} {g ta oa : Nat} {tk : Nat → Nat} {B : eBd} {r : Int32}
/-- a tile's row is written -/
theorem gAt.set (h : gAt G H g ta oa tk B r) {k : Nat} (hk : k < bN B) {B' : eBd} (hs : bSz B B') (hce : ∀ j, j ≠ k → bCe B' j = bCe B j) (htr : ∀ j, j ≠ k → bTr B' j = bTr B j) {f : Nat → Int32} (f0 : f 0 = nI (bNu B (3 * k))) (f1 : f 1 = nI (bNu B (3 * k + 1))) (f2 : f 2 = nI (bNu B (3 * k + 2))) (f3 : f 3 = eO (bCe B' k)) (f4 : f 4 = nI (bTr B' k)) : gAt G (yU H (tk k) (.inl (G.2.2.2 0, (5, .inl f)))) g ta oa tk B' r := by
  obtain ⟨h1, ⟨ft, h2, h3⟩, h4, h5⟩ := h
  obtain ⟨s1, s2, s3, s4⟩ := hs
  obtain ⟨fk, k1, -⟩ := h4 k hk
  refine ⟨?_, ⟨ft, ?_, ?_⟩, fun j hj => ?_, ?_⟩
  · rw [yU_ne _ _ (fun z => by rw [z, k1] at h1; simp at h1), s1, s2]; exact h1
  · rw [yU_ne _ _ (fun z => by rw [z, k1] at h2; simp at h2), s3]; exact h2
  · rw [s3]; exact h3
  · rw [s3] at hj
    rw [s4]
    by_cases hjk : j = k
    · subst hjk
      exact ⟨f, yU_same _ _ _, f0, f1, f2, f3, f4⟩
    · obtain ⟨fj, j1, j2, j3, j4, j5, j6⟩ := h4 j hj
      refine ⟨fj, ?_, j2, j3, j4, ?_, ?_⟩
      · rw [yU_ne _ _ (fun z => hjk (h5 j k hj hk z))]; exact j1
      · rw [hce j hjk]; exact j5
      · rw [htr j hjk]; exact j6
  · intro a b ha hb' hab
    rw [s3] at ha hb'
    exact h5 a b ha hb' hab
theorem S_fit {k : Nat} {F : Bool → eM → yH → Prop} (hg : gAt G H g ta oa tk B r) (hb : bOk B) (hk : k < bN B) (h0 : bFirst B k = none → F false M H) (h1 : ∀ c t H', bFirst B k = some c → bAny B k c = some t → gAt G H' g ta oa tk (bPut B k c t) r → yKp [tk k] H H' → F true M H') : yCal G (4, 1, 49) kX12_fit [.ref g, .int (nI k)] M H (yFZ F) := by
  have h49 := hb.c49
  have h16 := hb.2.2.1
  refine yCal.weakZ (C_X12_fit G M H _ g (nI k) ⟨⟨by decide, by decide⟩, yIs.of hg.1, S_board hg hb (fun q hq fb hfb => ?_)⟩)
  have hg2 := hg.new hq (.inl (G.2.2.2 0, (bC B, .inl fb)))
  have hB : bA G (yU H q (.inl (G.2.2.2 0, (bC B, .inl fb)))) q B := ⟨fb, yU_same _ _ _, hfb⟩
  have hle := yLe.new hq (.inl (G.2.2.2 0, (bC B, .inl fb)))
  have hi := yIs.of hg2.1
  have key : ∀ c, c ≤ bC B → (∀ j, j < c → (bAny B k j).isSome = false) → Yx (yX "fit") (yZ G 1 49 (yFZ (fun r M' H' => ∃ H0, yLe H0 H' ∧ F r M' H0))) G (eR (4, 1, 49)) kX12_fit 7 [(0, .ref g), (1, .int (nI k)), (2, .ref q), (3, .int (nI c))] [] M (yU H q (.inl (G.2.2.2 0, (bC B, .inl fb)))) (0 + 1) (0 + 49) := by
    refine eDown (P := fun c => (∀ j, j < c → (bAny B k j).isSome = false) → Yx (yX "fit") (yZ G 1 49 (yFZ (fun r M' H' => ∃ H0, yLe H0 H' ∧ F r M' H0))) G (eR (4, 1, 49)) kX12_fit 7 [(0, .ref g), (1, .int (nI k)), (2, .ref q), (3, .int (nI c))] [] M (yU H q (.inl (G.2.2.2 0, (bC B, .inl fb)))) (0 + 1) (0 + 49)) ?_ ?_
    · intro hj
      exact B_X12_fit_7 G _ _ M _ _ g _ q _ ⟨_, hB.len, fun _ => ⟨⟨by decide, by decide⟩, H, hle, h0 (zFf_none hj)⟩, fun z => absurd (Int32.le_refl _) z⟩
    · intro c hc hn hj
      refine B_X12_fit_7 G _ _ M _ _ g _ q _ ⟨_, hB.len, fun z => absurd z (nI_ge hc (by omega)), fun _ => ?_⟩
      have key2 : ∀ t, t ≤ 6 → (∀ j, j < t → bFits B k c j = false) → Yx (yX "fit") (yZ G 1 49 (yFZ (fun r M' H' => ∃ H0, yLe H0 H' ∧ F r M' H0))) G (eR (4, 1, 49)) kX12_fit 16 [(0, .ref g), (1, .int (nI k)), (2, .ref q), (3, .int (nI c)), (4, .int (nI t))] [] M (yU H q (.inl (G.2.2.2 0, (bC B, .inl fb)))) (0 + 1) (0 + 49) := by
        refine eDown (P := fun t => (∀ j, j < t → bFits B k c j = false) → Yx (yX "fit") (yZ G 1 49 (yFZ (fun r M' H' => ∃ H0, yLe H0 H' ∧ F r M' H0))) G (eR (4, 1, 49)) kX12_fit 16 [(0, .ref g), (1, .int (nI k)), (2, .ref q), (3, .int (nI c)), (4, .int (nI t))] [] M (yU H q (.inl (G.2.2.2 0, (bC B, .inl fb)))) (0 + 1) (0 + 49)) ?_ ?_
        · intro ht
          refine B_X12_fit_16 G _ _ M _ _ g _ q _ _ ⟨fun _ => ?_, fun z => absurd (Int32.le_refl _) z⟩
          rw [← nI_succ]
          refine hn (fun j hjc => ?_)
          by_cases hq2 : j = c
          · subst hq2; unfold bAny; rw [zFf_none ht]; rfl
          · exact hj j (by omega)
        · intro t ht hm hjt
          refine B_X12_fit_16 G _ _ M _ _ g _ q _ _ ⟨fun z => absurd z (nI_ge (b := 6) ht (by decide)), fun _ => ⟨⟨by decide, by decide⟩, hi, _, S_fits hg2 hb hB hk hc ht, fun z => ?_, fun z => ?_⟩⟩
          · obtain ⟨fk, k1, k2, k3, k4, k5, k6⟩ := hg2.2.2.1 k hk
            have htk : tk k ≠ q := fun y => by
              obtain ⟨fk', k1', -⟩ := hg.2.2.1 k hk
              rw [y, hq] at k1'; cases k1'
            obtain ⟨fk', k1', -⟩ := hg.2.2.1 k hk
            have hg3 : yG (yU (yU H q (.inl (G.2.2.2 0, (bC B, .inl fb)))) (tk k) (.inl (G.2.2.2 0, (5, .inl (upd fk 3 (nI c)))))) g 10 2 (.ref ta) := yG.of (by rw [yU_ne _ _ (fun y => by rw [← y, hg2.1] at k1; simp at k1)]; exact hg2.1) rfl
            obtain ⟨ft, t1, t2⟩ := hg2.2.1
            have hg4 : yER G 5 (yU (yU H q (.inl (G.2.2.2 0, (bC B, .inl fb)))) (tk k) (.inl (G.2.2.2 0, (5, .inl (upd fk 3 (nI c)))))) ta (nI k) (tk k) := ⟨_, ft, by rw [yU_ne _ _ (fun y => by rw [← y, t1] at k1; simp at k1)]; exact t1, vp_in_nI hk (by omega), by rw [nI_clamp (by omega)]; exact t2 k hk⟩
            refine ⟨_, hg2.tA, _, hg2.tile hb hk, 5, fk, k1, vp_in_nI (n := 3) (by decide) (by decide), ?_⟩
            rw [cl3, cl4]
            refine ⟨_, hg3, _, hg4, 5, _, yU_same _ _ _, vp_in_nI (n := 4) (by decide) (by decide), ⟨by decide, by decide⟩, ?_⟩
            rw [yU_yU]
            have hany : bAny B k c = some t := zFf_some ht z hjt
            have hfst : bFirst B k = some c := zFf_some hc (by rw [hany]; rfl) hj
            have hlt := hb.2.2.2.2.1
            refine ⟨yU H (tk k) (.inl (G.2.2.2 0, (5, .inl (upd (upd fk 3 (nI c)) 4 (nI t))))), hle.upd _ _, h1 c t _ hfst hany (hg.set hk (bSz.put B k c t) (fun j hj => zU_ne _ _ hj) (fun j hj => zU_ne _ _ hj) ?_ ?_ ?_ ?_ ?_) (yKp.put _ _ _)⟩
            · rw [pk_un (by decide), pk_un (by decide)]; exact k2
            · rw [pk_un (by decide), pk_un (by decide)]; exact k3
            · rw [pk_un (by decide), pk_un (by decide)]; exact k4
            · rw [pk_un (by decide), pk_us]
              show nI c = eO (zU (bCe B) k (some c) k)
              rw [zU_same]; rfl
            · rw [pk_us]
              show nI t = nI (zU (bTr B) k t k)
              rw [zU_same]
          · rw [← nI_succ]
            refine hm (fun j hj2 => ?_)
            by_cases hq2 : j = t
            · subst hq2; exact z
            · exact hjt j (by omega)
      exact key2 0 (Nat.zero_le _) (fun j hj => absurd hj (by omega))
  exact key 0 (Nat.zero_le _) (fun j hj => absurd hj (by omega))
/-- the five counts, below a cell and on it -/
def cIv (f : Nat → Int32) (a0 a1 a2 a4 : Nat) : Prop := f 0 = nI a0 ∧ f 1 = nI a1 ∧ f 2 = nI a2 ∧ f 4 = nI a4
theorem upd_5 (f : Nat → Int32) (i j : Nat) (v : Int32) (h : j ≠ i) : upd f i v j = f j := pk_un h
theorem S_counts {F : Nat → eM → yH → Prop} (hg : gAt G H g ta oa tk B r) (hm : bGm B) (h : ∀ q, H q = none → ∀ f, f 0 = nI (bMatch B) → f 1 = nI (bMatched B) → f 2 = nI (bRings B) → f 3 = nI (bPoints B) → f 4 = nI (bP B) → F q M (yU H q (.inl (G.2.2.2 0, (5, .inl f))))) : yCal G (3, 2, 54) kX12_counts [.ref g] M H (yFR F) := by
  have hb := hm.1
  have h49 := hb.c49
  have h16 := hb.2.2.1
  refine yCal.weakR (C_X12_counts G M H _ g ⟨⟨by decide, by decide⟩, yIs.of hg.1, S_board hg hb (fun b hbq fb hfb => ⟨5, by decide, by decide, by decide, ⟨by decide, by decide⟩, fun q hq => ?_⟩)⟩)
  have hgb := hg.new hbq (.inl (G.2.2.2 0, (bC B, .inl fb)))
  have hBb : bA G (yU H b (.inl (G.2.2.2 0, (bC B, .inl fb)))) b B := ⟨fb, yU_same _ _ _, hfb⟩
  have hleb := yLe.new hbq (.inl (G.2.2.2 0, (bC B, .inl fb)))
  have hqH : H q = none := by
    cases hz : H q with
    | none => rfl
    | some e => have := hleb _ _ hz; rw [hq] at this; cases this
  have hqb : q ≠ b := fun z => by rw [z, yU_same] at hq; cases hq
  generalize hH1 : yU H b (.inl (G.2.2.2 0, (bC B, .inl fb))) = H1 at hgb hBb hleb hq
  let z0 : Nat → Nat := fun c => zSm (bHi B) c
  let z1 : Nat → Nat := fun c => zSm (fun c => zSm (fun e => bV1 B c (e + 3)) 3) c
  let z2 : Nat → Nat := fun c => zSm (fun c => if bRing B c then 1 else 0) c
  let z4 : Nat → Nat := fun c => zSm (fun c => if hT B c then 1 else 0) c
  have hlc := law_counts hm
  refine eDown (P := fun c => ∀ f, cIv f (z0 c) (z1 c) (z2 c) (z4 c) → Yx (yX "counts") (yZ G 2 54 (yFR (fun r M' H' => ∃ H0, yLe H0 H' ∧ F r M' H0))) G (eR (3, 2, 54)) kX12_counts 11 [(0, .ref g), (1, .ref b), (2, .ref q), (3, .int (nI c))] [] M (yU H1 q (.inl (G.2.2.2 0, (5, .inl f)))) (0 + 1 + 1) (0 + 49 + 5)) (N := bC B) ?_ ?_ 0 (Nat.zero_le _) (fun _ => 0) ⟨rfl, rfl, rfl, rfl⟩
  · intro f ⟨f0, f1, f2, f4⟩
    have hB := (yLe.new hq (.inl (G.2.2.2 0, (5, .inl f)))).bA hBb
    refine B_X12_counts_11 G _ _ M _ _ g b q _ ⟨_, hB.len, fun _ => ⟨_, yEI.mk (j := 1) (yU_same _ _ _) (by decide) (by decide), _, yEI.mk (j := 2) (yU_same _ _ _) (by decide) (by decide), 5, f, yU_same _ _ _, vp_in_nI (n := 3) (by decide) (by decide), ⟨by decide, by decide⟩, ?_⟩, fun z => absurd (Int32.le_refl _) z⟩
    rw [yU_yU, cl3]
    refine ⟨_, hleb.upd q _, h q hqH _ ?_ ?_ ?_ ?_ ?_⟩
    · rw [upd_5 _ _ _ _ (by decide), f0, ← hlc.1]
    · rw [upd_5 _ _ _ _ (by decide), f1, ← hlc.2]
    · rw [upd_5 _ _ _ _ (by decide), f2]; rfl
    · rw [pk_us, f1, f2, eL10, nI_mul, nI_add]
      show nI (z1 (bC B) + 10 * z2 (bC B)) = nI (bMatched B + 10 * bRings B)
      rw [← hlc.2]; rfl
    · rw [upd_5 _ _ _ _ (by decide), f4, ← bCnt_p hb]; rfl
  · intro c hc hn f ⟨f0, f1, f2, f4⟩
    have hB := (yLe.new hq (.inl (G.2.2.2 0, (5, .inl f)))).bA hBb
    have hg2 := hgb.new hq (.inl (G.2.2.2 0, (5, .inl f)))
    -- the cell itself, behind the ring's count
    have cellp : ∀ f, cIv f (z0 c) (z1 c) (z2 (c + 1)) (z4 c) → Yx (yX "counts") (yZ G 2 54 (yFR (fun r M' H' => ∃ H0, yLe H0 H' ∧ F r M' H0))) G (eR (3, 2, 54)) kX12_counts 35 [(0, .ref g), (1, .ref b), (2, .ref q), (3, .int (nI c))] [] M (yU H1 q (.inl (G.2.2.2 0, (5, .inl f)))) (0 + 1 + 1) (0 + 49 + 5) := by
      intro f ⟨f0, f1, f2, f4⟩
      have hB := (yLe.new hq (.inl (G.2.2.2 0, (5, .inl f)))).bA hBb
      refine B_X12_counts_35 G _ _ M _ _ g b q _ ⟨_, hB.at hb hc, ?_⟩
      cases h1 : bAt B c with
      | none =>
        refine ⟨fun z => absurd eM1l (Int32.not_lt.mpr z), fun _ => ?_⟩
        rw [← nI_succ]
        have e0 : z0 (c + 1) = z0 c := by
          show z0 c + bHi B c = _
          rw [show bHi B c = 0 from zSm_zero (fun e _ => by unfold bE1; cases bBes B c (e + 3) with | none => rfl | some d => simp [hT, h1])]; rfl
        have e1 : z1 (c + 1) = z1 c := by
          show z1 c + zSm (fun e => bV1 B c (e + 3)) 3 = _
          rw [zSm_zero (fun e _ => by unfold bV1; rw [h1])]; rfl
        have e4 : z4 (c + 1) = z4 c := by
          show z4 c + (if hT B c then 1 else 0) = _
          simp [hT, h1]
        exact hn f ⟨by rw [e0]; exact f0, by rw [e1]; exact f1, f2, by rw [e4]; exact f4⟩
      | some k =>
        obtain ⟨hk, hce⟩ := hb.2.2.2.1 c k hc h1
        have htr := (hb.2.2.2.2.1 k c hk hce).2.2
        have ht1 : hT B c = true := by show (bAt B c).isSome = true; rw [h1]; rfl
        refine ⟨fun _ => ⟨_, yEI.mk (j := 4) (yU_same _ _ _) (by decide) (by decide), 5, f, yU_same _ _ _, vp_in_nI (n := 4) (by decide) (by decide), ?_⟩, fun z => absurd (nI_pos' (by omega)) z⟩
        rw [yU_yU, cl4]
        have e4 : z4 (c + 1) = z4 c + 1 := by
          show z4 c + (if hT B c then 1 else 0) = _
          rw [if_pos ht1]
        have edges : ∀ e, e ≤ 3 → ∀ f, cIv f (z0 c + zSm (fun e => bE1 B c (e + 3)) e) (z1 c + zSm (fun e => bV1 B c (e + 3)) e) (z2 (c + 1)) (z4 (c + 1)) → Yx (yX "counts") (yZ G 2 54 (yFR (fun r M' H' => ∃ H0, yLe H0 H' ∧ F r M' H0))) G (eR (3, 2, 54)) kX12_counts 54 [(0, .ref g), (1, .ref b), (2, .ref q), (3, .int (nI c)), (4, .int (nI (e + 3)))] [] M (yU H1 q (.inl (G.2.2.2 0, (5, .inl f)))) (0 + 1 + 1) (0 + 49 + 5) := by
          refine eDown (P := fun e => ∀ f, cIv f (z0 c + zSm (fun e => bE1 B c (e + 3)) e) (z1 c + zSm (fun e => bV1 B c (e + 3)) e) (z2 (c + 1)) (z4 (c + 1)) → Yx (yX "counts") (yZ G 2 54 (yFR (fun r M' H' => ∃ H0, yLe H0 H' ∧ F r M' H0))) G (eR (3, 2, 54)) kX12_counts 54 [(0, .ref g), (1, .ref b), (2, .ref q), (3, .int (nI c)), (4, .int (nI (e + 3)))] [] M (yU H1 q (.inl (G.2.2.2 0, (5, .inl f)))) (0 + 1 + 1) (0 + 49 + 5)) ?_ ?_
          · intro f hf
            refine B_X12_counts_54 G _ _ M _ _ g b q _ _ ⟨fun _ => ?_, fun z => absurd (Int32.le_refl _) z⟩
            rw [← nI_succ]
            exact hn f hf
          · intro e he hme f ⟨f0, f1, f2, f4⟩
            have hB := (yLe.new hq (.inl (G.2.2.2 0, (5, .inl f)))).bA hBb
            have hg2 := hgb.new hq (.inl (G.2.2.2 0, (5, .inl f)))
            have s0 : zSm (fun e => bE1 B c (e + 3)) (e + 1) = zSm (fun e => bE1 B c (e + 3)) e + bE1 B c (e + 3) := rfl
            have s1 : zSm (fun e => bV1 B c (e + 3)) (e + 1) = zSm (fun e => bV1 B c (e + 3)) e + bV1 B c (e + 3) := rfl
            have quiet : bE1 B c (e + 3) = 0 → bV1 B c (e + 3) = 0 → Yx (yX "counts") (yZ G 2 54 (yFR (fun r M' H' => ∃ H0, yLe H0 H' ∧ F r M' H0))) G (eR (3, 2, 54)) kX12_counts 54 [(0, .ref g), (1, .ref b), (2, .ref q), (3, .int (nI c)), (4, .int (nI (e + 3) + 1))] [] M (yU H1 q (.inl (G.2.2.2 0, (5, .inl f)))) (0 + 1 + 1) (0 + 49 + 5) := fun y0 y1 => by
              rw [← nI_succ, show e + 3 + 1 = e + 1 + 3 by omega]
              exact hme f ⟨by rw [s0, y0]; exact f0, by rw [s1, y1]; exact f1, f2, f4⟩
            refine B_X12_counts_54 G _ _ M _ _ g b q _ _ ⟨fun z => absurd z (nI_ge (b := 6) (by omega) (by decide)), fun _ => ⟨⟨by decide, by decide⟩, yIs.of hg2.1, _, S_beside hg2 hb hc (by omega), ?_⟩⟩
            cases h2 : bBes B c (e + 3) with
            | none =>
              exact ⟨fun _ => quiet (by unfold bE1; rw [h2]) (by unfold bV1; rw [h1]; simp only [bTile_none h2]; rfl), fun z => absurd eM1l z⟩
            | some d =>
              have hd := hb.bes hc (by omega) h2
              refine ⟨fun z => absurd z (nI_pos (by omega)), fun _ => ⟨_, hB.at hb hd.1, ?_⟩⟩
              cases h3 : bAt B d with
              | none =>
                exact ⟨fun z => absurd eM1l (Int32.not_lt.mpr z), fun _ => quiet (by unfold bE1; rw [h2]; simp [hT, h3]) (by unfold bV1; rw [h1]; simp only [bTile_some h2, h3]; rfl)⟩
              | some k' =>
                have hk' := (hb.2.2.2.1 d k' hd.1 h3).1
                refine ⟨fun _ => ⟨_, yEI.mk (j := 0) (yU_same _ _ _) (by decide) (by decide), 5, f, yU_same _ _ _, vp_in_nI (n := 0) (by decide) (by decide), ?_⟩, fun z => absurd (nI_pos' (by omega)) z⟩
                simp only [yU_yU, cl0]
                have hB3 := (yLe.new hq (.inl (G.2.2.2 0, (5, .inl (upd f 0 (f 0 + 1)))))).bA hBb
                have hg3 := hgb.new hq (.inl (G.2.2.2 0, (5, .inl (upd f 0 (f 0 + 1)))))
                refine ⟨_, yEI.mk (j := 1) (yU_same _ _ _) (by decide) (by decide), _, hg3.tA, _, by have e := hB3.at hb hc; rw [h1] at e; exact e, _, hg3.tile hb hk, _, hg3.tA, _, by have e := hB3.at hb hc; rw [h1] at e; exact e, _, hg3.tile hb hk, _, hg3.t4 hk, ⟨by decide, by decide⟩, yIs.of hg3.1, _, S_num hg3 hk htr (by omega), 5, _, yU_same _ _ _, vp_in_nI (n := 1) (by decide) (by decide), ?_⟩
                rw [cl1, ← nI_succ, show e + 3 + 1 = e + 1 + 3 by omega]
                have y0 : bE1 B c (e + 3) = 1 := by
                  unfold bE1; rw [h2]
                  show (if (bAt B c).isSome && (bAt B d).isSome then 1 else 0) = 1
                  rw [h1, h3]; rfl
                have y1 : bV1 B c (e + 3) = bNm B k (bTr B k) (e + 3) := by
                  unfold bV1; rw [h1]; simp only [bTile_some h2, h3]; rfl
                refine hme _ ⟨?_, ?_, ?_, ?_⟩
                · rw [upd_5 _ _ _ _ (by decide), pk_us, f0, ← nI_succ, s0, y0]; rfl
                · rw [pk_us, upd_5 _ _ _ _ (by decide), f1, nI_add, s1, y1, Nat.add_assoc]
                · rw [upd_5 _ _ _ _ (by decide), upd_5 _ _ _ _ (by decide)]; exact f2
                · rw [upd_5 _ _ _ _ (by decide), upd_5 _ _ _ _ (by decide)]; exact f4
        refine edges 0 (Nat.zero_le _) _ ⟨?_, ?_, ?_, ?_⟩
        · rw [upd_5 _ _ _ _ (by decide)]; exact f0
        · rw [upd_5 _ _ _ _ (by decide)]; exact f1
        · rw [upd_5 _ _ _ _ (by decide)]; exact f2
        · rw [pk_us, e4, nI_succ, ← f4]
    refine B_X12_counts_11 G _ _ M _ _ g b q _ ⟨_, hB.len, fun z => absurd z (nI_ge hc (by omega)), fun _ => ⟨⟨by decide, by decide⟩, yIs.of hg2.1, _, S_many hg2 hb hB hc, fun z => ?_, fun z => ?_⟩⟩
    · have e2 : z2 (c + 1) = z2 c := by
        show z2 c + (if bRing B c then 1 else 0) = _
        have : bRing B c = false := decide_eq_false (fun y => z (by rw [y]; rfl))
        rw [this]; rfl
      exact cellp f ⟨f0, f1, by rw [e2]; exact f2, f4⟩
    · have e2 : z2 (c + 1) = z2 c + 1 := by
        show z2 c + (if bRing B c then 1 else 0) = _
        have h6 := bTb_le B c
        have : bRing B c = true := decide_eq_true ((nI_eq (b := 6) (by omega) (by decide)).mp z)
        rw [this]; rfl
      refine ⟨_, yEI.mk (j := 2) (yU_same _ _ _) (by decide) (by decide), 5, f, yU_same _ _ _, vp_in_nI (n := 2) (by decide) (by decide), ?_⟩
      rw [yU_yU, cl2]
      refine cellp _ ⟨?_, ?_, ?_, ?_⟩
      · rw [upd_5 _ _ _ _ (by decide)]; exact f0
      · rw [upd_5 _ _ _ _ (by decide)]; exact f1
      · rw [pk_us, e2, nI_succ, ← f2]
      · rw [upd_5 _ _ _ _ (by decide)]; exact f4
end GSpec2
section GSpec3
variable {G : eG} {M : eM} {H : yH} {g ta oa : Nat} {tk : Nat → Nat} {B : eBd} {r : Int32}
/-- labels in a row -/
def lRep (B : eBd) (L : Nat → Nat) (f : Nat → Int32) : Prop := ∀ c, c < bC B → f c = if hT B c then nI (L c) else -1
theorem S_groups {F : Int32 → eM → yH → Prop} (hg : gAt G H g ta oa tk B r) (hb : bOk B) (h : F (nI (bGroups B)) M H) : yCal G (2, 2, 98) kX12_groups [.ref g] M H (yFI F) := by
  have h49 := hb.c49
  have h16 := hb.2.2.1
  refine yCal.weakI (C_X12_groups G M H _ g ⟨⟨by decide, by decide⟩, yIs.of hg.1, S_board hg hb (fun b hbq fb hfb => ⟨bC B, ⟨_, yU_same _ _ _, rfl⟩, bC B, nI_pos (by omega), nI_clamp (by omega), by omega, ⟨by decide, by omega⟩, fun q hq => ?_⟩)⟩)
  have hgb := hg.new hbq (.inl (G.2.2.2 0, (bC B, .inl fb)))
  have hBb : bA G (yU H b (.inl (G.2.2.2 0, (bC B, .inl fb)))) b B := ⟨fb, yU_same _ _ _, hfb⟩
  have hleb := yLe.new hbq (.inl (G.2.2.2 0, (bC B, .inl fb)))
  generalize hH1 : yU H b (.inl (G.2.2.2 0, (bC B, .inl fb))) = H1 at hgb hBb hleb hq
  have hmid : ∀ e : va_E, yLe H (yU H1 q e) := fun e => hleb.trans (yLe.new hq e)
  have lt1 : ∀ {L : Nat → Nat}, gLb B L → ∀ c, c < bC B → hT B c = true → L c < 2 ^ 31 := fun hl c hc ht => by have := (hl c hc ht).1; omega
  -- the roots are counted
  have count : ∀ (L : Nat → Nat), gLb B L → gLq B L → ∀ f, lRep B L f → ∀ x4 : Int32, x4 = 0 → Yx (yX "groups") (yZ G 2 98 (yFI (fun r M' H' => ∃ H0, yLe H0 H' ∧ F r M' H0))) G (eR (2, 2, 98)) kX12_groups 48 [(0, .ref g), (1, .ref b), (2, .ref q), (3, .int 0), (4, .int x4)] [] M (yU H1 q (.inl (G.2.2.2 0, (bC B, .inl f)))) (0 + 1 + 1) (0 + 49 + bC B) := by
    intro L hl hlq f hf x4 hx4
    refine B_X12_groups_48 G _ _ M _ _ g b q _ _ ⟨fun _ => ?_, fun z => absurd hx4 z⟩
    have hB := (yLe.new hq (.inl (G.2.2.2 0, (bC B, .inl f)))).bA hBb
    refine eDown (P := fun c => Yx (yX "groups") (yZ G 2 98 (yFI (fun r M' H' => ∃ H0, yLe H0 H' ∧ F r M' H0))) G (eR (2, 2, 98)) kX12_groups 148 [(1, .ref b), (2, .ref q), (3, .int (nI (gRoots B L c))), (5, .int (nI c))] [] M (yU H1 q (.inl (G.2.2.2 0, (bC B, .inl f)))) (0 + 1 + 1) (0 + 49 + bC B)) (N := bC B) ?_ ?_ 0 (Nat.zero_le _)
    · refine B_X12_groups_148 G _ _ M _ _ b q _ _ ⟨_, hB.len, fun _ => ⟨⟨by decide, by omega⟩, H, hmid _, ?_⟩, fun z => absurd (Int32.le_refl _) z⟩
      rw [← bGroups_l hb hl hlq]; exact h
    · intro c hc hn
      refine B_X12_groups_148 G _ _ M _ _ b q _ _ ⟨_, hB.len, fun z => absurd z (nI_ge hc (by omega)), fun _ => ⟨_, yEI.mk (j := c) (yU_same _ _ _) hc (by omega), fun z => ?_, fun z => ?_⟩⟩
      · have e1 : gRoots B L (c + 1) = gRoots B L c := by
          show gRoots B L c + (if hT B c && decide (L c = c) then 1 else 0) = _
          rw [if_neg (fun y => z ?_)]; rfl
          rw [Bool.and_eq_true] at y
          rw [hf c hc, if_pos y.1, of_decide_eq_true y.2]
        refine B_X12_groups_172 G _ _ M _ _ b q _ _ ?_
        rw [e1] at hn
        rw [← nI_succ, nI_01]; exact hn
      · have e1 : gRoots B L (c + 1) = gRoots B L c + 1 := by
          show gRoots B L c + (if hT B c && decide (L c = c) then 1 else 0) = _
          rw [if_pos ?_]
          rw [hf c hc] at z
          cases ht : hT B c with
          | false => rw [ht] at z; exact absurd z.symm (eNeg c (by omega))
          | true =>
            rw [ht] at z
            rw [Bool.true_and]
            exact decide_eq_true ((nI_eq (lt1 hl c hc ht) (by omega)).mp z)
        refine B_X12_groups_172 G _ _ M _ _ b q _ _ ?_
        rw [e1] at hn
        rw [← nI_succ, ← nI_succ]; exact hn
  -- the labels sink
  have sink : ∀ (n : Nat) (L : Nat → Nat), gLb B L → lSum B L ≤ n → ∀ f, lRep B L f → Yx (yX "groups") (yZ G 2 98 (yFI (fun r M' H' => ∃ H0, yLe H0 H' ∧ F r M' H0))) G (eR (2, 2, 98)) kX12_groups 48 [(0, .ref g), (1, .ref b), (2, .ref q), (3, .int 0), (4, .int 1)] [] M (yU H1 q (.inl (G.2.2.2 0, (bC B, .inl f)))) (0 + 1 + 1) (0 + 49 + bC B) := by
    intro n
    induction n using Nat.strongRecOn with
    | ind n ih =>
      intro L0 hl0 hs0 f0 hf0
      refine B_X12_groups_48 G _ _ M _ _ g b q _ _ ⟨fun z => absurd z (by decide), fun _ => ?_⟩
      -- x: something was changed in this pass
      let St : Bool → (Nat → Nat) → Nat → Nat → Prop := fun x L c e => (x = true → lSum B L < lSum B L0) ∧ (x = false → L = L0 ∧ (∀ c' e' d, c' < c → e' < 6 → hT B c' = true → bBes B c' e' = some d → hT B d = true → ¬ L d < L c') ∧ (∀ e' d, e' < e → hT B c = true → bBes B c e' = some d → hT B d = true → ¬ L d < L c))
      have pass : ∀ c, c ≤ bC B → ∀ (x : Bool) (L : Nat → Nat) (f : Nat → Int32), gLb B L → lRep B L f → St x L c 0 → Yx (yX "groups") (yZ G 2 98 (yFI (fun r M' H' => ∃ H0, yLe H0 H' ∧ F r M' H0))) G (eR (2, 2, 98)) kX12_groups 59 [(0, .ref g), (1, .ref b), (2, .ref q), (3, .int 0), (4, .int (eZi x)), (5, .int (nI c))] [] M (yU H1 q (.inl (G.2.2.2 0, (bC B, .inl f)))) (0 + 1 + 1) (0 + 49 + bC B) := by
        refine eDown (P := fun c => ∀ (x : Bool) (L : Nat → Nat) (f : Nat → Int32), gLb B L → lRep B L f → St x L c 0 → Yx (yX "groups") (yZ G 2 98 (yFI (fun r M' H' => ∃ H0, yLe H0 H' ∧ F r M' H0))) G (eR (2, 2, 98)) kX12_groups 59 [(0, .ref g), (1, .ref b), (2, .ref q), (3, .int 0), (4, .int (eZi x)), (5, .int (nI c))] [] M (yU H1 q (.inl (G.2.2.2 0, (bC B, .inl f)))) (0 + 1 + 1) (0 + 49 + bC B)) ?_ ?_
        · intro x L f hl hf hst
          have hB := (yLe.new hq (.inl (G.2.2.2 0, (bC B, .inl f)))).bA hBb
          refine B_X12_groups_59 G _ _ M _ _ g b q _ _ _ ⟨_, hB.len, fun _ => ?_, fun z => absurd (Int32.le_refl _) z⟩
          cases x with
          | false =>
            obtain ⟨hL, hqt, -⟩ := hst.2 rfl
            exact count L hl (gLq_of hb (fun c e d hc he ht hd hu => hqt c e d hc he ht hd hu)) f hf _ rfl
          | true => exact ih (lSum B L) (Nat.lt_of_lt_of_le (hst.1 rfl) hs0) L hl (Nat.le_refl _) f hf
        · intro c hc hn x L f hl hf hst
          have hB := (yLe.new hq (.inl (G.2.2.2 0, (bC B, .inl f)))).bA hBb
          refine B_X12_groups_59 G _ _ M _ _ g b q _ _ _ ⟨_, hB.len, fun z => absurd z (nI_ge hc (by omega)), fun _ => ?_⟩
          have edges : ∀ e, e ≤ 6 → ∀ (x : Bool) (L : Nat → Nat) (f : Nat → Int32), gLb B L → lRep B L f → St x L c e → Yx (yX "groups") (yZ G 2 98 (yFI (fun r M' H' => ∃ H0, yLe H0 H' ∧ F r M' H0))) G (eR (2, 2, 98)) kX12_groups 69 [(0, .ref g), (1, .ref b), (2, .ref q), (3, .int 0), (4, .int (eZi x)), (5, .int (nI c)), (6, .int (nI e))] [] M (yU H1 q (.inl (G.2.2.2 0, (bC B, .inl f)))) (0 + 1 + 1) (0 + 49 + bC B) := by
            refine eDown (P := fun e => ∀ (x : Bool) (L : Nat → Nat) (f : Nat → Int32), gLb B L → lRep B L f → St x L c e → Yx (yX "groups") (yZ G 2 98 (yFI (fun r M' H' => ∃ H0, yLe H0 H' ∧ F r M' H0))) G (eR (2, 2, 98)) kX12_groups 69 [(0, .ref g), (1, .ref b), (2, .ref q), (3, .int 0), (4, .int (eZi x)), (5, .int (nI c)), (6, .int (nI e))] [] M (yU H1 q (.inl (G.2.2.2 0, (bC B, .inl f)))) (0 + 1 + 1) (0 + 49 + bC B)) ?_ ?_
            · intro x L f hl hf hst
              refine B_X12_groups_69 G _ _ M _ _ g b q _ _ _ _ ⟨fun _ => ?_, fun z => absurd (Int32.le_refl _) z⟩
              rw [← nI_succ]
              refine hn x L f hl hf ⟨hst.1, fun hx => ?_⟩
              obtain ⟨y1, y2, y3⟩ := hst.2 hx
              refine ⟨y1, fun c' e' d hc' he' ht hd hu => ?_, fun e' d he' => absurd he' (Nat.not_lt_zero _)⟩
              by_cases hcc : c' = c
              · subst hcc; exact y3 e' d he' ht hd hu
              · exact y2 c' e' d (by omega) he' ht hd hu
            · intro e he hme x L f hl hf hst
              have hg2 := hgb.new hq (.inl (G.2.2.2 0, (bC B, .inl f)))
              have fc := hf c hc
              -- nothing happens at this edge
              have idle : (∀ d, hT B c = true → bBes B c e = some d → hT B d = true → ¬ L d < L c) → Yx (yX "groups") (yZ G 2 98 (yFI (fun r M' H' => ∃ H0, yLe H0 H' ∧ F r M' H0))) G (eR (2, 2, 98)) kX12_groups 69 [(0, .ref g), (1, .ref b), (2, .ref q), (3, .int 0), (4, .int (eZi x)), (5, .int (nI c)), (6, .int (nI e + 1))] [] M (yU H1 q (.inl (G.2.2.2 0, (bC B, .inl f)))) (0 + 1 + 1) (0 + 49 + bC B) := fun hno => by
                rw [← nI_succ]
                refine hme x L f hl hf ⟨hst.1, fun hx => ?_⟩
                obtain ⟨y1, y2, y3⟩ := hst.2 hx
                refine ⟨y1, y2, fun e' d he' ht hd hu => ?_⟩
                by_cases hee : e' = e
                · subst hee; exact hno d ht hd hu
                · exact y3 e' d (by omega) ht hd hu
              refine B_X12_groups_69 G _ _ M _ _ g b q _ _ _ _ ⟨fun z => absurd z (nI_ge (b := 6) he (by decide)), fun _ => ⟨_, yEI.mk (j := c) (yU_same _ _ _) hc (by omega), fun z => ?_, fun z => ?_⟩⟩
              · -- no tile here
                have ht0 : ¬ hT B c = true := fun ht => by
                  rw [fc, if_pos ht] at z
                  exact absurd z (nI_pos (lt1 hl c hc ht))
                rw [← nI_succ]
                refine hn x L f hl hf ⟨hst.1, fun hx => ?_⟩
                obtain ⟨y1, y2, y3⟩ := hst.2 hx
                refine ⟨y1, fun c' e' d hc' he' ht hd hu => ?_, fun e' d he' => absurd he' (Nat.not_lt_zero _)⟩
                by_cases hcc : c' = c
                · subst hcc; exact absurd ht ht0
                · exact y2 c' e' d (by omega) he' ht hd hu
              · have ht : hT B c = true := by
                  cases ht : hT B c with
                  | true => rfl
                  | false => rw [fc, ht] at z; exact absurd eM1l z
                rw [if_pos ht] at fc
                refine ⟨⟨by decide, by omega⟩, yIs.of hg2.1, _, S_beside hg2 hb hc he, ?_⟩
                cases h1 : bBes B c e with
                | none => exact ⟨fun _ => idle (fun d _ hd => by rw [h1] at hd; cases hd), fun z => absurd eM1l z⟩
                | some d =>
                  have hd := hb.bes hc he h1
                  have fd := hf d hd.1
                  refine ⟨fun z => absurd z (nI_pos (by omega)), fun _ => ⟨_, yEI.mk (j := d) (yU_same _ _ _) hd.1 (by omega), fun z => ?_, fun z => ?_⟩⟩
                  · refine idle (fun d' _ hd' hu => ?_)
                    rw [h1] at hd'; cases hd'
                    rw [fd, if_pos hu] at z
                    exact absurd z (nI_pos (lt1 hl d hd.1 hu))
                  · have hu : hT B d = true := by
                      cases hu : hT B d with
                      | true => rfl
                      | false => rw [fd, hu] at z; exact absurd eM1l z
                    rw [if_pos hu] at fd
                    have l1 := lt1 hl d hd.1 hu
                    have l2 := lt1 hl c hc ht
                    refine ⟨_, yEI.mk (j := d) (yU_same _ _ _) hd.1 (by omega), _, yEI.mk (j := c) (yU_same _ _ _) hc (by omega), fun y => ?_, fun y => ?_⟩
                    · rw [fd, fc] at y
                      have hlt : L d < L c := (nI_ltI l1 l2).mp y
                      refine ⟨_, yEI.mk (j := d) (yU_same _ _ _) hd.1 (by omega), bC B, f, yU_same _ _ _, vp_in_nI hc (by omega), ?_⟩
                      rw [yU_yU, nI_clamp (by omega), ← nI_succ]
                      have hl' := gLb.upd hb hl hc he h1 ht hu hlt
                      refine hme true (zU L c (L d)) _ hl' (fun c' hc' => ?_) ⟨fun _ => ?_, fun z => by cases z⟩
                      · by_cases hcc : c' = c
                        · subst hcc
                          rw [pk_us, if_pos ht, zU_same]; exact fd
                        · rw [pk_un hcc, zU_ne _ _ hcc]; exact hf c' hc'
                      · have s1 := lSum_upd (L := L) hc ht hlt
                        cases x with
                        | true => have := hst.1 rfl; omega
                        | false => rw [(hst.2 rfl).1] at s1 ⊢; exact s1
                    · rw [fd, fc] at y
                      refine idle (fun d' _ hd' hu' hlt => ?_)
                      rw [h1] at hd'; cases hd'
                      exact y ((nI_ltI l1 l2).mpr hlt)
          exact edges 0 (Nat.zero_le _) x L f hl hf hst
      exact pass 0 (Nat.zero_le _) false L0 f0 hl0 hf0 ⟨(by intro z; cases z), fun _ => ⟨rfl, fun c' e' d hc' => absurd hc' (Nat.not_lt_zero _), fun e' d he' => absurd he' (Nat.not_lt_zero _)⟩⟩
  -- the first labels
  refine eDown (P := fun c => ∀ f : Nat → Int32, (∀ j, j < c → f j = if hT B j then nI j else -1) → Yx (yX "groups") (yZ G 2 98 (yFI (fun r M' H' => ∃ H0, yLe H0 H' ∧ F r M' H0))) G (eR (2, 2, 98)) kX12_groups 15 [(0, .ref g), (1, .ref b), (2, .ref q), (3, .int 0), (4, .int (nI c))] [] M (yU H1 q (.inl (G.2.2.2 0, (bC B, .inl f)))) (0 + 1 + 1) (0 + 49 + bC B)) (N := bC B) ?_ ?_ 0 (Nat.zero_le _) (fun _ => 0) (fun j hj => absurd hj (Nat.not_lt_zero _))
  · intro f hf
    have hB := (yLe.new hq (.inl (G.2.2.2 0, (bC B, .inl f)))).bA hBb
    refine B_X12_groups_15 G _ _ M _ _ g b q _ _ ⟨_, hB.len, fun _ => ?_, fun z => absurd (Int32.le_refl _) z⟩
    exact sink _ (fun c => c) (gLb_id B) (Nat.le_refl _) f hf
  · intro c hc hn f hf
    have hB := (yLe.new hq (.inl (G.2.2.2 0, (bC B, .inl f)))).bA hBb
    refine B_X12_groups_15 G _ _ M _ _ g b q _ _ ⟨_, hB.len, fun z => absurd z (nI_ge hc (by omega)), fun _ => ⟨_, hB.at hb hc, ?_⟩⟩
    have goOn : ∀ v : Int32, v = (if hT B c then nI c else -1) → Yx (yX "groups") (yZ G 2 98 (yFI (fun r M' H' => ∃ H0, yLe H0 H' ∧ F r M' H0))) G (eR (2, 2, 98)) kX12_groups 39 [(0, .ref g), (1, .ref b), (2, .ref q), (3, .int 0), (4, .int (nI c))] [] M (yU H1 q (.inl (G.2.2.2 0, (bC B, .inl (upd f c v))))) (0 + 1 + 1) (0 + 49 + bC B) := fun v hv => by
      refine B_X12_groups_39 G _ _ M _ _ g b q _ _ ?_
      rw [← nI_succ]
      refine hn _ (fun j hj => ?_)
      by_cases hjc : j = c
      · subst hjc; rw [pk_us]; exact hv
      · rw [pk_un hjc]; exact hf j (by omega)
    cases h1 : bAt B c with
    | none =>
      refine ⟨fun z => absurd eM1l (Int32.not_lt.mpr z), fun _ => ⟨bC B, f, yU_same _ _ _, vp_in_nI hc (by omega), ?_⟩⟩
      rw [yU_yU, nI_clamp (by omega)]
      exact goOn _ (by rw [if_neg (by show ¬ (bAt B c).isSome = true; rw [h1]; decide)])
    | some k =>
      have hk := (hb.2.2.2.1 c k hc h1).1
      refine ⟨fun _ => ⟨bC B, f, yU_same _ _ _, vp_in_nI hc (by omega), ?_⟩, fun z => absurd (nI_pos' (by omega)) z⟩
      rw [yU_yU, nI_clamp (by omega)]
      exact goOn _ (by rw [if_pos (by show (bAt B c).isSome = true; rw [h1]; rfl)])
end GSpec3
