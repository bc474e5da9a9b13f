/-! ===== the class's board in its memory ===== -/
def cB (M : eM) (B : eBd) : Prop := (M 23 0 = nI (bW B) ∧ M 23 1 = nI (bR B) ∧ M 23 2 = nI (bC B) ∧ M 23 3 = nI (bN B) ∧ M 23 4 = nI (bP B)) ∧ (∀ c, c < bC B → M 24 c = eO (bAt B c)) ∧ (∀ i, i < bN B → M 25 i = eO (bCe B i)) ∧ (∀ i c, i < bN B → bCe B i = some c → M 26 i = nI (bTr B i)) ∧ (∀ i, i < 3 * bN B → M 27 i = nI (bNu B i)) ∧ (∀ k e n, k < bN B → e < 6 → n < 10 → M 28 ((k * 6 + e) * 10 + n) = zMask (fun t => decide (bNm B k t e = n))) ∧ (∀ c e, c < bC B → e < 6 → M 29 (c * 6 + e) = eO (bBes B c e)) ∧ (∀ c e, c < bC B → e < 6 → M 30 (c * 6 + e) = eO (bFace B c e)) ∧ (∀ c, c < bC B → M 31 c = nI (bTb B c))
theorem cB.nc {M : eM} {B : eBd} (h : cB M B) : M 23 2 = nI (bC B) := h.1.2.2.1
theorem cB.nn {M : eM} {B : eBd} (h : cB M B) : M 23 3 = nI (bN B) := h.1.2.2.2.1
theorem cB.np {M : eM} {B : eBd} (h : cB M B) : M 23 4 = nI (bP B) := h.1.2.2.2.2
theorem cB.at {M : eM} {B : eBd} (h : cB M B) {c : Nat} (hc : c < bC B) : M 24 c = eO (bAt B c) := h.2.1 c hc
theorem cB.ce {M : eM} {B : eBd} (h : cB M B) {i : Nat} (hi : i < bN B) : M 25 i = eO (bCe B i) := h.2.2.1 i hi
theorem cB.tr {M : eM} {B : eBd} (h : cB M B) {i c : Nat} (hi : i < bN B) (hc : bCe B i = some c) : M 26 i = nI (bTr B i) := h.2.2.2.1 i c hi hc
theorem cB.nu {M : eM} {B : eBd} (h : cB M B) {i : Nat} (hi : i < 3 * bN B) : M 27 i = nI (bNu B i) := h.2.2.2.2.1 i hi
theorem cB.tw {M : eM} {B : eBd} (h : cB M B) {k e n : Nat} (hk : k < bN B) (he : e < 6) (hn : n < 10) : M 28 ((k * 6 + e) * 10 + n) = zMask (fun t => decide (bNm B k t e = n)) := h.2.2.2.2.2.1 k e n hk he hn
theorem cB.be {M : eM} {B : eBd} (h : cB M B) {c e : Nat} (hc : c < bC B) (he : e < 6) : M 29 (c * 6 + e) = eO (bBes B c e) := h.2.2.2.2.2.2.1 c e hc he
theorem cB.fa {M : eM} {B : eBd} (h : cB M B) {c e : Nat} (hc : c < bC B) (he : e < 6) : M 30 (c * 6 + e) = eO (bFace B c e) := h.2.2.2.2.2.2.2.1 c e hc he
theorem cB.tb {M : eM} {B : eBd} (h : cB M B) {c : Nat} (hc : c < bC B) : M 31 c = nI (bTb B c) := h.2.2.2.2.2.2.2.2 c hc
theorem S_knows (G : eG) {M : eM} {B : eBd} (hb : bOk B) (hM : cB M B) (F : Bool → eM → Prop) (a : Int32) (h : F (decide (0 ≤ a ∧ a < nI (bN B))) M) : Cal G 0 68 (1, 0, 0) kX1_knows [.ref (G.1 23), .int a] M (eFZ F) := by
  refine C_X1_knows G M F a ⟨fun q => ?_, fun q => ?_⟩
  · rw [decide_eq_false (fun z => absurd q (Int32.not_lt.mpr z.1))] at h
    exact h
  · rw [hM.nn]
    refine ⟨fun q2 => ?_, fun q2 => ?_⟩
    · rw [decide_eq_false (fun z => absurd z.2 (Int32.not_lt.mpr q2))] at h
      exact h
    · rw [decide_eq_true ⟨Int32.not_lt.mp q, Int32.not_le.mp q2⟩] at h
      exact h
theorem S_knows' (G : eG) {M : eM} {B : eBd} (hb : bOk B) (hM : cB M B) (F : Bool → eM → Prop) {k : Nat} (hk : k < bN B) (h : F true M) : Cal G 0 68 (1, 0, 0) kX1_knows [.ref (G.1 23), .int (nI k)] M (eFZ F) := by
  have h16 := hb.2.2.1
  refine S_knows G hb hM F (nI k) ?_
  rw [decide_eq_true ⟨nI_pos' (by omega), nI_lt hk (by omega)⟩]
  exact h
theorem S_lies (G : eG) {M : eM} {B : eBd} (hb : bOk B) (hM : cB M B) (F : Bool → eM → Prop) {k : Nat} (hk : k < bN B) (h : F (bCe B k).isSome M) : Cal G 0 68 (2, 0, 0) kX1_lies [.ref (G.1 23), .int (nI k)] M (eFZ F) := by
  have h16 := hb.2.2.1
  have h49 := hb.c49
  refine C_X1_lies G M F (nI k) (S_knows' G hb hM _ hk ⟨fun q => absurd q (by decide), fun _ => ⟨vp_in_nI (by omega) (by decide), ?_⟩⟩)
  rw [nI_clamp (show k < 2 ^ 31 by omega), hM.ce hk]
  cases h1 : bCe B k with
  | none => rw [h1] at h; exact ⟨fun _ => h, fun q => absurd eM1lt q⟩
  | some c =>
    rw [h1] at h
    have := (hb.2.2.2.2.1 k c hk h1).1
    exact ⟨fun q => absurd q (nI_pos (by omega)), fun _ => h⟩
theorem S_nm (G : eG) {M : eM} {B : eBd} (hb : bOk B) (hM : cB M B) (F : Int32 → eM → Prop) {i u e : Nat} (hi : i < bN B) (hu : u < 6) (he : e < 6) (h : F (nI (bNm B i u e)) M) : Cal G 0 68 (1, 0, 0) kX1_numberOf [.ref (G.1 23), .int (nI i), .int (nI e), .int (nI u)] M (eFI F) := by
  have h16 := hb.2.2.1
  have h1 := bNm_in hi hu he
  have e1 : ((nI i * 3) + ((((nI e + 6) - nI u) - ((nI e + 6) - nI u) / 6 * 6) / 2)) = nI (3 * i + (e + 6 - u) % 6 / 2) := by
    rw [eL6, nI_add, nI_sub (show u ≤ e + 6 by omega), nI_rem (by omega) (by decide) (by decide), eL2, nI_div (by omega) (by decide) (by decide), eL3, nI_mul, nI_add, Nat.mul_comm i 3]
  refine C_X1_numberOf G M F _ _ _ ?_
  rw [e1]
  refine ⟨vp_in_nI (by omega) (by decide), ?_⟩
  rw [nI_clamp (by omega), hM.nu h1]
  exact h
theorem S_tf (G : eG) {M : eM} {B : eBd} (hb : bOk B) (hM : cB M B) (F : Int32 → eM → Prop) {k c : Nat} (hk : k < bN B) (hc : c < bC B) (h : F (zMask (bFits B k c)) M) : Cal G 0 68 (1, 0, 0) kX1_turnsFitting [.ref (G.1 23), .int (nI k), .int (nI c)] M (eFI F) := by
  have h16 := hb.2.2.1
  have h49 := hb.c49
  have hf : ∀ q : Bool, (∀ t, t < 6 → bFits B k c t = q) → zMask (bFits B k c) = if q then 63 else 0 := by
    intro q hq
    rw [zMask_ext (q := fun _ => q) hq]
    cases q <;> decide
  refine C_X1_turnsFitting G M F (nI k) (nI c) ⟨vp_in_nI (by omega) (by decide), ?_⟩
  rw [nI_clamp (show c < 2 ^ 31 by omega), nI_clamp (show k < 2 ^ 31 by omega), hM.at hc, hM.ce hk, hM.np, hM.tb hc]
  cases h1 : bAt B c with
  | some k2 =>
    have := (hb.2.2.2.1 c k2 hc h1).1
    rw [hf false (fun t _ => by unfold bFits; rw [h1]; simp)] at h
    exact ⟨fun _ => h, fun q => absurd (nI_pos' (by omega)) q⟩
  | none =>
    refine ⟨fun q => absurd q eM1nle, fun _ => ⟨vp_in_nI (by omega) (by decide), ?_⟩⟩
    cases h2 : bCe B k with
    | some c2 =>
      have := (hb.2.2.2.2.1 k c2 hk h2).1
      rw [hf false (fun t _ => by unfold bFits; rw [h2]; simp)] at h
      exact ⟨fun q => absurd q (nI_pos (by omega)), fun _ => h⟩
    | none =>
      have hP : bP B ≤ 16 := by
        rw [hb.2.2.2.2.2.2]
        have := zSm_le (f := fun k => if (bCe B k).isSome then 1 else 0) (k := 1) (n := bN B) (fun i _ => by split <;> omega)
        omega
      have h6 := bTb_le B c
      refine ⟨fun _ => ⟨fun q => ⟨vp_in_nI (by omega) (by decide), fun q2 => ?_, fun q2 => ?_⟩, fun q => ?_⟩, fun q => absurd eM1lt q⟩
      · have hp : ¬ bP B = 0 := fun z => q (by rw [z]; rfl)
        have ht : 0 < bTb B c := by
          refine Decidable.byContradiction fun z => q2 ?_
          rw [show bTb B c = 0 by omega]
          rfl
        have hm : zMask (bFits B k c) = zMask (fun t => (zFf (bClash B k t c) 6).isNone) := by
          refine zMask_ext (fun t _ => ?_)
          unfold bFits bAgainst
          rw [h1, h2, decide_eq_false hp, decide_eq_true ht]
          simp
        rw [hm] at h
        refine eDown (P := fun e => Ev (eZ G 0 68 0 0 (eFI F)) G 0 68 (1, 0, 0) kX1_turnsFitting 47 [(0, .ref (G.1 23)), (1, .int (nI k)), (2, .int (nI c)), (3, .int (zMask (fun t => (zFf (bClash B k t c) e).isNone))), (4, .int (nI e))] [] M 0 0) (N := 6) ?_ ?_ 0 (Nat.zero_le _)
        · exact B_X1_turnsFitting_47 G M F _ _ _ _ ⟨fun _ => h, fun q => absurd (Int32.le_refl 6) q⟩
        · intro e he hn
          try dsimp only at hn
          rw [nI_succ e] at hn
          refine B_X1_turnsFitting_47 G M F _ _ _ _ ⟨fun q => absurd q (nI_ge he (by decide)), fun _ => ?_⟩
          rw [eIx]
          refine ⟨vp_in_nI (by omega) (by decide), ?_⟩
          rw [nI_clamp (show c * 6 + e < 2 ^ 31 by omega), hM.fa hc he]
          cases h3 : bFace B c e with
          | none =>
            refine ⟨fun _ => B_X1_turnsFitting_94 G M F _ _ _ _ ?_, fun q => absurd eM1lt q⟩
            rw [zMask_ext (q := fun t => (zFf (bClash B k t c) e).isNone) (fun t _ => by rw [zFf_isNone_succ]; unfold bClash; rw [h3]; simp)] at hn
            exact hn
          | some x =>
            have hx := hb.face hc he h3
            refine ⟨fun q => absurd q (nI_pos (by omega)), fun _ => ?_⟩
            rw [eO_some, eIx2]
            refine ⟨vp_in_nI (by omega) (by decide), B_X1_turnsFitting_94 G M F _ _ _ _ ?_⟩
            rw [nI_clamp (by omega), hM.tw hk he hx, zMask_and]
            rw [zMask_ext (q := fun t => (zFf (bClash B k t c) e).isNone && decide (bNm B k t e = x)) (fun t _ => by
              rw [zFf_isNone_succ]
              congr 1
              unfold bClash
              rw [h3]
              by_cases hq : bNm B k t e = x
              · rw [decide_eq_true hq]
                show (!decide (x ≠ bNm B k t e)) = true
                rw [decide_eq_false (fun z => z hq.symm)]
                rfl
              · rw [decide_eq_false hq]
                show (!decide (x ≠ bNm B k t e)) = false
                rw [decide_eq_true (show x ≠ bNm B k t e from fun z => hq z.symm)]
                rfl)] at hn
            exact hn
      · have ht : bTb B c = 0 := (nI_eq (by omega) (by decide)).mp q2
        have hp : ¬ bP B = 0 := fun z => q (by rw [z]; rfl)
        rw [hf false (fun t _ => by unfold bFits; rw [ht, decide_eq_false hp]; simp)] at h
        exact h
      · have hp : bP B = 0 := (nI_eq (by omega) (by decide)).mp q
        rw [hf true (fun t _ => by unfold bFits; rw [h1, h2, decide_eq_true hp]; simp)] at h
        exact h
theorem S_fitsSo (G : eG) {M : eM} {B : eBd} (hb : bOk B) (hM : cB M B) (F : Bool → eM → Prop) {k c t : Nat} (hk : k < bN B) (hc : c < bC B) (ht : t < 6) (h : F (bFits B k c t) M) : Cal G 0 68 (2, 0, 0) kX1_fitsSo [.ref (G.1 23), .int (nI k), .int (nI c), .int (nI t)] M (eFZ F) := by
  refine C_X1_fitsSo G M F (nI k) (nI c) (nI t) (S_tf G hb hM _ hk hc ?_)
  have e1 : nI t &&& 31 = nI t := by
    have : ∀ t, t < 6 → nI t &&& 31 = nI t := by decide
    exact this t ht
  rw [e1, zMask_bit _ ht]
  cases h1 : bFits B k c t with
  | false => rw [h1] at h; exact ⟨fun _ => h, fun q => absurd q (by decide)⟩
  | true => rw [h1] at h; exact ⟨fun q => absurd rfl q, fun _ => h⟩
theorem S_bits (G : eG) (M : eM) (F : Int32 → eM → Prop) (p : Nat → Bool) (h : F (nI (zSm (fun t => if p t then 1 else 0) 6)) M) : Cal G 0 68 (1, 0, 0) kJ6_bitCount_0f7a4 [.int (zMask p)] M (eFI F) := by
  rw [← eBits_mask] at h
  exact C_J6_bitCount_0f7a4 G M F (zMask p) h
theorem S_countWays (G : eG) {M : eM} {B : eBd} (hb : bOk B) (hM : cB M B) (F : Int32 → eM → Prop) {i : Nat} (hi : i < bN B) (h : F (nI (bWays B i)) M) : Cal G 0 68 (2, 0, 0) kX1_countWays [.ref (G.1 23), .int (nI i)] M (eFI F) := by
  have h49 := hb.c49
  refine C_X1_countWays G M F (nI i) ?_
  refine eDown (P := fun c => Ev (eZ G 0 68 0 0 (eFI F)) G 0 68 (2, 0, 0) kX1_countWays 4 [(0, .ref (G.1 23)), (1, .int (nI i)), (2, .int (nI (zSm (fun c => zSm (fun t => if bFits B i c t then 1 else 0) 6) c))), (3, .int (nI c))] [] M 0 0) (N := bC B) ?_ ?_ 0 (Nat.zero_le _)
  · exact B_X1_countWays_4 G M F _ _ _ ⟨fun _ => h, fun q => absurd (by rw [hM.nc]; exact Int32.le_refl _) q⟩
  · intro c hc hn
    try dsimp only at hn
    rw [zSm, nI_succ c, ← nI_add] at hn
    refine B_X1_countWays_4 G M F _ _ _ ⟨fun q => absurd (by rw [hM.nc] at q; exact q) (nI_ge hc (by omega)), fun _ => ?_⟩
    exact S_knows' G hb hM _ hi ⟨fun q => absurd q (by decide), fun _ => S_tf G hb hM _ hi hc (S_bits G M _ _ hn)⟩
theorem S_firstCell (G : eG) {M : eM} {B : eBd} (hb : bOk B) (hM : cB M B) (F : Int32 → eM → Prop) {i : Nat} (hi : i < bN B) (h : F (eO (bFirst B i)) M) : Cal G 0 68 (2, 0, 0) kX1_firstCell [.ref (G.1 23), .int (nI i)] M (eFI F) := by
  have h49 := hb.c49
  refine C_X1_firstCell G M F (nI i) ?_
  have key : ∀ c, c ≤ bC B → (∀ j, j < c → (bAny B i j).isSome = false) → Ev (eZ G 0 68 0 0 (eFI F)) G 0 68 (2, 0, 0) kX1_firstCell 2 [(0, .ref (G.1 23)), (1, .int (nI i)), (2, .int (nI c))] [] M 0 0 := by
    refine eDown (P := fun c => (∀ j, j < c → (bAny B i j).isSome = false) → Ev (eZ G 0 68 0 0 (eFI F)) G 0 68 (2, 0, 0) kX1_firstCell 2 [(0, .ref (G.1 23)), (1, .int (nI i)), (2, .int (nI c))] [] M 0 0) ?_ ?_
    · intro hj
      unfold bFirst at h
      rw [zFf_none hj] at h
      exact B_X1_firstCell_2 G M F _ _ ⟨fun _ => h, fun q => absurd (by rw [hM.nc]; exact Int32.le_refl _) q⟩
    · intro c hc hn hj
      refine B_X1_firstCell_2 G M F _ _ ⟨fun q => absurd (by rw [hM.nc] at q; exact q) (nI_ge hc (by omega)), fun _ => ?_⟩
      refine S_knows' G hb hM _ hi ⟨fun q => absurd q (by decide), fun _ => S_tf G hb hM _ hi hc ⟨fun q => ?_, fun q => ?_⟩⟩
      · rw [← nI_succ]
        refine hn (fun j hjc => ?_)
        by_cases hq : j = c
        · subst hq
          unfold bAny
          rw [(zMask_0 _).mp q]
          rfl
        · exact hj j (by omega)
      · unfold bFirst at h
        rw [zFf_some hc (by
          cases h1 : bAny B i c with
          | none => exact absurd ((zMask_0 _).mpr h1) q
          | some u => rfl) hj] at h
        exact h
  exact key 0 (Nat.zero_le _) (fun j hj => absurd hj (by omega))
/-- the first turn of a cell with a way -/
theorem S_firstTurn (G : eG) {M : eM} {B : eBd} (hb : bOk B) (hM : cB M B) (F : Int32 → eM → Prop) {k c t : Nat} (hk : k < bN B) (hc : c < bC B) (ht : bAny B k c = some t) (h : F (nI t) M) : Cal G 0 68 (2, 0, 0) kX1_firstTurn [.ref (G.1 23), .int (nI k), .int (nI c)] M (eFI F) := by
  obtain ⟨h6, h1, h2⟩ := zFf_some' ht
  refine C_X1_firstTurn G M F (nI k) (nI c) (S_tf G hb hM _ hk hc ?_)
  have e1 : ∀ t, t < 6 → nI t &&& 31 = nI t := by decide
  refine eDown (P := fun u => Ev (eZ G 0 68 0 0 (eFI F)) G 0 68 (2, 0, 0) kX1_firstTurn 10 [(3, .int (zMask (bFits B k c))), (4, .int (nI u))] [] M 0 0) (N := t) ?_ ?_ 0 (Nat.zero_le _)
  · refine B_X1_firstTurn_10 G M F _ _ ⟨fun _ => h, fun _ => ?_⟩
    rw [e1 t h6, zMask_bit _ h6, h1]
    exact ⟨fun _ => h, fun q => absurd q (by decide)⟩
  · intro u hu hn
    try dsimp only at hn
    rw [nI_succ u] at hn
    refine B_X1_firstTurn_10 G M F _ _ ⟨fun q => absurd q (nI_ge (show u < 5 by omega) (by decide)), fun _ => ?_⟩
    rw [e1 u (by omega), zMask_bit _ (show u < 6 by omega), h2 u hu]
    exact ⟨fun q => absurd rfl q, fun _ => hn⟩
theorem S_firstClash (G : eG) {M : eM} {B : eBd} (hb : bOk B) (hM : cB M B) (F : Int32 → eM → Prop) {i c u : Nat} (hi : i < bN B) (hc : c < bC B) (hu : u < 6) (h : F (eO (bAgainst B i c u)) M) : Cal G 0 68 (2, 0, 0) kX1_firstClash [.ref (G.1 23), .int (nI i), .int (nI c), .int (nI u)] M (eFI F) := by
  have h49 := hb.c49
  refine C_X1_firstClash G M F (nI i) (nI c) (nI u) ?_
  have key : ∀ e, e ≤ 6 → (∀ j, j < e → bClash B i u c j = false) → Ev (eZ G 0 68 0 0 (eFI F)) G 0 68 (2, 0, 0) kX1_firstClash 3 [(0, .ref (G.1 23)), (1, .int (nI i)), (2, .int (nI c)), (3, .int (nI u)), (4, .int (nI e))] [] M 0 0 := by
    refine eDown (P := fun e => (∀ j, j < e → bClash B i u c j = false) → Ev (eZ G 0 68 0 0 (eFI F)) G 0 68 (2, 0, 0) kX1_firstClash 3 [(0, .ref (G.1 23)), (1, .int (nI i)), (2, .int (nI c)), (3, .int (nI u)), (4, .int (nI e))] [] M 0 0) ?_ ?_
    · intro hj
      unfold bAgainst at h
      rw [zFf_none hj] at h
      exact B_X1_firstClash_3 G M F _ _ _ _ ⟨fun _ => h, fun q => absurd (Int32.le_refl 6) q⟩
    · intro e he hn hj
      have go : bClash B i u c e = false → Ev (eZ G 0 68 0 0 (eFI F)) G 0 68 (2, 0, 0) kX1_firstClash 45 [(0, .ref (G.1 23)), (1, .int (nI i)), (2, .int (nI c)), (3, .int (nI u)), (4, .int (nI e))] [] M 0 0 := by
        intro hf
        refine B_X1_firstClash_45 G M F _ _ _ _ ?_
        rw [← nI_succ]
        refine hn (fun j hje => ?_)
        by_cases hq : j = e
        · subst hq; exact hf
        · exact hj j (by omega)
      refine B_X1_firstClash_3 G M F _ _ _ _ ⟨fun q => absurd q (nI_ge he (by decide)), fun _ => ?_⟩
      rw [eIx]
      refine ⟨vp_in_nI (by omega) (by decide), ?_⟩
      rw [nI_clamp (show c * 6 + e < 2 ^ 31 by omega), hM.fa hc he]
      cases h1 : bFace B c e with
      | none => exact ⟨fun _ => go (by unfold bClash; rw [h1]), fun q => absurd eM1lt q⟩
      | some x =>
        have hx := hb.face hc he h1
        have hy := hb.nm hi hu he
        have hcl : bClash B i u c e = decide (x ≠ bNm B i u e) := by unfold bClash; rw [h1]
        refine ⟨fun q => absurd q (nI_pos (by omega)), fun _ => S_nm G hb hM _ hi hu he ⟨fun q => go ?_, fun q => ?_⟩⟩
        · rw [hcl, (nI_eq (by omega) (by omega)).mp q]
          exact decide_eq_false (fun z => z rfl)
        · unfold bAgainst at h
          rw [zFf_some he (by rw [hcl]; exact decide_eq_true (fun z => q (by rw [z]; rfl))) hj] at h
          exact h
  exact key 0 (Nat.zero_le _) (fun j hj => absurd hj (by omega))
theorem S_pointsFor (G : eG) {M : eM} {B : eBd} (hb : bOk B) (hM : cB M B) (F : Int32 → eM → Prop) {c : Nat} (hc : c < bC B) (h : F (nI (bGain B c)) M) : Cal G 0 68 (2, 0, 0) kX1_pointsFor [.ref (G.1 23), .int (nI c)] M (eFI F) := by
  have h49 := hb.c49
  refine C_X1_pointsFor G M F (nI c) ?_
  refine eDown (P := fun e => Ev (eZ G 0 68 0 0 (eFI F)) G 0 68 (2, 0, 0) kX1_pointsFor 4 [(0, .ref (G.1 23)), (1, .int (nI c)), (2, .int (nI (zSm (bGainE B c) e))), (3, .int (nI e))] [] M 0 0) (N := 6) ?_ ?_ 0 (Nat.zero_le _)
  · exact B_X1_pointsFor_4 G M F _ _ _ ⟨fun _ => h, fun q => absurd (Int32.le_refl 6) q⟩
  · intro e he hn
    rw [zSm, nI_succ e] at hn
    refine B_X1_pointsFor_4 G M F _ _ _ ⟨fun q => absurd q (nI_ge he (by decide)), fun _ => ?_⟩
    rw [eIx]
    refine ⟨vp_in_nI (by omega) (by decide), vp_in_nI (by omega) (by decide), ?_⟩
    rw [nI_clamp (show c * 6 + e < 2 ^ 31 by omega), hM.fa hc he, hM.be hc he, eMax0 _ (fun x hx => hb.face hc he hx)]
    cases h1 : bBes B c e with
    | none =>
      rw [bGainE_none h1, ← nI_add] at hn
      exact ⟨fun _ => B_X1_pointsFor_60 G M F _ _ _ hn, fun q => absurd eM1lt q⟩
    | some d =>
      rw [bGainE_some h1] at hn
      have hd := (hb.bes hc he h1).1
      have h6 := bTb_le B d
      refine ⟨fun q => absurd q (nI_pos (by omega)), fun _ => ⟨vp_in_nI (by omega) (by decide), ?_⟩⟩
      rw [eO_some, nI_clamp (show d < 2 ^ 31 by omega), hM.tb hd]
      refine ⟨fun q => B_X1_pointsFor_60 G M F _ _ _ ?_, fun q => B_X1_pointsFor_60 G M F _ _ _ ?_⟩
      · rw [if_neg (fun z => q (by rw [z]; rfl)), Nat.add_zero, ← nI_add] at hn
        exact hn
      · rw [if_pos ((nI_eq (by omega) (by decide)).mp q), ← Nat.add_assoc, ← nI_add, ← nI_add] at hn
        exact hn
theorem S_richestCell (G : eG) {M : eM} {B : eBd} (hb : bOk B) (hM : cB M B) (F : Int32 → eM → Prop) {i : Nat} (hi : i < bN B) (h : F (eO (bRich B i)) M) : Cal G 0 68 (3, 0, 0) kX1_richestCell [.ref (G.1 23), .int (nI i)] M (eFI F) := by
  have h49 := hb.c49
  refine C_X1_richestCell G M F (nI i) ?_
  refine eDown (P := fun c => Ev (eZ G 0 68 0 0 (eFI F)) G 0 68 (3, 0, 0) kX1_richestCell 7 [(0, .ref (G.1 23)), (1, .int (nI i)), (2, .int (eO (zBest (fun c => (bAny B i c).isSome) (bGain B) c))), (3, .int (eOg (bGain B) (zBest (fun c => (bAny B i c).isSome) (bGain B) c))), (4, .int (nI c))] [] M 0 0) (N := bC B) ?_ ?_ 0 (Nat.zero_le _)
  · exact B_X1_richestCell_7 G M F _ _ _ _ ⟨fun _ => h, fun q => absurd (by rw [hM.nc]; exact Int32.le_refl _) q⟩
  · intro c hc hn
    try dsimp only at hn
    have hg := bGain_le hb hc
    rw [nI_succ c] at hn
    refine B_X1_richestCell_7 G M F _ _ _ _ ⟨fun q => absurd (by rw [hM.nc] at q; exact q) (nI_ge hc (by omega)), fun _ => S_tf G hb hM _ hi hc ⟨fun q => B_X1_richestCell_46 G M F _ _ _ _ ?_, fun q => ?_⟩⟩
    · have e1 : zBest (fun c => (bAny B i c).isSome) (bGain B) (c + 1) = zBest (fun c => (bAny B i c).isSome) (bGain B) c := by
        rw [zBest]
        have e2 : (bAny B i c).isSome = false := by unfold bAny; rw [(zMask_0 _).mp q]; rfl
        cases zBest (fun c => (bAny B i c).isSome) (bGain B) c with
        | none => try dsimp only; rw [e2]; rfl
        | some b => try dsimp only; rw [e2]; rfl
      rw [e1] at hn
      exact hn
    · have e2 : (bAny B i c).isSome = true := by
        cases h1 : bAny B i c with
        | none => exact absurd ((zMask_0 _).mpr h1) q
        | some u => rfl
      rw [zBest] at hn
      refine S_pointsFor G hb hM _ hc ?_
      cases h2 : zBest (fun c => (bAny B i c).isSome) (bGain B) c with
      | none =>
        rw [h2] at hn
        try dsimp only at hn
        rw [if_pos e2] at hn
        refine ⟨fun q2 => absurd q2 ?_, fun _ => S_pointsFor G hb hM _ hc (B_X1_richestCell_46 G M F _ _ _ _ hn)⟩
        exact fun z => absurd (Int32.lt_of_le_of_lt z eM1lt) (nI_pos (by omega))
      | some b =>
        rw [h2] at hn
        try dsimp only at hn
        rw [e2] at hn
        have hgb := bGain_le hb (show b < bC B by have := (zBest_lt h2).1; omega)
        refine ⟨fun q2 => B_X1_richestCell_46 G M F _ _ _ _ ?_, fun q2 => S_pointsFor G hb hM _ hc (B_X1_richestCell_46 G M F _ _ _ _ ?_)⟩
        · have := (nI_leI (by omega) (by omega)).mp (show nI (bGain B c) ≤ nI (bGain B b) from q2)
          rw [decide_eq_false (show ¬ bGain B b < bGain B c by omega)] at hn
          exact hn
        · have : ¬ bGain B c ≤ bGain B b := fun z => q2 ((nI_leI (by omega) (by omega)).mpr z)
          rw [decide_eq_true (show bGain B b < bGain B c by omega)] at hn
          exact hn
theorem S_richestTile (G : eG) {M : eM} {B : eBd} (hb : bOk B) (hM : cB M B) (F : Int32 → eM → Prop) (h : F (eO (bBestT B)) M) : Cal G 0 68 (4, 0, 0) kX1_richestTile [.ref (G.1 23)] M (eFI F) := by
  have h49 := hb.c49
  have h16 := hb.2.2.1
  refine C_X1_richestTile G M F ?_
  refine eDown (P := fun k => Ev (eZ G 0 68 0 0 (eFI F)) G 0 68 (4, 0, 0) kX1_richestTile 6 [(0, .ref (G.1 23)), (1, .int (eO (zBest (fun k => (bRich B k).isSome) (bRichG B) k))), (2, .int (eOg (bRichG B) (zBest (fun k => (bRich B k).isSome) (bRichG B) k))), (3, .int (nI k))] [] M 0 0) (N := bN B) ?_ ?_ 0 (Nat.zero_le _)
  · exact B_X1_richestTile_6 G M F _ _ _ ⟨fun _ => h, fun q => absurd (by rw [hM.nn]; exact Int32.le_refl _) q⟩
  · intro k hk hn
    try dsimp only at hn
    rw [nI_succ k, zBest] at hn
    refine B_X1_richestTile_6 G M F _ _ _ ⟨fun q => absurd (by rw [hM.nn] at q; exact q) (nI_ge hk (by omega)), fun _ => S_richestCell G hb hM _ hk ?_⟩
    cases h1 : bRich B k with
    | none =>
      refine ⟨fun _ => B_X1_richestTile_45 G M F _ _ _ ?_, fun q => absurd eM1lt q⟩
      rw [h1] at hn
      cases h2 : zBest (fun k => (bRich B k).isSome) (bRichG B) k with
      | none => rw [h2] at hn; exact hn
      | some b => rw [h2] at hn; exact hn
    | some c =>
      have hc := (zBest_lt h1).1
      have hg := bGain_le hb hc
      have e1 : bRichG B k = bGain B c := by unfold bRichG; rw [h1]
      rw [h1] at hn
      refine ⟨fun q => absurd q (nI_pos (by omega)), fun _ => S_pointsFor G hb hM _ hc ?_⟩
      cases h2 : zBest (fun k => (bRich B k).isSome) (bRichG B) k with
      | none =>
        rw [h2] at hn
        refine ⟨fun q2 => absurd (Int32.lt_of_le_of_lt q2 eM1lt) (nI_pos (by omega)), fun _ => S_pointsFor G hb hM _ hc (B_X1_richestTile_45 G M F _ _ _ ?_)⟩
        rw [← e1]
        exact hn
      | some b =>
        rw [h2] at hn
        try dsimp only at hn
        have hgb := bRichG_le hb b
        rw [show ((some c : Option Nat).isSome && decide (bRichG B b < bRichG B k)) = decide (bRichG B b < bGain B c) by rw [e1]; rfl] at hn
        refine ⟨fun q2 => B_X1_richestTile_45 G M F _ _ _ ?_, fun q2 => S_pointsFor G hb hM _ hc (B_X1_richestTile_45 G M F _ _ _ ?_)⟩
        · have := (nI_leI (by omega) (by omega)).mp (show nI (bGain B c) ≤ nI (bRichG B b) from q2)
          rw [decide_eq_false (show ¬ bRichG B b < bGain B c by omega)] at hn
          exact hn
        · have : ¬ bGain B c ≤ bRichG B b := fun z => q2 ((nI_leI (by omega) (by omega)).mpr z)
          rw [decide_eq_true (show bRichG B b < bGain B c by omega)] at hn
          rw [← e1]
          exact hn
theorem S_matchesOn (G : eG) {M : eM} {B : eBd} (hb : bOk B) (hM : cB M B) (F : Int32 → eM → Prop) {c : Nat} (hc : c < bC B) (h : F (nI (bMatchOn B c)) M) : Cal G 0 68 (1, 0, 0) kX1_matchesOn [.ref (G.1 23), .int (nI c)] M (eFI F) := by
  have h49 := hb.c49
  have h16 := hb.2.2.1
  unfold bMatchOn at h
  refine C_X1_matchesOn G M F (nI c) ⟨vp_in_nI (by omega) (by decide), ?_⟩
  rw [nI_clamp (show c < 2 ^ 31 by omega), hM.at hc, hM.tb hc]
  cases h1 : bAt B c with
  | none => rw [h1] at h; exact ⟨fun _ => h, fun q => absurd eM1lt q⟩
  | some k =>
    have := (hb.2.2.2.1 c k hc h1).1
    rw [h1] at h
    exact ⟨fun q => absurd q (nI_pos (by omega)), fun _ => ⟨vp_in_nI (by omega) (by decide), h⟩⟩
theorem S_isEnc (G : eG) {M : eM} {B : eBd} (hb : bOk B) (hM : cB M B) (F : Bool → eM → Prop) {c : Nat} (hc : c < bC B) (h : F (bRing B c) M) : Cal G 0 68 (1, 0, 0) kX1_isEncircled [.ref (G.1 23), .int (nI c)] M (eFZ F) := by
  have h49 := hb.c49
  have h6 := bTb_le B c
  unfold bRing at h
  refine C_X1_isEncircled G M F (nI c) ⟨vp_in_nI (by omega) (by decide), ?_⟩
  rw [nI_clamp (show c < 2 ^ 31 by omega), hM.tb hc]
  refine ⟨fun q => ?_, fun q => ?_⟩
  · rw [decide_eq_false (fun z => q (by rw [z]; rfl))] at h
    exact h
  · rw [decide_eq_true ((nI_eq (by omega) (by decide)).mp q)] at h
    exact h
theorem S_countMatches (G : eG) {M : eM} {B : eBd} (hb : bOk B) (hM : cB M B) (F : Int32 → eM → Prop) (h : F (nI (bMatch B)) M) : Cal G 0 68 (2, 0, 0) kX1_countMatches [.ref (G.1 23)] M (eFI F) := by
  have h49 := hb.c49
  refine C_X1_countMatches G M F ?_
  refine eDown (P := fun c => Ev (eZ G 0 68 0 0 (eFI F)) G 0 68 (2, 0, 0) kX1_countMatches 4 [(0, .ref (G.1 23)), (1, .int (nI (zSm (bMatchOn B) c))), (2, .int (nI c))] [] M 0 0) (N := bC B) ?_ ?_ 0 (Nat.zero_le _)
  · refine B_X1_countMatches_4 G M F _ _ ⟨fun _ => ?_, fun q => absurd (by rw [hM.nc]; exact Int32.le_refl _) q⟩
    have hle := zSm_le (f := bMatchOn B) (k := 6) (n := bC B) (fun c _ => by have := bTb_le B c; unfold bMatchOn; split <;> omega)
    show F (nI (zSm (bMatchOn B) (bC B)) / nI 2) M
    rw [nI_div (show zSm (bMatchOn B) (bC B) < 2 ^ 31 by omega) (by decide) (by decide)]
    exact h
  · intro c hc hn
    try dsimp only at hn
    rw [zSm, nI_succ c, ← nI_add] at hn
    exact B_X1_countMatches_4 G M F _ _ ⟨fun q => absurd (by rw [hM.nc] at q; exact q) (nI_ge hc (by omega)), fun _ => S_matchesOn G hb hM _ hc hn⟩
theorem S_sumOfMatches (G : eG) {M : eM} {B : eBd} (hb : bOk B) (hM : cB M B) (F : Int32 → eM → Prop) (h : F (nI (zSm (bHereF B) (bC B))) M) : Cal G 0 68 (2, 0, 0) kX1_sumOfMatches [.ref (G.1 23)] M (eFI F) := by
  have h49 := hb.c49
  have h16 := hb.2.2.1
  refine C_X1_sumOfMatches G M F ?_
  refine eDown (P := fun c => Ev (eZ G 0 68 0 0 (eFI F)) G 0 68 (2, 0, 0) kX1_sumOfMatches 4 [(0, .ref (G.1 23)), (1, .int (nI (zSm (bHereF B) c))), (2, .int (nI c))] [] M 0 0) (N := bC B) ?_ ?_ 0 (Nat.zero_le _)
  · exact B_X1_sumOfMatches_4 G M F _ _ ⟨fun _ => h, fun q => absurd (by rw [hM.nc]; exact Int32.le_refl _) q⟩
  · intro c hc hn
    try dsimp only at hn
    rw [zSm, nI_succ c] at hn
    unfold bHereF at hn
    refine B_X1_sumOfMatches_4 G M F _ _ ⟨fun q => absurd (by rw [hM.nc] at q; exact q) (nI_ge hc (by omega)), fun _ => ?_⟩
    cases h1 : bAt B c with
    | none =>
      rw [h1] at hn
      refine B_X1_sumOfMatches_14 G M F _ _ _ ⟨vp_in_nI (by omega) (by decide), fun _ => B_X1_sumOfMatches_52 G M F _ _ hn, fun q => absurd ?_ q⟩
      rw [nI_clamp (show c < 2 ^ 31 by omega), hM.at hc, h1]
      exact eM1lt
    | some k =>
      have hk := (hb.2.2.2.1 c k hc h1).1
      rw [h1] at hn
      have hat : ¬ M 24 (nI c).toNatClampNeg < 0 := by
        rw [nI_clamp (show c < 2 ^ 31 by omega), hM.at hc, h1]
        exact nI_pos (by omega)
      refine eDown (P := fun e => Ev (eZ G 0 68 0 0 (eFI F)) G 0 68 (2, 0, 0) kX1_sumOfMatches 14 [(0, .ref (G.1 23)), (1, .int (nI (zSm (bHereF B) c + zSm (fun e => (bFace B c e).getD 0) e))), (2, .int (nI c)), (3, .int (nI e))] [] M 0 0) (N := 3) ?_ ?_ 0 (Nat.zero_le _)
      · exact B_X1_sumOfMatches_14 G M F _ _ _ ⟨vp_in_nI (by omega) (by decide), fun q => absurd q hat, fun _ => ⟨fun _ => B_X1_sumOfMatches_52 G M F _ _ hn, fun q => absurd (Int32.le_refl 3) q⟩⟩
      · intro e he hn2
        try dsimp only at hn2
        rw [zSm, nI_succ e, ← Nat.add_assoc, ← nI_add (zSm (bHereF B) c + _)] at hn2
        refine B_X1_sumOfMatches_14 G M F _ _ _ ⟨vp_in_nI (by omega) (by decide), fun q => absurd q hat, fun _ => ⟨fun q => absurd q (nI_ge he (by decide)), fun _ => ?_⟩⟩
        rw [eIx]
        refine ⟨vp_in_nI (by omega) (by decide), ?_⟩
        rw [nI_clamp (show c * 6 + e < 2 ^ 31 by omega), hM.fa hc (by omega), eMax0 _ (fun x hx => hb.face hc (by omega) hx)]
        exact hn2
theorem S_countRings (G : eG) {M : eM} {B : eBd} (hb : bOk B) (hM : cB M B) (F : Int32 → eM → Prop) (h : F (nI (bRings B)) M) : Cal G 0 68 (2, 0, 0) kX1_countRings [.ref (G.1 23)] M (eFI F) := by
  have h49 := hb.c49
  refine C_X1_countRings G M F ?_
  refine eDown (P := fun c => Ev (eZ G 0 68 0 0 (eFI F)) G 0 68 (2, 0, 0) kX1_countRings 4 [(0, .ref (G.1 23)), (1, .int (nI (zSm (fun c => if bRing B c then 1 else 0) c))), (2, .int (nI c))] [] M 0 0) (N := bC B) ?_ ?_ 0 (Nat.zero_le _)
  · exact B_X1_countRings_4 G M F _ _ ⟨fun _ => h, fun q => absurd (by rw [hM.nc]; exact Int32.le_refl _) q⟩
  · intro c hc hn
    try dsimp only at hn
    rw [zSm, nI_succ c] at hn
    refine B_X1_countRings_4 G M F _ _ ⟨fun q => absurd (by rw [hM.nc] at q; exact q) (nI_ge hc (by omega)), fun _ => S_isEnc G hb hM _ hc ⟨fun q => ?_, fun q => ?_⟩⟩
    · rw [q] at hn; exact B_X1_countRings_23 G M F _ _ hn
    · rw [q, if_pos rfl, nI_succ] at hn; exact B_X1_countRings_23 G M F _ _ hn
theorem S_countPoints (G : eG) {M : eM} {B : eBd} (hb : bOk B) (hm : bMeet B) (hM : cB M B) (F : Int32 → eM → Prop) (h : F (nI (bPoints B)) M) : Cal G 0 68 (3, 0, 0) kX1_countPoints [.ref (G.1 23)] M (eFI F) := by
  refine C_X1_countPoints G M F (S_sumOfMatches G hb hM _ (S_countRings G hb hM _ ?_))
  rw [eL10, nI_mul, nI_add, zSm_ext (fun c hc => bHereF_eq hm hc)]
  exact h

