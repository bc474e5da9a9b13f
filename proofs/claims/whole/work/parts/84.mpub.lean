/-! ===== the model's public calls ===== -/
def sM (M : eM) (S : gS) : Prop := M 100 2 = nI (gSz S) ∧ (∀ i, i < 2000 → M 101 i = nI (gBt S i)) ∧ M 100 3 = gEr S ∧ mPg M (gTv S) (gOs S) ∧ mB 130 131 132 133 M (gB S) ∧ M 130 4 = gR S
def sFm (M M' : eM) : Prop := (∀ c, c = 101 ∨ (107 ≤ c ∧ c ≤ 117) ∨ (130 ≤ c ∧ c ≤ 133) → M' c = M c) ∧ M' 100 2 = M 100 2 ∧ M' 100 3 = M 100 3
theorem sFm.refl (M : eM) : sFm M M := ⟨fun _ _ => rfl, rfl, rfl⟩
theorem sFm.trans {M M1 M2 : eM} (h : sFm M M1) (h1 : sFm M1 M2) : sFm M M2 := ⟨fun c a => (h1.1 c a).trans (h.1 c a), h1.2.1.trans h.2.1, h1.2.2.trans h.2.2⟩
theorem sM.fr {M M' : eM} {S : gS} (h : sM M S) (hf : sFm M M') : sM M' S := by
  obtain ⟨h1, h2, h3, h4, h5, h6⟩ := h
  refine ⟨hf.2.1.trans h1, fun i hi => ?_, hf.2.2.trans h3, h4.fr (fun c c1 c2 => hf.1 c (by omega)), h5.of (hf.1 107 (by omega)) (hf.1 108 (by omega)) (hf.1 131 (by omega)) (hf.1 132 (by omega)) (hf.1 133 (by omega)) (hf.1 130 (by omega)), ?_⟩
  · rw [hf.1 101 (by omega)]; exact h2 i hi
  · rw [hf.1 130 (by omega)]; exact h6
theorem sM.th {M : eM} {S : gS} (h : sM M S) (x : Int32) : sM (eU M 100 0 x) S := h.fr ⟨fun c hc => eU_other _ _ _ (by omega), eU_place _ _ _ _ (by decide), eU_place _ _ _ _ (by decide)⟩
theorem sM.q {M M' : eM} {S : gS} {B : eBd} {r : Int32} (h : sM M S) (hf : qFm 130 M M') (hB : mB 130 131 132 133 M' B) (h5 : M' 130 4 = r) : sM M' (gWB S B r) := by
  obtain ⟨h1, h2, h3, h4, -, -⟩ := h
  have f0 : M' 100 = M 100 := hf.1 100 (by decide) (Or.inl (by decide))
  have f1 : M' 101 = M 101 := hf.1 101 (by decide) (Or.inl (by decide))
  refine ⟨?_, fun i hi => ?_, ?_, h4.q hf (by decide), hB, h5⟩
  · rw [f0]; exact h1
  · rw [f1]; exact h2 i hi
  · rw [f0]; exact h3
theorem rFm.qq {s : Nat} {M M' : eM} (h : rFm s M M') : qFm s M M' := ⟨h.1, fun j a _ => h.2 j a⟩
theorem hbI.s {M M1 : eM} {B : eBd} {o : Option (Nat × Nat)} (h : hbI M M1 B o) : sFm M M1 ∧ M1 100 0 = M 100 0 := ⟨⟨fun c hc => h.1 c (by omega), h.2.1 2 (by decide) (by decide) (by decide), h.2.1 3 (by decide) (by decide) (by decide)⟩, h.2.1 0 (by decide) (by decide) (by decide)⟩
theorem dIn_le {a : Int32} {n : Nat} (hn : n < 2 ^ 31) : (0 ≤ a ∧ a ≤ nI n - 1) ↔ dIn a n := by
  have e : (nI n - 1).toInt = (n : Int) - 1 := by
    cases n with
    | zero => rfl
    | succ m => rw [nI_succ, show nI m + 1 - 1 = nI m from by rw [Int32.add_sub_cancel], nI_toInt (by omega)]; omega
  constructor
  · intro h
    refine ⟨h.1, Int32.lt_iff_toInt_lt.mpr ?_⟩
    have h2 := Int32.le_iff_toInt_le.mp h.2
    rw [nI_toInt hn]
    omega
  · intro h
    refine ⟨h.1, Int32.le_iff_toInt_le.mpr ?_⟩
    have h2 := Int32.lt_iff_toInt_lt.mp h.2
    rw [nI_toInt hn] at h2
    omega
theorem i32_asc (a b : Int32) : a + b - a = b := by rw [Int32.add_comm a b, Int32.add_sub_cancel]
theorem eO_m {o : Option Nat} (h : ∀ k, o = some k → k < 2 ^ 31) : (eO o = -1 ↔ o = none) := by
  cases o with
  | none => exact ⟨fun _ => rfl, fun _ => rfl⟩
  | some k => exact ⟨fun z => absurd z (eNeg k (h k rfl)), fun z => by cases z⟩
theorem bWay_none {B : eBd} {k : Nat} (h : bFirst B k = none) : bWay B k = none := by unfold bWay; rw [h]
theorem bWay_some {B : eBd} {k c : Nat} (h : bFirst B k = some c) : bWay B k = some (6 * c + (bAny B k c).getD 0) := by unfold bWay; rw [h]
section PubM
variable {G : eG}
theorem D_cell {M : eM} {B : eBd} (hb : bOk B) (hB : mB 130 131 132 133 M B) (a : Int32) (F : Bool → eM → Prop) (h : F (decide (dIn a (bC B))) M) : Cal G 100 40 (2, 0, 0) kX13_isCell [.ref (G.1 100), .int a] M (eFZ F) := by
  have h49 := hb.c49
  refine C_X13_isCell G M F a (S_cells G hB _ (S_isIn G M _ a 0 _ ?_))
  rw [decide_eq_decide.mpr (dIn_le (a := a) (n := bC B) (by omega))]
  exact h
theorem D_tile {M : eM} {B : eBd} (hb : bOk B) (hB : mB 130 131 132 133 M B) (a : Int32) (F : Bool → eM → Prop) (h : F (decide (dIn a (bN B))) M) : Cal G 100 40 (2, 0, 0) kX13_isTile [.ref (G.1 100), .int a] M (eFZ F) := by
  have h16 := hb.2.2.1
  refine C_X13_isTile G M F a (S_isIn G M _ a 0 _ ?_)
  rw [hB.1.2.2, decide_eq_decide.mpr (dIn_le (a := a) (n := bN B) (by omega))]
  exact h
theorem D_edge {M : eM} (a : Int32) (F : Bool → eM → Prop) (h : F (decide (dIn a 6)) M) : Cal G 100 40 (2, 0, 0) kX13_isEdge [.int a] M (eFZ F) := by
  refine C_X13_isEdge G M F a (S_isIn G M _ a 0 _ ?_)
  rw [show (5 : Int32) = nI 6 - 1 from by decide, decide_eq_decide.mpr (dIn_le (a := a) (n := 6) (by decide))]
  exact h
theorem D_asked {M : eM} {B : eBd} (hb : bOk B) (hB : mB 130 131 132 133 M B) (k c u : Int32) (F : Bool → eM → Prop) (h1 : dWay B k c u → F true (eU M 100 0 0)) (h0 : ¬ dWay B k c u → F false (eU M 100 0 1)) : Cal G 100 40 (3, 0, 0) kX13_isAsked [.ref (G.1 100), .int k, .int c, .int u] M (eFZ F) := by
  have no : ¬ dWay B k c u → Ev (eZ G 100 40 0 0 (eFZ F)) G 100 40 (3, 0, 0) kX13_isAsked 27 [(0, .ref (G.1 100))] [] M 0 0 := fun q => B_X13_isAsked_27 G M F ⟨fun _ => h0 q, fun z => absurd rfl z⟩
  refine C_X13_isAsked G M F k c u (D_tile hb hB k _ ⟨fun q => no (fun z => of_decide_eq_false q z.1), fun q1 => D_cell hb hB c _ ⟨fun q => no (fun z => of_decide_eq_false q z.2.1), fun q2 => D_edge u _ ⟨fun q => no (fun z => of_decide_eq_false q z.2.2), fun q3 => ⟨fun q => absurd q (by decide), fun _ => h1 ⟨of_decide_eq_true q1, of_decide_eq_true q2, of_decide_eq_true q3⟩⟩⟩⟩⟩)
theorem D_lies {M : eM} {B : eBd} (hb : bOk B) (hB : mB 130 131 132 133 M B) (a : Int32) (F : Bool → eM → Prop) (h1 : ¬ dIn a (bN B) → F false (eU M 100 0 1)) (h2 : ∀ k, k < bN B → a = nI k → bCe B k = none → F false (eU M 100 0 2)) (h3 : ∀ k c, k < bN B → a = nI k → bCe B k = some c → F true (eU M 100 0 0)) : Cal G 100 40 (3, 0, 0) kX13_lies [.ref (G.1 100), .int a] M (eFZ F) := by
  have h16 := hb.2.2.1
  have h49 := hb.c49
  refine C_X13_lies G M F a (D_tile hb hB a _ ⟨fun q => ?_, fun q => ⟨fun _ => h1 (of_decide_eq_false q), fun z => absurd z (by rw [eU_same]; decide)⟩⟩)
  obtain ⟨k, hk, rfl⟩ := dIn_nat (by omega) (of_decide_eq_true q)
  refine ⟨vp_in_nI (by omega) (by decide), ?_⟩
  rw [nI_clamp (show k < 2 ^ 31 by omega), hB.2.2.2.1 k hk]
  cases h : bCe B k with
  | none => exact ⟨fun z => absurd rfl z, fun _ => ⟨fun _ => h2 k hk rfl h, fun z => absurd z (by rw [eU_same]; decide)⟩⟩
  | some c =>
    have hc := (hb.2.2.2.2.1 k c hk h).1
    exact ⟨fun _ => ⟨fun z => absurd (eU_same _ _ _ _) z, fun _ => h3 k c hk rfl h⟩, fun z => absurd z (eNeg c (by omega))⟩
theorem D_left {M : eM} {B : eBd} (hb : bOk B) (hB : mB 130 131 132 133 M B) {k : Nat} (hk : k < bN B) (F : Bool → eM → Prop) (h : F (bLeft B k) M) : Cal G 100 40 (7, 0, 0) kX13_leftover [.ref (G.1 100), .int (nI k)] M (eFZ F) := by
  have h16 := hb.2.2.1
  have h49 := hb.c49
  refine C_X13_leftover G M F _ ⟨vp_in_nI (by omega) (by decide), ?_⟩
  rw [nI_clamp (show k < 2 ^ 31 by omega), hB.2.2.2.1 k hk]
  unfold bLeft at h
  cases h1 : bCe B k with
  | some c =>
    have hc := (hb.2.2.2.2.1 k c hk h1).1
    rw [h1] at h
    exact ⟨fun _ => h, fun z => absurd z (eNeg c (by omega))⟩
  | none =>
    rw [h1] at h
    refine ⟨fun z => absurd rfl z, fun _ => S_firstWay_130 G hb hB _ hk ?_⟩
    cases h2 : bFirst B k with
    | none =>
      rw [h2] at h
      rw [bWay_none h2]
      exact ⟨fun z => absurd rfl z, fun _ => h⟩
    | some c =>
      rw [h2] at h
      obtain ⟨hc, t, ht, ht6, -⟩ := bFirst_some h2
      rw [bWay_some h2, ht]
      refine ⟨fun _ => h, fun z => absurd z (eNeg _ ?_)⟩
      show 6 * c + t < 2 ^ 31
      omega
theorem D_on {M : eM} {B : eBd} (hb : bOk B) (hB : mB 130 131 132 133 M B) {c : Nat} (hc : c < bC B) (F : Int32 → eM → Prop) (h : F (nI (bMatchOn B c)) M) : Cal G 100 40 (5, 0, 0) kX13_matchesAt [.ref (G.1 100), .int (nI c)] M (eFI F) := by
  have h16 := hb.2.2.1
  have h49 := hb.c49
  refine C_X13_matchesAt G M F _ ⟨vp_in_nI (by omega) (by decide), ?_⟩
  rw [nI_clamp (show c < 2 ^ 31 by omega), hB.2.2.1 c hc]
  unfold bMatchOn at h
  cases h1 : bAt B c with
  | some k =>
    have hk := (hb.2.2.2.1 c k hc h1).1
    rw [h1] at h
    exact ⟨fun _ => S_tb_130 G hb hB _ hc h, fun z => absurd z (eNeg k (by omega))⟩
  | none =>
    rw [h1] at h
    exact ⟨fun z => absurd rfl z, fun _ => h⟩
theorem U_hasTile {M : eM} {S : gS} (hs : sOk S) (hm : sM M S) (a : Int32) (F : Bool → eM → Prop) (hF : ∀ r M', sM M' (z_hasTile S a).2.2 → M' 100 0 = nI (z_hasTile S a).1 → ((z_hasTile S a).1 = 0 → r = (z_hasTile S a).2.1) → F r M') : Cal G 100 40 (3, 0, 0) kX13_hasTile [.ref (G.1 100), .int a] M (eFZ F) := by
  have hb := hs.2.2.1.1
  have h0 := hm.th 0
  have hB0 := h0.2.2.2.2.1
  have hB := hm.2.2.2.2.1
  have h49 := hb.c49
  have h16 := hb.2.2.1
  unfold z_hasTile at hF
  refine C_X13_hasTile G M F a (D_cell hb hB0 a _ ?_)
  by_cases h : dIn a (bC (gB S))
  · rw [if_pos h] at hF
    rw [decide_eq_true h]
    obtain ⟨k, hk, rfl⟩ := dIn_nat (by omega) h
    rw [nI_clamp (show k < 2 ^ 31 by omega)] at hF
    refine ⟨fun q => (by cases q), fun _ => ⟨vp_in_nI (by omega) (by decide), ?_⟩⟩
    rw [nI_clamp (show k < 2 ^ 31 by omega), hB0.2.2.1 k hk]
    cases h1 : bAt (gB S) k with
    | none =>
      rw [h1] at hF
      exact ⟨fun _ => hF _ _ h0 (eU_same _ _ _ _) (fun _ => rfl), fun q => absurd rfl q⟩
    | some t =>
      rw [h1] at hF
      have ht := (hb.2.2.2.1 k t hk h1).1
      exact ⟨fun q => absurd q (eNeg t (by omega)), fun _ => hF _ _ h0 (eU_same _ _ _ _) (fun _ => rfl)⟩
  · rw [if_neg h] at hF
    rw [decide_eq_false h]
    exact ⟨fun _ => (C_X13_isNot G _ _ _ (hF _ _ (h0.th 1) (eU_same _ _ _ _) (fun z => absurd z (Nat.succ_ne_zero _)))), fun q => (by cases q)⟩
theorem U_tileAt {M : eM} {S : gS} (hs : sOk S) (hm : sM M S) (a : Int32) (F : Int32 → eM → Prop) (hF : ∀ r M', sM M' (z_tileAt S a).2.2 → M' 100 0 = nI (z_tileAt S a).1 → ((z_tileAt S a).1 = 0 → r = (z_tileAt S a).2.1) → F r M') : Cal G 100 40 (3, 0, 0) kX13_tileAt [.ref (G.1 100), .int a] M (eFI F) := by
  have hb := hs.2.2.1.1
  have h0 := hm.th 0
  have hB0 := h0.2.2.2.2.1
  have hB := hm.2.2.2.2.1
  have h49 := hb.c49
  have h16 := hb.2.2.1
  unfold z_tileAt at hF
  refine C_X13_tileAt G M F a (D_cell hb hB0 a _ ?_)
  by_cases h : dIn a (bC (gB S))
  · rw [if_pos h] at hF
    rw [decide_eq_true h]
    obtain ⟨k, hk, rfl⟩ := dIn_nat (by omega) h
    rw [nI_clamp (show k < 2 ^ 31 by omega)] at hF
    refine ⟨fun _ => ⟨vp_in_nI (by omega) (by decide), ?_⟩, fun q => (by cases q)⟩
    rw [nI_clamp (show k < 2 ^ 31 by omega), hB0.2.2.1 k hk]
    cases h1 : bAt (gB S) k with
    | none =>
      rw [h1] at hF
      exact ⟨fun q => absurd rfl q, fun _ => (C_X13_no G _ _ _ (hF _ _ (h0.th 2) (eU_same _ _ _ _) (fun z => absurd z (Nat.succ_ne_zero _))))⟩
    | some t =>
      rw [h1] at hF
      have ht := (hb.2.2.2.1 k t hk h1).1
      exact ⟨fun _ => ⟨vp_in_nI (by omega) (by decide), hF _ _ h0 (eU_same _ _ _ _) (fun _ => rfl)⟩, fun q => absurd q (eNeg t (by omega))⟩
  · rw [if_neg h] at hF
    rw [decide_eq_false h]
    exact ⟨fun q => (by cases q), fun _ => (C_X13_no G _ _ _ (hF _ _ (h0.th 1) (eU_same _ _ _ _) (fun z => absurd z (Nat.succ_ne_zero _))))⟩
theorem U_matchesOf {M : eM} {S : gS} (hs : sOk S) (hm : sM M S) (a : Int32) (F : Int32 → eM → Prop) (hF : ∀ r M', sM M' (z_matchesOf S a).2.2 → M' 100 0 = nI (z_matchesOf S a).1 → ((z_matchesOf S a).1 = 0 → r = (z_matchesOf S a).2.1) → F r M') : Cal G 100 40 (6, 0, 0) kX13_matchesOf [.ref (G.1 100), .int a] M (eFI F) := by
  have hb := hs.2.2.1.1
  have h0 := hm.th 0
  have hB0 := h0.2.2.2.2.1
  have hB := hm.2.2.2.2.1
  have h49 := hb.c49
  have h16 := hb.2.2.1
  unfold z_matchesOf at hF
  refine C_X13_matchesOf G M F a (D_cell hb hB0 a _ ?_)
  by_cases h : dIn a (bC (gB S))
  · rw [if_pos h] at hF
    rw [decide_eq_true h]
    obtain ⟨k, hk, rfl⟩ := dIn_nat (by omega) h
    rw [nI_clamp (show k < 2 ^ 31 by omega)] at hF
    exact ⟨fun q => (by cases q), fun _ => D_on hb hB0 hk _ (hF _ _ h0 (eU_same _ _ _ _) (fun _ => rfl))⟩
  · rw [if_neg h] at hF
    rw [decide_eq_false h]
    exact ⟨fun _ => (C_X13_no G _ _ _ (hF _ _ (h0.th 1) (eU_same _ _ _ _) (fun z => absurd z (Nat.succ_ne_zero _)))), fun q => (by cases q)⟩
theorem U_isRing {M : eM} {S : gS} (hs : sOk S) (hm : sM M S) (a : Int32) (F : Bool → eM → Prop) (hF : ∀ r M', sM M' (z_isRing S a).2.2 → M' 100 0 = nI (z_isRing S a).1 → ((z_isRing S a).1 = 0 → r = (z_isRing S a).2.1) → F r M') : Cal G 100 40 (6, 0, 0) kX13_isRing [.ref (G.1 100), .int a] M (eFZ F) := by
  have hb := hs.2.2.1.1
  have h0 := hm.th 0
  have hB0 := h0.2.2.2.2.1
  have hB := hm.2.2.2.2.1
  have h49 := hb.c49
  have h16 := hb.2.2.1
  unfold z_isRing at hF
  refine C_X13_isRing G M F a (D_cell hb hB0 a _ ?_)
  by_cases h : dIn a (bC (gB S))
  · rw [if_pos h] at hF
    rw [decide_eq_true h]
    obtain ⟨k, hk, rfl⟩ := dIn_nat (by omega) h
    rw [nI_clamp (show k < 2 ^ 31 by omega)] at hF
    exact ⟨fun q => (by cases q), fun _ => S_ring_130 G hb hB0 _ hk (hF _ _ h0 (eU_same _ _ _ _) (fun _ => rfl))⟩
  · rw [if_neg h] at hF
    rw [decide_eq_false h]
    exact ⟨fun _ => (C_X13_isNot G _ _ _ (hF _ _ (h0.th 1) (eU_same _ _ _ _) (fun z => absurd z (Nat.succ_ne_zero _)))), fun q => (by cases q)⟩
theorem U_isPlaced {M : eM} {S : gS} (hs : sOk S) (hm : sM M S) (a : Int32) (F : Bool → eM → Prop) (hF : ∀ r M', sM M' (z_isPlaced S a).2.2 → M' 100 0 = nI (z_isPlaced S a).1 → ((z_isPlaced S a).1 = 0 → r = (z_isPlaced S a).2.1) → F r M') : Cal G 100 40 (3, 0, 0) kX13_isPlaced [.ref (G.1 100), .int a] M (eFZ F) := by
  have hb := hs.2.2.1.1
  have h0 := hm.th 0
  have hB0 := h0.2.2.2.2.1
  have hB := hm.2.2.2.2.1
  have h49 := hb.c49
  have h16 := hb.2.2.1
  unfold z_isPlaced at hF
  refine C_X13_isPlaced G M F a (D_tile hb hB0 a _ ?_)
  by_cases h : dIn a (bN (gB S))
  · rw [if_pos h] at hF
    rw [decide_eq_true h]
    obtain ⟨k, hk, rfl⟩ := dIn_nat (by omega) h
    rw [nI_clamp (show k < 2 ^ 31 by omega)] at hF
    refine ⟨fun q => (by cases q), fun _ => ⟨vp_in_nI (by omega) (by decide), ?_⟩⟩
    rw [nI_clamp (show k < 2 ^ 31 by omega), hB0.2.2.2.1 k hk]
    cases h1 : bCe (gB S) k with
    | none =>
      rw [h1] at hF
      exact ⟨fun _ => hF _ _ h0 (eU_same _ _ _ _) (fun _ => rfl), fun q => absurd rfl q⟩
    | some t =>
      rw [h1] at hF
      have ht := (hb.2.2.2.2.1 k t hk h1).1
      exact ⟨fun q => absurd q (eNeg t (by omega)), fun _ => hF _ _ h0 (eU_same _ _ _ _) (fun _ => rfl)⟩
  · rw [if_neg h] at hF
    rw [decide_eq_false h]
    exact ⟨fun _ => (C_X13_isNot G _ _ _ (hF _ _ (h0.th 1) (eU_same _ _ _ _) (fun z => absurd z (Nat.succ_ne_zero _)))), fun q => (by cases q)⟩
theorem U_waysOf {M : eM} {S : gS} (hs : sOk S) (hm : sM M S) (a : Int32) (F : Int32 → eM → Prop) (hF : ∀ r M', sM M' (z_waysOf S a).2.2 → M' 100 0 = nI (z_waysOf S a).1 → ((z_waysOf S a).1 = 0 → r = (z_waysOf S a).2.1) → F r M') : Cal G 100 40 (7, 0, 0) kX13_waysOf [.ref (G.1 100), .int a] M (eFI F) := by
  have hb := hs.2.2.1.1
  have h0 := hm.th 0
  have hB0 := h0.2.2.2.2.1
  have hB := hm.2.2.2.2.1
  have h49 := hb.c49
  have h16 := hb.2.2.1
  unfold z_waysOf at hF
  refine C_X13_waysOf G M F a (D_tile hb hB0 a _ ?_)
  by_cases h : dIn a (bN (gB S))
  · rw [if_pos h] at hF
    rw [decide_eq_true h]
    obtain ⟨k, hk, rfl⟩ := dIn_nat (by omega) h
    rw [nI_clamp (show k < 2 ^ 31 by omega)] at hF
    exact ⟨fun q => (by cases q), fun _ => S_ways_130 G hb hB0 _ hk (hF _ _ h0 (eU_same _ _ _ _) (fun _ => rfl))⟩
  · rw [if_neg h] at hF
    rw [decide_eq_false h]
    exact ⟨fun _ => (C_X13_no G _ _ _ (hF _ _ (h0.th 1) (eU_same _ _ _ _) (fun z => absurd z (Nat.succ_ne_zero _)))), fun q => (by cases q)⟩
theorem U_isLeftover {M : eM} {S : gS} (hs : sOk S) (hm : sM M S) (a : Int32) (F : Bool → eM → Prop) (hF : ∀ r M', sM M' (z_isLeftover S a).2.2 → M' 100 0 = nI (z_isLeftover S a).1 → ((z_isLeftover S a).1 = 0 → r = (z_isLeftover S a).2.1) → F r M') : Cal G 100 40 (8, 0, 0) kX13_isLeftover [.ref (G.1 100), .int a] M (eFZ F) := by
  have hb := hs.2.2.1.1
  have h0 := hm.th 0
  have hB0 := h0.2.2.2.2.1
  have hB := hm.2.2.2.2.1
  have h49 := hb.c49
  have h16 := hb.2.2.1
  unfold z_isLeftover at hF
  refine C_X13_isLeftover G M F a (D_tile hb hB0 a _ ?_)
  by_cases h : dIn a (bN (gB S))
  · rw [if_pos h] at hF
    rw [decide_eq_true h]
    obtain ⟨k, hk, rfl⟩ := dIn_nat (by omega) h
    rw [nI_clamp (show k < 2 ^ 31 by omega)] at hF
    exact ⟨fun q => (by cases q), fun _ => D_left hb hB0 hk _ (hF _ _ h0 (eU_same _ _ _ _) (fun _ => rfl))⟩
  · rw [if_neg h] at hF
    rw [decide_eq_false h]
    exact ⟨fun _ => (C_X13_isNot G _ _ _ (hF _ _ (h0.th 1) (eU_same _ _ _ _) (fun z => absurd z (Nat.succ_ne_zero _)))), fun q => (by cases q)⟩
theorem U_bestCell {M : eM} {S : gS} (hs : sOk S) (hm : sM M S) (a : Int32) (F : Int32 → eM → Prop) (hF : ∀ r M', sM M' (z_bestCell S a).2.2 → M' 100 0 = nI (z_bestCell S a).1 → ((z_bestCell S a).1 = 0 → r = (z_bestCell S a).2.1) → F r M') : Cal G 100 40 (7, 0, 0) kX13_bestCell [.ref (G.1 100), .int a] M (eFI F) := by
  have hb := hs.2.2.1.1
  have h0 := hm.th 0
  have hB0 := h0.2.2.2.2.1
  have hB := hm.2.2.2.2.1
  have h49 := hb.c49
  have h16 := hb.2.2.1
  unfold z_bestCell at hF
  refine C_X13_bestCell G M F a (D_tile hb hB0 a _ ?_)
  by_cases h : dIn a (bN (gB S))
  · rw [if_pos h] at hF
    rw [decide_eq_true h]
    obtain ⟨k, hk, rfl⟩ := dIn_nat (by omega) h
    rw [nI_clamp (show k < 2 ^ 31 by omega)] at hF
    refine ⟨fun _ => S_hasBest_130 G hb hB0 _ hk (fun M1 i1 => ?_), fun q => (by cases q)⟩
    have e := i1.2.2
    have s1 := h0.fr i1.s.1
    have t1 : M1 100 0 = 0 := i1.s.2.trans (eU_same _ _ _ _)
    unfold hbS at e
    cases h1 : bRich (gB S) k with
    | none =>
      rw [h1] at hF
      exact ⟨fun _ => (C_X13_no G _ _ _ (hF _ _ (s1.th 2) (eU_same _ _ _ _) (fun z => absurd z (Nat.succ_ne_zero _)))), fun q => (by cases q)⟩
    | some t =>
      rw [h1] at hF
      have h2 : zBest (fun c => (bAny (gB S) k c).isSome) (bGain (gB S)) (bC (gB S)) = some t := h1
      rw [h2] at e
      exact ⟨fun q => (by cases q), fun _ => hF _ _ s1 t1 (fun _ => e.2.1)⟩
  · rw [if_neg h] at hF
    rw [decide_eq_false h]
    exact ⟨fun q => (by cases q), fun _ => (C_X13_no G _ _ _ (hF _ _ (h0.th 1) (eU_same _ _ _ _) (fun z => absurd z (Nat.succ_ne_zero _))))⟩
theorem U_bestTurn {M : eM} {S : gS} (hs : sOk S) (hm : sM M S) (a : Int32) (F : Int32 → eM → Prop) (hF : ∀ r M', sM M' (z_bestTurn S a).2.2 → M' 100 0 = nI (z_bestTurn S a).1 → ((z_bestTurn S a).1 = 0 → r = (z_bestTurn S a).2.1) → F r M') : Cal G 100 40 (7, 0, 0) kX13_bestTurn [.ref (G.1 100), .int a] M (eFI F) := by
  have hb := hs.2.2.1.1
  have h0 := hm.th 0
  have hB0 := h0.2.2.2.2.1
  have hB := hm.2.2.2.2.1
  have h49 := hb.c49
  have h16 := hb.2.2.1
  unfold z_bestTurn at hF
  refine C_X13_bestTurn G M F a (D_tile hb hB0 a _ ?_)
  by_cases h : dIn a (bN (gB S))
  · rw [if_pos h] at hF
    rw [decide_eq_true h]
    obtain ⟨k, hk, rfl⟩ := dIn_nat (by omega) h
    rw [nI_clamp (show k < 2 ^ 31 by omega)] at hF
    refine ⟨fun _ => S_hasBest_130 G hb hB0 _ hk (fun M1 i1 => ?_), fun q => (by cases q)⟩
    have e := i1.2.2
    have s1 := h0.fr i1.s.1
    have t1 : M1 100 0 = 0 := i1.s.2.trans (eU_same _ _ _ _)
    unfold hbS at e
    cases h1 : bRich (gB S) k with
    | none =>
      rw [h1] at hF
      exact ⟨fun _ => (C_X13_no G _ _ _ (hF _ _ (s1.th 2) (eU_same _ _ _ _) (fun z => absurd z (Nat.succ_ne_zero _)))), fun q => (by cases q)⟩
    | some t =>
      rw [h1] at hF
      have h2 : zBest (fun c => (bAny (gB S) k c).isSome) (bGain (gB S)) (bC (gB S)) = some t := h1
      rw [h2] at e
      exact ⟨fun q => (by cases q), fun _ => hF _ _ s1 t1 (fun _ => e.2.2)⟩
  · rw [if_neg h] at hF
    rw [decide_eq_false h]
    exact ⟨fun q => (by cases q), fun _ => (C_X13_no G _ _ _ (hF _ _ (h0.th 1) (eU_same _ _ _ _) (fun z => absurd z (Nat.succ_ne_zero _))))⟩
theorem U_fitTile {M : eM} {S : gS} (hs : sOk S) (hm : sM M S) (a : Int32) (F : Int32 → eM → Prop) (hF : ∀ r M', sM M' (z_fitTile S a).2.2 → M' 100 0 = nI (z_fitTile S a).1 → ((z_fitTile S a).1 = 0 → r = (z_fitTile S a).2.1) → F r M') : Cal G 100 40 (8, 0, 0) kX13_fitTile [.ref (G.1 100), .int a] M (eFI F) := by
  have hb := hs.2.2.1.1
  have h0 := hm.th 0
  have hB0 := h0.2.2.2.2.1
  have hB := hm.2.2.2.2.1
  have h49 := hb.c49
  have h16 := hb.2.2.1
  unfold z_fitTile at hF
  refine C_X13_fitTile G M F a (D_tile hb hB0 a _ ?_)
  by_cases h : dIn a (bN (gB S))
  · rw [if_pos h] at hF
    rw [decide_eq_true h]
    obtain ⟨k, hk, rfl⟩ := dIn_nat (by omega) h
    rw [nI_clamp (show k < 2 ^ 31 by omega)] at hF
    refine ⟨fun _ => S_fitted_130 hs.2.2.1 hB0 _ hk (fun M1 f1 b1 => ?_), fun q => (by cases q)⟩
    have t1 : M1 100 0 = 0 := by rw [f1.1 100 (by decide) (Or.inl (by decide))]; exact eU_same _ _ _ _
    have r1 : M1 130 4 = gR S := by rw [f1.2 4 (by decide)]; exact h0.2.2.2.2.2
    have s1 := h0.q f1.qq b1 r1
    have ga : gAct (gB S) 8 k 0 0 0 = (match bFirst (gB S) k with | none => (gB S, false) | some c => (bPut (gB S) k c ((bAny (gB S) k c).getD 0), true)) := rfl
    rw [ga] at b1 s1 ⊢
    cases h1 : bFirst (gB S) k with
    | none =>
      rw [h1] at hF s1
      exact ⟨fun _ => (C_X13_no G _ _ _ (hF _ _ (sM.th s1 2) (eU_same _ _ _ _) (fun z => absurd z (Nat.succ_ne_zero _)))), fun q => (by cases q)⟩
    | some t =>
      rw [h1] at hF s1 b1
      have hk' : k < bN (bPut (gB S) k t ((bAny (gB S) k t).getD 0)) := hk
      refine ⟨fun q => (by cases q), fun _ => ⟨vp_in_nI (by omega) (by decide), hF _ _ s1 t1 (fun _ => ?_)⟩⟩
      have e := b1.2.2.2.1 k hk'
      rw [nI_clamp (show k < 2 ^ 31 by omega)]
      refine e.trans ?_
      show eO (zU (bCe (gB S)) k (some t) k) = nI t
      rw [zU_same]
      rfl
  · rw [if_neg h] at hF
    rw [decide_eq_false h]
    exact ⟨fun q => (by cases q), fun _ => (C_X13_no G _ _ _ (hF _ _ (h0.th 1) (eU_same _ _ _ _) (fun z => absurd z (Nat.succ_ne_zero _))))⟩
theorem U_cellOf {M : eM} {S : gS} (hs : sOk S) (hm : sM M S) (a : Int32) (F : Int32 → eM → Prop) (hF : ∀ r M', sM M' (z_cellOf S a).2.2 → M' 100 0 = nI (z_cellOf S a).1 → ((z_cellOf S a).1 = 0 → r = (z_cellOf S a).2.1) → F r M') : Cal G 100 40 (4, 0, 0) kX13_cellOf [.ref (G.1 100), .int a] M (eFI F) := by
  have hb := hs.2.2.1.1
  have h0 := hm.th 0
  have hB0 := h0.2.2.2.2.1
  have hB := hm.2.2.2.2.1
  have h49 := hb.c49
  have h16 := hb.2.2.1
  unfold z_cellOf at hF
  refine C_X13_cellOf G M F a (D_lies hb hB a _ (fun h => ?_) (fun k hk ek h1 => ?_) (fun k c hk ek h1 => ?_))
  · rw [if_neg h] at hF
    exact ⟨fun _ => hF _ _ (hm.th 1) (eU_same _ _ _ _) (fun z => absurd z (Nat.succ_ne_zero _)), fun q => (by cases q)⟩
  · subst ek
    rw [if_pos (dIn_of hk (by omega)), nI_clamp (show k < 2 ^ 31 by omega), h1] at hF
    exact ⟨fun _ => hF _ _ (hm.th 2) (eU_same _ _ _ _) (fun z => absurd z (Nat.succ_ne_zero _)), fun q => (by cases q)⟩
  · subst ek
    rw [if_pos (dIn_of hk (by omega)), nI_clamp (show k < 2 ^ 31 by omega), h1] at hF
    have hcc := (hb.2.2.2.2.1 k c hk h1).1
    refine ⟨fun q => (by cases q), fun _ => ⟨vp_in_nI (by omega) (by decide), hF _ _ h0 (eU_same _ _ _ _) (fun _ => ?_)⟩⟩
    rw [nI_clamp (show k < 2 ^ 31 by omega), hB0.2.2.2.1 k hk, h1]
    rfl
theorem U_turnOf {M : eM} {S : gS} (hs : sOk S) (hm : sM M S) (a : Int32) (F : Int32 → eM → Prop) (hF : ∀ r M', sM M' (z_turnOf S a).2.2 → M' 100 0 = nI (z_turnOf S a).1 → ((z_turnOf S a).1 = 0 → r = (z_turnOf S a).2.1) → F r M') : Cal G 100 40 (4, 0, 0) kX13_turnOf [.ref (G.1 100), .int a] M (eFI F) := by
  have hb := hs.2.2.1.1
  have h0 := hm.th 0
  have hB0 := h0.2.2.2.2.1
  have hB := hm.2.2.2.2.1
  have h49 := hb.c49
  have h16 := hb.2.2.1
  unfold z_turnOf at hF
  refine C_X13_turnOf G M F a (D_lies hb hB a _ (fun h => ?_) (fun k hk ek h1 => ?_) (fun k c hk ek h1 => ?_))
  · rw [if_neg h] at hF
    exact ⟨fun _ => hF _ _ (hm.th 1) (eU_same _ _ _ _) (fun z => absurd z (Nat.succ_ne_zero _)), fun q => (by cases q)⟩
  · subst ek
    rw [if_pos (dIn_of hk (by omega)), nI_clamp (show k < 2 ^ 31 by omega), h1] at hF
    exact ⟨fun _ => hF _ _ (hm.th 2) (eU_same _ _ _ _) (fun z => absurd z (Nat.succ_ne_zero _)), fun q => (by cases q)⟩
  · subst ek
    rw [if_pos (dIn_of hk (by omega)), nI_clamp (show k < 2 ^ 31 by omega), h1] at hF
    have hcc := (hb.2.2.2.2.1 k c hk h1).1
    refine ⟨fun q => (by cases q), fun _ => ⟨vp_in_nI (by omega) (by decide), hF _ _ h0 (eU_same _ _ _ _) (fun _ => ?_)⟩⟩
    rw [nI_clamp (show k < 2 ^ 31 by omega), hB0.2.2.2.2.1 k c hk h1]
theorem U_takeTile {M : eM} {S : gS} (hs : sOk S) (hm : sM M S) (a : Int32) (F : Int32 → eM → Prop) (hF : ∀ r M', sM M' (z_takeTile S a).2.2 → M' 100 0 = nI (z_takeTile S a).1 → ((z_takeTile S a).1 = 0 → r = (z_takeTile S a).2.1) → F r M') : Cal G 100 40 (8, 0, 0) kX13_takeTile [.ref (G.1 100), .int a] M (eFI F) := by
  have hb := hs.2.2.1.1
  have h0 := hm.th 0
  have hB0 := h0.2.2.2.2.1
  have hB := hm.2.2.2.2.1
  have h49 := hb.c49
  have h16 := hb.2.2.1
  unfold z_takeTile at hF
  refine C_X13_takeTile G M F a (D_lies hb hB a _ (fun h => ?_) (fun k hk ek h1 => ?_) (fun k c hk ek h1 => ?_))
  · rw [if_neg h] at hF
    exact ⟨fun q => (by cases q), fun _ => hF _ _ (hm.th 1) (eU_same _ _ _ _) (fun z => absurd z (Nat.succ_ne_zero _))⟩
  · subst ek
    rw [if_pos (dIn_of hk (by omega)), nI_clamp (show k < 2 ^ 31 by omega), h1] at hF
    exact ⟨fun q => (by cases q), fun _ => hF _ _ (hm.th 2) (eU_same _ _ _ _) (fun z => absurd z (Nat.succ_ne_zero _))⟩
  · subst ek
    rw [if_pos (dIn_of hk (by omega)), nI_clamp (show k < 2 ^ 31 by omega), h1] at hF
    have hcc := (hb.2.2.2.2.1 k c hk h1).1
    refine ⟨fun _ => S_points_130 G hb hB0 _ (S_mtake_130 hb hB0 _ hk h1 (fun M1 f1 b1 => ?_)), fun q => (by cases q)⟩
    have hg1 : bGm (bLift (gB S) k c) := bGm.lift hs.2.2.1 hk h1
    have t1 : M1 100 0 = 0 := by rw [f1.1 100 (by decide) (Or.inl (by decide))]; exact eU_same _ _ _ _
    have r1 : M1 130 4 = gR S := by rw [f1.2 4 (by decide)]; exact h0.2.2.2.2.2
    have s1 := h0.q f1.qq b1 r1
    refine S_points_130 G hg1.1 b1 _ (hF _ _ s1 t1 (fun _ => ?_))
    rw [bPoints_lift hb hs.2.2.1.2 hk h1, ← nI_add, i32_asc]
theorem U_fits {M : eM} {S : gS} (hs : sOk S) (hm : sM M S) (k c u : Int32) (F : Bool → eM → Prop) (hF : ∀ r M', sM M' (z_fits S k c u).2.2 → M' 100 0 = nI (z_fits S k c u).1 → ((z_fits S k c u).1 = 0 → r = (z_fits S k c u).2.1) → F r M') : Cal G 100 40 (6, 0, 0) kX13_fits_ [.ref (G.1 100), .int k, .int c, .int u] M (eFZ F) := by
  have hb := hs.2.2.1.1
  have h0 := hm.th 0
  have hB0 := h0.2.2.2.2.1
  have hB := hm.2.2.2.2.1
  have h49 := hb.c49
  have h16 := hb.2.2.1
  unfold z_fits at hF
  refine C_X13_fits_ G M F k c u (D_asked hb hB k c u _ (fun h => ?_) (fun h => ?_))
  · rw [if_pos h] at hF
    obtain ⟨ik, hk, rfl⟩ := dIn_nat (by omega) h.1
    obtain ⟨ic, hcc, rfl⟩ := dIn_nat (by omega) h.2.1
    obtain ⟨iu, hu, rfl⟩ := dIn_nat (by decide) h.2.2
    rw [nI_clamp (show ik < 2 ^ 31 by omega), nI_clamp (show ic < 2 ^ 31 by omega), nI_clamp (show iu < 2 ^ 31 by omega)] at hF
    refine ⟨fun q => (by cases q), fun _ => S_fits_130 G hb hB0 _ hk hcc hu ?_⟩
    cases hf : bFits (gB S) ik ic iu with
    | false => rw [hf] at hF; exact ⟨fun _ => hF _ _ h0 (eU_same _ _ _ _) (fun _ => rfl), fun q => (by cases q)⟩
    | true => rw [hf] at hF; exact ⟨fun q => (by cases q), fun _ => hF _ _ h0 (eU_same _ _ _ _) (fun _ => rfl)⟩
  · rw [if_neg h] at hF
    exact ⟨fun _ => hF _ _ (hm.th 1) (eU_same _ _ _ _) (fun z => absurd z (Nat.succ_ne_zero _)), fun q => (by cases q)⟩
theorem U_edgeAgainst {M : eM} {S : gS} (hs : sOk S) (hm : sM M S) (k c u : Int32) (F : Int32 → eM → Prop) (hF : ∀ r M', sM M' (z_edgeAgainst S k c u).2.2 → M' 100 0 = nI (z_edgeAgainst S k c u).1 → ((z_edgeAgainst S k c u).1 = 0 → r = (z_edgeAgainst S k c u).2.1) → F r M') : Cal G 100 40 (5, 0, 0) kX13_edgeAgainst [.ref (G.1 100), .int k, .int c, .int u] M (eFI F) := by
  have hb := hs.2.2.1.1
  have h0 := hm.th 0
  have hB0 := h0.2.2.2.2.1
  have hB := hm.2.2.2.2.1
  have h49 := hb.c49
  have h16 := hb.2.2.1
  unfold z_edgeAgainst at hF
  refine C_X13_edgeAgainst G M F k c u (D_asked hb hB k c u _ (fun h => ?_) (fun h => ?_))
  · rw [if_pos h] at hF
    obtain ⟨ik, hk, rfl⟩ := dIn_nat (by omega) h.1
    obtain ⟨ic, hcc, rfl⟩ := dIn_nat (by omega) h.2.1
    obtain ⟨iu, hu, rfl⟩ := dIn_nat (by decide) h.2.2
    rw [nI_clamp (show ik < 2 ^ 31 by omega), nI_clamp (show ic < 2 ^ 31 by omega), nI_clamp (show iu < 2 ^ 31 by omega)] at hF
    exact ⟨fun q => (by cases q), fun _ => S_against_130 G hb hB0 _ hk hcc hu (hF _ _ h0 (eU_same _ _ _ _) (fun _ => rfl))⟩
  · rw [if_neg h] at hF
    exact ⟨fun _ => hF _ _ (hm.th 1) (eU_same _ _ _ _) (fun z => absurd z (Nat.succ_ne_zero _)), fun q => (by cases q)⟩
theorem U_putTile {M : eM} {S : gS} (hs : sOk S) (hm : sM M S) (k c u : Int32) (F : Int32 → eM → Prop) (hF : ∀ r M', sM M' (z_putTile S k c u).2.2 → M' 100 0 = nI (z_putTile S k c u).1 → ((z_putTile S k c u).1 = 0 → r = (z_putTile S k c u).2.1) → F r M') : Cal G 100 40 (8, 0, 0) kX13_putTile [.ref (G.1 100), .int k, .int c, .int u] M (eFI F) := by
  have hb := hs.2.2.1.1
  have h0 := hm.th 0
  have hB0 := h0.2.2.2.2.1
  have hB := hm.2.2.2.2.1
  have h49 := hb.c49
  have h16 := hb.2.2.1
  unfold z_putTile at hF
  refine C_X13_putTile G M F k c u (D_asked hb hB k c u _ (fun h => ?_) (fun h => ?_))
  · rw [if_pos h] at hF
    obtain ⟨ik, hk, rfl⟩ := dIn_nat (by omega) h.1
    obtain ⟨ic, hcc, rfl⟩ := dIn_nat (by omega) h.2.1
    obtain ⟨iu, hu, rfl⟩ := dIn_nat (by decide) h.2.2
    rw [nI_clamp (show ik < 2 ^ 31 by omega), nI_clamp (show ic < 2 ^ 31 by omega), nI_clamp (show iu < 2 ^ 31 by omega)] at hF
    refine ⟨fun _ => S_fits_130 G hb hB0 _ hk hcc hu ?_, fun q => (by cases q)⟩
    cases hf : bFits (gB S) ik ic iu with
    | false =>
      rw [hf] at hF
      exact ⟨fun q => (by cases q), fun _ => (C_X13_no G _ _ _ (hF _ _ (h0.th 2) (eU_same _ _ _ _) (fun z => absurd z (Nat.succ_ne_zero _))))⟩
    | true =>
      rw [hf] at hF
      obtain ⟨f1, f2, -⟩ := bFits_face hf
      refine ⟨fun _ => S_points_130 G hb hB0 _ (S_mput_130 hb hB0 _ hk hcc hu f1 (fun M1 g1 b1 => ?_)), fun q => (by cases q)⟩
      have hg1 : bGm (bPut (gB S) ik ic iu) := bGm.put hs.2.2.1 hk hcc hu hf
      have t1 : M1 100 0 = 0 := by rw [g1.1 100 (by decide) (Or.inl (by decide))]; exact eU_same _ _ _ _
      have r1 : M1 130 4 = gR S := by rw [g1.2 4 (by decide)]; exact h0.2.2.2.2.2
      have s1 := h0.q g1.qq b1 r1
      refine S_points_130 G hg1.1 b1 _ (hF _ _ s1 t1 (fun _ => ?_))
      rw [bPoints_put hb hcc f2 f1 (bGood_fits hb hcc hf), ← nI_add, i32_asc]
      rfl
  · rw [if_neg h] at hF
    exact ⟨fun q => (by cases q), fun _ => hF _ _ (hm.th 1) (eU_same _ _ _ _) (fun z => absurd z (Nat.succ_ne_zero _))⟩
theorem U_numberAt {M : eM} {S : gS} (hs : sOk S) (hm : sM M S) (a e : Int32) (F : Int32 → eM → Prop) (hF : ∀ r M', sM M' (z_numberAt S a e).2.2 → M' 100 0 = nI (z_numberAt S a e).1 → ((z_numberAt S a e).1 = 0 → r = (z_numberAt S a e).2.1) → F r M') : Cal G 100 40 (3, 0, 0) kX13_numberAt_ [.ref (G.1 100), .int a, .int e] M (eFI F) := by
  have hb := hs.2.2.1.1
  have h0 := hm.th 0
  have hB0 := h0.2.2.2.2.1
  have hB := hm.2.2.2.2.1
  have h49 := hb.c49
  have h16 := hb.2.2.1
  unfold z_numberAt at hF
  refine C_X13_numberAt_ G M F a e (D_cell hb hB0 a _ ⟨fun q => ?_, fun q => D_edge e _ ⟨fun q2 => ?_, fun q2 => ?_⟩⟩)
  · rw [if_neg (fun z => of_decide_eq_false q z.1)] at hF
    exact (C_X13_no G _ _ _ (hF _ _ (h0.th 1) (eU_same _ _ _ _) (fun z => absurd z (Nat.succ_ne_zero _))))
  · rw [if_pos ⟨of_decide_eq_true q, of_decide_eq_true q2⟩] at hF
    obtain ⟨k, hk, rfl⟩ := dIn_nat (by omega) (of_decide_eq_true q)
    obtain ⟨d, hd, rfl⟩ := dIn_nat (by decide) (of_decide_eq_true q2)
    rw [nI_clamp (show k < 2 ^ 31 by omega), nI_clamp (show d < 2 ^ 31 by omega)] at hF
    refine ⟨vp_in_nI (by omega) (by decide), ?_⟩
    rw [nI_clamp (show k < 2 ^ 31 by omega), hB0.2.2.1 k hk]
    cases h1 : bAt (gB S) k with
    | none =>
      rw [h1] at hF
      exact ⟨fun q => absurd rfl q, fun _ => (C_X13_no G _ _ _ (hF _ _ (h0.th 2) (eU_same _ _ _ _) (fun z => absurd z (Nat.succ_ne_zero _))))⟩
    | some t =>
      rw [h1] at hF
      have ht := (hb.2.2.2.1 k t hk h1).1
      exact ⟨fun _ => S_numberAt_130 G hb hB0 _ hk hd h1 (hF _ _ h0 (eU_same _ _ _ _) (fun _ => rfl)), fun q => absurd q (eNeg t (by omega))⟩
  · rw [if_neg (fun z => of_decide_eq_false q2 z.2)] at hF
    exact (C_X13_no G _ _ _ (hF _ _ (h0.th 1) (eU_same _ _ _ _) (fun z => absurd z (Nat.succ_ne_zero _))))
theorem U_trim {M : eM} {S : gS} (hs : sOk S) (hm : sM M S) (a : Int32) (F : Int32 → eM → Prop) (hF : ∀ r M', sM M' (z_trim S a).2.2 → M' 100 0 = nI (z_trim S a).1 → ((z_trim S a).1 = 0 → r = (z_trim S a).2.1) → F r M') : Cal G 100 40 (2, 0, 0) kX13_trim [.ref (G.1 100), .int a] M (eFI F) := by
  have hb := hs.2.2.1.1
  have h0 := hm.th 0
  have hB0 := h0.2.2.2.2.1
  have hB := hm.2.2.2.2.1
  have h49 := hb.c49
  have h16 := hb.2.2.1
  unfold z_trim at hF
  have hsz := hs.1
  refine C_X13_trim G M F a (S_isIn G _ _ a 0 _ ?_)
  rw [h0.1]
  by_cases h : 0 ≤ a ∧ a ≤ nI (gSz S)
  · rw [if_pos h] at hF
    rw [decide_eq_true h]
    obtain ⟨k, hk, rfl⟩ := dTrim (by omega) h
    rw [nI_clamp (show k < 2 ^ 31 by omega)] at hF
    refine ⟨fun _ => hF _ _ ?_ ((eU_place _ _ _ _ (by decide)).trans (eU_same _ _ _ _)) (fun _ => rfl), fun q => (by cases q)⟩
    obtain ⟨h1, h2, h3, h4, h5, h6⟩ := h0
    refine ⟨eU_same _ _ _ _, fun i hi => ?_, ?_, h4.fr (fun c c1 c2 => eU_other _ _ _ (by omega)), h5.of (eU_other _ _ _ (by decide)) (eU_other _ _ _ (by decide)) (eU_other _ _ _ (by decide)) (eU_other _ _ _ (by decide)) (eU_other _ _ _ (by decide)) (eU_other _ _ _ (by decide)), ?_⟩
    · rw [eU_cell _ _ _ _ (by decide)]; exact h2 i hi
    · rw [eU_place _ _ _ _ (by decide)]; exact h3
    · rw [eU_cell _ _ _ _ (by decide)]; exact h6
  · rw [if_neg h] at hF
    rw [decide_eq_false h]
    exact ⟨fun q => (by cases q), fun _ => (C_X13_no G _ _ _ (hF _ _ (h0.th 1) (eU_same _ _ _ _) (fun z => absurd z (Nat.succ_ne_zero _))))⟩
theorem U_columns {M : eM} {S : gS} (hs : sOk S) (hm : sM M S) (F : Int32 → eM → Prop) (hF : ∀ M', sM M' S → F (nI (bW (gB S))) M') : Cal G 100 40 (2, 0, 0) kX13_columns [.ref (G.1 100)] M (eFI F) := by
  have hb := hs.2.2.1.1
  have hB := hm.2.2.2.2.1
  refine C_X13_columns G M F (C_X13_ok G _ _ _ ?_)
  rw [hB.1.1]
  exact hF _ (hm.th 0)
theorem U_rows {M : eM} {S : gS} (hs : sOk S) (hm : sM M S) (F : Int32 → eM → Prop) (hF : ∀ M', sM M' S → F (nI (bR (gB S))) M') : Cal G 100 40 (2, 0, 0) kX13_rows [.ref (G.1 100)] M (eFI F) := by
  have hb := hs.2.2.1.1
  have hB := hm.2.2.2.2.1
  refine C_X13_rows G M F (C_X13_ok G _ _ _ ?_)
  rw [hB.1.2.1]
  exact hF _ (hm.th 0)
theorem U_tiles {M : eM} {S : gS} (hs : sOk S) (hm : sM M S) (F : Int32 → eM → Prop) (hF : ∀ M', sM M' S → F (nI (bN (gB S))) M') : Cal G 100 40 (2, 0, 0) kX13_tiles [.ref (G.1 100)] M (eFI F) := by
  have hb := hs.2.2.1.1
  have hB := hm.2.2.2.2.1
  refine C_X13_tiles G M F (C_X13_ok G _ _ _ ?_)
  rw [hB.1.2.2]
  exact hF _ (hm.th 0)
theorem U_rounds {M : eM} {S : gS} (hs : sOk S) (hm : sM M S) (F : Int32 → eM → Prop) (hF : ∀ M', sM M' S → F (gR S) M') : Cal G 100 40 (2, 0, 0) kX13_rounds [.ref (G.1 100)] M (eFI F) := by
  have hb := hs.2.2.1.1
  have hB := hm.2.2.2.2.1
  refine C_X13_rounds G M F (C_X13_ok G _ _ _ ?_)
  rw [hm.2.2.2.2.2]
  exact hF _ (hm.th 0)
theorem U_placedTiles {M : eM} {S : gS} (hs : sOk S) (hm : sM M S) (F : Int32 → eM → Prop) (hF : ∀ M', sM M' S → F (nI (bP (gB S))) M') : Cal G 100 40 (2, 0, 0) kX13_placedTiles [.ref (G.1 100)] M (eFI F) := by
  have hb := hs.2.2.1.1
  have hB := hm.2.2.2.2.1
  refine C_X13_placedTiles G M F (C_X13_ok G _ _ _ ?_)
  rw [hB.2.2.2.2.2]
  exact hF _ (hm.th 0)
theorem U_errorAt {M : eM} {S : gS} (hs : sOk S) (hm : sM M S) (F : Int32 → eM → Prop) (hF : ∀ M', sM M' S → F (gEr S) M') : Cal G 100 40 (2, 0, 0) kX13_errorAt [.ref (G.1 100)] M (eFI F) := by
  have hb := hs.2.2.1.1
  have hB := hm.2.2.2.2.1
  refine C_X13_errorAt G M F (C_X13_ok G _ _ _ ?_)
  rw [hm.2.2.1]
  exact hF _ (hm.th 0)
theorem U_matches {M : eM} {S : gS} (hs : sOk S) (hm : sM M S) (F : Int32 → eM → Prop) (hF : ∀ M', sM M' S → F (nI (bMatch (gB S))) M') : Cal G 100 40 (6, 0, 0) kX13_matches_ [.ref (G.1 100)] M (eFI F) := by
  have hb := hs.2.2.1.1
  have hB := hm.2.2.2.2.1
  exact C_X13_matches_ G M F (S_matches_130 G hb hB _ (C_X13_ok G _ _ _ (hF _ (hm.th 0))))
theorem U_points {M : eM} {S : gS} (hs : sOk S) (hm : sM M S) (F : Int32 → eM → Prop) (hF : ∀ M', sM M' S → F (nI (bPoints (gB S))) M') : Cal G 100 40 (8, 0, 0) kX13_points_ [.ref (G.1 100)] M (eFI F) := by
  have hb := hs.2.2.1.1
  have hB := hm.2.2.2.2.1
  exact C_X13_points_ G M F (S_points_130 G hb hB _ (C_X13_ok G _ _ _ (hF _ (hm.th 0))))
theorem U_rings {M : eM} {S : gS} (hs : sOk S) (hm : sM M S) (F : Int32 → eM → Prop) (hF : ∀ M', sM M' S → F (nI (bRings (gB S))) M') : Cal G 100 40 (7, 0, 0) kX13_rings_ [.ref (G.1 100)] M (eFI F) := by
  have hb := hs.2.2.1.1
  have hB := hm.2.2.2.2.1
  exact C_X13_rings_ G M F (S_rings_130 G hb hB _ (C_X13_ok G _ _ _ (hF _ (hm.th 0))))
theorem fFr.sm {M M' : eM} (h : fFr M M' 138 139) : sFm M M' := ⟨fun c hc => h c (by omega) (by omega), by rw [h 100 (by decide) (by decide)], by rw [h 100 (by decide) (by decide)]⟩
theorem U_groups {M : eM} {S : gS} (hs : sOk S) (hm : sM M S) (F : Int32 → eM → Prop) (hF : ∀ M', sM M' S → F (nI (bGroups (gB S))) M') : Cal G 100 40 (5, 0, 0) kX13_groups [.ref (G.1 100)] M (eFI F) := by
  have hb := hs.2.2.1.1
  have hB := hm.2.2.2.2.1
  exact C_X13_groups G M F (S_groupsOf hb hB _ (fun M' b' f' => C_X13_ok G _ _ _ (hF _ ((hm.fr f'.sm).th 0))))
end PubM
