/-! ===== orders and rounds ===== -/
theorem eRem (x : Int32) {d : Nat} (h0 : 2 ≤ d) (h1 : d < 2 ^ 31) : (x - x / nI d * nI d).toInt = x.toInt.tmod d := by
  have hd := nI_toInt h1
  have x1 := Int32.le_toInt x
  have x2 := Int32.toInt_lt x
  obtain ⟨X, hX⟩ : ∃ X, X = x.toInt := ⟨_, rfl⟩
  rw [← hX] at x1 x2
  have t1 : X.tmod d + X.tdiv d * d = X := Int.tmod_add_tdiv_mul X d
  have t2 : X.tmod d < d := Int.tmod_lt_of_pos X (by omega)
  have t3 : -(d : Int) < X.tmod d := Int.lt_tmod_of_pos X (by omega)
  have t4 : 0 ≤ X → 0 ≤ X.tmod d := fun h => Int.tmod_nonneg _ h
  have t5 : X ≤ 0 → X.tmod d ≤ 0 := fun h => by
    have := Int.tmod_nonneg (a := -X) d (by omega)
    rw [Int.neg_tmod] at this
    omega
  have t6 : (X.tmod d).natAbs ≤ X.natAbs := by rw [Int.natAbs_tmod]; exact Nat.mod_le _ _
  obtain ⟨T, hT⟩ : ∃ T, T = X.tmod d := ⟨_, rfl⟩
  obtain ⟨P, hP⟩ : ∃ P, P = X.tdiv d * d := ⟨_, rfl⟩
  rw [← hT] at t1 t2 t3 t4 t5 t6
  rw [← hP] at t1
  rw [← hX, ← hT]
  rw [Int32.toInt_sub, Int32.toInt_mul, Int32.toInt_div_of_ne_right _ _ (eNeg d h1), hd, ← hX, ← hP, eB32 (n := P) (by omega) (by omega), show X - P = T by omega, eB32 (by omega) (by omega)]
theorem eFm_rest (x : Int32) {d : Nat} (h0 : 2 ≤ d) (h1 : d < 2 ^ 31) : (if 0 ≤ x - x / nI d * nI d then x - x / nI d * nI d else x - x / nI d * nI d + nI d) = eFm x (nI d) := by
  have er := eRem x h0 h1
  have hd := nI_toInt h1
  have ex := eXor x (nI d) (by rw [hd]; omega)
  unfold eFm
  have le0 : ∀ z : Int32, 0 ≤ z ↔ 0 ≤ z.toInt := fun z => by rw [Int32.le_iff_toInt_le, Int32.toInt_zero]
  by_cases hx : 0 ≤ x.toInt
  · rw [if_pos (ex.mpr hx), if_pos ((le0 _).mpr (by rw [er]; exact Int.tmod_nonneg _ hx))]
  · rw [if_neg (fun z => hx (ex.mp z))]
    have t5 : x.toInt.tmod d ≤ 0 := by
      have := Int.tmod_nonneg (a := -x.toInt) d (by omega)
      rw [Int.neg_tmod] at this
      omega
    by_cases hr : x - x / nI d * nI d = 0
    · rw [if_pos hr, if_pos (by rw [hr]; exact Int32.le_refl _)]
    · rw [if_neg hr, if_neg (fun z => hr (Int32.toInt_inj.mp (by
        have := (le0 _).mp z
        rw [Int32.toInt_zero, er]
        rw [er] at this
        omega)))]
/-- an order on the heap -/
def nO (G : eG) (H : yH) (a : Nat) (o : xO) : Prop := ∃ (sa : Nat) (t : Value), H a = some (.inr (12, [.int (nI o.1.1), .int (nI o.1.2), .ref sa, t])) ∧
  (o.1.1 = 0 → ∃ (f : Nat → Option Nat) (s0 s1 s2 : Nat), H sa = some (.inl (G.2.2.2 7, (3, .inr (.inr (.inr (.inr f)))))) ∧ f 0 = some s0 ∧ f 1 = some s1 ∧ f 2 = some s2 ∧ nS1 H s0 o.2.1.1 ∧ nS1 H s1 o.2.1.2.1 ∧ nS1 H s2 o.2.1.2.2) ∧
  (o.2.2.1 = false → t = .null) ∧ (o.2.2.1 = true → ∃ b, t = .ref b ∧ nT1 H b o.2.2.2)
/-- a row of orders -/
def nOs (G : eG) (H : yH) (oa : Nat) (os : List xO) : Prop := ∃ f : Nat → Option Nat, H oa = some (.inl (G.2.2.2 6, (os.length, .inr (.inr (.inr (.inr f)))))) ∧ ∀ i o, os[i]? = some o → ∃ a, f i = some a ∧ nO G H a o
theorem nLf.kp {H H' : yH} {a : Nat} {x : xLf} (h : nLf H a x) {ex : List Nat} (hk : yKp ex H H') (hx : ∀ b ∈ ex, ∀ fs, H b ≠ some (.inr (11, fs))) : nLf H' a x := hk _ _ (fun z => hx a z _ h) h
theorem nS1.kp {H H' : yH} {a : Nat} {x : xS1} (h : nS1 H a x) {ex : List Nat} (hk : yKp ex H H') (hx : ∀ b ∈ ex, ∀ fs, H b ≠ some (.inr (11, fs))) : nS1 H' a x := by
  refine ⟨fun q => (h.1 q).kp hk hx, fun q => ?_, fun q => ?_⟩
  · obtain ⟨p, h1, h2⟩ := h.2.1 q
    exact ⟨p, hk _ _ (fun z => hx a z _ h1) h1, h2.kp hk hx⟩
  · obtain ⟨p, t, h1, h2, h3⟩ := h.2.2 q
    exact ⟨p, t, hk _ _ (fun z => hx a z _ h1) h1, h2.kp hk hx, h3.kp hk hx⟩
theorem nT0.kp {H H' : yH} {a : Nat} {x : xT0} (h : nT0 H a x) {ex : List Nat} (hk : yKp ex H H') (hx : ∀ b ∈ ex, ∀ fs, H b ≠ some (.inr (11, fs))) : nT0 H' a x := by
  refine ⟨fun q => ?_, fun q => hk _ _ (fun z => hx a z _ (h.2 q)) (h.2 q)⟩
  obtain ⟨p, t, h1, h2, h3⟩ := h.1 q
  exact ⟨p, t, hk _ _ (fun z => hx a z _ h1) h1, h2.kp hk hx, h3.kp hk hx⟩
theorem nT1.kp {H H' : yH} {a : Nat} {x : xT1} (h : nT1 H a x) {ex : List Nat} (hk : yKp ex H H') (hx : ∀ b ∈ ex, ∀ fs, H b ≠ some (.inr (11, fs))) : nT1 H' a x := by
  refine ⟨fun q => ⟨(h.1 q).1, (h.1 q).2.kp hk hx⟩, fun q => ?_, fun q => ?_⟩
  · obtain ⟨p, h1, h2⟩ := h.2.1 q
    exact ⟨p, hk _ _ (fun z => hx a z _ h1) h1, h2.kp hk hx⟩
  · obtain ⟨p, t, h1, h2, h3⟩ := h.2.2 q
    exact ⟨p, t, hk _ _ (fun z => hx a z _ h1) h1, h2.kp hk hx, h3.kp hk hx⟩
/-- neither an expression nor an order nor a row of such -/
def yFar (G : eG) (H : yH) (b : Nat) : Prop := (∀ fs, H b ≠ some (.inr (11, fs))) ∧ (∀ fs, H b ≠ some (.inr (12, fs))) ∧ (∀ n f, H b ≠ some (.inl (G.2.2.2 7, (n, .inr (.inr (.inr (.inr f))))))) ∧ (∀ n f, H b ≠ some (.inl (G.2.2.2 6, (n, .inr (.inr (.inr (.inr f)))))))
theorem nO.kp {G : eG} {H H' : yH} {a : Nat} {o : xO} (h : nO G H a o) {ex : List Nat} (hk : yKp ex H H') (hx : ∀ b ∈ ex, yFar G H b) : nO G H' a o := by
  obtain ⟨sa, t, h1, h2, h3, h4⟩ := h
  have h11 : ∀ b ∈ ex, ∀ fs, H b ≠ some (.inr (11, fs)) := fun b hb => (hx b hb).1
  refine ⟨sa, t, hk _ _ (fun z => (hx a z).2.1 _ h1) h1, fun q => ?_, h3, fun q => ?_⟩
  · obtain ⟨f, s0, s1, s2, g1, g2, g3, g4, g5, g6, g7⟩ := h2 q
    exact ⟨f, s0, s1, s2, hk _ _ (fun z => (hx sa z).2.2.1 _ _ g1) g1, g2, g3, g4, g5.kp hk h11, g6.kp hk h11, g7.kp hk h11⟩
  · obtain ⟨b, g1, g2⟩ := h4 q
    exact ⟨b, g1, g2.kp hk h11⟩
theorem nOs.kp {G : eG} {H H' : yH} {oa : Nat} {os : List xO} (h : nOs G H oa os) {ex : List Nat} (hk : yKp ex H H') (hx : ∀ b ∈ ex, yFar G H b) : nOs G H' oa os := by
  obtain ⟨f, h1, h2⟩ := h
  refine ⟨f, hk _ _ (fun z => (hx oa z).2.2.2 _ _ h1) h1, fun i o ho => ?_⟩
  obtain ⟨a, g1, g2⟩ := h2 i o ho
  exact ⟨a, g1, g2.kp hk hx⟩
theorem yFar.I {G : eG} {H : yH} {b n : Nat} {f : Nat → Int32} (h : H b = some (.inl (G.2.2.2 0, (n, .inl f)))) : yFar G H b := ⟨(fun fs z => by rw [h] at z; cases z), (fun fs z => by rw [h] at z; cases z), (fun n f z => by rw [h] at z; simp at z), (fun n f z => by rw [h] at z; simp at z)⟩
theorem yFar.G10 {G : eG} {H : yH} {b : Nat} {fs : List Value} (h : H b = some (.inr (10, fs))) : yFar G H b := ⟨(fun fs z => by rw [h] at z; cases z), (fun fs z => by rw [h] at z; cases z), (fun n f z => by rw [h] at z; cases z), (fun n f z => by rw [h] at z; cases z)⟩
section OSpec
variable {G : eG} {M : eM} {H : yH} {g ta oa : Nat} {tk : Nat → Nat} {B : eBd} {r : Int32}
theorem S_rest (x : Int32) {d : Nat} (h0 : 2 ≤ d) (h1 : d < 2 ^ 31) : yRd G (1, 0, 0) kX14_rest [.int x, .int (nI d)] M H (.int (nI (zMod x d))) := by
  have e := (eFm_rest x h0 h1).trans (zMod_eq x h0 h1)
  refine yRd.of (C_X14_rest G M H _ x (nI d) ⟨nI_ne0 (by omega) h1, fun q => ?_, fun q => ?_⟩)
  · rw [if_pos q] at e; exact ⟨e, rfl, rfl⟩
  · rw [if_neg q] at e; exact ⟨e, rfl, rfl⟩
theorem gAt.far (h : gAt G H g ta oa tk B r) {k : Nat} (hk : k < bN B) : ∀ b ∈ [tk k], yFar G H b := fun b hb => by
  obtain ⟨f, q, -⟩ := h.2.2.1 k hk
  rw [List.mem_singleton.mp hb]
  exact yFar.I q
theorem S_isDone {a : Nat} {o : xO} {F : Bool → eM → yH → Prop} (hg : gAt G H g ta oa tk B r) (hm : bGm B) (ha : nO G H a o) (ho : xOk o) (hn : oM (bN B) o) (h : ∀ H', gAt G H' g ta oa tk (xAct r B o).1 r → yKp [tk o.1.2] H H' → F (xAct r B o).2 M H') : yCal G (10, 29, 810) kX14_isDone [.ref a, .ref g] M H (yFZ F) := by
  have hb := hm.1
  have h49 := hb.c49
  have h16 := hb.2.2.1
  have hk := hn.1
  obtain ⟨sa, t, h1, h2, h3, h4⟩ := ha
  have does : o.1.1 < 3 := ho.1
  -- behind the test
  have act : ∀ ca sl, ca ≤ 16 → sl ≤ 432 → (¬ (o.2.2.1 = true ∧ t1V B r o.2.2.2 = 0)) → Yx (yX "isDone") (yZ G 29 810 (yFZ (fun r M' H' => ∃ H0, yLe H0 H' ∧ F r M' H0))) G (eR (10, 29, 810)) kX14_isDone 30 [(0, .ref a), (1, .ref g), (2, .ref (tk o.1.2))] [] M H ca sl := by
    intro ca sl hca hsl htest
    unfold xAct at h
    rw [if_neg htest] at h
    refine B_X14_isDone_30 G ca sl M H _ a g (tk o.1.2) ⟨_, yG.of h1 rfl, fun q2 => ⟨_, yG.of h1 rfl, fun q1 => ?_, fun q1 => ?_⟩, fun q2 => ?_⟩
    · -- put
      have hd2 : o.1.1 ≠ 2 := fun z => q2 (by rw [z]; rfl)
      have hd1 : o.1.1 ≠ 1 := fun z => q1 (by rw [z]; rfl)
      have hd0 : o.1.1 = 0 := by omega
      rw [if_pos hd0] at h
      obtain ⟨f, s0, s1, s2, g1, g2, g3, g4, g5, g6, g7⟩ := h2 hd0
      have hW := hb.1
      have hR := hb.2.1
      unfold gAct at h
      rw [if_neg (by decide), if_pos rfl] at h
      generalize hv1 : s1V B r o.2.1.1 = v1 at h
      generalize hv2 : s1V B r o.2.1.2.1 = v2 at h
      generalize hv3 : s1V B r o.2.1.2.2 = v3 at h
      have m1 := zMod_lt v1 (d := bW B) (by omega) (by omega)
      have m2 := zMod_lt v2 (d := bR B) (by omega) (by omega)
      have m3 := zMod_lt v3 (d := 6) (by omega) (by omega)
      have hc : zMod v2 (bR B) * bW B + zMod v1 (bW B) < bC B := by
        have : zMod v2 (bR B) * bW B + bW B ≤ bR B * bW B := by rw [← Nat.succ_mul]; exact Nat.mul_le_mul_right _ m2
        show _ < bW B * bR B
        rw [Nat.mul_comm (bW B)]
        omega
      have hcell : nI (zMod v1 (bW B)) + nI (bW B) * nI (zMod v2 (bR B)) = nI (zMod v2 (bR B) * bW B + zMod v1 (bW B)) := by
        rw [nI_mul, nI_add]; congr 1; rw [Nat.mul_comm (bW B)]; omega
      have e0 : yER G 7 H sa 0 s0 := ⟨3, f, g1, vp_in_nI (n := 0) (by decide) (by decide), by rw [cl0]; exact g2⟩
      have e1 : yER G 7 H sa 1 s1 := ⟨3, f, g1, vp_in_nI (n := 1) (by decide) (by decide), by rw [cl1]; exact g3⟩
      have e2 : yER G 7 H sa 2 s2 := ⟨3, f, g1, vp_in_nI (n := 2) (by decide) (by decide), by rw [cl2]; exact g4⟩
      refine ⟨_, yG.of h1 rfl, _, e0, ⟨by omega, by omega⟩, g5.is, _, S_S1_1 g5 ho.2.1.1 hn.2.1.1 hg hm, _, yG.of hg.1 rfl, ⟨by omega, by omega⟩, _, by rw [hv1]; exact S_rest v1 (by omega) (by omega), _, yG.of hg.1 rfl, _, yG.of h1 rfl, _, e1, ⟨by omega, by omega⟩, g6.is, _, S_S1_1 g6 ho.2.1.2.1 hn.2.1.2.1 hg hm, _, yG.of hg.1 rfl, ⟨by omega, by omega⟩, _, by rw [hv2]; exact S_rest v2 (by omega) (by omega), _, yG.of h1 rfl, _, e2, ⟨by omega, by omega⟩, g7.is, _, S_S1_1 g7 ho.2.1.2.2 hn.2.1.2.2 hg hm, ⟨by omega, by omega⟩, _, by rw [hv3]; exact S_rest v3 (d := 6) (by omega) (by omega), ⟨by omega, by omega⟩, yIs.of hg.1, S_board hg hb (fun q hq fb hfb => ?_)⟩
      have hgq := hg.new hq (.inl (G.2.2.2 0, (bC B, .inl fb)))
      have hle := yLe.new hq (.inl (G.2.2.2 0, (bC B, .inl fb)))
      refine ⟨_, yG.of (hle _ _ h1) rfl, ⟨by omega, by omega⟩, yIs.of hgq.1, _, by rw [hcell]; exact S_fits hgq hb ⟨fb, yU_same _ _ _, hfb⟩ hk hc m3, fun z => ?_, fun z => ?_⟩
      · rw [z, if_pos rfl] at h
        obtain ⟨fk, k1, k2, k3, k4, k5, k6⟩ := hg.2.2.1 _ hk
        refine ⟨5, fk, hle _ _ k1, vp_in_nI (n := 3) (by decide) (by decide), 5, _, yU_same _ _ _, vp_in_nI (n := 4) (by decide) (by decide), ⟨by omega, by omega⟩, ?_⟩
        rw [yU_yU, cl3, cl4, hcell]
        refine ⟨_, hle.upd _ _, h _ (hg.set hk (bSz.put B _ _ _) (fun j hj => zU_ne _ _ hj) (fun j hj => zU_ne _ _ hj) ?_ ?_ ?_ ?_ ?_) (yKp.put _ _ _)⟩
        · rw [pk_un (by decide), pk_un (by decide)]; exact k2
        · rw [pk_un (by decide), pk_un (by decide)]; exact k3
        · rw [pk_un (by decide), pk_un (by decide)]; exact k4
        · rw [pk_un (by decide), pk_us]
          show _ = eO (zU (bCe B) o.1.2 (some _) o.1.2)
          rw [zU_same]; rfl
        · rw [pk_us]
          show _ = nI (zU (bTr B) o.1.2 _ o.1.2)
          rw [zU_same]
      · rw [z, if_neg (by decide)] at h
        exact ⟨⟨by omega, by omega⟩, H, hle, h H hg (yKp.refl _ _)⟩
    · -- take
      have hd1 : o.1.1 = 1 := nI_k (k := 1) (by omega) (by decide) q1
      rw [if_neg (by omega), hd1] at h
      unfold gAct at h
      rw [if_neg (by decide), if_neg (by decide)] at h
      obtain ⟨fk, k1, k2, k3, k4, k5, k6⟩ := hg.2.2.1 _ hk
      refine ⟨_, hg.t3 hk, ?_⟩
      cases hc : bCe B o.1.2 with
      | none =>
        rw [hc] at h
        refine ⟨fun _ => ⟨5, fk, k1, vp_in_nI (n := 3) (by decide) (by decide), ⟨by omega, by omega⟩, ?_⟩, fun z => absurd eM1l z⟩
        rw [cl3]
        refine ⟨_, yLe.refl _, h _ (hg.set hk (bSz.refl B) (fun j hj => rfl) (fun j hj => rfl) ?_ ?_ ?_ ?_ ?_) (yKp.put _ _ _)⟩
        · rw [pk_un (by decide)]; exact k2
        · rw [pk_un (by decide)]; exact k3
        · rw [pk_un (by decide)]; exact k4
        · rw [pk_us, hc]; rfl
        · rw [pk_un (by decide)]; exact k6
      | some c =>
        rw [hc] at h
        have hcl := (hb.2.2.2.2.1 _ c hk hc).1
        refine ⟨fun z => absurd z (nI_pos (by omega)), fun _ => ⟨5, fk, k1, vp_in_nI (n := 3) (by decide) (by decide), ⟨by omega, by omega⟩, ?_⟩⟩
        rw [cl3]
        refine ⟨_, yLe.refl _, h _ (hg.set hk (bSz.lift B _ _) (fun j hj => zU_ne _ _ hj) (fun j hj => rfl) ?_ ?_ ?_ ?_ ?_) (yKp.put _ _ _)⟩
        · rw [pk_un (by decide)]; exact k2
        · rw [pk_un (by decide)]; exact k3
        · rw [pk_un (by decide)]; exact k4
        · rw [pk_us]
          show _ = eO (zU (bCe B) o.1.2 none o.1.2)
          rw [zU_same]; rfl
        · rw [pk_un (by decide)]; exact k6
    · -- fit
      have hd2 : o.1.1 = 2 := nI_k (k := 2) (by omega) (by decide) q2
      rw [if_neg (by omega), hd2] at h
      unfold gAct at h
      rw [if_pos rfl] at h
      refine ⟨_, yG.of h1 rfl, ⟨by omega, by omega⟩, yIs.of hg.1, S_fit hg hb hk (fun z => ?_) (fun c u H' z1 z2 z3 z4 => ?_)⟩
      · rw [z] at h
        exact ⟨⟨by omega, by omega⟩, H, yLe.refl _, h H hg (yKp.refl _ _)⟩
      · rw [z1] at h
        refine ⟨⟨by omega, by omega⟩, H', yLe.refl _, h H' ?_ z4⟩
        show gAt G H' g ta oa tk (bPut B o.1.2 c ((bAny B o.1.2 c).getD 0)) r
        rw [z2]; exact z3
  refine yCal.weakZ (C_X14_isDone G M H _ a g ⟨_, hg.tA, _, yG.of h1 rfl, _, hg.tile hb hk, ?_⟩)
  cases htt : o.2.2.1 with
  | false =>
    refine Or.inl ⟨yG.of h1 (by rw [h3 htt]; rfl), act 0 0 (by omega) (by omega) (fun z => by rw [htt] at z; cases z.1)⟩
  | true =>
    obtain ⟨b, e, hb1⟩ := h4 htt
    subst e
    refine Or.inr ⟨b, yG.of h1 rfl, b, yG.of h1 rfl, ⟨by decide, by decide⟩, hb1.is, _, S_T1_3 hb1 ho.2.2 hn.2.2 hg hm, fun z => act _ _ (by omega) (by omega) (fun y => z y.2), fun z => ⟨⟨by decide, by decide⟩, H, yLe.refl _, ?_⟩⟩
    have e2 : xAct r B o = (B, false) := by unfold xAct; rw [if_pos ⟨htt, z⟩]
    rw [e2] at h
    exact h H hg (yKp.refl _ _)
end OSpec
/-- the tiles of a game -/
def gTl (B : eBd) (tk : Nat → Nat) : List Nat := (List.range (bN B)).map tk
theorem gTl.mem {B : eBd} (tk : Nat → Nat) {k : Nat} (hk : k < bN B) : tk k ∈ gTl B tk := List.mem_map.mpr ⟨k, List.mem_range.mpr hk, rfl⟩
theorem nO.is {G : eG} {H : yH} {a : Nat} {o : xO} (h : nO G H a o) : yIs H a 12 := by
  obtain ⟨sa, t, h1, -⟩ := h
  exact yIs.of h1
theorem xRnd_drop {r : Int32} {os : List xO} {i : Nat} {o : xO} (h : os[i]? = some o) (x : eBd × Nat) : xRnd r (os.drop i) x = xRnd r (os.drop (i + 1)) ((xAct r x.1 o).1, x.2 + (if (xAct r x.1 o).2 then 1 else 0)) := by
  obtain ⟨hi, e⟩ := List.getElem?_eq_some_iff.mp h
  rw [List.drop_eq_getElem_cons hi, e]
  rfl
/-- a round behind the other, and what was carried out -/
def xNx (os : List xO) (x : gX) : gX := ((xRnd x.2 os (x.1, 0)).1, x.2 + 1)
def xPl (os : List xO) : Nat → gX → gX
  | 0, x => x
  | n + 1, x => xPl os n (xNx os x)
def xPc (os : List xO) : Nat → gX → Int32 → Int32
  | 0, _, v => v
  | n + 1, x, v => xPc os n (xNx os x) (v + nI (xRnd x.2 os (x.1, 0)).2)
section OPlay
variable {G : eG} {M : eM} {H : yH} {g ta oa : Nat} {tk : Nat → Nat} {B : eBd} {r : Int32}
theorem gAt.next (h : gAt G H g ta oa tk B r) : gAt G (yU H g (.inr (10, [.int (nI (bW B)), .int (nI (bR B)), .ref ta, .int (r + 1), .ref oa]))) g ta oa tk B (r + 1) := by
  obtain ⟨h1, ⟨f, h2, h3⟩, h4, h5⟩ := h
  refine ⟨yU_same _ _ _, ⟨f, by rw [yU_ne _ _ (fun z => by rw [z, h1] at h2; simp at h2)]; exact h2, h3⟩, fun k hk => ?_, h5⟩
  obtain ⟨f, q1, q2⟩ := h4 k hk
  exact ⟨f, by rw [yU_ne _ _ (fun z => by rw [z, h1] at q1; simp at q1)]; exact q1, q2⟩
theorem S_play {os : List xO} {F : Int32 → eM → yH → Prop} (hg : gAt G H g ta oa tk B r) (hm : bGm B) (hos : nOs G H oa os) (h4 : os.length ≤ 4) (hk : ∀ o ∈ os, xOk o ∧ oM (bN B) o) (h : ∀ H', gAt G H' g ta oa tk (xRnd r os (B, 0)).1 (r + 1) → nOs G H' oa os → yKp (g :: gTl B tk) H H' → F (nI (xRnd r os (B, 0)).2) M H') : yCal G (11, 116, 3240) kX12_play [.ref g] M H (yFI F) := by
  have hos' := hos
  obtain ⟨fo, o1, o2⟩ := hos'
  refine C_X12_play G M H F g ⟨oa, yG.of hg.1 rfl, os.length, ⟨_, o1, rfl⟩, ?_⟩
  have key : ∀ i, i ≤ os.length → ∀ (A : eBd) (n : Nat) (H' : yH), gAt G H' g ta oa tk A r → bGm A → bN A = bN B → nOs G H' oa os → yKp (g :: gTl B tk) H H' → xRnd r (os.drop i) (A, n) = xRnd r os (B, 0) → Yx (yX "play") (yZ G 116 3240 (yFI F)) G (eR (11, 116, 3240)) kX12_play 13 [(0, .ref g), (1, .int (nI n)), (2, .ref oa), (3, .int (nI os.length)), (4, .int (nI i))] [] M H' (29 * i) (810 * i) := by
    refine eDown (P := fun i => ∀ (A : eBd) (n : Nat) (H' : yH), gAt G H' g ta oa tk A r → bGm A → bN A = bN B → nOs G H' oa os → yKp (g :: gTl B tk) H H' → xRnd r (os.drop i) (A, n) = xRnd r os (B, 0) → Yx (yX "play") (yZ G 116 3240 (yFI F)) G (eR (11, 116, 3240)) kX12_play 13 [(0, .ref g), (1, .int (nI n)), (2, .ref oa), (3, .int (nI os.length)), (4, .int (nI i))] [] M H' (29 * i) (810 * i)) ?_ ?_
    · intro A n H' a1 a2 a3 a4 a5 a6
      rw [List.drop_length] at a6
      have e : (A, n) = xRnd r os (B, 0) := a6
      rw [← e] at h
      refine B_X12_play_13 G _ _ M H' F g _ oa _ _ ⟨fun _ => ⟨r, yG.of a1.1 rfl, _, a1.1, Nat.le_of_ble_eq_true rfl, ⟨by omega, by omega⟩, ?_⟩, fun z => absurd (Int32.le_refl _) z⟩
      exact h _ a1.next (a4.kp (yKp.put _ _ _) (fun b hb => by rw [List.mem_singleton.mp hb]; exact yFar.G10 a1.1)) (a5.trans ((yKp.put _ _ _).mono (fun a ha => by rw [List.mem_singleton.mp ha]; exact List.mem_cons_self)))
    · intro i hi hn A n H' a1 a2 a3 a4 a5 a6
      have a4' := a4
      obtain ⟨f, f1, f2⟩ := a4'
      have ho := List.getElem?_eq_getElem hi
      obtain ⟨a, p1, p2⟩ := f2 i _ ho
      obtain ⟨q1, q2⟩ := hk _ (List.getElem_mem hi)
      generalize os[i] = o at ho p2 q1 q2
      rw [xRnd_drop ho (A, n)] at a6
      have hno : o.1.2 < bN A := by rw [a3]; exact q2.1
      obtain ⟨m1, m2⟩ := xAct_gm a2 (r := r) hno
      refine B_X12_play_13 G _ _ M H' F g _ oa _ _ ⟨fun z => absurd z (nI_ge hi (by omega)), fun _ => ⟨a, ⟨_, f, f1, vp_in_nI hi (by omega), by rw [nI_clamp (by omega)]; exact p1⟩, ⟨by omega, by omega⟩, p2.is, S_isDone a1 a2 p2 q1 (by rw [a3]; exact q2) (fun H2 b1 b2 => ?_)⟩⟩
      have c := hn _ _ H2 b1 m1 (m2.2.2.1.trans a3) (a4.kp b2 (a1.far hno)) (a5.trans (b2.mono (fun b hb => by rw [List.mem_singleton.mp hb]; exact List.mem_cons_of_mem _ (gTl.mem tk q2.1)))) a6
      have e1 : 29 * (i + 1) = 29 * i + 29 := by omega
      have e2 : 810 * (i + 1) = 810 * i + 810 := by omega
      rw [e1, e2, nI_succ] at c
      cases hx : (xAct r A o).2 with
      | false =>
        rw [hx] at c
        refine ⟨fun _ => B_X12_play_42 G _ _ M H2 F g _ oa _ _ ?_, fun z => by cases z⟩
        rw [nI_01]
        exact c
      | true =>
        rw [hx] at c
        refine ⟨(fun z => by cases z), fun _ => B_X12_play_42 G _ _ M H2 F g _ oa _ _ ?_⟩
        rw [← nI_succ n]
        exact c
  exact key 0 (Nat.zero_le _) B 0 H hg hm rfl hos (yKp.refl _ _) rfl
theorem xRnd_ok {os : List xO} {x : gX} (hm : bGm x.1) {N : Nat} (hN : bN x.1 = N) (hk : ∀ o ∈ os, xOk o ∧ oM N o) : bGm (xNx os x).1 ∧ bSz x.1 (xNx os x).1 := xRnd_gm os (x.1, 0) hm (fun o ho => by rw [hN]; exact (hk o ho).2.1)
theorem S_play_ {os : List xO} {m : Nat} {F : Int32 → eM → yH → Prop} (hg : gAt G H g ta oa tk B r) (hm : bGm B) (hos : nOs G H oa os) (h4 : os.length ≤ 4) (hk : ∀ o ∈ os, xOk o ∧ oM (bN B) o) (h6 : m ≤ 6) (h : ∀ H', gAt G H' g ta oa tk (xPl os m (B, r)).1 (xPl os m (B, r)).2 → nOs G H' oa os → yKp (g :: gTl B tk) H H' → F (xPc os m (B, r) 0) M H') : yCal G (12, 696, 19440) kX12_play_ [.ref g, .int (nI m)] M H (yFI F) := by
  refine C_X12_play_ G M H F g (nI m) ?_
  have key : ∀ i, i ≤ m → ∀ (x : gX) (v : Int32) (H' : yH), gAt G H' g ta oa tk x.1 x.2 → bGm x.1 → bN x.1 = bN B → nOs G H' oa os → yKp (g :: gTl B tk) H H' → xPl os (m - i) x = xPl os m (B, r) → xPc os (m - i) x v = xPc os m (B, r) 0 → Yx (yX "play") (yZ G 696 19440 (yFI F)) G (eR (12, 696, 19440)) kX12_play_ 4 [(0, .ref g), (1, .int (nI m)), (2, .int v), (3, .int (nI i))] [] M H' (116 * i) (3240 * i) := by
    refine eDown (P := fun i => ∀ (x : gX) (v : Int32) (H' : yH), gAt G H' g ta oa tk x.1 x.2 → bGm x.1 → bN x.1 = bN B → nOs G H' oa os → yKp (g :: gTl B tk) H H' → xPl os (m - i) x = xPl os m (B, r) → xPc os (m - i) x v = xPc os m (B, r) 0 → Yx (yX "play") (yZ G 696 19440 (yFI F)) G (eR (12, 696, 19440)) kX12_play_ 4 [(0, .ref g), (1, .int (nI m)), (2, .int v), (3, .int (nI i))] [] M H' (116 * i) (3240 * i)) ?_ ?_
    · intro x v H' a1 a2 a3 a4 a5 a6 a7
      rw [Nat.sub_self] at a6 a7
      have e6 : x = xPl os m (B, r) := a6
      have e7 : v = xPc os m (B, r) 0 := a7
      rw [← e6, ← e7] at h
      exact B_X12_play__4 G _ _ M H' F g _ _ _ ⟨fun _ => ⟨⟨by omega, by omega⟩, h H' a1 a4 a5⟩, fun z => absurd (Int32.le_refl _) z⟩
    · intro i hi hn x v H' a1 a2 a3 a4 a5 a6 a7
      obtain ⟨d, hd⟩ : ∃ d, m - i = d + 1 := ⟨m - i - 1, by omega⟩
      have hd' : m - (i + 1) = d := by omega
      rw [hd] at a6 a7
      rw [hd'] at hn
      obtain ⟨m1, m2⟩ := xRnd_ok a2 a3 hk
      refine B_X12_play__4 G _ _ M H' F g _ _ _ ⟨fun z => absurd z (nI_ge hi (by omega)), fun _ => ⟨⟨by omega, by omega⟩, yIs.of a1.1, S_play a1 a2 a4 h4 (by rw [a3]; exact hk) (fun H2 b1 b2 b3 => ?_)⟩⟩
      have e1 : 116 * (i + 1) = 116 * i + 116 := by omega
      have e2 : 3240 * (i + 1) = 3240 * i + 3240 := by omega
      have hl : gTl x.1 tk = gTl B tk := by unfold gTl; rw [a3]
      rw [hl] at b3
      have c := hn (xNx os x) _ H2 b1 m1 (m2.2.2.1.trans a3) b2 (a5.trans b3) a6 a7
      rw [e1, e2, nI_succ] at c
      exact c
  exact key 0 (Nat.zero_le _) (B, r) 0 H hg hm rfl hos (yKp.refl _ _) rfl rfl
end OPlay
