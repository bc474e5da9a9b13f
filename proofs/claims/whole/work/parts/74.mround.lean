/-! ===== the model carries orders and rounds out ===== -/
def gVals (M : eM) (tv : Nat → Nat) (B : eBd) (r : Int32) (o : pOrd) : Prop := (oKind o = 4 → M 129 (oFrom o + (oS1 o).length - 1) = gVal tv B r (oS1 o) ∧ M 129 (oFrom o + (oS1 o).length + (oS2 o).length - 1) = gVal tv B r (oS2 o) ∧ M 129 (oMid o - 1) = gVal tv B r (oS3 o)) ∧ (oHas o = true → M 129 (oEnd o - 1) = gVal tv B r (oTst o))
def rFm (s : Nat) (M M' : eM) : Prop := (∀ c, c ≠ 129 → (c < s ∨ s + 3 < c) → M' c = M c) ∧ ∀ j, j ≠ 3 → M' s j = M s j
theorem rFm.refl (s : Nat) (M : eM) : rFm s M M := ⟨fun _ _ _ => rfl, fun _ _ => rfl⟩
theorem rFm.trans {s : Nat} {M M1 M2 : eM} (h : rFm s M M1) (h1 : rFm s M1 M2) : rFm s M M2 := ⟨fun c a b => (h1.1 c a b).trans (h.1 c a b), fun j a => (h1.2 j a).trans (h.2 j a)⟩
theorem vFr.m {s b : Nat} {M M' : eM} (h : vFr M M' b) (hs : s ≠ 129) : rFm s M M' := ⟨fun c a _ => h.c a, fun j _ => by rw [h.c hs]⟩
theorem mPg.r {s : Nat} {M M' : eM} {tv : Nat → Nat} {os : List pOrd} (h : mPg M tv os) (hf : rFm s M M') (hs : 118 ≤ s) : mPg M' tv os := h.fr (fun c c1 c2 => hf.1 c (by omega) (by omega))
/-- all but a state and the values -/
def qFm (s : Nat) (M M' : eM) : Prop := (∀ c, c ≠ 129 → (c < s ∨ s + 3 < c) → M' c = M c) ∧ ∀ j, j ≠ 3 → j ≠ 4 → M' s j = M s j
theorem qFm.refl (s : Nat) (M : eM) : qFm s M M := ⟨fun _ _ _ => rfl, fun _ _ _ => rfl⟩
theorem qFm.trans {s : Nat} {M M1 M2 : eM} (h : qFm s M M1) (h1 : qFm s M1 M2) : qFm s M M2 := ⟨fun c a b => (h1.1 c a b).trans (h.1 c a b), fun j a b => (h1.2 j a b).trans (h.2 j a b)⟩
theorem mPg.q {s : Nat} {M M' : eM} {tv : Nat → Nat} {os : List pOrd} (h : mPg M tv os) (hf : qFm s M M') (hs : 118 ≤ s) : mPg M' tv os := h.fr (fun c c1 c2 => hf.1 c (by omega) (by omega))
theorem bP16 {B : eBd} (hg : bOk B) : bP B ≤ 16 := by
  rw [hg.2.2.2.2.2.2]
  have h1 := zSm_le (f := fun k => if (bCe B k).isSome then 1 else 0) (k := 1) (n := bN B) (fun i _ => by split <;> omega)
  have h2 := hg.2.2.1
  omega
theorem gAct_8 (B : eBd) (i : Nat) (v1 v2 v3 : Int32) : gAct B 8 i v1 v2 v3 = gAct B 8 i 0 0 0 := by
  unfold gAct
  rw [if_pos rfl, if_pos rfl]
section MOrd
variable {G : eG} {tv : Nat → Nat} {B : eBd} {r : Int32} {os : List pOrd}
theorem S_fm {M : eM} {d : Nat} (h0 : 2 ≤ d) (h1 : d < 2 ^ 31) (F : Int32 → eM → Prop) (x : Int32) (h : F (nI (zMod x d)) M) : Cal G 100 40 (1, 0, 0) kJ9_floorMod_7cf53 [.int x, .int (nI d)] M (eFI F) := by
  refine C_floorMod (nI_ne0 (by omega) h1) _ ?_
  rw [zMod_eq x h0 h1]
  exact h
theorem S_mput_130 (hg : bOk B) {M : eM} (hM : mB 130 131 132 133 M B) (F : eM → Prop) {i c u : Nat} (hi : i < bN B) (hc : c < bC B) (hu : u < 6) (h2 : bCe B i = none) (h : ∀ M', rFm 130 M M' → mB 130 131 132 133 M' (bPut B i c u) → F M') : Cal G 100 40 (1, 0, 0) kX11_put [.ref (G.1 130), .int (nI i), .int (nI c), .int (nI u)] M (eFV F) := by
  have h49 := hg.c49
  have h16 := hg.2.2.1
  refine C_X11_put_130 G M F _ _ _ ?_
  rw [nI_clamp (show c < 2 ^ 31 by omega), nI_clamp (show i < 2 ^ 31 by omega), eU_cell _ _ _ _ (by decide : 130 ≠ 133), eU_cell _ _ _ _ (by decide : 130 ≠ 132), eU_cell _ _ _ _ (by decide : 130 ≠ 131), hM.2.2.2.2.2]
  refine ⟨vp_in_nI (by omega) (by decide), vp_in_nI (by omega) (by decide), vp_in_nI (by omega) (by decide), h _ ⟨fun x a b => ?_, fun j a => ?_⟩ (mB.put (by decide) hM hi h2)⟩
  · rw [eU_other _ _ _ (by omega), eU_other _ _ _ (by omega), eU_other _ _ _ (by omega), eU_other _ _ _ (by omega)]
  · rw [eU_place _ _ _ _ a, eU_cell _ _ _ _ (by decide), eU_cell _ _ _ _ (by decide), eU_cell _ _ _ _ (by decide)]
theorem S_mtake_130 (hg : bOk B) {M : eM} (hM : mB 130 131 132 133 M B) (F : eM → Prop) {i c : Nat} (hi : i < bN B) (h2 : bCe B i = some c) (h : ∀ M', rFm 130 M M' → mB 130 131 132 133 M' (bLift B i c) → F M') : Cal G 100 40 (1, 0, 0) kX11_take [.ref (G.1 130), .int (nI i)] M (eFV F) := by
  have h49 := hg.c49
  have h16 := hg.2.2.1
  have hc := (hg.2.2.2.2.1 i c hi h2).1
  refine C_X11_take_130 G M F _ ?_
  rw [nI_clamp (show i < 2 ^ 31 by omega), hM.2.2.2.1 i hi, h2, eO_some, nI_clamp (show c < 2 ^ 31 by omega), eU_cell _ _ _ _ (by decide : 130 ≠ 132), eU_cell _ _ _ _ (by decide : 130 ≠ 131), hM.2.2.2.2.2]
  refine ⟨vp_in_nI (by omega) (by decide), vp_in_nI (by omega) (by decide), vp_in_nI (by omega) (by decide), h _ ⟨fun x a b => ?_, fun j a => ?_⟩ (mB.lift hg (by decide) hM hi h2)⟩
  · rw [eU_other _ _ _ (by omega), eU_other _ _ _ (by omega), eU_other _ _ _ (by omega)]
  · rw [eU_place _ _ _ _ a, eU_cell _ _ _ _ (by decide), eU_cell _ _ _ _ (by decide)]
theorem S_fitted_130 (hg : bGm B) {M : eM} (hM : mB 130 131 132 133 M B) (F : Bool → eM → Prop) {i : Nat} (hi : i < bN B) (h : ∀ M', rFm 130 M M' → mB 130 131 132 133 M' (gAct B 8 i 0 0 0).1 → F (gAct B 8 i 0 0 0).2 M') : Cal G 100 40 (7, 0, 0) kX13_isFitted [.ref (G.1 100), .ref (G.1 130), .int (nI i)] M (eFZ F) := by
  have h49 := hg.1.c49
  refine C_X13_isFitted_130 G M F _ (S_firstWay_130 G hg.1 hM _ hi ?_)
  unfold gAct at h
  rw [if_pos rfl] at h
  cases h1 : bFirst B i with
  | none =>
    rw [h1] at h
    have ew : bWay B i = none := by unfold bWay; rw [h1]
    rw [ew]
    exact ⟨fun q => absurd rfl q, fun _ => h M (rFm.refl _ M) hM⟩
  | some c =>
    rw [h1] at h
    obtain ⟨hc, t, ht, ht6, hf⟩ := bFirst_some h1
    obtain ⟨f1', -, -⟩ := bFits_face hf
    replace h : ∀ M', rFm 130 M M' → mB 130 131 132 133 M' (bPut B i c ((bAny B i c).getD 0)) → F true M' := h
    rw [ht] at h
    have ew : bWay B i = some (6 * c + t) := by
      unfold bWay
      rw [h1]
      show some (6 * c + (bAny B i c).getD 0) = _
      rw [ht]
      rfl
    rw [ew, eO_some]
    refine ⟨fun _ => ?_, fun q => absurd q (eNeg (6 * c + t) (by omega))⟩
    rw [eL6, nI_rem (show 6 * c + t < 2 ^ 31 by omega) (by decide) (by decide), nI_div (show 6 * c + t < 2 ^ 31 by omega) (by decide) (by decide), show (6 * c + t) / 6 = c by omega, show (6 * c + t) % 6 = t by omega]
    exact S_mput_130 hg.1 hM _ hi hc ht6 f1' h
theorem S_isPut_130 (hg : bGm B) {M : eM} (hM : mB 130 131 132 133 M B) (F : Bool → eM → Prop) {i : Nat} (hi : i < bN B) (v1 v2 v3 : Int32) (h : ∀ M', rFm 130 M M' → mB 130 131 132 133 M' (gAct B 4 i v1 v2 v3).1 → F (gAct B 4 i v1 v2 v3).2 M') : Cal G 100 40 (6, 0, 0) kX13_isPut [.ref (G.1 100), .ref (G.1 130), .int (nI i), .int v1, .int v2, .int v3] M (eFZ F) := by
  obtain ⟨⟨w1, w2⟩, ⟨r1, r2⟩, -⟩ := hg.1
  have hc := gCell_lt hg.1 v1 v2
  have hu := zMod_lt v3 (d := 6) (by decide) (by decide)
  refine C_X13_isPut_130 G M F _ v1 v2 v3 ?_
  rw [hM.1.2.1]
  refine S_fm (d := bR B) (by omega) (by omega) _ _ ?_
  rw [hM.1.1]
  refine S_fm (d := bW B) (by omega) (by omega) _ _ ?_
  refine S_fm (d := 6) (by decide) (by decide) _ _ ?_
  rw [nI_mul, nI_add]
  refine S_fits_130 G hg.1 hM _ hi hc hu ⟨fun z => ?_, fun z => ?_⟩
  · obtain ⟨f1', f2', -⟩ := bFits_face z
    refine S_mput_130 hg.1 hM _ hi hc hu f1' (fun M' f' b' => ?_)
    have ea : gAct B 4 i v1 v2 v3 = (bPut B i (zMod v2 (bR B) * bW B + zMod v1 (bW B)) (zMod v3 6), true) := by
      unfold gAct
      rw [if_neg (by decide), if_pos rfl, if_pos z]
    have := h M' f'
    rw [ea] at this
    exact this b'
  · have ea : gAct B 4 i v1 v2 v3 = (B, false) := by
      unfold gAct
      rw [if_neg (by decide), if_pos rfl, z]
      rfl
    have := h M (rFm.refl _ M)
    rw [ea] at this
    exact this hM
theorem M_act_130 (hg : bGm B) (hp : gPrg (bN B) tv os) {M : eM} (hP : mPg M tv os) (hM : mB 130 131 132 133 M B) {k : Nat} {o : pOrd} (ho : os[k]? = some o) (hv : gVals M tv B r o) (F : Bool → eM → Prop) (hF : ∀ M', rFm 130 M M' → mB 130 131 132 133 M' (gAct B (oKind o) (tv (oName o)) (gVal tv B r (oS1 o)) (gVal tv B r (oS2 o)) (gVal tv B r (oS3 o))).1 → F (gAct B (oKind o) (tv (oName o)) (gVal tv B r (oS1 o)) (gVal tv B r (oS2 o)) (gVal tv B r (oS3 o))).2 M') : Ev (eZ G 100 40 0 0 (eFZ F)) G 100 40 (9, 0, 0) kX13_carryOut 99 [(0, .ref (G.1 100)), (1, .ref (G.1 130)), (2, .int (nI k))] [] M 0 0 := by
  obtain ⟨p1, p2, p3⟩ := hp
  obtain ⟨o1, o2, ⟨o3, o3'⟩, o4, o5, o6, o7, o8⟩ := p3 o (List.mem_of_getElem? ho)
  have h16 := hg.1.2.2.1
  have h49 := hg.1.c49
  have hk : k < 16 := by
    rcases Nat.lt_or_ge k os.length with h1 | h1
    · omega
    · rw [List.getElem?_eq_none h1] at ho; cases ho
  have ek : (nI k).toNatClampNeg = k := nI_clamp (by omega)
  have ei : (nI (tv (oName o))).toNatClampNeg = tv (oName o) := nI_clamp (by omega)
  obtain ⟨d1, d2, d3, d4, d5, d6⟩ := hP.2.1 k o ho
  have v17 : vp_in (nI k) 17 := vp_in_nI (by omega) (by decide)
  have v16 : vp_in (nI (tv (oName o))) 16 := vp_in_nI (by omega) (by decide)
  refine B_X13_carryOut_130_99 G M F _ ⟨v17, v17, ?_⟩
  rw [ek, d1, d2, ei]
  rcases o1 with h | h | h
  · rw [h] at hF ⊢
    rw [show nI (mDoes 4) = 0 from by decide]
    obtain ⟨e1, e2, e3⟩ := d5 h
    obtain ⟨x1, x2, x3⟩ := hv.1 h
    obtain ⟨t1, t2, t3⟩ := o5 h
    have q1 := t1.len
    have q2 := t2.len
    have q3 := t3.len
    have hm : oMid o ≤ oEnd o := Nat.le_add_right _ _
    have hmm : oMid o = oFrom o + (oS1 o).length + (oS2 o).length + (oS3 o).length := rfl
    refine ⟨fun _ => ⟨v17, fun q => absurd rfl q, fun _ => ?_⟩, fun q => absurd q (by decide)⟩
    rw [show (3 : Int32) * nI k = nI (3 * k) by rw [eL3, nI_mul], show nI (3 * k) + 1 = nI (3 * k + 1) from (nI_succ _).symm, show nI (3 * k) + 2 = nI (3 * k + 2) by rw [eL2, nI_add], nI_clamp (show 3 * k < 2 ^ 31 by omega), nI_clamp (show 3 * k + 1 < 2 ^ 31 by omega), nI_clamp (show 3 * k + 2 < 2 ^ 31 by omega), e1, e2, e3]
    rw [nI_clamp (show oFrom o + (oS1 o).length - 1 < 2 ^ 31 by omega), nI_clamp (show oFrom o + (oS1 o).length + (oS2 o).length - 1 < 2 ^ 31 by omega), nI_clamp (show oMid o - 1 < 2 ^ 31 by omega), x1, x2, x3]
    exact ⟨vp_in_nI (by omega) (by decide), vp_in_nI (by omega) (by decide), vp_in_nI (by omega) (by decide), vp_in_nI (by omega) (by decide), vp_in_nI (by omega) (by decide), vp_in_nI (by omega) (by decide), S_isPut_130 hg hM _ o2 _ _ _ hF⟩
  · rw [h] at hF ⊢
    rw [show nI (mDoes 7) = 1 from by decide]
    unfold gAct at hF
    rw [if_neg (by decide), if_neg (by decide)] at hF
    refine ⟨fun _ => ⟨v17, fun _ => ⟨v16, ?_⟩, fun q => absurd q (by decide)⟩, fun q => absurd q (by decide)⟩
    rw [hM.2.2.2.1 _ o2]
    cases h1 : bCe B (tv (oName o)) with
    | none =>
      rw [h1] at hF
      exact ⟨fun q => absurd rfl q, fun _ => hF M (rFm.refl _ M) hM⟩
    | some c =>
      rw [h1] at hF
      have hc := (hg.1.2.2.2.2.1 _ c o2 h1).1
      exact ⟨fun _ => S_mtake_130 hg.1 hM _ o2 h1 hF, fun q => absurd q (eNeg c (by omega))⟩
  · rw [h] at hF ⊢
    rw [show nI (mDoes 8) = 2 from by decide]
    rw [gAct_8] at hF
    exact ⟨fun q => absurd rfl q, fun _ => S_fitted_130 hg hM _ o2 hF⟩
theorem M_order_130 (hg : bGm B) (hp : gPrg (bN B) tv os) {M : eM} (hP : mPg M tv os) (hM : mB 130 131 132 133 M B) (hr : M 130 4 = r) {k : Nat} {o : pOrd} (ho : os[k]? = some o) (F : Bool → eM → Prop) (hF : ∀ M', rFm 130 M M' → mB 130 131 132 133 M' (gOrdR tv r B o).1 → F (gOrdR tv r B o).2 M') : Cal G 100 40 (9, 0, 0) kX13_carryOut [.ref (G.1 100), .ref (G.1 130), .int (nI k)] M (eFZ F) := by
  have hp' := hp
  obtain ⟨p1, p2, p3⟩ := hp
  obtain ⟨o1, o2, ⟨o3, o3'⟩, o4, o5, o6, o7, o8⟩ := p3 o (List.mem_of_getElem? ho)
  have hk : k < 16 := by
    rcases Nat.lt_or_ge k os.length with h1 | h1
    · omega
    · rw [List.getElem?_eq_none h1] at ho; cases ho
  have ek : (nI k).toNatClampNeg = k := nI_clamp (by omega)
  obtain ⟨d1, d2, d3, d4, d5, d6⟩ := hP.2.1 k o ho
  have v17 : vp_in (nI k) 17 := vp_in_nI (by omega) (by decide)
  have hno : mNo M tv (oFrom o) (oCode o) := fun j s hs => by
    have := hP.2.2 _ s (o3' j s hs)
    rw [Nat.zero_add] at this
    exact this
  have hend : oFrom o + (oCode o).length = oEnd o := oCode_len o
  refine C_X13_carryOut_130 G M F _ ⟨v17, ?_⟩
  rw [ek, d3]
  -- behind the last node
  have fin : ∀ M1, vFr M M1 (oFrom o) → gVals M1 tv B r o → Ev (eZ G 100 40 0 0 (eFZ F)) G 100 40 (9, 0, 0) kX13_carryOut 10 [(0, .ref (G.1 100)), (1, .ref (G.1 130)), (2, .int (nI k)), (3, .int (nI (oEnd o)))] [] M1 0 0 := by
    intro M1 f1 hv
    have P1 := hP.r (f1.m (s := 130) (by decide)) (by decide)
    obtain ⟨-, -, -, c4, -, c6⟩ := P1.2.1 k o ho
    have B1 := hM.v f1 (by decide)
    have act : (oHas o = true → ¬ gVal tv B r (oTst o) = 0) → Ev (eZ G 100 40 0 0 (eFZ F)) G 100 40 (9, 0, 0) kX13_carryOut 99 [(0, .ref (G.1 100)), (1, .ref (G.1 130)), (2, .int (nI k))] [] M1 0 0 := by
      intro hz
      refine M_act_130 hg hp' P1 B1 ho hv F (fun M' f' b' => ?_)
      have := hF M' ((f1.m (s := 130) (by decide)).trans f')
      unfold gOrdR at this
      rw [if_neg (fun z => hz z.1 z.2)] at this
      exact this b'
    refine B_X13_carryOut_130_10 G M1 F _ _ ⟨v17, fun _ => ⟨v17, ?_⟩, fun q => absurd ?_ q⟩
    · rw [ek, c6]
      cases hh : oHas o with
      | false => exact ⟨fun _ => act (fun z => by rw [hh] at z; cases z), fun q => absurd rfl q⟩
      | true =>
        rw [if_pos rfl]
        have hpos := (o7 hh).len
        have he : oEnd o = oMid o + (oTst o).length := rfl
        refine ⟨fun q => absurd q (eNeg (oEnd o - 1) (by omega)), fun _ => ⟨v17, vp_in_nI (by omega) (by decide), ?_⟩⟩
        rw [nI_clamp (show oEnd o - 1 < 2 ^ 31 by omega), hv.2 hh]
        refine ⟨fun q => act (fun _ => q), fun q => ?_⟩
        have := hF M1 (f1.m (by decide))
        unfold gOrdR at this
        rw [if_pos ⟨hh, q⟩] at this
        exact this B1
    · rw [ek, c4]
      exact Int32.le_refl _
  -- the test
  have tst : ∀ M1, vFr M M1 (oFrom o) → (oKind o = 4 → M1 129 (oFrom o + (oS1 o).length - 1) = gVal tv B r (oS1 o) ∧ M1 129 (oFrom o + (oS1 o).length + (oS2 o).length - 1) = gVal tv B r (oS2 o) ∧ M1 129 (oMid o - 1) = gVal tv B r (oS3 o)) → Ev (eZ G 100 40 0 0 (eFZ F)) G 100 40 (9, 0, 0) kX13_carryOut 10 [(0, .ref (G.1 100)), (1, .ref (G.1 130)), (2, .int (nI k)), (3, .int (nI (oMid o)))] [] M1 0 0 := by
    intro M1 f1 hv
    cases hh : oHas o with
    | false =>
      have he : oEnd o = oMid o := by
        show oMid o + (oTst o).length = oMid o
        rw [o8 hh]
        rfl
      rw [← he]
      exact fin M1 f1 ⟨hv, fun z => by rw [hh] at z; cases z⟩
    | true =>
      obtain ⟨n, ht⟩ := o7 hh
      have hpos := (o7 hh).len
      have hno1 : mNo M1 tv (oMid o) (oTst o) := by
        have h1 : mNo M tv (oFrom o) (oS1 o ++ (oS2 o ++ (oS3 o ++ oTst o))) := hno
        have h2 := h1.right.right.right
        exact h2.v f1
      have c4 : M1 112 k = nI (oEnd o) := by rw [f1.c (by decide)]; exact d4
      refine Em_tree_130 F (tv := tv) (B := B) (r := r) hg.1 (show k < 17 by omega) (show oEnd o ≤ 800 by omega) n true (oMid o) (oTst o) M1 ht (fun s hs => o4 s (List.mem_append_right _ (List.mem_append_right _ (List.mem_append_right _ hs)))) (Nat.le_refl _) (hM.v f1 (by decide)) (by rw [f1.c (by decide)]; exact hr) hno1 c4 (fun M2 f2 v2 => ?_)
      have hfm : oFrom o ≤ oMid o := by unfold oMid; omega
      refine fin M2 (f1.trans f2 hfm) ⟨fun h4 => ?_, fun _ => v2⟩
      obtain ⟨x1, x2, x3⟩ := hv h4
      obtain ⟨t1, t2, t3⟩ := o5 h4
      have q1 := t1.len
      have q2 := t2.len
      have q3 := t3.len
      have hmm : oMid o = oFrom o + (oS1 o).length + (oS2 o).length + (oS3 o).length := rfl
      exact ⟨by rw [f2 129 _ (by omega)]; exact x1, by rw [f2 129 _ (by omega)]; exact x2, by rw [f2 129 _ (by omega)]; exact x3⟩
  by_cases h4 : oKind o = 4
  · obtain ⟨⟨n1, t1⟩, ⟨n2, t2⟩, ⟨n3, t3⟩⟩ := o5 h4
    obtain ⟨q1, q2, q3⟩ := o5 h4
    replace q1 := q1.len
    replace q2 := q2.len
    replace q3 := q3.len
    have hmm : oMid o = oFrom o + (oS1 o).length + (oS2 o).length + (oS3 o).length := rfl
    have hme : oMid o ≤ oEnd o := Nat.le_add_right _ _
    have hk17 : k < 17 := by omega
    have he8 : oEnd o ≤ 800 := by omega
    have h0 : mNo M tv (oFrom o) (oS1 o ++ (oS2 o ++ (oS3 o ++ oTst o))) := hno
    refine Em_tree_130 F (tv := tv) (B := B) (r := r) hg.1 hk17 he8 n1 false (oFrom o) (oS1 o) M t1 (fun s hs => o4 s (List.mem_append_left _ hs)) (by omega) hM hr h0.left d4 (fun M1 f1 v1 => ?_)
    refine Em_tree_130 F (tv := tv) (B := B) (r := r) hg.1 hk17 he8 n2 false _ (oS2 o) M1 t2 (fun s hs => o4 s (List.mem_append_right _ (List.mem_append_left _ hs))) (by omega) (hM.v f1 (by decide)) (by rw [f1.c (by decide)]; exact hr) (h0.right.left.v f1) (by rw [f1.c (by decide)]; exact d4) (fun M2 f2 v2 => ?_)
    have g2 := f1.trans f2 (by omega)
    refine Em_tree_130 F (tv := tv) (B := B) (r := r) hg.1 hk17 he8 n3 false _ (oS3 o) M2 t3 (fun s hs => o4 s (List.mem_append_right _ (List.mem_append_right _ (List.mem_append_left _ hs)))) (by omega) (hM.v g2 (by decide)) (by rw [g2.c (by decide)]; exact hr) (h0.right.right.left.v g2) (by rw [g2.c (by decide)]; exact d4) (fun M3 f3 v3 => ?_)
    refine tst M3 (g2.trans f3 (by omega)) (fun _ => ⟨?_, ?_, v3⟩)
    · rw [f3 129 _ (by omega), f2 129 _ (by omega)]; exact v1
    · rw [f3 129 _ (by omega)]; exact v2
  · obtain ⟨z1, z2, z3⟩ := o6 h4
    have hm : oFrom o = oMid o := by
      unfold oMid
      rw [z1, z2, z3]
      rfl
    rw [hm]
    exact tst M (vFr.refl M _) (fun z => absurd z h4)
theorem M_orders_130 {N : Nat} (hp : gPrg N tv os) (F : Int32 → eM → Prop) : ∀ (os2 : List pOrd) (k : Nat) (x : eBd × Nat) (M : eM), (∀ j, os[k + j]? = os2[j]?) → k + os2.length = os.length → mPg M tv os → bGm x.1 → bN x.1 = N → mB 130 131 132 133 M x.1 → M 130 4 = r → (∀ M', rFm 130 M M' → mB 130 131 132 133 M' (gRnd tv r os2 x).1 → F (nI (gRnd tv r os2 x).2) (eU M' 130 4 (r + 1))) → Ev (eZ G 100 40 0 0 (eFI F)) G 100 40 (10, 0, 0) kX13_play 4 [(0, .ref (G.1 100)), (1, .ref (G.1 130)), (2, .int (nI x.2)), (3, .int (nI k))] [] M 0 0
  | [], k, x, M, _, hl, hP, _, _, hB, hr, hF => by
    have h16 := hp.1
    have hl' : k = os.length := hl
    refine B_X13_play_130_4 G M F _ _ ⟨fun _ => ?_, fun q => absurd ?_ q⟩
    · rw [hr]; exact hF M (rFm.refl _ M) hB
    · rw [hP.1, hl']; exact Int32.le_refl _
  | o :: os2, k, x, M, hj, hl, hP, hg, hN, hB, hr, hF => by
    have h16 := hp.1
    have hl' : k + (os2.length + 1) = os.length := hl
    have ho : os[k]? = some o := hj 0
    have hmem := List.mem_of_getElem? ho
    have hi : tv (oName o) < bN x.1 := by rw [hN]; exact (hp.2.2 o hmem).2.1
    obtain ⟨g1, g2⟩ := gOrdR_gm hg (r := r) hi
    refine B_X13_play_130_4 G M F _ _ ⟨fun q => absurd q ?_, fun _ => ?_⟩
    · rw [hP.1]; exact nI_ge (by omega) (by omega)
    · refine M_order_130 hg (by rw [hN]; exact hp) hP hB hr ho _ (fun M1 f1 b1 => ?_)
      have go := M_orders_130 hp F os2 (k + 1) ((gOrdR tv r x.1 o).1, x.2 + (if (gOrdR tv r x.1 o).2 then 1 else 0)) M1 (fun j => by rw [show k + 1 + j = k + (j + 1) by omega]; exact hj (j + 1)) (by omega) (hP.r f1 (by decide)) g1 (g2.2.2.1.trans hN) b1 (by rw [f1.2 4 (by decide)]; exact hr) (fun M2 f2 b2 => hF M2 (f1.trans f2) b2)
      refine ⟨fun z => ?_, fun z => ?_⟩
      · rw [z] at go
        rw [← nI_succ k, eL0, nI_add]
        exact go
      · rw [z] at go
        rw [← nI_succ, ← nI_succ]
        exact go
theorem M_round_130 (hg : bGm B) (hp : gPrg (bN B) tv os) {M : eM} (hP : mPg M tv os) (hB : mB 130 131 132 133 M B) (F : Int32 → eM → Prop) (hF : ∀ M', qFm 130 M M' → mB 130 131 132 133 M' (gRnd tv (M 130 4) os (B, 0)).1 → M' 130 4 = M 130 4 + 1 → F (nI (gRnd tv (M 130 4) os (B, 0)).2) M') : Cal G 100 40 (10, 0, 0) kX13_play [.ref (G.1 100), .ref (G.1 130)] M (eFI F) := by
  refine C_X13_play_130 G M F (M_orders_130 hp F os 0 (B, 0) M (fun j => by rw [Nat.zero_add]) (Nat.zero_add _) hP hg rfl hB rfl (fun M' f' b' => ?_))
  refine hF _ ⟨fun c a b => ?_, fun j a b => ?_⟩ ?_ (eU_same _ _ _ _)
  · rw [eU_other _ _ _ (by omega)]; exact f'.1 c a b
  · rw [eU_place _ _ _ _ b]; exact f'.2 j a
  · obtain ⟨b1, b2, b3, b4, b5, b6⟩ := b'
    unfold mB
    rw [eU_other _ _ _ (by decide), eU_other _ _ _ (by decide), eU_other _ _ _ (by decide), eU_other _ _ _ (by decide), eU_other _ _ _ (by decide), eU_place _ _ _ _ (by decide)]
    exact ⟨b1, b2, b3, b4, b5, b6⟩
theorem S_mput_134 (hg : bOk B) {M : eM} (hM : mB 134 135 136 137 M B) (F : eM → Prop) {i c u : Nat} (hi : i < bN B) (hc : c < bC B) (hu : u < 6) (h2 : bCe B i = none) (h : ∀ M', rFm 134 M M' → mB 134 135 136 137 M' (bPut B i c u) → F M') : Cal G 100 40 (1, 0, 0) kX11_put [.ref (G.1 134), .int (nI i), .int (nI c), .int (nI u)] M (eFV F) := by
  have h49 := hg.c49
  have h16 := hg.2.2.1
  refine C_X11_put_134 G M F _ _ _ ?_
  rw [nI_clamp (show c < 2 ^ 31 by omega), nI_clamp (show i < 2 ^ 31 by omega), eU_cell _ _ _ _ (by decide : 134 ≠ 137), eU_cell _ _ _ _ (by decide : 134 ≠ 136), eU_cell _ _ _ _ (by decide : 134 ≠ 135), hM.2.2.2.2.2]
  refine ⟨vp_in_nI (by omega) (by decide), vp_in_nI (by omega) (by decide), vp_in_nI (by omega) (by decide), h _ ⟨fun x a b => ?_, fun j a => ?_⟩ (mB.put (by decide) hM hi h2)⟩
  · rw [eU_other _ _ _ (by omega), eU_other _ _ _ (by omega), eU_other _ _ _ (by omega), eU_other _ _ _ (by omega)]
  · rw [eU_place _ _ _ _ a, eU_cell _ _ _ _ (by decide), eU_cell _ _ _ _ (by decide), eU_cell _ _ _ _ (by decide)]
theorem S_mtake_134 (hg : bOk B) {M : eM} (hM : mB 134 135 136 137 M B) (F : eM → Prop) {i c : Nat} (hi : i < bN B) (h2 : bCe B i = some c) (h : ∀ M', rFm 134 M M' → mB 134 135 136 137 M' (bLift B i c) → F M') : Cal G 100 40 (1, 0, 0) kX11_take [.ref (G.1 134), .int (nI i)] M (eFV F) := by
  have h49 := hg.c49
  have h16 := hg.2.2.1
  have hc := (hg.2.2.2.2.1 i c hi h2).1
  refine C_X11_take_134 G M F _ ?_
  rw [nI_clamp (show i < 2 ^ 31 by omega), hM.2.2.2.1 i hi, h2, eO_some, nI_clamp (show c < 2 ^ 31 by omega), eU_cell _ _ _ _ (by decide : 134 ≠ 136), eU_cell _ _ _ _ (by decide : 134 ≠ 135), hM.2.2.2.2.2]
  refine ⟨vp_in_nI (by omega) (by decide), vp_in_nI (by omega) (by decide), vp_in_nI (by omega) (by decide), h _ ⟨fun x a b => ?_, fun j a => ?_⟩ (mB.lift hg (by decide) hM hi h2)⟩
  · rw [eU_other _ _ _ (by omega), eU_other _ _ _ (by omega), eU_other _ _ _ (by omega)]
  · rw [eU_place _ _ _ _ a, eU_cell _ _ _ _ (by decide), eU_cell _ _ _ _ (by decide)]
theorem S_fitted_134 (hg : bGm B) {M : eM} (hM : mB 134 135 136 137 M B) (F : Bool → eM → Prop) {i : Nat} (hi : i < bN B) (h : ∀ M', rFm 134 M M' → mB 134 135 136 137 M' (gAct B 8 i 0 0 0).1 → F (gAct B 8 i 0 0 0).2 M') : Cal G 100 40 (7, 0, 0) kX13_isFitted [.ref (G.1 100), .ref (G.1 134), .int (nI i)] M (eFZ F) := by
  have h49 := hg.1.c49
  refine C_X13_isFitted_134 G M F _ (S_firstWay_134 G hg.1 hM _ hi ?_)
  unfold gAct at h
  rw [if_pos rfl] at h
  cases h1 : bFirst B i with
  | none =>
    rw [h1] at h
    have ew : bWay B i = none := by unfold bWay; rw [h1]
    rw [ew]
    exact ⟨fun q => absurd rfl q, fun _ => h M (rFm.refl _ M) hM⟩
  | some c =>
    rw [h1] at h
    obtain ⟨hc, t, ht, ht6, hf⟩ := bFirst_some h1
    obtain ⟨f1', -, -⟩ := bFits_face hf
    replace h : ∀ M', rFm 134 M M' → mB 134 135 136 137 M' (bPut B i c ((bAny B i c).getD 0)) → F true M' := h
    rw [ht] at h
    have ew : bWay B i = some (6 * c + t) := by
      unfold bWay
      rw [h1]
      show some (6 * c + (bAny B i c).getD 0) = _
      rw [ht]
      rfl
    rw [ew, eO_some]
    refine ⟨fun _ => ?_, fun q => absurd q (eNeg (6 * c + t) (by omega))⟩
    rw [eL6, nI_rem (show 6 * c + t < 2 ^ 31 by omega) (by decide) (by decide), nI_div (show 6 * c + t < 2 ^ 31 by omega) (by decide) (by decide), show (6 * c + t) / 6 = c by omega, show (6 * c + t) % 6 = t by omega]
    exact S_mput_134 hg.1 hM _ hi hc ht6 f1' h
theorem S_isPut_134 (hg : bGm B) {M : eM} (hM : mB 134 135 136 137 M B) (F : Bool → eM → Prop) {i : Nat} (hi : i < bN B) (v1 v2 v3 : Int32) (h : ∀ M', rFm 134 M M' → mB 134 135 136 137 M' (gAct B 4 i v1 v2 v3).1 → F (gAct B 4 i v1 v2 v3).2 M') : Cal G 100 40 (6, 0, 0) kX13_isPut [.ref (G.1 100), .ref (G.1 134), .int (nI i), .int v1, .int v2, .int v3] M (eFZ F) := by
  obtain ⟨⟨w1, w2⟩, ⟨r1, r2⟩, -⟩ := hg.1
  have hc := gCell_lt hg.1 v1 v2
  have hu := zMod_lt v3 (d := 6) (by decide) (by decide)
  refine C_X13_isPut_134 G M F _ v1 v2 v3 ?_
  rw [hM.1.2.1]
  refine S_fm (d := bR B) (by omega) (by omega) _ _ ?_
  rw [hM.1.1]
  refine S_fm (d := bW B) (by omega) (by omega) _ _ ?_
  refine S_fm (d := 6) (by decide) (by decide) _ _ ?_
  rw [nI_mul, nI_add]
  refine S_fits_134 G hg.1 hM _ hi hc hu ⟨fun z => ?_, fun z => ?_⟩
  · obtain ⟨f1', f2', -⟩ := bFits_face z
    refine S_mput_134 hg.1 hM _ hi hc hu f1' (fun M' f' b' => ?_)
    have ea : gAct B 4 i v1 v2 v3 = (bPut B i (zMod v2 (bR B) * bW B + zMod v1 (bW B)) (zMod v3 6), true) := by
      unfold gAct
      rw [if_neg (by decide), if_pos rfl, if_pos z]
    have := h M' f'
    rw [ea] at this
    exact this b'
  · have ea : gAct B 4 i v1 v2 v3 = (B, false) := by
      unfold gAct
      rw [if_neg (by decide), if_pos rfl, z]
      rfl
    have := h M (rFm.refl _ M)
    rw [ea] at this
    exact this hM
theorem M_act_134 (hg : bGm B) (hp : gPrg (bN B) tv os) {M : eM} (hP : mPg M tv os) (hM : mB 134 135 136 137 M B) {k : Nat} {o : pOrd} (ho : os[k]? = some o) (hv : gVals M tv B r o) (F : Bool → eM → Prop) (hF : ∀ M', rFm 134 M M' → mB 134 135 136 137 M' (gAct B (oKind o) (tv (oName o)) (gVal tv B r (oS1 o)) (gVal tv B r (oS2 o)) (gVal tv B r (oS3 o))).1 → F (gAct B (oKind o) (tv (oName o)) (gVal tv B r (oS1 o)) (gVal tv B r (oS2 o)) (gVal tv B r (oS3 o))).2 M') : Ev (eZ G 100 40 0 0 (eFZ F)) G 100 40 (9, 0, 0) kX13_carryOut 99 [(0, .ref (G.1 100)), (1, .ref (G.1 134)), (2, .int (nI k))] [] M 0 0 := by
  obtain ⟨p1, p2, p3⟩ := hp
  obtain ⟨o1, o2, ⟨o3, o3'⟩, o4, o5, o6, o7, o8⟩ := p3 o (List.mem_of_getElem? ho)
  have h16 := hg.1.2.2.1
  have h49 := hg.1.c49
  have hk : k < 16 := by
    rcases Nat.lt_or_ge k os.length with h1 | h1
    · omega
    · rw [List.getElem?_eq_none h1] at ho; cases ho
  have ek : (nI k).toNatClampNeg = k := nI_clamp (by omega)
  have ei : (nI (tv (oName o))).toNatClampNeg = tv (oName o) := nI_clamp (by omega)
  obtain ⟨d1, d2, d3, d4, d5, d6⟩ := hP.2.1 k o ho
  have v17 : vp_in (nI k) 17 := vp_in_nI (by omega) (by decide)
  have v16 : vp_in (nI (tv (oName o))) 16 := vp_in_nI (by omega) (by decide)
  refine B_X13_carryOut_134_99 G M F _ ⟨v17, v17, ?_⟩
  rw [ek, d1, d2, ei]
  rcases o1 with h | h | h
  · rw [h] at hF ⊢
    rw [show nI (mDoes 4) = 0 from by decide]
    obtain ⟨e1, e2, e3⟩ := d5 h
    obtain ⟨x1, x2, x3⟩ := hv.1 h
    obtain ⟨t1, t2, t3⟩ := o5 h
    have q1 := t1.len
    have q2 := t2.len
    have q3 := t3.len
    have hm : oMid o ≤ oEnd o := Nat.le_add_right _ _
    have hmm : oMid o = oFrom o + (oS1 o).length + (oS2 o).length + (oS3 o).length := rfl
    refine ⟨fun _ => ⟨v17, fun q => absurd rfl q, fun _ => ?_⟩, fun q => absurd q (by decide)⟩
    rw [show (3 : Int32) * nI k = nI (3 * k) by rw [eL3, nI_mul], show nI (3 * k) + 1 = nI (3 * k + 1) from (nI_succ _).symm, show nI (3 * k) + 2 = nI (3 * k + 2) by rw [eL2, nI_add], nI_clamp (show 3 * k < 2 ^ 31 by omega), nI_clamp (show 3 * k + 1 < 2 ^ 31 by omega), nI_clamp (show 3 * k + 2 < 2 ^ 31 by omega), e1, e2, e3]
    rw [nI_clamp (show oFrom o + (oS1 o).length - 1 < 2 ^ 31 by omega), nI_clamp (show oFrom o + (oS1 o).length + (oS2 o).length - 1 < 2 ^ 31 by omega), nI_clamp (show oMid o - 1 < 2 ^ 31 by omega), x1, x2, x3]
    exact ⟨vp_in_nI (by omega) (by decide), vp_in_nI (by omega) (by decide), vp_in_nI (by omega) (by decide), vp_in_nI (by omega) (by decide), vp_in_nI (by omega) (by decide), vp_in_nI (by omega) (by decide), S_isPut_134 hg hM _ o2 _ _ _ hF⟩
  · rw [h] at hF ⊢
    rw [show nI (mDoes 7) = 1 from by decide]
    unfold gAct at hF
    rw [if_neg (by decide), if_neg (by decide)] at hF
    refine ⟨fun _ => ⟨v17, fun _ => ⟨v16, ?_⟩, fun q => absurd q (by decide)⟩, fun q => absurd q (by decide)⟩
    rw [hM.2.2.2.1 _ o2]
    cases h1 : bCe B (tv (oName o)) with
    | none =>
      rw [h1] at hF
      exact ⟨fun q => absurd rfl q, fun _ => hF M (rFm.refl _ M) hM⟩
    | some c =>
      rw [h1] at hF
      have hc := (hg.1.2.2.2.2.1 _ c o2 h1).1
      exact ⟨fun _ => S_mtake_134 hg.1 hM _ o2 h1 hF, fun q => absurd q (eNeg c (by omega))⟩
  · rw [h] at hF ⊢
    rw [show nI (mDoes 8) = 2 from by decide]
    rw [gAct_8] at hF
    exact ⟨fun q => absurd rfl q, fun _ => S_fitted_134 hg hM _ o2 hF⟩
theorem M_order_134 (hg : bGm B) (hp : gPrg (bN B) tv os) {M : eM} (hP : mPg M tv os) (hM : mB 134 135 136 137 M B) (hr : M 134 4 = r) {k : Nat} {o : pOrd} (ho : os[k]? = some o) (F : Bool → eM → Prop) (hF : ∀ M', rFm 134 M M' → mB 134 135 136 137 M' (gOrdR tv r B o).1 → F (gOrdR tv r B o).2 M') : Cal G 100 40 (9, 0, 0) kX13_carryOut [.ref (G.1 100), .ref (G.1 134), .int (nI k)] M (eFZ F) := by
  have hp' := hp
  obtain ⟨p1, p2, p3⟩ := hp
  obtain ⟨o1, o2, ⟨o3, o3'⟩, o4, o5, o6, o7, o8⟩ := p3 o (List.mem_of_getElem? ho)
  have hk : k < 16 := by
    rcases Nat.lt_or_ge k os.length with h1 | h1
    · omega
    · rw [List.getElem?_eq_none h1] at ho; cases ho
  have ek : (nI k).toNatClampNeg = k := nI_clamp (by omega)
  obtain ⟨d1, d2, d3, d4, d5, d6⟩ := hP.2.1 k o ho
  have v17 : vp_in (nI k) 17 := vp_in_nI (by omega) (by decide)
  have hno : mNo M tv (oFrom o) (oCode o) := fun j s hs => by
    have := hP.2.2 _ s (o3' j s hs)
    rw [Nat.zero_add] at this
    exact this
  have hend : oFrom o + (oCode o).length = oEnd o := oCode_len o
  refine C_X13_carryOut_134 G M F _ ⟨v17, ?_⟩
  rw [ek, d3]
  -- behind the last node
  have fin : ∀ M1, vFr M M1 (oFrom o) → gVals M1 tv B r o → Ev (eZ G 100 40 0 0 (eFZ F)) G 100 40 (9, 0, 0) kX13_carryOut 10 [(0, .ref (G.1 100)), (1, .ref (G.1 134)), (2, .int (nI k)), (3, .int (nI (oEnd o)))] [] M1 0 0 := by
    intro M1 f1 hv
    have P1 := hP.r (f1.m (s := 134) (by decide)) (by decide)
    obtain ⟨-, -, -, c4, -, c6⟩ := P1.2.1 k o ho
    have B1 := hM.v f1 (by decide)
    have act : (oHas o = true → ¬ gVal tv B r (oTst o) = 0) → Ev (eZ G 100 40 0 0 (eFZ F)) G 100 40 (9, 0, 0) kX13_carryOut 99 [(0, .ref (G.1 100)), (1, .ref (G.1 134)), (2, .int (nI k))] [] M1 0 0 := by
      intro hz
      refine M_act_134 hg hp' P1 B1 ho hv F (fun M' f' b' => ?_)
      have := hF M' ((f1.m (s := 134) (by decide)).trans f')
      unfold gOrdR at this
      rw [if_neg (fun z => hz z.1 z.2)] at this
      exact this b'
    refine B_X13_carryOut_134_10 G M1 F _ _ ⟨v17, fun _ => ⟨v17, ?_⟩, fun q => absurd ?_ q⟩
    · rw [ek, c6]
      cases hh : oHas o with
      | false => exact ⟨fun _ => act (fun z => by rw [hh] at z; cases z), fun q => absurd rfl q⟩
      | true =>
        rw [if_pos rfl]
        have hpos := (o7 hh).len
        have he : oEnd o = oMid o + (oTst o).length := rfl
        refine ⟨fun q => absurd q (eNeg (oEnd o - 1) (by omega)), fun _ => ⟨v17, vp_in_nI (by omega) (by decide), ?_⟩⟩
        rw [nI_clamp (show oEnd o - 1 < 2 ^ 31 by omega), hv.2 hh]
        refine ⟨fun q => act (fun _ => q), fun q => ?_⟩
        have := hF M1 (f1.m (by decide))
        unfold gOrdR at this
        rw [if_pos ⟨hh, q⟩] at this
        exact this B1
    · rw [ek, c4]
      exact Int32.le_refl _
  -- the test
  have tst : ∀ M1, vFr M M1 (oFrom o) → (oKind o = 4 → M1 129 (oFrom o + (oS1 o).length - 1) = gVal tv B r (oS1 o) ∧ M1 129 (oFrom o + (oS1 o).length + (oS2 o).length - 1) = gVal tv B r (oS2 o) ∧ M1 129 (oMid o - 1) = gVal tv B r (oS3 o)) → Ev (eZ G 100 40 0 0 (eFZ F)) G 100 40 (9, 0, 0) kX13_carryOut 10 [(0, .ref (G.1 100)), (1, .ref (G.1 134)), (2, .int (nI k)), (3, .int (nI (oMid o)))] [] M1 0 0 := by
    intro M1 f1 hv
    cases hh : oHas o with
    | false =>
      have he : oEnd o = oMid o := by
        show oMid o + (oTst o).length = oMid o
        rw [o8 hh]
        rfl
      rw [← he]
      exact fin M1 f1 ⟨hv, fun z => by rw [hh] at z; cases z⟩
    | true =>
      obtain ⟨n, ht⟩ := o7 hh
      have hpos := (o7 hh).len
      have hno1 : mNo M1 tv (oMid o) (oTst o) := by
        have h1 : mNo M tv (oFrom o) (oS1 o ++ (oS2 o ++ (oS3 o ++ oTst o))) := hno
        have h2 := h1.right.right.right
        exact h2.v f1
      have c4 : M1 112 k = nI (oEnd o) := by rw [f1.c (by decide)]; exact d4
      refine Em_tree_134 F (tv := tv) (B := B) (r := r) hg.1 (show k < 17 by omega) (show oEnd o ≤ 800 by omega) n true (oMid o) (oTst o) M1 ht (fun s hs => o4 s (List.mem_append_right _ (List.mem_append_right _ (List.mem_append_right _ hs)))) (Nat.le_refl _) (hM.v f1 (by decide)) (by rw [f1.c (by decide)]; exact hr) hno1 c4 (fun M2 f2 v2 => ?_)
      have hfm : oFrom o ≤ oMid o := by unfold oMid; omega
      refine fin M2 (f1.trans f2 hfm) ⟨fun h4 => ?_, fun _ => v2⟩
      obtain ⟨x1, x2, x3⟩ := hv h4
      obtain ⟨t1, t2, t3⟩ := o5 h4
      have q1 := t1.len
      have q2 := t2.len
      have q3 := t3.len
      have hmm : oMid o = oFrom o + (oS1 o).length + (oS2 o).length + (oS3 o).length := rfl
      exact ⟨by rw [f2 129 _ (by omega)]; exact x1, by rw [f2 129 _ (by omega)]; exact x2, by rw [f2 129 _ (by omega)]; exact x3⟩
  by_cases h4 : oKind o = 4
  · obtain ⟨⟨n1, t1⟩, ⟨n2, t2⟩, ⟨n3, t3⟩⟩ := o5 h4
    obtain ⟨q1, q2, q3⟩ := o5 h4
    replace q1 := q1.len
    replace q2 := q2.len
    replace q3 := q3.len
    have hmm : oMid o = oFrom o + (oS1 o).length + (oS2 o).length + (oS3 o).length := rfl
    have hme : oMid o ≤ oEnd o := Nat.le_add_right _ _
    have hk17 : k < 17 := by omega
    have he8 : oEnd o ≤ 800 := by omega
    have h0 : mNo M tv (oFrom o) (oS1 o ++ (oS2 o ++ (oS3 o ++ oTst o))) := hno
    refine Em_tree_134 F (tv := tv) (B := B) (r := r) hg.1 hk17 he8 n1 false (oFrom o) (oS1 o) M t1 (fun s hs => o4 s (List.mem_append_left _ hs)) (by omega) hM hr h0.left d4 (fun M1 f1 v1 => ?_)
    refine Em_tree_134 F (tv := tv) (B := B) (r := r) hg.1 hk17 he8 n2 false _ (oS2 o) M1 t2 (fun s hs => o4 s (List.mem_append_right _ (List.mem_append_left _ hs))) (by omega) (hM.v f1 (by decide)) (by rw [f1.c (by decide)]; exact hr) (h0.right.left.v f1) (by rw [f1.c (by decide)]; exact d4) (fun M2 f2 v2 => ?_)
    have g2 := f1.trans f2 (by omega)
    refine Em_tree_134 F (tv := tv) (B := B) (r := r) hg.1 hk17 he8 n3 false _ (oS3 o) M2 t3 (fun s hs => o4 s (List.mem_append_right _ (List.mem_append_right _ (List.mem_append_left _ hs)))) (by omega) (hM.v g2 (by decide)) (by rw [g2.c (by decide)]; exact hr) (h0.right.right.left.v g2) (by rw [g2.c (by decide)]; exact d4) (fun M3 f3 v3 => ?_)
    refine tst M3 (g2.trans f3 (by omega)) (fun _ => ⟨?_, ?_, v3⟩)
    · rw [f3 129 _ (by omega), f2 129 _ (by omega)]; exact v1
    · rw [f3 129 _ (by omega)]; exact v2
  · obtain ⟨z1, z2, z3⟩ := o6 h4
    have hm : oFrom o = oMid o := by
      unfold oMid
      rw [z1, z2, z3]
      rfl
    rw [hm]
    exact tst M (vFr.refl M _) (fun z => absurd z h4)
theorem M_orders_134 {N : Nat} (hp : gPrg N tv os) (F : Int32 → eM → Prop) : ∀ (os2 : List pOrd) (k : Nat) (x : eBd × Nat) (M : eM), (∀ j, os[k + j]? = os2[j]?) → k + os2.length = os.length → mPg M tv os → bGm x.1 → bN x.1 = N → mB 134 135 136 137 M x.1 → M 134 4 = r → (∀ M', rFm 134 M M' → mB 134 135 136 137 M' (gRnd tv r os2 x).1 → F (nI (gRnd tv r os2 x).2) (eU M' 134 4 (r + 1))) → Ev (eZ G 100 40 0 0 (eFI F)) G 100 40 (10, 0, 0) kX13_play 4 [(0, .ref (G.1 100)), (1, .ref (G.1 134)), (2, .int (nI x.2)), (3, .int (nI k))] [] M 0 0
  | [], k, x, M, _, hl, hP, _, _, hB, hr, hF => by
    have h16 := hp.1
    have hl' : k = os.length := hl
    refine B_X13_play_134_4 G M F _ _ ⟨fun _ => ?_, fun q => absurd ?_ q⟩
    · rw [hr]; exact hF M (rFm.refl _ M) hB
    · rw [hP.1, hl']; exact Int32.le_refl _
  | o :: os2, k, x, M, hj, hl, hP, hg, hN, hB, hr, hF => by
    have h16 := hp.1
    have hl' : k + (os2.length + 1) = os.length := hl
    have ho : os[k]? = some o := hj 0
    have hmem := List.mem_of_getElem? ho
    have hi : tv (oName o) < bN x.1 := by rw [hN]; exact (hp.2.2 o hmem).2.1
    obtain ⟨g1, g2⟩ := gOrdR_gm hg (r := r) hi
    refine B_X13_play_134_4 G M F _ _ ⟨fun q => absurd q ?_, fun _ => ?_⟩
    · rw [hP.1]; exact nI_ge (by omega) (by omega)
    · refine M_order_134 hg (by rw [hN]; exact hp) hP hB hr ho _ (fun M1 f1 b1 => ?_)
      have go := M_orders_134 hp F os2 (k + 1) ((gOrdR tv r x.1 o).1, x.2 + (if (gOrdR tv r x.1 o).2 then 1 else 0)) M1 (fun j => by rw [show k + 1 + j = k + (j + 1) by omega]; exact hj (j + 1)) (by omega) (hP.r f1 (by decide)) g1 (g2.2.2.1.trans hN) b1 (by rw [f1.2 4 (by decide)]; exact hr) (fun M2 f2 b2 => hF M2 (f1.trans f2) b2)
      refine ⟨fun z => ?_, fun z => ?_⟩
      · rw [z] at go
        rw [← nI_succ k, eL0, nI_add]
        exact go
      · rw [z] at go
        rw [← nI_succ, ← nI_succ]
        exact go
theorem M_round_134 (hg : bGm B) (hp : gPrg (bN B) tv os) {M : eM} (hP : mPg M tv os) (hB : mB 134 135 136 137 M B) (F : Int32 → eM → Prop) (hF : ∀ M', qFm 134 M M' → mB 134 135 136 137 M' (gRnd tv (M 134 4) os (B, 0)).1 → M' 134 4 = M 134 4 + 1 → F (nI (gRnd tv (M 134 4) os (B, 0)).2) M') : Cal G 100 40 (10, 0, 0) kX13_play [.ref (G.1 100), .ref (G.1 134)] M (eFI F) := by
  refine C_X13_play_134 G M F (M_orders_134 hp F os 0 (B, 0) M (fun j => by rw [Nat.zero_add]) (Nat.zero_add _) hP hg rfl hB rfl (fun M' f' b' => ?_))
  refine hF _ ⟨fun c a b => ?_, fun j a b => ?_⟩ ?_ (eU_same _ _ _ _)
  · rw [eU_other _ _ _ (by omega)]; exact f'.1 c a b
  · rw [eU_place _ _ _ _ b]; exact f'.2 j a
  · obtain ⟨b1, b2, b3, b4, b5, b6⟩ := b'
    unfold mB
    rw [eU_other _ _ _ (by decide), eU_other _ _ _ (by decide), eU_other _ _ _ (by decide), eU_other _ _ _ (by decide), eU_other _ _ _ (by decide), eU_place _ _ _ _ (by decide)]
    exact ⟨b1, b2, b3, b4, b5, b6⟩
end MOrd
