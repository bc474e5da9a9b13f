/-! ===== the class carries orders and rounds out ===== -/
def rFr (M M' : eM) : Prop := (∀ c, c ≠ 16 → c ≠ 17 → (c < 23 ∨ 31 < c) → M' c = M c) ∧ ∀ j, j ≠ 3 → M' 16 j = M 16 j
theorem rFr.refl (M : eM) : rFr M M := ⟨fun _ _ _ _ => rfl, fun _ _ => rfl⟩
theorem rFr.trans {M M1 M2 : eM} (h : rFr M M1) (h1 : rFr M1 M2) : rFr M M2 := ⟨fun c a b d => (h1.1 c a b d).trans (h.1 c a b d), fun j a => (h1.2 j a).trans (h.2 j a)⟩
theorem kFr.r {M M' : eM} (h : kFr M M') : rFr M M' := ⟨fun c a b _ => h.1 c a b, h.2⟩
theorem rFr.of {M M' : eM} (h : ∀ j, j < 23 ∨ 31 < j → M' j = M j) : rFr M M' := ⟨fun c _ _ a => h c a, fun j _ => by rw [h 16 (by decide)]⟩
theorem cPg.r {M M' : eM} {tv : Nat → Nat} {os : List pOrd} (h : cPg M tv os) (hf : rFr M M') : cPg M' tv os := h.fr (fun c hc => hf.1 c (by omega) (by omega) (by omega))
section COrd
variable {G : eG} {tv : Nat → Nat} {B : eBd} {r : Int32} {os : List pOrd}
theorem S_pop1 {M : eM} {v : Int32} {st : List Int32} (h : cSt M (v :: st)) (hl : st.length < 400) (F : Int32 → eM → Prop) (hF : ∀ M', kFr M M' → cSt M' st → F v M') : Cal G 0 68 (1, 0, 0) kX2_pop [.ref (G.1 16)] M (eFI F) := S_pop h hl F hF
theorem S_rem {M : eM} {d : Nat} (h0 : 2 ≤ d) (h1 : d < 2 ^ 31) (F : Int32 → eM → Prop) (x : Int32) (h : F (nI (zMod x d)) M) : Cal G 0 68 (2, 0, 0) kX2_remainder [.int x, .int (nI d)] M (eFI F) := by
  refine C_X2_remainder G M F x (nI d) ⟨fun q => absurd q (nI_ge (a := 0) (by omega) h1), fun _ => C_floorMod (nI_ne0 (by omega) h1) _ ?_⟩
  rw [zMod_eq x h0 h1]
  exact h
theorem S_puts (hg : bGm B) (hp : gPrg (bN B) tv os) {M : eM} (hP : cPg M tv os) (hB : cB M B) (hr : M 16 5 = r) {k : Nat} {o : pOrd} (ho : os[k]? = some o) (h4 : oKind o = 4) (F : Bool → eM → Prop) (hF : ∀ M', rFr M M' → cB M' (gAct B 4 (tv (oName o)) (gVal tv B r (oS1 o)) (gVal tv B r (oS2 o)) (gVal tv B r (oS3 o))).1 → F (gAct B 4 (tv (oName o)) (gVal tv B r (oS1 o)) (gVal tv B r (oS2 o)) (gVal tv B r (oS3 o))).2 M') : Cal G 0 68 (5, 0, 0) kX2_puts [.ref (G.1 16), .ref (G.1 (52 + k))] M (eFZ F) := by
  obtain ⟨p1, p2, p3⟩ := hp
  obtain ⟨o1, o2, ⟨o3, o3'⟩, o4, o5, o6, o7, o8⟩ := p3 o (List.mem_of_getElem? ho)
  obtain ⟨⟨n1, t1⟩, ⟨n2, t2⟩, ⟨n3, t3⟩⟩ := o5 h4
  have hk : k < 16 := by
    rcases Nat.lt_or_ge k os.length with h1 | h1
    · omega
    · rw [List.getElem?_eq_none h1] at ho; cases ho
  have ek : (nI k).toNatClampNeg = k := nI_clamp (by omega)
  have hc := C_X2_puts G (i := nI k) (vp_in_nI hk (by decide)) M F
  rw [ek] at hc
  refine hc ?_
  obtain ⟨c1, c2, c3, c4⟩ := hP
  obtain ⟨d0, d1, d2, d3, d4⟩ := c3 k o ho
  have hlen : oFrom o + (oS1 o ++ (oS2 o ++ oS3 o)).length = oMid o := by
    rw [List.length_append, List.length_append]
    unfold oMid
    omega
  rw [d2, d3, ← hlen]
  have hend : oMid o ≤ oEnd o := Nat.le_add_right _ _
  refine S_reckon _ (tv := tv) (B := B) (r := r) hg p2 (by omega) (fun s hs => ?_) (fun s hs => o4 s ?_) (fun j s hs => ?_) c2 hB hr (fun M1 f1 s1 => ?_)
  · rcases List.mem_append.mp hs with z | z
    · exact t1.kinds s z
    · rcases List.mem_append.mp z with z | z
      · exact t2.kinds s z
      · exact t3.kinds s z
  · obtain ⟨j, hj⟩ := List.mem_iff_getElem?.mp hs
    exact List.mem_of_getElem? (i := j) (pCut1 (d := oTst o) hj)
  · exact c4 _ s (o3' j s (pCut1 (d := oTst o) hs))
  rw [gRun_app, gTree_run t1, gRun_app, gTree_run t2, gTree_run t3] at s1
  obtain ⟨v1, e1⟩ : ∃ v, v = gVal tv B r (oS1 o) := ⟨_, rfl⟩
  obtain ⟨v2, e2⟩ : ∃ v, v = gVal tv B r (oS2 o) := ⟨_, rfl⟩
  obtain ⟨v3, e3⟩ : ∃ v, v = gVal tv B r (oS3 o) := ⟨_, rfl⟩
  rw [← e1, ← e2, ← e3] at s1 hF
  obtain ⟨⟨w1, w2⟩, ⟨r1, r2⟩, -⟩ := hg.1
  refine S_pop1 s1 (by decide : 2 < 400) _ (fun M2 f2 s2 => ?_)
  refine S_rem (d := 6) (by decide) (by decide) _ _ ?_
  refine S_pop1 s2 (by decide : 1 < 400) _ (fun M4 f4 s4 => ?_)
  have b4 := ((hB.k f1).k f2).k f4
  rw [b4.1.2.1]
  refine S_rem (d := bR B) (by omega) (by omega) _ _ ?_
  refine S_pop1 s4 (by decide : 0 < 400) _ (fun M6 f6 s6 => ?_)
  have b6 := b4.k f6
  have g6 := ((f1.trans f2).trans f4).trans f6
  rw [b6.1.1]
  refine S_rem (d := bW B) (by omega) (by omega) _ _ ?_
  show (M6 23 2 ≤ (nI (zMod v2 (bR B)) * M6 23 0) + nI (zMod v1 (bW B)) → F false M6) ∧ _
  rw [b6.nc, b6.1.1, nI_mul, nI_add]
  have hc := gCell_lt hg.1 v1 v2
  have h49 := hg.1.c49
  have hu := zMod_lt v3 (d := 6) (by decide) (by decide)
  have hi : M6 (52 + k) 1 = nI (tv (oName o)) := by rw [g6.1 _ (by omega) (by omega)]; exact d1
  rw [hi]
  refine ⟨fun q => absurd q (nI_ge hc (by omega)), fun _ => S_fitsSo G hg.1 b6 _ o2 hc hu ⟨fun z => ?_, fun z => ?_⟩⟩
  · obtain ⟨f1', f2', -⟩ := bFits_face z
    rw [hi]
    refine S_put G hg.1 b6 _ o2 hc hu f2' f1' (fun M9 b9 f9 => ?_)
    have := hF M9 (g6.r.trans (rFr.of f9))
    have ea : gAct B 4 (tv (oName o)) v1 v2 v3 = (bPut B (tv (oName o)) (zMod v2 (bR B) * bW B + zMod v1 (bW B)) (zMod v3 6), true) := by
      unfold gAct
      rw [if_neg (by decide), if_pos rfl, if_pos z]
    rw [ea] at this
    exact this b9
  · have := hF M6 g6.r
    have ea : gAct B 4 (tv (oName o)) v1 v2 v3 = (B, false) := by
      unfold gAct
      rw [if_neg (by decide), if_pos rfl, z]
      rfl
    rw [ea] at this
    exact this b6
theorem E_act (hg : bGm B) (hp : gPrg (bN B) tv os) {M : eM} (hP : cPg M tv os) (hB : cB M B) (hr : M 16 5 = r) {k : Nat} {o : pOrd} (ho : os[k]? = some o) (F : Bool → eM → Prop) (hF : ∀ M', rFr M M' → cB M' (gAct B (oKind o) (tv (oName o)) (gVal tv B r (oS1 o)) (gVal tv B r (oS2 o)) (gVal tv B r (oS3 o))).1 → F (gAct B (oKind o) (tv (oName o)) (gVal tv B r (oS1 o)) (gVal tv B r (oS2 o)) (gVal tv B r (oS3 o))).2 M') : Ev (eZ G 0 68 0 0 (eFZ F)) G 0 68 (6, 0, 0) kX2_carriesOut 48 [(0, .ref (G.1 16)), (1, .ref (G.1 (52 + k)))] [] M 0 0 := by
  obtain ⟨p1, p2, p3⟩ := hp
  obtain ⟨o1, o2, -⟩ := p3 o (List.mem_of_getElem? ho)
  have hk : k < 16 := by
    rcases Nat.lt_or_ge k os.length with h1 | h1
    · omega
    · rw [List.getElem?_eq_none h1] at ho; cases ho
  have ek : (nI k).toNatClampNeg = k := nI_clamp (by omega)
  have hc := B_X2_carriesOut_48 G (i := nI k) (vp_in_nI hk (by decide)) M F
  rw [ek] at hc
  refine hc ?_
  obtain ⟨d0, d1, d2, d3, d4⟩ := hP.2.2.1 k o ho
  rw [d0]
  rcases o1 with h | h | h
  · rw [h]
    rw [show nI 4 - 1 = nI 3 from by decide, show eSw (nI 3).toNatClampNeg = 19 from by decide]
    rw [h] at hF
    exact ⟨by decide, vp_in_nI (by decide) (by decide), fun q => absurd q (by decide), fun _ => S_puts hg ⟨p1, p2, p3⟩ hP hB hr ho h _ hF, fun q => absurd q (by decide), fun q => absurd q (by decide)⟩
  · rw [h]
    rw [show nI 7 - 1 = nI 6 from by decide, show eSw (nI 6).toNatClampNeg = 20 from by decide]
    rw [h] at hF
    refine ⟨by decide, vp_in_nI (by decide) (by decide), fun q => absurd q (by decide), fun q => absurd q (by decide), fun _ => ?_, fun q => absurd q (by decide)⟩
    rw [d1]
    refine C_X2_takes G M _ _ (S_lies G hg.1 hB _ o2 ?_)
    unfold gAct at hF
    rw [if_neg (by decide), if_neg (by decide)] at hF
    cases h1 : bCe B (tv (oName o)) with
    | none =>
      rw [h1] at hF
      exact ⟨cFT, fun _ => hF M (rFr.refl M) hB⟩
    | some c =>
      rw [h1] at hF
      exact ⟨fun _ => S_lift G hg.1 hB _ o2 h1 (fun M' b' f' => hF M' (rFr.of f') b'), cTF⟩
  · rw [h]
    rw [show nI 8 - 1 = nI 7 from by decide, show eSw (nI 7).toNatClampNeg = 21 from by decide]
    rw [h] at hF
    refine ⟨by decide, vp_in_nI (by decide) (by decide), fun q => absurd q (by decide), fun q => absurd q (by decide), fun q => absurd q (by decide), fun _ => ?_⟩
    rw [d1]
    refine C_X2_fitsIn G M _ _ (S_firstCell G hg.1 hB _ o2 ?_)
    unfold gAct at hF
    rw [if_pos rfl] at hF
    cases h1 : bFirst B (tv (oName o)) with
    | none =>
      rw [h1] at hF
      exact ⟨fun q => absurd q (by decide), fun _ => hF M (rFr.refl M) hB⟩
    | some c =>
      rw [h1] at hF
      obtain ⟨hc, t, ht, ht6, hf⟩ := bFirst_some h1
      obtain ⟨f1', f2', -⟩ := bFits_face hf
      have h49 := hg.1.c49
      replace hF : ∀ M', rFr M M' → cB M' (bPut B (tv (oName o)) c ((bAny B (tv (oName o)) c).getD 0)) → F true M' := hF
      rw [ht] at hF
      exact ⟨fun _ => S_firstTurn G hg.1 hB _ o2 hc ht (S_put G hg.1 hB _ o2 hc ht6 f2' f1' (fun M' b' f' => hF M' (rFr.of f') b')), fun q => absurd (nI_pos' (by omega)) q⟩
theorem E_order (hg : bGm B) (hp : gPrg (bN B) tv os) {M : eM} (hP : cPg M tv os) (hB : cB M B) (hr : M 16 5 = r) {k : Nat} {o : pOrd} (ho : os[k]? = some o) (F : Bool → eM → Prop) (hF : ∀ M', rFr M M' → cB M' (gOrdR tv r B o).1 → F (gOrdR tv r B o).2 M') : Cal G 0 68 (6, 0, 0) kX2_carriesOut [.ref (G.1 16), .ref (G.1 (52 + k))] M (eFZ F) := by
  obtain ⟨p1, p2, p3⟩ := hp
  obtain ⟨o1, o2, ⟨o3, o3'⟩, o4, o5, o6, o7, o8⟩ := p3 o (List.mem_of_getElem? ho)
  have hk : k < 16 := by
    rcases Nat.lt_or_ge k os.length with h1 | h1
    · omega
    · rw [List.getElem?_eq_none h1] at ho; cases ho
  have ek : (nI k).toNatClampNeg = k := nI_clamp (by omega)
  have hc := C_X2_carriesOut G (i := nI k) (vp_in_nI hk (by decide)) M F
  rw [ek] at hc
  refine hc ?_
  obtain ⟨d0, d1, d2, d3, d4⟩ := hP.2.2.1 k o ho
  rw [d1]
  refine S_knows' G hg.1 hB _ o2 ⟨fun _ => ?_, cTF⟩
  rw [d3, d4]
  have hend : oEnd o = oMid o + (oTst o).length := rfl
  unfold gOrdR at hF
  cases hh : oHas o with
  | false =>
    rw [hh, if_neg (fun z => by cases z.1)] at hF
    have h0 := o8 hh
    rw [hend, h0]
    exact ⟨fun _ => E_act hg ⟨p1, p2, p3⟩ hP hB hr ho F hF, fun q => absurd (Int32.le_refl _) q⟩
  | true =>
    obtain ⟨n, ht⟩ := o7 hh
    have hpos := (o7 hh).pos
    refine ⟨fun q => absurd q (nI_ge (by omega) (by omega)), fun _ => ?_⟩
    rw [hend]
    refine S_reckon _ (tv := tv) (B := B) (r := r) hg p2 (by omega) (fun s hs => ht.kinds s hs) (fun s hs => o4 s ?_) (fun j s hs => ?_) hP.2.1 hB hr (fun M1 f1 s1 => ?_)
    · exact List.mem_append_right _ (List.mem_append_right _ (List.mem_append_right _ hs))
    · have h1 := o3' ((oS1 o).length + (oS2 o).length + (oS3 o).length + j) s (by unfold oCode; rw [pCut2]; exact hs)
      rw [show oFrom o + ((oS1 o).length + (oS2 o).length + (oS3 o).length + j) = oMid o + j by unfold oMid; omega] at h1
      exact hP.2.2.2 _ s h1
    rw [gTree_run ht] at s1
    refine S_pop1 s1 (by decide : 0 < 400) _ (fun M2 f2 s2 => ⟨fun z => ?_, fun z => ?_⟩)
    · have z' : ¬ gVal tv B r (oTst o) = 0 := z
      rw [if_neg (fun y => z' y.2)] at hF
      have f12 := (f1.trans f2).r
      refine E_act hg ⟨p1, p2, p3⟩ (hP.r f12) ((hB.k f1).k f2) (by rw [f12.2 5 (by decide)]; exact hr) ho F (fun M' f' b' => hF M' (f12.trans f') b')
    · have z' : gVal tv B r (oTst o) = 0 := z
      rw [if_pos ⟨hh, z'⟩] at hF
      exact hF M2 (f1.trans f2).r ((hB.k f1).k f2)
/-- rounds: all but the stack, the board and the rounds' number stays -/
def qFr (M M' : eM) : Prop := (∀ c, c ≠ 16 → c ≠ 17 → (c < 23 ∨ 31 < c) → M' c = M c) ∧ ∀ j, j ≠ 3 → j ≠ 5 → M' 16 j = M 16 j
theorem qFr.refl (M : eM) : qFr M M := ⟨fun _ _ _ _ => rfl, fun _ _ _ => rfl⟩
theorem qFr.trans {M M1 M2 : eM} (h : qFr M M1) (h1 : qFr M1 M2) : qFr M M2 := ⟨fun c a b d => (h1.1 c a b d).trans (h.1 c a b d), fun j a b => (h1.2 j a b).trans (h.2 j a b)⟩
theorem cPg.q {M M' : eM} {tv : Nat → Nat} {os : List pOrd} (h : cPg M tv os) (hf : qFr M M') : cPg M' tv os := h.fr (fun c hc => hf.1 c (by omega) (by omega) (by omega))
theorem E_orders {N : Nat} (hp : gPrg N tv os) (F : Int32 → eM → Prop) : ∀ (os2 : List pOrd) (k : Nat) (x : eBd × Nat) (M : eM), (∀ j, os[k + j]? = os2[j]?) → k + os2.length = os.length → cPg M tv os → bGm x.1 → bN x.1 = N → cB M x.1 → M 16 5 = r → (∀ M', rFr M M' → cB M' (gRnd tv r os2 x).1 → F (nI (gRnd tv r os2 x).2) (eU M' 16 5 (r + 1))) → Ev (eZ G 0 68 0 0 (eFI F)) G 0 68 (7, 0, 0) kX2_playRound 4 [(0, .ref (G.1 16)), (1, .int (nI x.2)), (2, .int (nI k))] [] M 0 0
  | [], k, x, M, _, hl, hP, _, _, hB, hr, hF => by
    have h16 := hp.1
    have hl' : k = os.length := hl
    refine B_X2_playRound_4 G M F _ _ ⟨fun _ => ?_, fun q => absurd ?_ q⟩
    · rw [hr]; exact hF M (rFr.refl M) hB
    · rw [hP.1, hl']; exact Int32.le_refl _
  | o :: os2, k, x, M, hj, hl, hP, hg, hN, hB, hr, hF => by
    have h16 := hp.1
    have hl' : k + (os2.length + 1) = os.length := hl
    have ho : os[k]? = some o := hj 0
    have hmem := List.mem_of_getElem? ho
    have hi : tv (oName o) < bN x.1 := by rw [hN]; exact (hp.2.2 o hmem).2.1
    obtain ⟨g1, g2⟩ := gOrdR_gm hg (r := r) hi
    refine B_X2_playRound_4 G M F _ _ ⟨fun q => absurd q ?_, fun _ => ⟨vp_in_nI (by omega) (by decide), ?_⟩⟩
    · rw [hP.1]; exact nI_ge (by omega) (by omega)
    · rw [nI_clamp (show k < 2 ^ 31 by omega)]
      refine E_order hg (by rw [hN]; exact hp) hP hB hr ho _ (fun M1 f1 b1 => ?_)
      have go := E_orders hp F os2 (k + 1) ((gOrdR tv r x.1 o).1, x.2 + (if (gOrdR tv r x.1 o).2 then 1 else 0)) M1 (fun j => by rw [show k + 1 + j = k + (j + 1) by omega]; exact hj (j + 1)) (by omega) (hP.r f1) g1 (g2.2.2.1.trans hN) b1 (by rw [f1.2 5 (by decide)]; exact hr) (fun M2 f2 b2 => hF M2 (f1.trans f2) b2)
      refine ⟨fun z => ?_, fun z => ?_⟩
      · rw [z] at go
        refine B_X2_playRound_34 G M1 F _ _ ?_
        rw [← nI_succ]
        exact go
      · rw [z] at go
        refine B_X2_playRound_34 G M1 F _ _ ?_
        rw [← nI_succ, ← nI_succ]
        exact go
theorem E_round (hg : bGm B) (hp : gPrg (bN B) tv os) {M : eM} (hP : cPg M tv os) (hB : cB M B) (F : Int32 → eM → Prop) (hF : ∀ M', qFr M M' → cB M' (gRnd tv (M 16 5) os (B, 0)).1 → M' 16 5 = M 16 5 + 1 → F (nI (gRnd tv (M 16 5) os (B, 0)).2) M') : Cal G 0 68 (7, 0, 0) kX2_playRound [.ref (G.1 16)] M (eFI F) := by
  refine C_X2_playRound G M F (E_orders hp F os 0 (B, 0) M (fun j => by rw [Nat.zero_add]) (Nat.zero_add _) hP hg rfl hB rfl (fun M' f' b' => ?_))
  refine hF _ ⟨fun c a b d => ?_, fun j a b => ?_⟩ (b'.fr (fun c c1 c2 => eU_other _ _ _ (by omega))) (eU_same _ _ _ _)
  · rw [eU_other _ _ _ a]; exact f'.1 c a b d
  · rw [eU_place _ _ _ _ b]; exact f'.2 j a
end COrd
