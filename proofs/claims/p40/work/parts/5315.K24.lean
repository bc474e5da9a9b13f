/-! ===== act: by hand and by the class, the same ===== -/
def gRl (S : gS) (os : List xO) : Prop := ∀ (r : Int32) (x : eBd × Nat), gRnd (gTv S) r (gOs S) x = xRnd r os x
/-- the law's game and the class's -/
def lk (G : eG) (M : eM) (H : yH) (S : gS) (g ta oa : Nat) (tk : Nat → Nat) (A : eBd) (os : List xO) : Prop :=
  (sC M S ∧ sOk S) ∧ gAt G H g ta oa tk A (gR S) ∧ (nOs G H oa os ∧ os.length ≤ 4 ∧ ∀ o ∈ os, xOk o ∧ oM (bN A) o) ∧ (bGm A ∧ bSim A (gB S)) ∧ gRl S os ∧ (1 ≤ bN A ∧ bN A ≤ 12 ∧ gSz S = 0)
theorem xNx_eq {S : gS} {os : List xO} (h : gRl S os) (x : gX) : gNx (gTv S) (gOs S) x = xNx os x := by
  unfold gNx xNx
  rw [h]
theorem xPl_eq {S : gS} {os : List xO} (h : gRl S os) : ∀ (n : Nat) (x : gX), gPl (gTv S) (gOs S) n x = xPl os n x
  | 0, x => rfl
  | n + 1, x => by
    show gPl (gTv S) (gOs S) n (gNx (gTv S) (gOs S) x) = xPl os n (xNx os x)
    rw [xNx_eq h, xPl_eq h n]
theorem xPc_eq {S : gS} {os : List xO} (h : gRl S os) : ∀ (n : Nat) (x : gX) (v : Int32), gPc (gTv S) (gOs S) n x v = xPc os n x v
  | 0, x, v => rfl
  | n + 1, x, v => by
    show gPc (gTv S) (gOs S) n (gNx (gTv S) (gOs S) x) (v + nI (gRnd (gTv S) x.2 (gOs S) (x.1, 0)).2) = xPc os n (xNx os x) (v + nI (xRnd x.2 os (x.1, 0)).2)
    rw [xNx_eq h, h, xPc_eq h n]
theorem xPl_sim {os : List xO} : ∀ (n : Nat) (A A' : eBd) (r v : Int32), bGm A → bSim A A' → (∀ o ∈ os, o.1.2 < bN A) → bSim (xPl os n (A, r)).1 (xPl os n (A', r)).1 ∧ (xPl os n (A', r)).2 = (xPl os n (A, r)).2 ∧ xPc os n (A', r) v = xPc os n (A, r) v ∧ bGm (xPl os n (A, r)).1 ∧ bSz A (xPl os n (A, r)).1
  | 0, A, A', r, v, hA, hs, _ => ⟨hs, rfl, rfl, hA, bSz.refl A⟩
  | n + 1, A, A', r, v, hA, hs, ho => by
    obtain ⟨s1, s2⟩ := xRnd_sim (r := r) os A A' 0 hA hs ho
    obtain ⟨g1, g2⟩ := xRnd_gm (r := r) os (A, 0) hA ho
    have ih := xPl_sim n (xRnd r os (A, 0)).1 (xRnd r os (A', 0)).1 (r + 1) (v + nI (xRnd r os (A, 0)).2) g1 s1 (fun o h => by rw [g2.2.2.1]; exact ho o h)
    refine ⟨ih.1, ih.2.1, ?_, ih.2.2.2.1, g2.trans ih.2.2.2.2⟩
    show xPc os n ((xRnd r os (A', 0)).1, r + 1) (v + nI (xRnd r os (A', 0)).2) = xPc os n ((xRnd r os (A, 0)).1, r + 1) (v + nI (xRnd r os (A, 0)).2)
    rw [s2]
    exact ih.2.2.1
theorem bSim.put {A A' : eBd} (h : bSim A A') (k c t : Nat) : bSim (bPut A k c t) (bPut A' k c t) := by
  obtain ⟨tr, rfl, ha⟩ := h
  exact ⟨zU tr k t, bTw_put A tr k c t, ha.put⟩
theorem bSim.lift {A A' : eBd} (h : bSim A A') (k c : Nat) : bSim (bLift A k c) (bLift A' k c) := by
  obtain ⟨tr, rfl, ha⟩ := h
  exact ⟨tr, bTw_lift A tr k c, ha.lift⟩
theorem bSim.ce {A A' : eBd} (h : bSim A A') (k : Nat) : bCe A' k = bCe A k := by
  obtain ⟨tr, rfl, ha⟩ := h
  rfl
theorem nD.far {G : eG} {H : yH} {d : Nat} (hd : nD H d) : ∀ b ∈ [d], yFar G H b := fun b hb => by
  obtain ⟨s, e⟩ := hd
  rw [List.mem_singleton.mp hb]
  exact ⟨(fun fs z => by rw [e] at z; simp at z), (fun fs z => by rw [e] at z; simp at z), (fun n f z => by rw [e] at z; simp at z), (fun n f z => by rw [e] at z; simp at z)⟩
section Act
variable {G : eG} {M : eM} {H : yH} {S : gS} {g ta oa d : Nat} {tk : Nat → Nat} {A : eBd} {os : List xO}
theorem gAt.dn {r : Int32} {H' : yH} (h : gAt G H g ta oa tk A r) (hd : nD H d) (k : yKp [d] H H') : gAt G H' g ta oa tk A r := by
  obtain ⟨s, e⟩ := hd
  obtain ⟨h1, ⟨f, h2, h3⟩, h4, h5⟩ := h
  have n1 : g ≠ d := fun z => by rw [z, e] at h1; simp at h1
  have n2 : ta ≠ d := fun z => by rw [z, e] at h2; simp at h2
  refine ⟨k _ _ (by simp [n1]) h1, ⟨f, k _ _ (by simp [n2]) h2, h3⟩, fun j hj => ?_, h5⟩
  obtain ⟨f, q1, q2⟩ := h4 j hj
  have n3 : tk j ≠ d := fun z => by rw [z, e] at q1; simp at q1
  exact ⟨f, k _ _ (by simp [n3]) q1, q2⟩
theorem nD.out {r : Int32} (hd : nD H d) (h : gAt G H g ta oa tk A r) : d ∉ g :: gTl A tk := fun z => by
  obtain ⟨s, e⟩ := hd
  rcases List.mem_cons.mp z with z | z
  · have h1 := h.1; rw [← z, e] at h1; simp at h1
  · obtain ⟨k, hk, ek⟩ := List.mem_map.mp z
    obtain ⟨f, q1, -⟩ := h.2.2.1 k (List.mem_range.mp hk)
    rw [ek, e] at q1; simp at q1
theorem lk.le {H' : yH} (h : lk G M H S g ta oa tk A os) (hl : yLe H H') : lk G M H' S g ta oa tk A os :=
  ⟨h.1, hl.g h.2.1, ⟨h.2.2.1.1.kp (yKp.of hl []) (fun _ z => absurd z List.not_mem_nil), h.2.2.1.2⟩, h.2.2.2⟩
theorem lk.dn {H' : yH} (h : lk G M H S g ta oa tk A os) (hd : nD H d) (k : yKp [d] H H') : lk G M H' S g ta oa tk A os :=
  ⟨h.1, h.2.1.dn hd k, ⟨h.2.2.1.1.kp k hd.far, h.2.2.1.2⟩, h.2.2.2⟩
set_option maxHeartbeats 4000000 in
theorem S_act47 {m : Nat} {F : Bool → eM → yH → Prop} {ca sl : Nat} (hl : lk G M H S g ta oa tk A os) (hd : nD H d) (h1 : 1 ≤ m) (h6 : m ≤ 6) (hca : ca ≤ 4) (hsl : sl ≤ 160) (h : ∀ (M' : eM) (H' : yH) (S' : gS) (A' : eBd), lk G M' H' S' g ta oa tk A' os → bSz A A' → nD H' d → F true M' H') : Yx yXA (yZ G 700 19600 (yFZ F)) G (eR (13, 700, 19600)) kL_act 47 [(0, .ref (G.1 0)), (1, .ref g), (5, .int (nI m))] [] M H ca sl := by
  obtain ⟨⟨hc, ho⟩, hg, ⟨hos, h4, hk⟩, ⟨hm, hs⟩, hr, hN⟩ := hl
  have hp := P_playRounds (G := G) ho hc (nI m)
  have ez : z_playRounds S (nI m) = (0, gPc (gTv S) (gOs S) m (gB S, gR S) 0, gWB S (gPl (gTv S) (gOs S) m (gB S, gR S)).1 (gPl (gTv S) (gOs S) m (gB S, gR S)).2) := by
    unfold z_playRounds
    rw [if_pos ⟨nI_le (a := 1) h1 (by omega), nI_le (b := 20) (by omega) (by decide)⟩, nI_clamp (by omega)]
  rw [ez] at hp
  obtain ⟨p1, p2, p3, p4, p5⟩ := xPl_sim (os := os) m A (gB S) (gR S) 0 hm hs (fun o h => (hk o h).2.1)
  refine B_L_act_47 G ca sl M H F g (nI m) ⟨⟨by omega, by omega⟩, hp.1 rfl _ (fun M' c' => ⟨⟨by omega, by omega⟩, yIs.of hg.1, S_play_ hg hm hos h4 hk h6 (fun H' a1 a2 a3 => ?_)⟩)⟩
  have ev : gPc (gTv S) (gOs S) m (gB S, gR S) 0 = xPc os m (A, gR S) 0 := by rw [xPc_eq hr]; exact p3
  refine ⟨fun y => absurd ev y, fun _ => ⟨⟨by omega, by omega⟩, ?_⟩⟩
  have gp := gPl_gm (tv := gTv S) (os := gOs S) m (gB S, gR S) ho.2.2.1 ho.2.2.2
  refine h M' H' _ (xPl os m (A, gR S)).1 ⟨⟨c', ho.b gp.1 gp.2⟩, ?_, ⟨a2, h4, fun o h => by rw [p5.2.2.1]; exact hk o h⟩, ⟨p4, ?_⟩, hr, by rw [p5.2.2.1]; exact hN⟩ p5 (hd.kp a3 (hd.out hg))
  · show gAt G H' g ta oa tk _ (gPl (gTv S) (gOs S) m (gB S, gR S)).2
    rw [xPl_eq hr, p2]
    exact a1
  · show bSim _ (gPl (gTv S) (gOs S) m (gB S, gR S)).1
    rw [xPl_eq hr]
    exact p1
theorem nI_n9 {c : Nat} (h : c < 2 ^ 31) : ¬ nI c = -9 := fun y => nI_pos h (by rw [y]; decide)
/-- the class answers as by hand -/
theorem S_act312 {F : Bool → eM → yH → Prop} {ca sl v : Nat} {x : Int32} (hx : x = nI v) (hv : v < 2 ^ 31) (hca : ca ≤ 700) (hsl : sl ≤ 19600) (h : F true M H) : Yx yXA (yZ G 700 19600 (yFZ F)) G (eR (13, 700, 19600)) kL_act 294 [(7, .int x), (8, .int (nI v))] [] M H ca sl :=
  B_L_act_294 G ca sl M H F _ _ (B_L_act_312 G ca sl M H F _ _ ⟨fun y => absurd hx y, fun _ => ⟨fun y => absurd y (nI_n9 hv), fun _ => ⟨⟨hca, hsl⟩, h⟩⟩⟩)
set_option maxHeartbeats 4000000 in
theorem S_act93 {k : Nat} {F : Bool → eM → yH → Prop} {ca sl : Nat} (hl : lk G M H S g ta oa tk A os) (hd : nD H d) (hkN : k < bN A) (hca : ca ≤ 10) (hsl : sl ≤ 400) (h : ∀ (M' : eM) (H' : yH) (S' : gS) (A' : eBd), lk G M' H' S' g ta oa tk A' os → bSz A A' → nD H' d → F true M' H') : Yx yXA (yZ G 700 19600 (yFZ F)) G (eR (13, 700, 19600)) kL_act 93 [(0, .ref (G.1 0)), (1, .ref g), (5, .int (nI k))] [] M H ca sl := by
  have hl' := hl
  obtain ⟨⟨hc, ho⟩, hg, ⟨hos, h4, hk⟩, ⟨hm, hs⟩, hr, hN⟩ := hl'
  have hb := hm.1
  have h49 := hb.c49
  have hsz := hs.sz
  have hs' := hs
  obtain ⟨tr, etr, ag⟩ := hs'
  have eF : bFirst (gB S) k = bFirst A k := by rw [etr]; exact bFirst_tw hb ag k
  have hkS : dIn (nI k) (bN (gB S)) := by rw [hsz.2.2.1]; exact ⟨nI_pos' (by omega), nI_lt hkN (by omega)⟩
  have hp := P_fitTile (G := G) ho hc (nI k)
  refine B_L_act_93 G ca sl M H F g (nI k) ⟨⟨by omega, by omega⟩, yIs.of hg.1, S_fit hg hb hkN (fun z => ⟨fun _ => ?_, (fun y => by cases y)⟩) (fun c t H' z1 z2 z3 z4 => ⟨(fun y => by cases y), fun _ => ?_⟩)⟩
  · have ez : z_fitTile S (nI k) = (2, 0, S) := by
      unfold z_fitTile
      rw [if_pos hkS, nI_clamp (by omega), eF, z]
    rw [ez] at hp
    exact B_L_act_118 G _ _ M H F _ _ (Or.inr ⟨hp.2.2 rfl, ⟨by omega, by omega⟩, fun q => ⟨fun y => absurd rfl y, fun _ => ⟨⟨by omega, by omega⟩, h M H S A hl (bSz.refl A) hd⟩⟩⟩)
  · obtain ⟨hcC, t', ht', ht6, hf⟩ := bFirst_some z1
    have ett : t' = t := by rw [ht'] at z2; cases z2; rfl
    subst ett
    have eA : bAny (gB S) k c = some t' := by rw [etr, bAny_tw hb ag hcC]; exact ht'
    have ez : z_fitTile S (nI k) = (0, nI c, gWB S (bPut (gB S) k c t') (gR S)) := by
      unfold z_fitTile
      rw [if_pos hkS, nI_clamp (by omega), eF, z1]
      show (0, nI c, gWB S (bPut (gB S) k c ((bAny (gB S) k c).getD 0)) (gR S)) = _
      rw [eA]
      rfl
    rw [ez] at hp
    have tl := z3.tile (bOk.put hb hkN hcC ht6 (bFits_lies hf).2 (bFits_lies hf).1) (k := k) hkN
    have t3 := z3.t3 (k := k) hkN
    have ec : bCe (bPut A k c t') k = some c := by
      show zU (bCe A) k (some c) k = _
      rw [zU_same]
    rw [ec] at t3
    have hSg : bGm (bPut (gB S) k c t') := by
      have hf' : bFits (gB S) k c t' = true := by rw [etr, bFits_tw hb ag hcC]; exact hf
      exact ho.2.2.1.put (by rw [hsz.2.2.1]; exact hkN) (by rw [show bC (gB S) = bC A by show bW (gB S) * bR (gB S) = _; rw [hsz.1, hsz.2.1]]; exact hcC) ht6 hf'
    refine ⟨_, z3.tA, _, tl, _, t3, B_L_act_118 G _ _ M H' F _ _ (Or.inl ⟨⟨by omega, by omega⟩, hp.1 rfl _ (fun M' c' => S_act312 rfl (by omega) (by omega) (by omega) ?_)⟩)⟩
    exact h M' H' _ (bPut A k c t') ⟨⟨c', ho.b hSg (bSz.put _ _ _ _)⟩, z3, ⟨hos.kp z4 (hg.far hkN), h4, hk⟩, ⟨hm.put hkN hcC ht6 hf, hs.put k c t'⟩, hr, hN⟩ (bSz.put _ _ _ _) (hd.kp z4 (fun y => hd.out hg (List.mem_cons_of_mem _ (by rw [List.mem_singleton.mp y]; exact gTl.mem tk hkN))))
/-- putTile or takeTile by the class, behind the hand's own -/
theorem eLie {A' : eBd} (hs : bSim A A') : bC A' = bC A := by
  have h := hs.sz
  show bW A' * bR A' = bW A * bR A
  rw [h.1, h.2.1]
set_option maxHeartbeats 4000000 in
theorem S_act136 {k : Nat} {F : Bool → eM → yH → Prop} {ca sl : Nat} (hl : lk G M H S g ta oa tk A os) (hd : nD H d) (hkN : k < bN A) (hca : ca ≤ 10) (hsl : sl ≤ 400) (h : ∀ (M' : eM) (H' : yH) (S' : gS) (A' : eBd), lk G M' H' S' g ta oa tk A' os → bSz A A' → nD H' d → F true M' H') : Yx yXA (yZ G 700 19600 (yFZ F)) G (eR (13, 700, 19600)) kL_act 136 [(0, .ref (G.1 0)), (1, .ref g), (2, .ref d), (5, .int (nI k)), (6, .int (nI (bPoints A)))] [] M H ca sl := by
  have hl' := hl
  obtain ⟨⟨hc, ho⟩, hg, ⟨hos, h4, hk⟩, ⟨hm, hs⟩, hr, hN⟩ := hl'
  have hb := hm.1
  have h49 := hb.c49
  have h9 := hb.1.1
  have hR3 := hb.2.1.1
  have hC0 : 0 < bC A := Nat.mul_pos (by omega) (by omega)
  have hsz := hs.sz
  have hs' := hs
  obtain ⟨tr, etr, ag⟩ := hs'
  refine B_L_act_136 G ca sl M H F g d _ _ ⟨⟨by omega, by omega⟩, yIs.of hg.1, S_board hg hb (fun q hq fb hfb => ?_)⟩
  have l1 := hl.le (yLe.new hq (.inl (G.2.2.2 0, (bC A, .inl fb))))
  have d1 := hd.le (yLe.new hq (.inl (G.2.2.2 0, (bC A, .inl fb))))
  have hqd : q ≠ d := hd.ne hq
  refine ⟨bC A, ⟨_, yU_same _ _ _, rfl⟩, ⟨by omega, by omega⟩, d1.is, S_next d1 (n := bC A) hC0 (by omega) (fun c H3 hcC d3 k3 => ⟨⟨by omega, by omega⟩, d3.is, S_next d3 (n := 6) (by decide) (by decide) (fun t H4 ht6 d4 k4 => ?_)⟩)⟩
  have k14 := k3.trans k4
  have l4 := l1.dn d1 k14
  have g4 := l4.2.1
  have bq : bA G H4 q A := ⟨fb, k14 _ _ (by simp [hqd]) (yU_same _ _ _), hfb⟩
  have eF : bFits (gB S) k c t = bFits A k c t := by rw [etr]; exact bFits_tw hb ag hcC
  have hW : dWay (gB S) (nI k) (nI c) (nI t) := by
    refine ⟨?_, ?_, ⟨nI_pos' (by omega), nI_lt (b := 6) ht6 (by decide)⟩⟩
    · rw [hsz.2.2.1]; exact ⟨nI_pos' (by omega), nI_lt hkN (by omega)⟩
    · rw [eLie hs]; exact ⟨nI_pos' (by omega), nI_lt hcC (by omega)⟩
  have hp := P_putTile (G := G) ho hc (nI k) (nI c) (nI t)
  refine ⟨⟨by omega, by omega⟩, yIs.of g4.1, _, S_fits g4 hb bq hkN hcC ht6, fun z => ?_, fun z => ?_⟩
  · have ez : z_putTile S (nI k) (nI c) (nI t) = (2, 0, S) := by
      unfold z_putTile
      rw [if_pos hW, nI_clamp (n := k) (by omega), nI_clamp (n := c) (by omega), nI_clamp (n := t) (by omega), eF, z]
      rfl
    rw [ez] at hp
    rw [z]
    exact B_L_act_200 G _ _ M H4 F g _ _ _ _ false ⟨fun _ => B_L_act_221 G _ _ M H4 F _ _ _ _ (Or.inr ⟨hp.2.2 rfl, ⟨by omega, by omega⟩, fun _ => ⟨fun y => absurd rfl y, fun _ => ⟨⟨by omega, by omega⟩, h M H4 S A l4 (bSz.refl A) d4⟩⟩⟩), (fun y => by cases y)⟩
  · have hf : bFits A k c t = true := z
    obtain ⟨hl1, hl2⟩ := bFits_lies hf
    have ez : z_putTile S (nI k) (nI c) (nI t) = (0, nI (bGain (gB S) c), gWB S (bPut (gB S) k c t) (gR S)) := by
      unfold z_putTile
      rw [if_pos hW, nI_clamp (n := k) (by omega), nI_clamp (n := c) (by omega), nI_clamp (n := t) (by omega), eF, if_pos hf]
    rw [ez] at hp
    obtain ⟨f, q1, f0, f1, f2, f3, f4⟩ := g4.2.2.1 k hkN
    have tl := g4.tile hb hkN
    have htg : ∀ e, yG (yU H4 (tk k) e) g 10 2 (.ref ta) := fun e => by
      refine yG.of (fs := [.int (nI (bW A)), .int (nI (bR A)), .ref ta, .int (gR S), .ref oa]) ?_ rfl
      rw [yU_ne _ _ (fun y => by have := g4.1; rw [y, q1] at this; simp at this)]
      exact g4.1
    have htl : ∀ e, yER G 5 (yU H4 (tk k) e) ta (nI k) (tk k) := fun e => by
      obtain ⟨ft, t1, t2⟩ := g4.2.1
      refine ⟨bN A, ft, ?_, vp_in_nI hkN (by omega), by rw [nI_clamp (by omega)]; exact t2 k hkN⟩
      rw [yU_ne _ _ (fun y => by rw [y, q1] at t1; simp at t1)]
      exact t1
    refine ⟨ta, g4.tA, tk k, tl, 5, f, q1, vp_in_nI (n := 3) (by decide) (by decide), ta, htg _, tk k, htl _, 5, _, yU_same _ _ _, vp_in_nI (n := 4) (by decide) (by decide), ?_⟩
    rw [yU_yU, cl3, cl4, z]
    have g5 : gAt G (yU H4 (tk k) (.inl (G.2.2.2 0, (5, .inl (upd (upd f 3 (nI c)) 4 (nI t)))))) g ta oa tk (bPut A k c t) (gR S) := by
      refine g4.set hkN (bSz.put A _ _ _) (fun j hj => zU_ne _ _ hj) (fun j hj => zU_ne _ _ hj) ?_ ?_ ?_ ?_ ?_
      · rw [pk_un (by decide), pk_un (by decide)]; exact f0
      · rw [pk_un (by decide), pk_un (by decide)]; exact f1
      · rw [pk_un (by decide), pk_un (by decide)]; exact f2
      · rw [pk_un (by decide), pk_us]
        show _ = eO (zU (bCe A) k (some _) k)
        rw [zU_same]; rfl
      · rw [pk_us]
        show _ = nI (zU (bTr A) k _ k)
        rw [zU_same]
    have hm' := hm.put hkN hcC ht6 hf
    have kp5 : yKp [tk k] H4 (yU H4 (tk k) (.inl (G.2.2.2 0, (5, .inl (upd (upd f 3 (nI c)) 4 (nI t)))))) := yKp.put _ _ _
    have d5 := d4.kp kp5 (fun y => d4.out g4 (List.mem_cons_of_mem _ (by rw [List.mem_singleton.mp y]; exact gTl.mem tk hkN)))
    have o5 := l4.2.2.1.1.kp kp5 (g4.far hkN)
    have pp := put_points hm hkN hcC ht6 hf
    have ev : nI (bPoints (bPut A k c t)) - nI (bPoints A) = nI (bGain A c) := by rw [pp, nI_sub (by omega), Nat.add_sub_cancel_left]
    have hSg : bGm (bPut (gB S) k c t) := ho.2.2.1.put (by rw [hsz.2.2.1]; exact hkN) (by rw [eLie hs]; exact hcC) ht6 (by rw [eF]; exact hf)
    have hgl : bGain A c < 2 ^ 31 := Nat.lt_of_le_of_lt (bGain_le hb hcC) (by decide)
    refine B_L_act_200 G _ _ M _ F g _ _ _ _ true ⟨(fun y => by cases y), fun _ => ⟨⟨by omega, by omega⟩, yIs.of g5.1, S_counts g5 hm' (fun q2 hq2 fc c0 c1 c2 c3 c4 => ⟨_, yEI.mk (j := 3) (yU_same _ _ _) (by decide) (by decide), ?_⟩)⟩⟩
    rw [c3, ev]
    refine B_L_act_221 G _ _ M _ F _ _ _ _ (Or.inl ⟨⟨by omega, by omega⟩, hp.1 rfl _ (fun M' c' => S_act312 (by rw [etr, bGain_tw hb ag hcC]) hgl (by omega) (by omega) ?_)⟩)
    have l6 : lk G M' (yU H4 (tk k) (.inl (G.2.2.2 0, (5, .inl (upd (upd f 3 (nI c)) 4 (nI t)))))) (gWB S (bPut (gB S) k c t) (gR S)) g ta oa tk (bPut A k c t) os := ⟨⟨c', ho.b hSg (bSz.put _ _ _ _)⟩, g5, ⟨o5, h4, hk⟩, ⟨hm', hs.put k c t⟩, hr, hN⟩
    exact h M' _ _ (bPut A k c t) (l6.le (yLe.new hq2 _)) (bSz.put _ _ _ _) (d5.le (yLe.new hq2 _))
set_option maxHeartbeats 4000000 in
theorem S_act236 {k : Nat} {F : Bool → eM → yH → Prop} {ca sl : Nat} (hl : lk G M H S g ta oa tk A os) (hd : nD H d) (hkN : k < bN A) (hca : ca ≤ 10) (hsl : sl ≤ 400) (h : ∀ (M' : eM) (H' : yH) (S' : gS) (A' : eBd), lk G M' H' S' g ta oa tk A' os → bSz A A' → nD H' d → F true M' H') : Yx yXA (yZ G 700 19600 (yFZ F)) G (eR (13, 700, 19600)) kL_act 236 [(0, .ref (G.1 0)), (1, .ref g), (5, .int (nI k)), (6, .int (nI (bPoints A)))] [] M H ca sl := by
  have hl' := hl
  obtain ⟨⟨hc, ho⟩, hg, ⟨hos, h4, hk⟩, ⟨hm, hs⟩, hr, hN⟩ := hl'
  have hb := hm.1
  have h49 := hb.c49
  have hsz := hs.sz
  have hkS : dIn (nI k) (bN (gB S)) := by rw [hsz.2.2.1]; exact ⟨nI_pos' (by omega), nI_lt hkN (by omega)⟩
  have hp := P_takeTile (G := G) ho hc (nI k)
  have tl := hg.tile hb hkN
  obtain ⟨f, q1, f0, f1, f2, f3, f4⟩ := hg.2.2.1 k hkN
  have kp5 : yKp [tk k] H (yU H (tk k) (.inl (G.2.2.2 0, (5, .inl (upd f 3 (-1)))))) := yKp.put _ _ _
  have d5 := hd.kp kp5 (fun y => hd.out hg (List.mem_cons_of_mem _ (by rw [List.mem_singleton.mp y]; exact gTl.mem tk hkN)))
  have o5 := hos.kp kp5 (hg.far hkN)
  refine B_L_act_236 G ca sl M H F g _ _ ⟨ta, hg.tA, tk k, tl, eO (bCe A k), hg.t3 hkN, ?_⟩
  cases hce : bCe A k with
  | none =>
    have ez : z_takeTile S (nI k) = (2, 0, S) := by
      unfold z_takeTile
      rw [if_pos hkS, nI_clamp (by omega), hs.ce, hce]
    rw [ez] at hp
    have g5 : gAt G (yU H (tk k) (.inl (G.2.2.2 0, (5, .inl (upd f 3 (-1)))))) g ta oa tk A (gR S) := by
      refine hg.set hkN (bSz.refl A) (fun j hj => rfl) (fun j hj => rfl) ?_ ?_ ?_ ?_ ?_
      · rw [pk_un (by decide)]; exact f0
      · rw [pk_un (by decide)]; exact f1
      · rw [pk_un (by decide)]; exact f2
      · rw [pk_us, hce]; rfl
      · rw [pk_un (by decide)]; exact f4
    refine ⟨fun _ => B_L_act_255 G _ _ M H F g _ _ 0 ⟨ta, hg.tA, tk k, tl, 5, f, q1, vp_in_nI (n := 3) (by decide) (by decide), fun _ => ?_, fun y => absurd rfl y⟩, fun y => absurd eM1l y⟩
    rw [cl3]
    exact B_L_act_286 G _ _ M _ F _ _ (Or.inr ⟨hp.2.2 rfl, ⟨by omega, by omega⟩, fun _ => ⟨fun y => absurd rfl y, fun _ => ⟨⟨by omega, by omega⟩, h M _ S A ⟨⟨hc, ho⟩, g5, ⟨o5, h4, hk⟩, ⟨hm, hs⟩, hr, hN⟩ (bSz.refl A) d5⟩⟩⟩)
  | some c =>
    obtain ⟨hcC, hat, htr⟩ := hb.2.2.2.2.1 k c hkN hce
    have ez : z_takeTile S (nI k) = (0, nI (bGain (bLift (gB S) k c) c), gWB S (bLift (gB S) k c) (gR S)) := by
      unfold z_takeTile
      rw [if_pos hkS, nI_clamp (by omega), hs.ce, hce]
    rw [ez] at hp
    have g5 : gAt G (yU H (tk k) (.inl (G.2.2.2 0, (5, .inl (upd f 3 (-1)))))) g ta oa tk (bLift A k c) (gR S) := by
      refine hg.set hkN (bSz.lift A _ _) (fun j hj => zU_ne _ _ hj) (fun j hj => rfl) ?_ ?_ ?_ ?_ ?_
      · rw [pk_un (by decide)]; exact f0
      · rw [pk_un (by decide)]; exact f1
      · rw [pk_un (by decide)]; exact f2
      · rw [pk_us]
        show _ = eO (zU (bCe A) k none k)
        rw [zU_same]; rfl
      · rw [pk_un (by decide)]; exact f4
    have hm' := hm.lift hkN hce
    have pl := bPoints_lift hb hm.2 hkN hce
    have ev : nI (bPoints A) - nI (bPoints (bLift A k c)) = nI (bGain (bLift A k c) c) := by rw [pl, nI_sub (by omega), Nat.add_sub_cancel_left]
    have hsl' := hs.lift k c
    have hsl2 := hsl'
    obtain ⟨tr2, etr2, ag2⟩ := hsl2
    have hSg : bGm (bLift (gB S) k c) := ho.2.2.1.lift (by rw [hsz.2.2.1]; exact hkN) (by rw [hs.ce]; exact hce)
    have hgl : bGain (bLift A k c) c < 2 ^ 31 := Nat.lt_of_le_of_lt (bGain_le hm'.1 (show c < bC (bLift A k c) from hcC)) (by decide)
    refine ⟨fun y => absurd y (nI_pos (by omega)), fun _ => B_L_act_255 G _ _ M H F g _ _ 1 ⟨ta, hg.tA, tk k, tl, 5, f, q1, vp_in_nI (n := 3) (by decide) (by decide), fun y => absurd y (by decide), fun _ => ?_⟩⟩
    rw [cl3]
    refine ⟨⟨by omega, by omega⟩, yIs.of g5.1, S_counts g5 hm' (fun q2 hq2 fc c0 c1 c2 c3 c4 => ⟨_, yEI.mk (j := 3) (yU_same _ _ _) (by decide) (by decide), ?_⟩)⟩
    rw [c3, ev]
    refine B_L_act_286 G _ _ M _ F _ _ (Or.inl ⟨⟨by omega, by omega⟩, hp.1 rfl _ (fun M' c' => S_act312 (by rw [etr2, bGain_tw hm'.1 ag2 (show c < bC (bLift A k c) from hcC)]) hgl (by omega) (by omega) ?_)⟩)
    have l6 : lk G M' (yU H (tk k) (.inl (G.2.2.2 0, (5, .inl (upd f 3 (-1)))))) (gWB S (bLift (gB S) k c) (gR S)) g ta oa tk (bLift A k c) os := ⟨⟨c', ho.b hSg (bSz.lift _ _ _)⟩, g5, ⟨o5, h4, hk⟩, ⟨hm', hsl'⟩, hr, hN⟩
    exact h M' _ _ (bLift A k c) (l6.le (yLe.new hq2 _)) (bSz.lift _ _ _) (d5.le (yLe.new hq2 _))
set_option maxHeartbeats 4000000 in
theorem S_act {F : Bool → eM → yH → Prop} (hl : lk G M H S g ta oa tk A os) (hd : nD H d) (h : ∀ (M' : eM) (H' : yH) (S' : gS) (A' : eBd), lk G M' H' S' g ta oa tk A' os → bSz A A' → nD H' d → F true M' H') : yCalT G (13, 700, 19600) kL_act hhA [.ref (G.1 0), .ref g, .ref d] M H (yFZ F) := by
  refine yCalT.of (by decide +kernel) rfl (Nat.le_of_ble_eq_true rfl) ?_
  show Yx yXA (yZ G 700 19600 (yFZ F)) G (eR (13, 700, 19600)) kL_act 0 [(0, .ref (G.1 0)), (1, .ref g), (2, .ref d)] [] M H 0 0
  have hN := hl.2.2.2.2.2
  have hg := hl.2.1
  obtain ⟨ft, t1, t2⟩ := hg.2.1
  -- rounds
  have rounds : ∀ H1, lk G M H1 S g ta oa tk A os → nD H1 d → Yx yXA (yZ G 700 19600 (yFZ F)) G (eR (13, 700, 19600)) kL_act 25 [(0, .ref (G.1 0)), (1, .ref g), (2, .ref d)] [] M H1 0 0 := by
    intro H1 l1 d1
    refine B_L_act_25 G _ _ M H1 F g d ⟨⟨by decide, by decide⟩, d1.is, S_next d1 (n := 3) (by decide) (by decide) (fun v H2 hv d2 k2 => ⟨fun z => ⟨⟨by decide, by decide⟩, d2.is, S_next d2 (n := 2) (by decide) (by decide) (fun w H3 hw d3 k3 => ?_)⟩, fun z => ⟨⟨by decide, by decide⟩, d2.is, S_next d2 (n := 6) (by decide) (by decide) (fun w H3 hw d3 k3 => ?_)⟩⟩)⟩
    · rw [show (1 : Int32) + nI w = nI (1 + w) from nI_add 1 w]
      exact S_act47 (l1.dn d1 (k2.trans k3)) d3 (by omega) (by omega) (by decide) (by decide) h
    · rw [show (1 : Int32) + nI w = nI (1 + w) from nI_add 1 w]
      exact S_act47 (l1.dn d1 (k2.trans k3)) d3 (by omega) (by omega) (by decide) (by decide) h
  refine E_L_act G M H F g d ⟨ta, hg.tA, bN A, ⟨_, t1, rfl⟩, ⟨by decide, by decide⟩, hd.is, S_next hd (n := 10) (by decide) (by decide) (fun s H1 hs d1 k1 => ?_)⟩
  have l1 := hl.dn hd k1
  refine ⟨fun z => absurd z (nI_ne0 (by omega) (by omega)), fun _ => ⟨fun z => ?_, fun _ => rounds H1 l1 d1⟩⟩
  refine B_L_act_68 G _ _ M H1 F g d _ _ ⟨⟨by decide, by decide⟩, d1.is, S_next d1 (n := bN A) (by omega) (by omega) (fun k H2 hk d2 k2 => ?_)⟩
  have l2 := l1.dn d1 k2
  refine ⟨⟨by decide, by decide⟩, yIs.of l2.2.1.1, S_counts l2.2.1 l2.2.2.2.1.1 (fun q hq fc c0 c1 c2 c3 c4 => ⟨_, yEI.mk (j := 3) (yU_same _ _ _) (by decide) (by decide), ?_⟩)⟩
  have l3 := l2.le (yLe.new hq (.inl (G.2.2.2 0, (5, .inl fc))))
  have d3 := d2.le (yLe.new hq (.inl (G.2.2.2 0, (5, .inl fc))))
  rw [c3]
  exact ⟨fun _ => ⟨fun _ => S_act236 l3 d3 hk (by decide) (by decide) h, fun _ => S_act136 l3 d3 hk (by decide) (by decide) h⟩, fun _ => S_act93 l3 d3 hk (by decide) (by decide) h⟩
end Act
