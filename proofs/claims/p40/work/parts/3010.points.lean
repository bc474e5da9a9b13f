/-! ===== what a put tile brings is what the points grow by ===== -/
def bGood (B : eBd) (k c t : Nat) : Prop := ∀ e x, e < 6 → bFace B c e = some x → x = bNm B k t e
theorem bGood_fits {B : eBd} (hb : bOk B) {k c t : Nat} (hc : c < bC B) (h : bFits B k c t = true) : bGood B k c t := by
  unfold bFits at h
  simp only [Bool.and_eq_true, Bool.or_eq_true, decide_eq_true_eq, Option.isNone_iff_eq_none] at h
  intro e x he hx
  rcases h.2 with h0 | ⟨-, h1⟩
  · exfalso
    unfold bFace at hx
    cases h3 : bTile B c e with
    | none => rw [h3] at hx; cases hx
    | some k2 =>
      obtain ⟨d, -, -, -, h4, h5, -⟩ := hb.tile hc he h3
      have h6 := hb.2.2.2.2.2.2
      rw [h0] at h6
      have h7 := zSm_of0 h6.symm k2 h4
      try dsimp only at h7
      rw [h5] at h7
      exact absurd h7 (by simp)
  · have h2 := zFf_none' h1 e he
    unfold bClash at h2
    rw [hx] at h2
    exact Decidable.byContradiction fun z => absurd h2 (by try dsimp only; rw [decide_eq_true z]; decide)
theorem bMeet.put {B : eBd} (hb : bOk B) (hm : bMeet B) {k c t : Nat} (hk : k < bN B) (hc : c < bC B) (h1 : bAt B c = none) (h2 : bCe B k = none) (hg : bGood B k c t) : bMeet (bPut B k c t) := by
  intro c' e k' x hc' he hat hf
  rw [bFace_put hb hc' he h2] at hf
  by_cases hq : c' = c
  · subst hq
    have e1 : some k = some k' := (zU_same (bAt B) c' (some k)).symm.trans hat
    cases e1
    rw [if_neg (fun z => (hb.bes hc' he z).2.2 rfl)] at hf
    show x = bNu B (3 * k + (e + 6 - zU (bTr B) k t k) % 6 / 2)
    rw [zU_same]
    exact hg e x he hf
  · have e1 : bAt B c' = some k' := (zU_ne (bAt B) (some k) hq).symm.trans hat
    have hce := (hb.2.2.2.1 c' k' hc' e1).2
    have hkk : k' ≠ k := fun z => by subst z; rw [h2] at hce; cases hce
    show x = bNu B (3 * k' + (e + 6 - zU (bTr B) k t k') % 6 / 2)
    rw [zU_ne _ _ hkk]
    by_cases hq2 : bBes B c' e = some c
    · rw [if_pos hq2] at hf
      cases hf
      have h3 := bBes_opp hb hc' he hq2
      have h4 := hg ((e + 3) % 6) (bNm B k' (bTr B k') e) (Nat.mod_lt _ (by decide)) (by
        unfold bFace bTile
        rw [h3]
        try dsimp only
        rw [e1]
        try dsimp only
        rw [bOpp2 he])
      exact h4.symm
    · rw [if_neg hq2] at hf
      exact hm c' e k' x hc' he e1 hf
theorem bMeet.lift {B : eBd} (hm : bMeet B) {k c : Nat} : bMeet (bLift B k c) := by
  intro c' e k' x hc' he hat hf
  rw [bFace_lift] at hf
  by_cases hq2 : bBes B c' e = some c
  · rw [if_pos hq2] at hf; cases hf
  · rw [if_neg hq2] at hf
    by_cases hq : c' = c
    · subst hq
      have e1 : none = some k' := (zU_same (bAt B) c' none).symm.trans hat
      cases e1
    · exact hm c' e k' x hc' he ((zU_ne (bAt B) none hq).symm.trans hat) hf
theorem bHere_put {B : eBd} (hb : bOk B) {k c t c' : Nat} (hc : c < bC B) (hc' : c' < bC B) (h1 : bAt B c = none) (h2 : bCe B k = none) (hg : bGood B k c t) :
    bHere (bPut B k c t) c' = bHere B c' + ((if c' = c then zSm (fun e => (bFace B c e).getD 0) 3 else 0) + zSm (fun e => if bBes B c' e = some c then (bFace B c ((e + 3) % 6)).getD 0 else 0) 3) := by
  by_cases hq : c' = c
  · subst hq
    rw [if_pos rfl]
    have e0 : bHere B c' = 0 := by unfold bHere; rw [h1]
    have e1 : zSm (fun e => if bBes B c' e = some c' then (bFace B c' ((e + 3) % 6)).getD 0 else 0) 3 = 0 := zSm_zero (fun e he => if_neg (fun z => (hb.bes hc' (by omega) z).2.2 rfl))
    rw [e0, e1, Nat.zero_add, Nat.add_zero]
    unfold bHere
    rw [show bAt (bPut B k c' t) c' = some k from zU_same _ _ _]
    refine zSm_ext (fun e he => ?_)
    rw [bTile_put, if_neg (fun z => (hb.bes hc' (by omega) z).2.2 rfl)]
    show (if (bTile B c' e).isSome = true then bNu B (3 * k + (e + 6 - zU (bTr B) k t k) % 6 / 2) else 0) = _
    rw [zU_same]
    cases h3 : bTile B c' e with
    | none => unfold bFace; rw [h3]; rfl
    | some k2 =>
      obtain ⟨x, hx⟩ : ∃ x, bFace B c' e = some x := by unfold bFace; rw [h3]; exact ⟨_, rfl⟩
      rw [hx, hg e x (by omega) hx]
      rfl
  · rw [if_neg hq, Nat.zero_add]
    unfold bHere
    rw [show bAt (bPut B k c t) c' = bAt B c' from zU_ne _ _ hq]
    cases h3 : bAt B c' with
    | none =>
      try dsimp only
      rw [Nat.zero_add]
      refine (zSm_zero (fun e he => ?_)).symm
      by_cases hq2 : bBes B c' e = some c
      · rw [if_pos hq2]
        have h4 := bBes_opp hb hc' (show e < 6 by omega) hq2
        have : bFace B c ((e + 3) % 6) = none := by unfold bFace bTile; rw [h4]; try dsimp only; rw [h3]
        rw [this]
        rfl
      · rw [if_neg hq2]
    | some k' =>
      try dsimp only
      have hce := (hb.2.2.2.1 c' k' hc' h3).2
      have hkk : k' ≠ k := fun z => by subst z; rw [h2] at hce; cases hce
      rw [← zSm_add]
      refine zSm_ext (fun e he => ?_)
      rw [bTile_put]
      show (if _ then bNu B (3 * k' + (e + 6 - zU (bTr B) k t k') % 6 / 2) else 0) = _
      rw [zU_ne _ _ hkk]
      by_cases hq2 : bBes B c' e = some c
      · rw [if_pos hq2, if_pos hq2, bTile_c h1 hq2]
        have h4 := bBes_opp hb hc' (show e < 6 by omega) hq2
        have : bFace B c ((e + 3) % 6) = some (bNm B k' (bTr B k') e) := by
          unfold bFace bTile
          rw [h4]
          try dsimp only
          rw [h3]
          try dsimp only
          rw [bOpp2 (show e < 6 by omega)]
        rw [this]
        show bNm B k' (bTr B k') e = 0 + bNm B k' (bTr B k') e
        rw [Nat.zero_add]
      · rw [if_neg hq2, if_neg hq2]
        rfl
/-- of all cells one alone has c at its edge e: the one at c's opposite edge -/
theorem bBes_sum {B : eBd} (hb : bOk B) {c e : Nat} (hc : c < bC B) (he : e < 6) (f : Nat → Nat) : zSm (fun c' => if bBes B c' e = some c then f c' else 0) (bC B) = match bBes B c ((e + 3) % 6) with
    | none => 0
    | some d => f d := by
  have h6 : (e + 3) % 6 < 6 := Nat.mod_lt _ (by decide)
  cases h1 : bBes B c ((e + 3) % 6) with
  | none =>
    refine zSm_zero (fun c' hc' => if_neg (fun z => ?_))
    rw [bBes_opp hb hc' he z] at h1
    cases h1
  | some d =>
    obtain ⟨hd, h2, -⟩ := hb.bes hc h6 h1
    rw [bOpp2 he] at h2
    rw [zSm_one hd (fun i hi hid => if_neg (fun z => ?_))]
    · exact if_pos h2
    · have := bBes_opp hb hi he z
      rw [h1] at this
      exact hid (Option.some.inj this).symm
theorem bMatched_put {B : eBd} (hb : bOk B) {k c t : Nat} (hc : c < bC B) (h1 : bAt B c = none) (h2 : bCe B k = none) (hg : bGood B k c t) : bMatched (bPut B k c t) = bMatched B + zSm (fun e => (bFace B c e).getD 0) 6 := by
  have e0 : bMatched (bPut B k c t) = zSm (fun c' => bHere B c' + ((if c' = c then zSm (fun e => (bFace B c e).getD 0) 3 else 0) + zSm (fun e => if bBes B c' e = some c then (bFace B c ((e + 3) % 6)).getD 0 else 0) 3)) (bC B) := zSm_ext (fun c' hc' => bHere_put hb hc hc' h1 h2 hg)
  rw [e0, zSm_add, zSm_add, zSm_swap (fun c' e => if bBes B c' e = some c then (bFace B c ((e + 3) % 6)).getD 0 else 0)]
  have e1 : zSm (fun c' => if c' = c then zSm (fun e => (bFace B c e).getD 0) 3 else 0) (bC B) = zSm (fun e => (bFace B c e).getD 0) 3 := by
    rw [zSm_one hc (fun i _ hi => if_neg hi), if_pos rfl]
  have e2 : zSm (fun e => zSm (fun c' => if bBes B c' e = some c then (bFace B c ((e + 3) % 6)).getD 0 else 0) (bC B)) 3 = zSm (fun e => (bFace B c ((e + 3) % 6)).getD 0) 3 := by
    refine zSm_ext (fun e he => ?_)
    rw [bBes_sum hb hc (by omega) (fun _ => (bFace B c ((e + 3) % 6)).getD 0)]
    cases h3 : bBes B c ((e + 3) % 6) with
    | none =>
      have : bFace B c ((e + 3) % 6) = none := by unfold bFace bTile; rw [h3]
      rw [this]
      rfl
    | some d => rfl
  rw [e1, e2]
  unfold bMatched
  simp only [zSm, Nat.reduceAdd, Nat.reduceMod]
  omega
theorem bTb_put {B : eBd} (hb : bOk B) {k c t c' : Nat} (hc' : c' < bC B) (h1 : bAt B c = none) : bTb (bPut B k c t) c' = bTb B c' + zSm (fun e => if bBes B c' e = some c then 1 else 0) 6 := by
  unfold bTb
  rw [← zSm_add]
  refine zSm_ext (fun e _ => ?_)
  rw [bTile_put]
  by_cases hq : bBes B c' e = some c
  · rw [if_pos hq, if_pos hq, bTile_c h1 hq]
    rfl
  · rw [if_neg hq, if_neg hq, Nat.add_zero]
theorem bRing_put {B : eBd} (hb : bOk B) {k c t c' : Nat} (hc' : c' < bC B) (h1 : bAt B c = none) : (if bRing (bPut B k c t) c' then 1 else 0) = (if bRing B c' then 1 else 0) + zSm (fun e => if bBes B c' e = some c then (if bTb B c' = 5 then 1 else 0) else 0) 6 := by
  unfold bRing
  rw [bTb_put hb hc' h1]
  have h6 := bTb_le B c'
  cases hx : zFf (fun e => decide (bBes B c' e = some c)) 6 with
  | none =>
    have h2 := zFf_none' hx
    rw [zSm_zero (f := fun e => if bBes B c' e = some c then 1 else 0) (fun e he => if_neg (of_decide_eq_false (h2 e he))), zSm_zero (f := fun e => if bBes B c' e = some c then (if bTb B c' = 5 then 1 else 0) else 0) (fun e he => if_neg (of_decide_eq_false (h2 e he)))]
    rfl
  | some e =>
    obtain ⟨he, h2, -⟩ := zFf_some' hx
    have h3 := of_decide_eq_true h2
    have hne : ∀ i, i < 6 → i ≠ e → ¬ bBes B c' i = some c := fun i hi hie z => hie (bBes_inj hb.1 hb.2.1 hc' hi he z h3)
    rw [zSm_one (f := fun e => if bBes B c' e = some c then 1 else 0) he (fun i hi hie => if_neg (hne i hi hie)), zSm_one (f := fun e => if bBes B c' e = some c then (if bTb B c' = 5 then 1 else 0) else 0) he (fun i hi hie => if_neg (hne i hi hie)), if_pos h3, if_pos h3]
    have h4 : bTb B c' ≤ 5 := by
      have h5 := zSm_diff (f := fun e => if (bTile B c' e).isSome then 1 else 0) (g := fun i => if i = e then 1 else if (bTile B c' i).isSome then 1 else 0) (k := e) (a := 1) (n := 6) he (by rw [if_pos rfl, bTile_c h1 h3]; rfl) (fun i _ hi => by rw [if_neg hi])
      have h7 := zSm_le (f := fun i => if i = e then 1 else if (bTile B c' i).isSome then 1 else 0) (k := 1) (n := 6) (fun i _ => by repeat (first | split | omega))
      unfold bTb
      omega
    by_cases h8 : bTb B c' = 5
    · rw [if_pos h8, h8]
      rfl
    · rw [if_neg h8, decide_eq_false (show ¬ bTb B c' + 1 = 6 by omega), decide_eq_false (show ¬ bTb B c' = 6 by omega)]
      rfl
theorem bPoints_put {B : eBd} (hb : bOk B) {k c t : Nat} (hc : c < bC B) (h1 : bAt B c = none) (h2 : bCe B k = none) (hg : bGood B k c t) : bPoints (bPut B k c t) = bPoints B + bGain B c := by
  have e0 : bRings (bPut B k c t) = bRings B + zSm (fun e => match bBes B c ((e + 3) % 6) with
    | none => 0
    | some d => if bTb B d = 5 then 1 else 0) 6 := by
    have e1 : bRings (bPut B k c t) = zSm (fun c' => (if bRing B c' then 1 else 0) + zSm (fun e => if bBes B c' e = some c then (if bTb B c' = 5 then 1 else 0) else 0) 6) (bC B) := zSm_ext (fun c' hc' => bRing_put hb hc' h1)
    rw [e1, zSm_add, zSm_swap (fun c' e => if bBes B c' e = some c then (if bTb B c' = 5 then 1 else 0) else 0)]
    unfold bRings
    congr 1
    exact zSm_ext (fun e he => bBes_sum hb hc he (fun c' => if bTb B c' = 5 then 1 else 0))
  have e2 : ∀ e, bGainE B c e = (bFace B c e).getD 0 + 10 * (match bBes B c e with
    | none => 0
    | some d => if bTb B d = 5 then 1 else 0) := by
    intro e
    unfold bGainE
    cases bBes B c e with
    | none => rfl
    | some d =>
      try dsimp only
      by_cases hq : bTb B d = 5
      · rw [if_pos hq, if_pos hq]
      · rw [if_neg hq, if_neg hq]
  unfold bPoints
  rw [bMatched_put hb hc h1 h2 hg, e0]
  unfold bGain
  simp only [zSm, e2, Nat.reduceAdd, Nat.reduceMod]
  omega
theorem bPut_lift {B : eBd} (hb : bOk B) {k c : Nat} (hk : k < bN B) (h2 : bCe B k = some c) : bPut (bLift B k c) k c (bTr B k) = B := by
  obtain ⟨hc, h1, -⟩ := hb.2.2.2.2.1 k c hk h2
  have hP := bP_pos hb hk h2
  obtain ⟨⟨w, r, n, p⟩, at_, ce, tr, nu⟩ := B
  refine Prod.ext ?_ (Prod.ext ?_ (Prod.ext ?_ (Prod.ext ?_ rfl)))
  · show (w, r, n, p - 1 + 1) = (w, r, n, p)
    have : p - 1 + 1 = p := Nat.sub_add_cancel hP
    rw [this]
  · funext i
    show zU (zU at_ c none) c (some k) i = at_ i
    by_cases hq : i = c
    · subst hq; rw [zU_same]; exact h1.symm
    · rw [zU_ne _ _ hq, zU_ne _ _ hq]
  · funext i
    show zU (zU ce k none) k (some c) i = ce i
    by_cases hq : i = k
    · subst hq; rw [zU_same]; exact h2.symm
    · rw [zU_ne _ _ hq, zU_ne _ _ hq]
  · funext i
    show zU tr k (tr k) i = tr i
    by_cases hq : i = k
    · subst hq; rw [zU_same]
    · rw [zU_ne _ _ hq]
theorem bPoints_lift {B : eBd} (hb : bOk B) (hm : bMeet B) {k c : Nat} (hk : k < bN B) (h2 : bCe B k = some c) : bPoints B = bPoints (bLift B k c) + bGain (bLift B k c) c := by
  obtain ⟨hc, h1, -⟩ := hb.2.2.2.2.1 k c hk h2
  have hb' := hb.lift hk h2
  have h3 := bPoints_put hb' (k := k) (t := bTr B k) (c := c) hc (zU_same (bAt B) c none) (zU_same (bCe B) k none) (by
    intro e x he hx
    rw [bFace_lift] at hx
    have hne : ¬ bBes B c e = some c := fun z => (hb.bes hc he z).2.2 rfl
    rw [if_neg hne] at hx
    exact hm c e k x hc he h1 hx)
  rw [bPut_lift hb hk h2] at h3
  exact h3

