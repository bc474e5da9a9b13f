/-! ===== ends of matches and their numbers, told from both sides ===== -/
section Ends
variable {B : eBd}
theorem bFlip (hb : bOk B) {e : Nat} (he : e < 6) (h : Nat → Nat → Nat) : zSm (fun c => match bBes B c e with | none => 0 | some d => h c d) (bC B) = zSm (fun d => match bBes B d ((e + 3) % 6) with | none => 0 | some c => h c d) (bC B) := by
  have e1 : zSm (fun c => match bBes B c e with | none => 0 | some d => h c d) (bC B) = zSm (fun c => zSm (fun d => if bBes B c e = some d then h c d else 0) (bC B)) (bC B) := by
    refine zSm_ext (fun c hc => ?_)
    cases h1 : bBes B c e with
    | none => exact (zSm_zero (fun d _ => if_neg (fun z => by cases z))).symm
    | some d =>
      show h c d = zSm (fun d' => if some d = some d' then h c d' else 0) (bC B)
      rw [zSm_one (f := fun d' => if some d = some d' then h c d' else 0) (hb.bes hc he h1).1 (fun i _ hi => if_neg (fun z => hi (Option.some.inj z).symm))]
      exact (if_pos rfl).symm
  rw [e1, zSm_swap (fun c d => if bBes B c e = some d then h c d else 0)]
  exact zSm_ext (fun d hd => bBes_sum hb hd he (fun c => h c d))
def bE1 (B : eBd) (c e : Nat) : Nat := match bBes B c e with
  | none => 0
  | some d => if hT B c && hT B d then 1 else 0
def bSe (B : eBd) (e : Nat) : Nat := zSm (fun c => bE1 B c e) (bC B)
theorem bSe_flip (hb : bOk B) {e : Nat} (he : e < 6) : bSe B e = bSe B ((e + 3) % 6) := by
  refine (bFlip hb he (fun c d => if hT B c && hT B d then 1 else 0)).trans (zSm_ext (fun d _ => ?_))
  show (match bBes B d ((e + 3) % 6) with | none => 0 | some c => if hT B c && hT B d then 1 else 0) = bE1 B d ((e + 3) % 6)
  unfold bE1
  cases bBes B d ((e + 3) % 6) with
  | none => rfl
  | some c =>
    show (if hT B c && hT B d then 1 else 0) = (if hT B d && hT B c then 1 else 0)
    rw [Bool.and_comm]
theorem bE1_tile (c e : Nat) : bE1 B c e = if hT B c then (if (bTile B c e).isSome then 1 else 0) else 0 := by
  unfold bE1 bTile
  cases bBes B c e with
  | none => exact (ite_self 0).symm
  | some d =>
    show (if hT B c && hT B d then 1 else 0) = if hT B c then (if hT B d then 1 else 0) else 0
    cases hT B c <;> cases hT B d <;> rfl
theorem zSm_if (p : Bool) (f : Nat → Nat) (n : Nat) : (if p then zSm f n else 0) = zSm (fun e => if p then f e else 0) n := by
  cases p with
  | true => rfl
  | false => exact (zSm_zero (fun _ _ => rfl)).symm
theorem bEnds_se (B : eBd) : bEnds B = zSm (bSe B) 6 := by
  have e1 : bEnds B = zSm (fun c => zSm (fun e => bE1 B c e) 6) (bC B) := by
    refine zSm_ext (fun c _ => ?_)
    show (if hT B c then bTb B c else 0) = zSm (fun e => bE1 B c e) 6
    unfold bTb
    rw [zSm_if]
    exact zSm_ext (fun e _ => (bE1_tile c e).symm)
  rw [e1]
  exact zSm_swap (fun c e => bE1 B c e) 6 (bC B)
/-- matches by the edges 3 to 5 -/
def bHi (B : eBd) (c : Nat) : Nat := zSm (fun e => bE1 B c (e + 3)) 3
theorem bSe3 (hb : bOk B) : bSe B 3 = bSe B 0 ∧ bSe B 4 = bSe B 1 ∧ bSe B 5 = bSe B 2 := ⟨(bSe_flip hb (e := 0) (by decide)).symm, (bSe_flip hb (e := 1) (by decide)).symm, (bSe_flip hb (e := 2) (by decide)).symm⟩
theorem bHi_sum (B : eBd) : zSm (bHi B) (bC B) = bSe B 3 + bSe B 4 + bSe B 5 := by
  unfold bHi
  rw [zSm_swap (fun c e => bE1 B c (e + 3))]
  show 0 + bSe B 3 + bSe B 4 + bSe B 5 = _
  omega
theorem bEnds6 (B : eBd) : bEnds B = bSe B 0 + bSe B 1 + bSe B 2 + bSe B 3 + bSe B 4 + bSe B 5 := by
  rw [bEnds_se]
  show 0 + bSe B 0 + bSe B 1 + bSe B 2 + bSe B 3 + bSe B 4 + bSe B 5 = _
  omega
theorem bMatch_hi (hb : bOk B) : bMatch B = zSm (bHi B) (bC B) ∧ 2 * bMatch B = bEnds B := by
  obtain ⟨h0, h1, h2⟩ := bSe3 hb
  have h3 := bEnds6 B
  rw [bHi_sum]
  unfold bMatch
  omega
/-- numbers: the own tile's at an edge with a tile beside -/
def bV1 (B : eBd) (c e : Nat) : Nat := match bAt B c with
  | none => 0
  | some k => if (bTile B c e).isSome then bNm B k (bTr B k) e else 0
def bVe (B : eBd) (e : Nat) : Nat := zSm (fun c => bV1 B c e) (bC B)
def bNc (B : eBd) (c e : Nat) : Nat := match bAt B c with
  | none => 0
  | some k => bNm B k (bTr B k) e
theorem bV1_bes (c e : Nat) : bV1 B c e = match bBes B c e with | none => 0 | some d => if hT B d then bNc B c e else 0 := by
  unfold bV1 bTile bNc
  cases bBes B c e with
  | none => cases bAt B c <;> rfl
  | some d =>
    show (match bAt B c with | none => 0 | some k => if hT B d then bNm B k (bTr B k) e else 0) = if hT B d then (match bAt B c with | none => 0 | some k => bNm B k (bTr B k) e) else 0
    cases bAt B c with
    | none => exact (ite_self 0).symm
    | some k => rfl
theorem bVe_flip (hb : bOk B) (hm : bMeet B) {e : Nat} (he : e < 6) : bVe B e = bVe B ((e + 3) % 6) := by
  have e1 : bVe B e = zSm (fun c => match bBes B c e with | none => 0 | some d => if hT B d then bNc B c e else 0) (bC B) := zSm_ext (fun c _ => bV1_bes c e)
  rw [e1, bFlip hb he (fun c d => if hT B d then bNc B c e else 0)]
  refine zSm_ext (fun d hd => ?_)
  show (match bBes B d ((e + 3) % 6) with | none => 0 | some c => if hT B d then bNc B c e else 0) = bV1 B d ((e + 3) % 6)
  rw [bV1_bes]
  cases h1 : bBes B d ((e + 3) % 6) with
  | none => rfl
  | some c =>
    have hs := hb.bes hd (Nat.mod_lt _ (by decide)) h1
    rw [bOpp2 he] at hs
    show (if hT B d then bNc B c e else 0) = if hT B c then bNc B d ((e + 3) % 6) else 0
    cases h2 : bAt B d with
    | none =>
      rw [if_neg (show ¬ hT B d = true by unfold hT; rw [h2]; decide)]
      unfold bNc
      rw [h2]
      exact (ite_self 0).symm
    | some k =>
      rw [if_pos (show hT B d = true by unfold hT; rw [h2]; rfl)]
      cases h3 : bAt B c with
      | none =>
        rw [if_neg (show ¬ hT B c = true by unfold hT; rw [h3]; decide)]
        unfold bNc
        rw [h3]
      | some k' =>
        rw [if_pos (show hT B c = true by unfold hT; rw [h3]; rfl)]
        unfold bNc
        rw [h2, h3]
        -- the tile beside c at e is k; it has there what c's has
        have hf : bFace B c e = some (bNm B k (bTr B k) ((e + 3) % 6)) := by
          unfold bFace bTile
          rw [hs.2.1]
          show (match bAt B d with | none => none | some k => some (bNm B k (bTr B k) ((e + 3) % 6))) = _
          rw [h2]
        exact (hm c e k' _ hs.1 he h3 hf).symm
theorem bMatched_ve (B : eBd) : bMatched B = bVe B 0 + bVe B 1 + bVe B 2 := by
  have e1 : bMatched B = zSm (fun c => zSm (fun e => bV1 B c e) 3) (bC B) := by
    refine zSm_ext (fun c _ => ?_)
    unfold bHere bV1
    cases bAt B c with
    | none => rfl
    | some k => rfl
  rw [e1, zSm_swap (fun c e => bV1 B c e)]
  show 0 + bVe B 0 + bVe B 1 + bVe B 2 = _
  omega
theorem bVe3 (hb : bOk B) (hm : bMeet B) : bVe B 3 = bVe B 0 ∧ bVe B 4 = bVe B 1 ∧ bVe B 5 = bVe B 2 := ⟨(bVe_flip hb hm (e := 0) (by decide)).symm, (bVe_flip hb hm (e := 1) (by decide)).symm, (bVe_flip hb hm (e := 2) (by decide)).symm⟩
/-- numbers by the edges 3 to 5 -/
theorem bMatched_hi (hb : bOk B) (hm : bMeet B) : bMatched B = zSm (fun c => zSm (fun e => bV1 B c (e + 3)) 3) (bC B) := by
  obtain ⟨h0, h1, h2⟩ := bVe3 hb hm
  rw [bMatched_ve, zSm_swap (fun c e => bV1 B c (e + 3))]
  show _ = 0 + bVe B 3 + bVe B 4 + bVe B 5
  omega
theorem bMatched_six (hb : bOk B) (hm : bMeet B) : 2 * bMatched B = zSm (fun c => zSm (fun e => bV1 B c e) 6) (bC B) := by
  obtain ⟨h0, h1, h2⟩ := bVe3 hb hm
  rw [bMatched_ve, zSm_swap (fun c e => bV1 B c e)]
  show _ = 0 + bVe B 0 + bVe B 1 + bVe B 2 + bVe B 3 + bVe B 4 + bVe B 5
  omega
end Ends
