/-! ===== p40: what the law looks at, of a board ===== -/
theorem bare_iff {B : eBd} (hb : bOk B) : (∀ c, c < bC B → bAt B c = none) ↔ bP B = 0 := by
  constructor
  · intro h
    rw [← bCnt_p hb]
    refine zSm_zero (fun c hc => ?_)
    show (if (bAt B c).isSome then 1 else 0) = 0
    rw [h c hc]
    rfl
  · exact fun h c hc => bNone_of0 hb h hc
theorem ends_on (B : eBd) : zSm (bMatchOn B) (bC B) = bEnds B := rfl
theorem meet_num {B : eBd} (hb : bOk B) (hm : bMeet B) {c e d k l : Nat} (hc : c < bC B) (he : e < 6) (hd : bBes B c e = some d) (hk : bAt B c = some k) (hl : bAt B d = some l) : bNm B k (bTr B k) e = bNm B l (bTr B l) ((e + 3) % 6) := by
  refine (hm c e k _ hc he hk ?_).symm
  unfold bFace bTile
  rw [hd]
  show (match bAt B d with | none => none | some k => some (bNm B k (bTr B k) ((e + 3) % 6))) = _
  rw [hl]
theorem groups_le {B : eBd} (hb : bOk B) : bGroups B ≤ bP B ∧ bP B - bGroups B ≤ bMatch B ∧ (bP B = 0 ↔ bGroups B = 0) := by
  obtain ⟨h1, h2, h3⟩ := bGroups_v hb
  have h4 := (bMatch_hi hb).2
  rw [bCnt_p hb] at h1 h2 h3
  exact ⟨h2, by omega, fun z => by omega, h3⟩
/-- labels: one step -/
theorem gLb.upd {B : eBd} (hb : bOk B) {L : Nat → Nat} (h : gLb B L) {c e d : Nat} (hc : c < bC B) (he : e < 6) (hd : bBes B c e = some d) (ht : hT B c = true) (hu : hT B d = true) (hlt : L d < L c) : gLb B (zU L c (L d)) := by
  intro x hx hxt
  have hdl := (hb.bes hc he hd).1
  by_cases hq : x = c
  · subst hq
    rw [zU_same]
    obtain ⟨a1, a2, n, a3⟩ := h d hdl hu
    have b1 := (h x hx hxt).1
    exact ⟨by omega, a2, n + 1, Or.inr ⟨e, d, he, hd, hu, a3⟩⟩
  · rw [zU_ne _ _ hq]
    exact h x hx hxt
def lSum (B : eBd) (L : Nat → Nat) : Nat := zSm (fun c => if hT B c then L c else 0) (bC B)
theorem lSum_upd {B : eBd} {L : Nat → Nat} {c v : Nat} (hc : c < bC B) (ht : hT B c = true) (hlt : v < L c) : lSum B (zU L c v) < lSum B L := by
  have := zSm_diff (f := fun x => if hT B x then zU L c v x else 0) (g := fun x => if hT B x then L x else 0) (k := c) (a := L c - v) (n := bC B) hc (by
    show (if hT B c then L c else 0) = (if hT B c then zU L c v c else 0) + (L c - v)
    rw [if_pos ht, if_pos ht, zU_same]
    omega) (fun i _ hi => by
    show (if hT B i then L i else 0) = (if hT B i then zU L c v i else 0)
    rw [zU_ne _ _ hi])
  unfold lSum
  omega
theorem gLb_id (B : eBd) : gLb B (fun c => c) := fun c _ ht => ⟨Nat.le_refl c, ht, 0, rfl⟩
/-- at rest: no neighbour has a smaller label -/
theorem gLq_of {B : eBd} (hb : bOk B) {L : Nat → Nat} (h : ∀ c e d, c < bC B → e < 6 → hT B c = true → bBes B c e = some d → hT B d = true → ¬ L d < L c) : gLq B L := fun c e d hc he ht hd hu => by
  have h1 := h c e d hc he ht hd hu
  have hs := hb.bes hc he hd
  have h2 := h d ((e + 3) % 6) c hs.1 (Nat.mod_lt _ (by decide)) hu hs.2.1 ht
  omega
/-- the law's measures, by the edges 3 to 5 -/
theorem law_counts {B : eBd} (hg : bGm B) : zSm (bHi B) (bC B) = bMatch B ∧ zSm (fun c => zSm (fun e => bV1 B c (e + 3)) 3) (bC B) = bMatched B := ⟨(bMatch_hi hg.1).1.symm, (bMatched_hi hg.1 hg.2).symm⟩
/-- points and rings as the law sums them up -/
theorem law_points {B : eBd} (hg : bGm B) : zSm (fun c => zSm (fun e => bV1 B c e) 6) (bC B) + 20 * bRings B = 2 * bPoints B := by
  have := bMatched_six hg.1 hg.2
  unfold bPoints
  omega
/-- putting the best tile at its best cell brings the most -/
theorem put_points {B : eBd} (hg : bGm B) {k c t : Nat} (hk : k < bN B) (hc : c < bC B) (ht : t < 6) (hf : bFits B k c t = true) : bPoints (bPut B k c t) = bPoints B + bGain B c := bPoints_put hg.1 hc (bFits_lies hf).2 (bFits_lies hf).1 (bGood_fits hg.1 hc hf)
theorem gain_lift {B : eBd} (hg : bGm B) {k c t : Nat} (hk : k < bN B) (hc : c < bC B) (ht : t < 6) (hf : bFits B k c t = true) : bGain (bLift (bPut B k c t) k c) c = bGain B c := by
  rw [put_lift (bFits_lies hf).2 (bFits_lies hf).1]
  exact bGain_tw hg.1 (put_ag (bFits_lies hf).1) hc
