/-! ===== groups by labels: the smallest cell that has come through ===== -/
/-- from c to d in n steps at most, over tiles -/
def gCn (B : eBd) : Nat → Nat → Nat → Prop
  | 0, c, d => c = d
  | n + 1, c, d => c = d ∨ ∃ e x, e < 6 ∧ bBes B c e = some x ∧ hT B x = true ∧ gCn B n x d
theorem gCn.mono {B : eBd} : ∀ {n : Nat} {c d : Nat}, gCn B n c d → gCn B (n + 1) c d
  | 0, _, _, h => Or.inl h
  | n + 1, c, d, h => by
    rcases h with h | ⟨e, x, h1, h2, h3, h4⟩
    · exact Or.inl h
    · exact Or.inr ⟨e, x, h1, h2, h3, gCn.mono h4⟩
def gLb (B : eBd) (L : Nat → Nat) : Prop := ∀ c, c < bC B → hT B c = true → L c ≤ c ∧ hT B (L c) = true ∧ ∃ n, gCn B n c (L c)
def gLq (B : eBd) (L : Nat → Nat) : Prop := ∀ c e d, c < bC B → e < 6 → hT B c = true → bBes B c e = some d → hT B d = true → L d = L c
def gRoots (B : eBd) (L : Nat → Nat) (n : Nat) : Nat := zSm (fun c => if hT B c && decide (L c = c) then 1 else 0) n
section Labels
variable {B : eBd} {L : Nat → Nat}
theorem gCn.same (hb : bOk B) (hq : gLq B L) : ∀ (n c d : Nat), gCn B n c d → c < bC B → hT B c = true → L d = L c
  | 0, c, d, h, _, _ => by
    have h' : c = d := h
    rw [h']
  | n + 1, c, d, h, hc, ht => by
    rcases h with h | ⟨e, x, h1, h2, h3, h4⟩
    · rw [h]
    · rw [gCn.same hb hq n x d h4 (hb.bes hc h1 h2).1 h3]
      exact hq c e x hc h1 ht h2 h3
/-- what the counting of groups keeps, told by labels -/
def rGl (B : eBd) (L : Nat → Nat) (c : Nat) (y : rS × Nat) : Prop := (∀ x, x < bC B → (y.1.1 x = true ↔ (hT B x = true ∧ L x < c))) ∧ y.2 = gRoots B L c
theorem rGf_l (hb : bOk B) (hl : gLb B L) (hq : gLq B L) : ∀ (f c : Nat) (y : rS × Nat), c + f = bC B → rGl B L c y → rGl B L (bC B) (rGf B f c y)
  | 0, c, y, hc, h => by
    have hc' : c = bC B := hc
    subst hc'
    exact h
  | f + 1, c, y, hc, h => by
    unfold rGf
    obtain ⟨v1, v2⟩ := h
    have hcl : c < bC B := by omega
    cases h1 : (hT B c && !y.1.1 c) with
    | false =>
      rw [if_neg Bool.false_ne_true]
      have hno : (hT B c && decide (L c = c)) = false := by
        cases h2 : hT B c with
        | false => rfl
        | true =>
          have h3 : y.1.1 c = true := by
            cases h4 : y.1.1 c with
            | true => rfl
            | false => rw [h2, h4] at h1; cases h1
          have h5 := ((v1 c hcl).mp h3).2
          exact decide_eq_false (by omega)
      refine rGf_l hb hl hq f (c + 1) y (by omega) ⟨fun x hx => ⟨fun g => ?_, fun g => ?_⟩, ?_⟩
      · have := (v1 x hx).mp g
        exact ⟨this.1, by omega⟩
      · refine (v1 x hx).mpr ⟨g.1, ?_⟩
        refine Nat.lt_of_le_of_ne (by omega) (fun z => ?_)
        -- then c itself is a root that wasn't seen
        obtain ⟨l1, l2, n, l3⟩ := hl x hx g.1
        have l4 := gCn.same hb hq n x (L x) l3 hx g.1
        rw [z] at l2 l4
        have l5 : (hT B c && decide (L c = c)) = true := by rw [l2, l4]; exact decide_eq_true rfl
        rw [l5] at hno
        cases hno
      · rw [v2]
        unfold gRoots
        rw [zSm, if_neg (by rw [hno]; decide)]
        rfl
    | true =>
      rw [if_pos rfl]
      rw [Bool.and_eq_true] at h1
      have h0 : y.1.1 c = false := by
        cases h4 : y.1.1 c with
        | false => rfl
        | true => rw [h4] at h1; cases h1.2
      have hLc : L c = c := by
        have l1 := (hl c hcl h1.1).1
        refine Nat.le_antisymm l1 (Nat.not_lt.mp fun z => ?_)
        rw [(v1 c hcl).mpr ⟨h1.1, z⟩] at h0
        cases h0
      obtain ⟨iv, cl⟩ := rReach_iv hb hcl h1.1 h0
      have hq0 : ∀ j, j < (rReach B c y.1).2.2 → L ((rReach B c y.1).2.1 j) = c := by
        have : ∀ m j, j < m → j < (rReach B c y.1).2.2 → L ((rReach B c y.1).2.1 j) = c := by
          intro m
          induction m with
          | zero => intro j hj; omega
          | succ m ih =>
            intro j hj hj2
            by_cases hz : j = 0
            · rw [hz, iv.1.2]; exact hLc
            · obtain ⟨i, e, g1, g2, g3⟩ := iv.2.2.2.2.1 j (by omega) hj2
              have gi := iv.2.1 i (by omega)
              rw [hq _ e _ gi.1 g2 gi.2.1 g3 (iv.2.1 j hj2).2.1]
              exact ih i (by omega) (by omega)
        exact fun j hj => this (j + 1) j (Nat.lt_succ_self j) hj
      have hc0 : (rReach B c y.1).1 c = true := by
        have := iv.2.1 0 (Nat.lt_of_lt_of_le Nat.zero_lt_one iv.1.1)
        rw [iv.1.2] at this
        exact this.2.2.1
      have all : ∀ n z, gCn B n z c → z < bC B → hT B z = true → (rReach B c y.1).1 z = true := by
        intro n
        induction n with
        | zero => intro z hz _ _; have hz' : z = c := hz; rw [hz']; exact hc0
        | succ n ih =>
          intro z hz hzc hzt
          rcases hz with hz | ⟨e, d, g1, g2, g3, g4⟩
          · rw [hz]; exact hc0
          · have hd := hb.bes hzc g1 g2
            have s1 := ih d g4 hd.1 g3
            have Ld : L d = c := by rw [← gCn.same hb hq n d c g4 hd.1 g3]; exact hLc
            rcases iv.2.2.1 d s1 with k | ⟨j, k1, k2⟩
            · have := ((v1 d hd.1).mp k).2
              omega
            · exact cl j k1 ((e + 3) % 6) z (Nat.mod_lt _ (by decide)) (by rw [k2]; exact hd.2.1) hzt
      refine rGf_l hb hl hq f (c + 1) (rReach B c y.1, y.2 + 1) (by omega) ⟨fun x hx => ⟨fun g => ?_, fun g => ?_⟩, ?_⟩
      · rcases iv.2.2.1 x g with k | ⟨j, k1, k2⟩
        · have := (v1 x hx).mp k
          exact ⟨this.1, by omega⟩
        · have := hq0 j k1
          rw [k2] at this
          have g2 := (iv.2.1 j k1).2.1
          rw [k2] at g2
          exact ⟨g2, by omega⟩
      · show (rReach B c y.1).1 x = true
        by_cases hz : L x < c
        · exact iv.2.2.2.1 x ((v1 x hx).mpr ⟨g.1, hz⟩)
        · have hx0 : L x = c := by omega
          obtain ⟨-, -, n, l3⟩ := hl x hx g.1
          rw [hx0] at l3
          exact all n x l3 hx g.1
      · show y.2 + 1 = gRoots B L (c + 1)
        rw [v2]
        unfold gRoots
        rw [zSm, if_pos (by rw [h1.1, hLc]; exact decide_eq_true rfl)]
theorem bGroups_l (hb : bOk B) (hl : gLb B L) (hq : gLq B L) : bGroups B = gRoots B L (bC B) :=
  (rGf_l hb hl hq (bC B) 0 ((fun _ => false, fun _ => 0, 0), 0) (Nat.zero_add _) ⟨fun x _ => ⟨fun z => absurd z Bool.false_ne_true, fun z => absurd z.2 (Nat.not_lt_zero _)⟩, rfl⟩).2
end Labels
/-- the tiles on the board, counted by cells -/
theorem bCnt_p {B : eBd} (hb : bOk B) : bCnt B = bP B := by
  have e1 : bCnt B = zSm (fun c => zSm (fun k => if bAt B c = some k then 1 else 0) (bN B)) (bC B) := by
    refine zSm_ext (fun c hc => ?_)
    show (if (bAt B c).isSome then 1 else 0) = zSm (fun k => if bAt B c = some k then 1 else 0) (bN B)
    cases h : bAt B c with
    | none => exact (zSm_zero (fun k _ => if_neg (fun z => by cases z))).symm
    | some k =>
      rw [zSm_one (f := fun k' => if some k = some k' then 1 else 0) (hb.2.2.2.1 c k hc h).1 (fun i _ hi => if_neg (fun z => hi (Option.some.inj z).symm))]
      exact (if_pos rfl).symm
  rw [e1, zSm_swap (fun c k => if bAt B c = some k then 1 else 0), hb.2.2.2.2.2.2]
  refine zSm_ext (fun k hk => ?_)
  show zSm (fun c => if bAt B c = some k then 1 else 0) (bC B) = if (bCe B k).isSome then 1 else 0
  cases h : bCe B k with
  | none =>
    refine zSm_zero (fun c hc => if_neg (fun z => ?_))
    have := (hb.2.2.2.1 c k hc z).2
    rw [h] at this
    cases this
  | some c0 =>
    have h0 := hb.2.2.2.2.1 k c0 hk h
    rw [zSm_one (f := fun c => if bAt B c = some k then 1 else 0) h0.1 (fun i hi hn => if_neg (fun z => by
      have := (hb.2.2.2.1 i k hi z).2
      rw [h] at this
      exact hn (Option.some.inj this).symm))]
    exact if_pos h0.2.1
