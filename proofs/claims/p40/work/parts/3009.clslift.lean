/-! ===== the class lifts a tile; keeps the board and brings it back ===== -/
def bFaceL (B : eBd) (c i c' e' : Nat) : Option Nat := if bBes B c' e' = some c ∧ (e' + 3) % 6 < i then none else bFace B c' e'
def bTbL (B : eBd) (c i c' : Nat) : Nat := zSm (fun e' => if bBes B c' e' = some c ∧ (e' + 3) % 6 < i then 0 else if (bTile B c' e').isSome then 1 else 0) 6
theorem bTbL_0 {B : eBd} {c c' : Nat} : bTbL B c 0 c' = bTb B c' := by
  unfold bTbL bTb
  refine zSm_ext (fun e' _ => ?_)
  rw [if_neg (fun z => absurd z.2 (Nat.not_lt_zero _))]
theorem bTbL_6 {B : eBd} {k c c' : Nat} : bTbL B c 6 c' = bTb (bLift B k c) c' := by
  unfold bTbL bTb
  refine zSm_ext (fun e' _ => ?_)
  rw [bTile_lift]
  by_cases hq : bBes B c' e' = some c
  · rw [if_pos ⟨hq, Nat.mod_lt _ (by decide)⟩, if_pos hq]
    rfl
  · rw [if_neg (fun z => hq z.1), if_neg hq]
theorem bTbL_step {B : eBd} (hb : bOk B) {c i d k : Nat} (hc : c < bC B) (hi : i < 6) (h1 : bAt B c = some k) (h : bBes B c i = some d) : bTbL B c i d = bTbL B c (i + 1) d + 1 := by
  have hs := hb.bes hc hi h
  unfold bTbL
  refine zSm_diff (k := (i + 3) % 6) (Nat.mod_lt _ (by decide)) ?_ ?_
  · have n1 : ¬ (bBes B d ((i + 3) % 6) = some c ∧ ((i + 3) % 6 + 3) % 6 < i) := fun z => by
      have := z.2
      rw [bOpp2 hi] at this
      omega
    have n2 : bBes B d ((i + 3) % 6) = some c ∧ ((i + 3) % 6 + 3) % 6 < i + 1 := ⟨hs.2.1, by rw [bOpp2 hi]; omega⟩
    have n3 : (bTile B d ((i + 3) % 6)).isSome = true := by
      unfold bTile
      rw [hs.2.1]
      show (bAt B c).isSome = true
      rw [h1]
      rfl
    rw [if_neg n1, if_pos n2, if_pos n3]
  · intro e he hne
    by_cases hq : bBes B d e = some c
    · have h2 := (hb.bes hs.1 he hq).2.1
      have h3 : (e + 3) % 6 = i := bBes_inj hb.1 hb.2.1 hc (Nat.mod_lt _ (by decide)) hi h2 h
      exact absurd (by rw [← h3]; omega) hne
    · have n1 : ¬ (bBes B d e = some c ∧ (e + 3) % 6 < i) := fun z => hq z.1
      have n2 : ¬ (bBes B d e = some c ∧ (e + 3) % 6 < i + 1) := fun z => hq z.1
      rw [if_neg n1, if_neg n2]
theorem bTbL_keep {B : eBd} (hb : bOk B) {c i c' : Nat} (hc' : c' < bC B) (h : bBes B c i ≠ some c') : bTbL B c (i + 1) c' = bTbL B c i c' := by
  unfold bTbL
  refine zSm_ext (fun e he => ?_)
  by_cases hq : bBes B c' e = some c
  · have h2 := (hb.bes hc' he hq).2.1
    have h3 : (e + 3) % 6 ≠ i := fun z => h (by rw [← z]; exact h2)
    by_cases h4 : (e + 3) % 6 < i
    · have n1 : bBes B c' e = some c ∧ (e + 3) % 6 < i := ⟨hq, h4⟩
      have n2 : bBes B c' e = some c ∧ (e + 3) % 6 < i + 1 := ⟨hq, by omega⟩
      rw [if_pos n1, if_pos n2]
    · have n1 : ¬ (bBes B c' e = some c ∧ (e + 3) % 6 < i) := fun z => h4 z.2
      have n2 : ¬ (bBes B c' e = some c ∧ (e + 3) % 6 < i + 1) := fun z => by have := z.2; omega
      rw [if_neg n1, if_neg n2]
  · have n1 : ¬ (bBes B c' e = some c ∧ (e + 3) % 6 < i) := fun z => hq z.1
    have n2 : ¬ (bBes B c' e = some c ∧ (e + 3) % 6 < i + 1) := fun z => hq z.1
    rw [if_neg n1, if_neg n2]
theorem bFaceL_step {B : eBd} (hb : bOk B) {c i d : Nat} (hc : c < bC B) (hi : i < 6) (h : bBes B c i = some d) : bFaceL B c (i + 1) d ((i + 3) % 6) = none := by
  unfold bFaceL
  rw [if_pos ⟨(hb.bes hc hi h).2.1, by rw [bOpp2 hi]; omega⟩]
theorem bFaceL_keep {B : eBd} (hb : bOk B) {c i c' e' : Nat} (hc' : c' < bC B) (he' : e' < 6) (h : ¬ (bBes B c i = some c' ∧ e' = (i + 3) % 6)) : bFaceL B c (i + 1) c' e' = bFaceL B c i c' e' := by
  unfold bFaceL
  by_cases hq : bBes B c' e' = some c
  · have h2 := (hb.bes hc' he' hq).2.1
    have h3 : (e' + 3) % 6 ≠ i := fun z => h ⟨by rw [← z]; exact h2, by omega⟩
    by_cases h4 : (e' + 3) % 6 < i
    · have h5 : (e' + 3) % 6 < i + 1 := by omega
      rw [if_pos ⟨hq, h5⟩, if_pos ⟨hq, h4⟩]
    · have h5 : ¬ (e' + 3) % 6 < i + 1 := by omega
      rw [if_neg (fun z => h5 z.2), if_neg (fun z => h4 z.2)]
  · rw [if_neg (fun z => hq z.1), if_neg (fun z => hq z.1)]
theorem bP_pos {B : eBd} (hb : bOk B) {k c : Nat} (hk : k < bN B) (h : bCe B k = some c) : 1 ≤ bP B := by
  rw [hb.2.2.2.2.2.2]
  refine Decidable.byContradiction fun z => ?_
  have h0 := zSm_of0 (f := fun k => if (bCe B k).isSome then 1 else 0) (n := bN B) (by omega) k hk
  try dsimp only at h0
  rw [h] at h0
  exact absurd h0 (by simp)
