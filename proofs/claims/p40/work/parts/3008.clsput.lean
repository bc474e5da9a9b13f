/-! ===== the class puts and lifts ===== -/
/-- what the class's put has written after the first i edges -/
def bFaceI (B : eBd) (k c t i c' e' : Nat) : Option Nat := if bBes B c' e' = some c ∧ (e' + 3) % 6 < i then some (bNm B k t ((e' + 3) % 6)) else bFace B c' e'
def bTbI (B : eBd) (c i c' : Nat) : Nat := zSm (fun e' => if bBes B c' e' = some c then (if (e' + 3) % 6 < i then 1 else 0) else if (bTile B c' e').isSome then 1 else 0) 6
theorem bTile_c {B : eBd} {c c' e' : Nat} (h1 : bAt B c = none) (h : bBes B c' e' = some c) : bTile B c' e' = none := by
  unfold bTile
  rw [h]
  exact h1
theorem bTbI_0 {B : eBd} {c c' : Nat} (h1 : bAt B c = none) : bTbI B c 0 c' = bTb B c' := by
  unfold bTbI bTb
  refine zSm_ext (fun e' _ => ?_)
  by_cases hq : bBes B c' e' = some c
  · rw [if_pos hq, if_neg (Nat.not_lt_zero _), bTile_c h1 hq]
    rfl
  · rw [if_neg hq]
theorem bTbI_6 {B : eBd} {k c t c' : Nat} : bTbI B c 6 c' = bTb (bPut B k c t) c' := by
  unfold bTbI bTb
  refine zSm_ext (fun e' _ => ?_)
  rw [bTile_put]
  by_cases hq : bBes B c' e' = some c
  · rw [if_pos hq, if_pos hq, if_pos (Nat.mod_lt _ (by decide))]
    rfl
  · rw [if_neg hq, if_neg hq]
theorem bTbI_step {B : eBd} (hb : bOk B) {c i d : Nat} (hc : c < bC B) (hi : i < 6) (h : bBes B c i = some d) : bTbI B c (i + 1) d = bTbI B c i d + 1 := by
  have hs := hb.bes hc hi h
  unfold bTbI
  refine zSm_diff (k := (i + 3) % 6) (Nat.mod_lt _ (by decide)) ?_ ?_
  · rw [if_pos hs.2.1, if_pos hs.2.1, bOpp2 hi, if_pos (by omega), if_neg (by omega)]
  · intro e he hne
    by_cases hq : bBes B d e = some c
    · rw [if_pos hq, if_pos hq]
      have h2 := (hb.bes hs.1 he hq).2.1
      have h3 : (e + 3) % 6 = i := bBes_inj hb.1 hb.2.1 hc (Nat.mod_lt _ (by decide)) hi h2 h
      exact absurd (by rw [← h3]; omega) hne
    · rw [if_neg hq, if_neg hq]
theorem bTbI_keep {B : eBd} (hb : bOk B) {c i c' : Nat} (hc' : c' < bC B) (h : bBes B c i ≠ some c') : bTbI B c (i + 1) c' = bTbI B c i c' := by
  unfold bTbI
  refine zSm_ext (fun e he => ?_)
  by_cases hq : bBes B c' e = some c
  · rw [if_pos hq, if_pos hq]
    have h2 := (hb.bes hc' he hq).2.1
    have h3 : (e + 3) % 6 ≠ i := fun z => h (by rw [← z]; exact h2)
    by_cases h4 : (e + 3) % 6 < i
    · rw [if_pos h4, if_pos (by omega)]
    · rw [if_neg h4, if_neg (by omega)]
  · rw [if_neg hq, if_neg hq]
theorem bFaceI_step {B : eBd} (hb : bOk B) {k c t i d : Nat} (hc : c < bC B) (hi : i < 6) (h : bBes B c i = some d) : bFaceI B k c t (i + 1) d ((i + 3) % 6) = some (bNm B k t i) := by
  unfold bFaceI
  rw [if_pos ⟨(hb.bes hc hi h).2.1, by rw [bOpp2 hi]; omega⟩, bOpp2 hi]
theorem bFaceI_keep {B : eBd} (hb : bOk B) {k c t i c' e' : Nat} (hc' : c' < bC B) (he' : e' < 6) (h : ¬ (bBes B c i = some c' ∧ e' = (i + 3) % 6)) : bFaceI B k c t (i + 1) c' e' = bFaceI B k c t i c' e' := by
  unfold bFaceI
  by_cases hq : bBes B c' e' = some c
  · have h2 := (hb.bes hc' he' hq).2.1
    have h3 : (e' + 3) % 6 ≠ i := fun z => h ⟨by rw [← z]; exact h2, by omega⟩
    by_cases h4 : (e' + 3) % 6 < i
    · have h5 : (e' + 3) % 6 < i + 1 := by omega
      rw [if_pos ⟨hq, h5⟩, if_pos ⟨hq, h4⟩]
    · have h5 : ¬ (e' + 3) % 6 < i + 1 := by omega
      rw [if_neg (fun z => h5 z.2), if_neg (fun z => h4 z.2)]
  · rw [if_neg (fun z => hq z.1), if_neg (fun z => hq z.1)]
theorem bIx_inj {c e c' e' : Nat} (he : e < 6) (he' : e' < 6) (h : c * 6 + e = c' * 6 + e') : c = c' ∧ e = e' := by omega
