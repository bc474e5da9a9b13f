/-! ===== groups ===== -/
abbrev rS : Type := (Nat → Bool) × (Nat → Nat) × Nat
def rE (B : eBd) (x e : Nat) (s : rS) : rS := match bBes B (s.2.1 x) e with
  | none => s
  | some d => if (bAt B d).isSome && !s.1 d then (zU s.1 d true, zU s.2.1 s.2.2 d, s.2.2 + 1) else s
def rEf (B : eBd) (x : Nat) : Nat → Nat → rS → rS
  | 0, _, s => s
  | n + 1, e, s => rEf B x n (e + 1) (rE B x e s)
def rNf (B : eBd) : Nat → Nat → rS → rS
  | 0, _, s => s
  | f + 1, x, s => if x < s.2.2 then rNf B f (x + 1) (rEf B x 6 0 s) else s
def rReach (B : eBd) (c : Nat) (s : rS) : rS := rNf B (bC B) 0 (zU s.1 c true, zU s.2.1 0 c, 1)
def rGf (B : eBd) : Nat → Nat → rS × Nat → rS × Nat
  | 0, _, y => y
  | f + 1, c, y => if (bAt B c).isSome && !y.1.1 c then rGf B f (c + 1) (rReach B c y.1, y.2 + 1) else rGf B f (c + 1) y
def bGroups (B : eBd) : Nat := (rGf B (bC B) 0 ((fun _ => false, fun _ => 0, 0), 0)).2
/-- the cells not yet seen -/
def rU (B : eBd) (s : rS) : Nat := zSm (fun c => if s.1 c then 0 else 1) (bC B)
def rOk (B : eBd) (s : rS) : Prop := s.2.2 + rU B s ≤ bC B ∧ ∀ j, j < s.2.2 → s.2.1 j < bC B
theorem rU_mark {B : eBd} {s : rS} {d : Nat} (hd : d < bC B) (h : s.1 d = false) (q : Nat → Nat) (l : Nat) : rU B s = rU B (zU s.1 d true, q, l) + 1 := by
  refine zSm_diff (k := d) (a := 1) hd ?_ (fun i _ hi => ?_)
  · show (if s.1 d then 0 else 1) = (if zU s.1 d true d then 0 else 1) + 1
    rw [zU_same, h]
    rfl
  · show (if s.1 i then 0 else 1) = (if zU s.1 d true i then 0 else 1)
    rw [zU_ne _ _ hi]
theorem rU_pos {B : eBd} {s : rS} {d : Nat} (hd : d < bC B) (h : s.1 d = false) : 1 ≤ rU B s := by
  have := rU_mark hd h s.2.1 s.2.2
  omega
theorem rE_none {B : eBd} {x e : Nat} {s : rS} (h : bBes B (s.2.1 x) e = none) : rE B x e s = s := by
  unfold rE
  rw [h]
theorem rE_skip {B : eBd} {x e d : Nat} {s : rS} (h : bBes B (s.2.1 x) e = some d) (h2 : ((bAt B d).isSome && !s.1 d) = false) : rE B x e s = s := by
  unfold rE
  rw [h]
  show (if (bAt B d).isSome && !s.1 d then (zU s.1 d true, zU s.2.1 s.2.2 d, s.2.2 + 1) else s) = s
  rw [h2]
  rfl
theorem rE_mark {B : eBd} {x e d : Nat} {s : rS} (h : bBes B (s.2.1 x) e = some d) (h2 : ((bAt B d).isSome && !s.1 d) = true) : rE B x e s = (zU s.1 d true, zU s.2.1 s.2.2 d, s.2.2 + 1) := by
  unfold rE
  rw [h]
  show (if (bAt B d).isSome && !s.1 d then (zU s.1 d true, zU s.2.1 s.2.2 d, s.2.2 + 1) else s) = _
  rw [h2]
  rfl
theorem rE_ok {B : eBd} (hb : bOk B) {s : rS} (h : rOk B s) {x e : Nat} (hx : x < s.2.2) (he : e < 6) : rOk B (rE B x e s) ∧ s.2.2 ≤ (rE B x e s).2.2 := by
  unfold rE
  cases h1 : bBes B (s.2.1 x) e with
  | none => exact ⟨h, Nat.le_refl _⟩
  | some d =>
    have hd := (hb.bes (h.2 x hx) he h1).1
    show rOk B (if (bAt B d).isSome && !s.1 d then (zU s.1 d true, zU s.2.1 s.2.2 d, s.2.2 + 1) else s) ∧ s.2.2 ≤ (if (bAt B d).isSome && !s.1 d then (zU s.1 d true, zU s.2.1 s.2.2 d, s.2.2 + 1) else s).2.2
    cases h2 : (bAt B d).isSome && !s.1 d with
    | false => exact ⟨h, Nat.le_refl _⟩
    | true =>
      rw [Bool.and_eq_true] at h2
      have h3 : s.1 d = false := by
        have := h2.2
        cases h4 : s.1 d with
        | false => rfl
        | true => rw [h4] at this; cases this
      rw [if_pos rfl]
      refine ⟨⟨?_, fun j hj => ?_⟩, Nat.le_succ _⟩
      · have := rU_mark (B := B) hd h3 (zU s.2.1 s.2.2 d) (s.2.2 + 1)
        have h5 := h.1
        show s.2.2 + 1 + rU B (zU s.1 d true, zU s.2.1 s.2.2 d, s.2.2 + 1) ≤ bC B
        omega
      · show zU s.2.1 s.2.2 d j < bC B
        by_cases hq : j = s.2.2
        · rw [hq, zU_same]; exact hd
        · rw [zU_ne _ _ hq]
          have hj' : j < s.2.2 + 1 := hj
          exact h.2 j (by omega)
theorem rEf_ok {B : eBd} (hb : bOk B) {x : Nat} : ∀ (n e : Nat) (s : rS), rOk B s → x < s.2.2 → e + n ≤ 6 → rOk B (rEf B x n e s) ∧ s.2.2 ≤ (rEf B x n e s).2.2
  | 0, _, _, h, _, _ => ⟨h, Nat.le_refl _⟩
  | n + 1, e, s, h, hx, he => by
    obtain ⟨a1, a2⟩ := rE_ok hb h hx (show e < 6 by omega)
    obtain ⟨b1, b2⟩ := rEf_ok (x := x) hb n (e + 1) (rE B x e s) a1 (by omega) (by omega)
    exact ⟨b1, Nat.le_trans a2 b2⟩
theorem rStart_ok {B : eBd} {s : rS} {c : Nat} (hc : c < bC B) (h : s.1 c = false) : rOk B (zU s.1 c true, zU s.2.1 0 c, 1) := by
  refine ⟨?_, fun j hj => ?_⟩
  · have := rU_mark (B := B) hc h (zU s.2.1 0 c) 1
    have h2 : rU B s ≤ bC B := by
      have := zSm_le (f := fun c => if s.1 c then 0 else 1) (k := 1) (n := bC B) (fun i _ => by split <;> omega)
      unfold rU
      omega
    show 1 + rU B (zU s.1 c true, zU s.2.1 0 c, 1) ≤ bC B
    omega
  · have hj0 : j = 0 := by
      have : j < 1 := hj
      omega
    show zU s.2.1 0 c j < bC B
    rw [hj0, zU_same]
    exact hc
section Groups
variable {B : eBd}
/-! the model -/
end Groups
