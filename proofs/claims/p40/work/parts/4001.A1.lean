/-! ===== groups: what a reading of the queue keeps; tiles, groups and matches ===== -/
theorem zSm_cst (k : Nat) : ∀ n : Nat, zSm (fun _ => k) n = n * k
  | 0 => (Nat.zero_mul k).symm
  | n + 1 => by rw [zSm, zSm_cst k n, Nat.succ_mul]
theorem zSm_ge {f : Nat → Nat} : ∀ {n i : Nat}, i < n → f i ≤ zSm f n
  | 0, i, h => absurd h (by omega)
  | n + 1, i, h => by
    rw [zSm]
    by_cases hq : i = n
    · subst hq; omega
    · have := zSm_ge (f := f) (n := n) (i := i) (by omega)
      omega
theorem zSm_mono {f g : Nat → Nat} : ∀ {n : Nat}, (∀ i, i < n → f i ≤ g i) → zSm f n ≤ zSm g n
  | 0, _ => Nat.le_refl _
  | n + 1, h => by
    have h1 := zSm_mono (n := n) (fun i hi => h i (by omega))
    have h2 := h n (by omega)
    rw [zSm, zSm]
    omega
/-- a square of numbers in which each row but the first has one before it, both ways -/
theorem zSq {A : Nat → Nat → Nat} : ∀ (n : Nat), (∀ m, 1 ≤ m → m < n → ∃ i, i < m ∧ 1 ≤ A i m ∧ 1 ≤ A m i) → 2 * n ≤ 2 + zSm (fun i => zSm (A i) n) n
  | 0, _ => by omega
  | n + 1, h => by
    have h1 := zSq (A := A) n (fun m a b => h m a (by omega))
    have e : zSm (fun i => zSm (A i) (n + 1)) (n + 1) = zSm (fun i => zSm (A i) n) n + zSm (fun i => A i n) n + (zSm (A n) n + A n n) := by
      rw [zSm, show (fun i => zSm (A i) (n + 1)) = fun i => zSm (A i) n + A i n from funext fun i => rfl, zSm_add]
      rfl
    rw [e]
    by_cases hq : n = 0
    · subst hq; omega
    · obtain ⟨i, hi, a1, a2⟩ := h n (by omega) (by omega)
      have b1 := zSm_ge (f := fun i => A i n) hi
      have b2 := zSm_ge (f := A n) hi
      have c1 : 1 ≤ zSm (fun i => A i n) n := Nat.le_trans a1 b1
      have c2 : 1 ≤ zSm (A n) n := Nat.le_trans a2 b2
      omega
abbrev hT (B : eBd) (c : Nat) : Bool := (bAt B c).isSome
def rIv (B : eBd) (s0 : Nat → Bool) (c : Nat) (s : rS) : Prop :=
  (1 ≤ s.2.2 ∧ s.2.1 0 = c) ∧
  (∀ j, j < s.2.2 → s.2.1 j < bC B ∧ hT B (s.2.1 j) = true ∧ s.1 (s.2.1 j) = true ∧ s0 (s.2.1 j) = false) ∧
  (∀ x, s.1 x = true → s0 x = true ∨ ∃ j, j < s.2.2 ∧ s.2.1 j = x) ∧
  (∀ x, s0 x = true → s.1 x = true) ∧
  (∀ j, 1 ≤ j → j < s.2.2 → ∃ i e, i < j ∧ e < 6 ∧ bBes B (s.2.1 i) e = some (s.2.1 j)) ∧
  (∀ f : Nat → Nat, zSm (fun j => f (s.2.1 j)) s.2.2 = zSm (fun x => if s.1 x && !s0 x then f x else 0) (bC B))
def rLe (s s' : rS) : Prop := (∀ y, s.1 y = true → s'.1 y = true) ∧ (∀ j, j < s.2.2 → s'.2.1 j = s.2.1 j) ∧ s.2.2 ≤ s'.2.2
theorem rLe.refl (s : rS) : rLe s s := ⟨fun _ h => h, fun _ _ => rfl, Nat.le_refl _⟩
theorem rLe.trans {s s' s'' : rS} (h : rLe s s') (h1 : rLe s' s'') : rLe s s'' := ⟨fun y a => h1.1 y (h.1 y a), fun j a => (h1.2.1 j (Nat.lt_of_lt_of_le a h.2.2)).trans (h.2.1 j a), Nat.le_trans h.2.2 h1.2.2⟩
def rCl (B : eBd) (s : rS) (x : Nat) : Prop := ∀ j, j < x → ∀ e d, e < 6 → bBes B (s.2.1 j) e = some d → hT B d = true → s.1 d = true
section RIv
variable {B : eBd}
theorem rIv.len {s0 : Nat → Bool} {c : Nat} {s : rS} (h : rIv B s0 c s) : s.2.2 = zSm (fun x => if s.1 x && !s0 x then 1 else 0) (bC B) := by
  have h1 := h.2.2.2.2.2 (fun _ => 1)
  rw [zSm_cst 1 s.2.2, Nat.mul_one] at h1
  exact h1
theorem rIv.le {s0 : Nat → Bool} {c : Nat} {s : rS} (h : rIv B s0 c s) : s.2.2 ≤ bC B := by
  have h1 := h.len
  have h2 := zSm_le (f := fun x => if s.1 x && !s0 x then 1 else 0) (k := 1) (n := bC B) (fun i _ => by split <;> omega)
  omega
theorem rIv.start {s : rS} {c : Nat} (hc : c < bC B) (ht : hT B c = true) (h0 : s.1 c = false) : rIv B s.1 c (zU s.1 c true, zU s.2.1 0 c, 1) := by
  refine ⟨⟨Nat.le_refl 1, zU_same s.2.1 0 c⟩, fun j hj => ?_, fun x hx => ?_, fun x hx => ?_, fun j h1 h2 => ?_, fun f => ?_⟩
  · have hj0 : j = 0 := by
      have : j < 1 := hj
      omega
    subst hj0
    show zU s.2.1 0 c 0 < bC B ∧ hT B (zU s.2.1 0 c 0) = true ∧ zU s.1 c true (zU s.2.1 0 c 0) = true ∧ s.1 (zU s.2.1 0 c 0) = false
    rw [zU_same, zU_same]
    exact ⟨hc, ht, rfl, h0⟩
  · by_cases hq : x = c
    · exact Or.inr ⟨0, Nat.zero_lt_one, by show zU s.2.1 0 c 0 = x; rw [zU_same, hq]⟩
    · left
      have hx' : zU s.1 c true x = true := hx
      rwa [zU_ne _ _ hq] at hx'
  · show zU s.1 c true x = true
    by_cases hq : x = c
    · rw [hq, zU_same]
    · rw [zU_ne _ _ hq]; exact hx
  · have : j < 1 := h2
    omega
  · show zSm (fun j => f (zU s.2.1 0 c j)) 1 = zSm (fun x => if zU s.1 c true x && !s.1 x then f x else 0) (bC B)
    rw [zSm_one (f := fun x => if zU s.1 c true x && !s.1 x then f x else 0) hc (fun i _ hi => by
      show (if zU s.1 c true i && !s.1 i then f i else 0) = 0
      rw [zU_ne _ _ hi]
      cases s.1 i <;> rfl)]
    show 0 + f (zU s.2.1 0 c 0) = if zU s.1 c true c && !s.1 c then f c else 0
    rw [zU_same, zU_same, h0, Nat.zero_add]
    rfl
theorem rE_iv (hb : bOk B) {s0 : Nat → Bool} {c x e : Nat} {s : rS} (h : rIv B s0 c s) (hx : x < s.2.2) (he : e < 6) : rIv B s0 c (rE B x e s) ∧ rLe s (rE B x e s) ∧ ∀ d, bBes B (s.2.1 x) e = some d → hT B d = true → (rE B x e s).1 d = true := by
  cases h1 : bBes B (s.2.1 x) e with
  | none =>
    rw [rE_none h1]
    exact ⟨h, rLe.refl s, fun d z => by cases z⟩
  | some d =>
    have hqx := h.2.1 x hx
    have hd := (hb.bes hqx.1 he h1).1
    cases h2 : (hT B d && !s.1 d) with
    | false =>
      rw [rE_skip h1 h2]
      refine ⟨h, rLe.refl s, fun d' z ht => ?_⟩
      cases z
      rw [ht] at h2
      cases h3 : s.1 d with
      | true => rfl
      | false => rw [h3] at h2; cases h2
    | true =>
      rw [rE_mark h1 h2]
      rw [Bool.and_eq_true] at h2
      obtain ⟨ht, hn⟩ := h2
      have h3 : s.1 d = false := by
        cases h4 : s.1 d with
        | false => rfl
        | true => rw [h4] at hn; cases hn
      have h0 : s0 d = false := by
        cases h4 : s0 d with
        | false => rfl
        | true => rw [h.2.2.2.1 d h4] at h3; cases h3
      have mono : ∀ y, s.1 y = true → zU s.1 d true y = true := fun y hy => by
        by_cases hq : y = d
        · rw [hq, zU_same]
        · rw [zU_ne _ _ hq]; exact hy
      refine ⟨⟨⟨Nat.le_succ_of_le h.1.1, ?_⟩, fun j hj => ?_, fun y hy => ?_, fun y hy => mono y (h.2.2.2.1 y hy), fun j j1 j2 => ?_, fun f => ?_⟩, ⟨mono, fun j hj => zU_ne _ _ (Nat.ne_of_lt hj), Nat.le_succ _⟩, fun d' z _ => ?_⟩
      · show zU s.2.1 s.2.2 d 0 = c
        have := h.1.1
        rw [zU_ne _ _ (by omega)]
        exact h.1.2
      · show zU s.2.1 s.2.2 d j < bC B ∧ hT B (zU s.2.1 s.2.2 d j) = true ∧ zU s.1 d true (zU s.2.1 s.2.2 d j) = true ∧ s0 (zU s.2.1 s.2.2 d j) = false
        have hj' : j < s.2.2 + 1 := hj
        by_cases hq : j = s.2.2
        · rw [hq, zU_same, zU_same]
          exact ⟨hd, ht, rfl, h0⟩
        · rw [zU_ne _ _ hq]
          have g := h.2.1 j (by omega)
          exact ⟨g.1, g.2.1, mono _ g.2.2.1, g.2.2.2⟩
      · by_cases hq : y = d
        · refine Or.inr ⟨s.2.2, Nat.lt_succ_self _, ?_⟩
          show zU s.2.1 s.2.2 d s.2.2 = y
          rw [zU_same, hq]
        · have hy' : zU s.1 d true y = true := hy
          rw [zU_ne _ _ hq] at hy'
          rcases h.2.2.1 y hy' with g | ⟨j, g1, g2⟩
          · exact Or.inl g
          · refine Or.inr ⟨j, Nat.lt_succ_of_lt g1, ?_⟩
            show zU s.2.1 s.2.2 d j = y
            rw [zU_ne _ _ (Nat.ne_of_lt g1)]
            exact g2
      · have j2' : j < s.2.2 + 1 := j2
        show ∃ i e, i < j ∧ e < 6 ∧ bBes B (zU s.2.1 s.2.2 d i) e = some (zU s.2.1 s.2.2 d j)
        by_cases hq : j = s.2.2
        · refine ⟨x, e, by omega, he, ?_⟩
          rw [hq, zU_same, zU_ne _ _ (Nat.ne_of_lt hx)]
          exact h1
        · obtain ⟨i, e', g1, g2, g3⟩ := h.2.2.2.2.1 j j1 (by omega)
          refine ⟨i, e', g1, g2, ?_⟩
          rw [zU_ne _ _ hq, zU_ne _ _ (show i ≠ s.2.2 by omega)]
          exact g3
      · show zSm (fun j => f (zU s.2.1 s.2.2 d j)) (s.2.2 + 1) = zSm (fun x => if zU s.1 d true x && !s0 x then f x else 0) (bC B)
        rw [zSm, zU_same, zSm_ext (g := fun j => f (s.2.1 j)) (fun i hi => by show f (zU s.2.1 s.2.2 d i) = f (s.2.1 i); rw [zU_ne _ _ (Nat.ne_of_lt hi)]), h.2.2.2.2.2 f]
        refine (zSm_diff (k := d) (a := f d) hd ?_ (fun i _ hi => ?_)).symm
        · show (if zU s.1 d true d && !s0 d then f d else 0) = (if s.1 d && !s0 d then f d else 0) + f d
          rw [zU_same, h0, h3]
          show f d = 0 + f d
          rw [Nat.zero_add]
        · show (if zU s.1 d true i && !s0 i then f i else 0) = (if s.1 i && !s0 i then f i else 0)
          rw [zU_ne _ _ hi]
      · cases z
        show zU s.1 d true d = true
        rw [zU_same]
theorem rEf_iv (hb : bOk B) {s0 : Nat → Bool} {c x : Nat} : ∀ (n e : Nat) (s : rS), rIv B s0 c s → x < s.2.2 → e + n ≤ 6 → rIv B s0 c (rEf B x n e s) ∧ rLe s (rEf B x n e s) ∧ ∀ e' d, e ≤ e' → e' < e + n → bBes B (s.2.1 x) e' = some d → hT B d = true → (rEf B x n e s).1 d = true
  | 0, e, s, h, _, _ => ⟨h, rLe.refl s, fun e' d a b => absurd b (by omega)⟩
  | n + 1, e, s, h, hx, he => by
    obtain ⟨a1, a2, a3⟩ := rE_iv hb h hx (show e < 6 by omega)
    obtain ⟨b1, b2, b3⟩ := rEf_iv hb (c := c) (x := x) n (e + 1) (rE B x e s) a1 (Nat.lt_of_lt_of_le hx a2.2.2) (by omega)
    refine ⟨b1, a2.trans b2, fun e' d g1 g2 g3 g4 => ?_⟩
    show (rEf B x n (e + 1) (rE B x e s)).1 d = true
    by_cases hq : e' = e
    · rw [hq] at g3
      exact b2.1 d (a3 d g3 g4)
    · refine b3 e' d (by omega) (by omega) ?_ g4
      rw [a2.2.1 x hx]
      exact g3
theorem rNf_iv (hb : bOk B) {s0 : Nat → Bool} {c : Nat} : ∀ (f x : Nat) (s : rS), rIv B s0 c s → rCl B s x → bC B ≤ x + f → rIv B s0 c (rNf B f x s) ∧ rLe s (rNf B f x s) ∧ rCl B (rNf B f x s) (rNf B f x s).2.2
  | 0, x, s, h, hc, hx => ⟨h, rLe.refl s, fun j hj => hc j (by have := h.le; have hj' : j < s.2.2 := hj; omega)⟩
  | f + 1, x, s, h, hc, hx => by
    unfold rNf
    by_cases hq : x < s.2.2
    · rw [if_pos hq]
      obtain ⟨a1, a2, a3⟩ := rEf_iv hb 6 0 s h hq (Nat.le_refl 6)
      obtain ⟨b1, b2, b3⟩ := rNf_iv hb f (x + 1) (rEf B x 6 0 s) a1 (fun j hj e d he h1 ht => by
        by_cases hjx : j = x
        · subst hjx
          rw [a2.2.1 j hq] at h1
          exact a3 e d (Nat.zero_le _) (by omega) h1 ht
        · rw [a2.2.1 j (by omega)] at h1
          exact a2.1 d (hc j (by omega) e d he h1 ht)) (by omega)
      exact ⟨b1, a2.trans b2, b3⟩
    · rw [if_neg hq]
      exact ⟨h, rLe.refl s, fun j hj => hc j (by omega)⟩
theorem rReach_iv (hb : bOk B) {c : Nat} {s : rS} (hc : c < bC B) (ht : hT B c = true) (h0 : s.1 c = false) : rIv B s.1 c (rReach B c s) ∧ rCl B (rReach B c s) (rReach B c s).2.2 := by
  obtain ⟨a1, -, a3⟩ := rNf_iv hb (bC B) 0 (zU s.1 c true, zU s.2.1 0 c, 1) (rIv.start hc ht h0) (fun j hj => absurd hj (by omega)) (by omega)
  exact ⟨a1, a3⟩
/-- twice the cells of a group are at most two more than their ends -/
theorem rIv.ends (hb : bOk B) {s0 : Nat → Bool} {c : Nat} {s : rS} (h : rIv B s0 c s) : 2 * s.2.2 ≤ 2 + zSm (fun x => if s.1 x && !s0 x then bTb B x else 0) (bC B) := by
  have h1 := zSq (A := fun i j => zSm (fun e => if bBes B (s.2.1 i) e = some (s.2.1 j) then 1 else 0) 6) s.2.2 (fun m m1 m2 => by
    obtain ⟨i, e, g1, g2, g3⟩ := h.2.2.2.2.1 m m1 m2
    have gi := h.2.1 i (by omega)
    refine ⟨i, g1, ?_, ?_⟩
    · have := zSm_ge (f := fun e => if bBes B (s.2.1 i) e = some (s.2.1 m) then 1 else 0) g2
      rw [if_pos g3] at this
      exact this
    · have g4 := (hb.bes gi.1 g2 g3).2.1
      have := zSm_ge (f := fun e => if bBes B (s.2.1 m) e = some (s.2.1 i) then 1 else 0) (show (e + 3) % 6 < 6 from Nat.mod_lt _ (by decide))
      rw [if_pos g4] at this
      exact this)
  have h2 : zSm (fun i => zSm (fun j => zSm (fun e => if bBes B (s.2.1 i) e = some (s.2.1 j) then 1 else 0) 6) s.2.2) s.2.2 ≤ zSm (fun i => bTb B (s.2.1 i)) s.2.2 := by
    refine zSm_mono (fun i hi => ?_)
    show zSm (fun j => zSm (fun e => if bBes B (s.2.1 i) e = some (s.2.1 j) then 1 else 0) 6) s.2.2 ≤ zSm (fun e => if (bTile B (s.2.1 i) e).isSome then 1 else 0) 6
    rw [zSm_swap (fun j e => if bBes B (s.2.1 i) e = some (s.2.1 j) then 1 else 0)]
    refine zSm_mono (fun e he => ?_)
    show zSm (fun j => if bBes B (s.2.1 i) e = some (s.2.1 j) then 1 else 0) s.2.2 ≤ if (bTile B (s.2.1 i) e).isSome then 1 else 0
    rw [h.2.2.2.2.2 (fun y => if bBes B (s.2.1 i) e = some y then 1 else 0)]
    cases h3 : bBes B (s.2.1 i) e with
    | none =>
      rw [zSm_zero (fun x _ => by
        show (if s.1 x && !s0 x then (if (none : Option Nat) = some x then 1 else 0) else 0) = 0
        rw [if_neg (show ¬ (none : Option Nat) = some x from fun z => by cases z)]
        split <;> rfl)]
      exact Nat.zero_le _
    | some d =>
      have hd := (hb.bes (h.2.1 i hi).1 he h3).1
      rw [zSm_one (f := fun x => if s.1 x && !s0 x then (if some d = some x then 1 else 0) else 0) hd (fun x _ hx => by
        show (if s.1 x && !s0 x then (if some d = some x then 1 else 0) else 0) = 0
        rw [if_neg (show ¬ some d = some x from fun z => hx (Option.some.inj z).symm)]
        split <;> rfl)]
      unfold bTile
      rw [h3]
      show (if s.1 d && !s0 d then (if some d = some d then 1 else 0) else 0) ≤ if (bAt B d).isSome then 1 else 0
      cases h4 : (s.1 d && !s0 d) with
      | false => exact Nat.zero_le _
      | true =>
        rw [Bool.and_eq_true] at h4
        rcases h.2.2.1 d h4.1 with g | ⟨j, g1, g2⟩
        · rw [g] at h4; cases h4.2
        · have g3 := (h.2.1 j g1).2.1
          rw [g2] at g3
          rw [if_pos g3, if_pos rfl, if_pos rfl]
          exact Nat.le_refl 1
  rw [h.2.2.2.2.2 (bTb B)] at h2
  omega
/-- what the counting of groups keeps -/
def rGv (B : eBd) (c : Nat) (y : rS × Nat) : Prop :=
  (∀ x, y.1.1 x = true → x < bC B ∧ hT B x = true) ∧ (∀ x, x < c → hT B x = true → y.1.1 x = true) ∧
  2 * zSm (fun x => if y.1.1 x then 1 else 0) (bC B) ≤ 2 * y.2 + zSm (fun x => if y.1.1 x then bTb B x else 0) (bC B) ∧
  y.2 ≤ zSm (fun x => if y.1.1 x then 1 else 0) (bC B) ∧ (y.2 = 0 → ∀ x, y.1.1 x = false)
theorem zSm_seen {a b : Nat → Bool} {f : Nat → Nat} {n : Nat} (h : ∀ x, b x = true → a x = true) : zSm (fun x => if a x then f x else 0) n = zSm (fun x => if b x then f x else 0) n + zSm (fun x => if a x && !b x then f x else 0) n := by
  rw [← zSm_add]
  refine zSm_ext (fun i _ => ?_)
  show (if a i then f i else 0) = (if b i then f i else 0) + (if a i && !b i then f i else 0)
  cases h1 : b i with
  | true => rw [h i h1]; exact (Nat.add_zero _).symm
  | false => cases a i <;> exact (Nat.zero_add _).symm
theorem rGf_v (hb : bOk B) : ∀ (f c : Nat) (y : rS × Nat), c + f = bC B → rGv B c y → rGv B (bC B) (rGf B f c y)
  | 0, c, y, hc, h => by
    have hc' : c = bC B := hc
    subst hc'
    exact h
  | f + 1, c, y, hc, h => by
    unfold rGf
    obtain ⟨v1, v2, v3, v4, v5⟩ := h
    have hcl : c < bC B := by omega
    cases h1 : (hT B c && !y.1.1 c) with
    | false =>
      rw [if_neg Bool.false_ne_true]
      refine rGf_v hb f (c + 1) y (by omega) ⟨v1, fun x hx ht => ?_, v3, v4, v5⟩
      by_cases hq : x = c
      · rw [hq] at ht ⊢
        cases h2 : y.1.1 c with
        | true => rfl
        | false => rw [ht, h2] at h1; cases h1
      · exact v2 x (by omega) ht
    | true =>
      rw [if_pos rfl]
      rw [Bool.and_eq_true] at h1
      have h0 : y.1.1 c = false := by
        cases h4 : y.1.1 c with
        | false => rfl
        | true => rw [h4] at h1; cases h1.2
      obtain ⟨iv, cl⟩ := rReach_iv hb hcl h1.1 h0
      have sub : ∀ x, y.1.1 x = true → (rReach B c y.1).1 x = true := iv.2.2.2.1
      have e1 := zSm_seen (f := fun _ => 1) (n := bC B) sub
      have e2 := zSm_seen (f := bTb B) (n := bC B) sub
      have e3 := iv.len
      have e4 := iv.ends hb
      have hc0 : (rReach B c y.1).1 c = true := by
        have := iv.2.1 0 (Nat.lt_of_lt_of_le Nat.zero_lt_one iv.1.1)
        rw [iv.1.2] at this
        exact this.2.2.1
      refine rGf_v hb f (c + 1) (rReach B c y.1, y.2 + 1) (by omega) ⟨fun x hx => ?_, fun x hx ht => ?_, ?_, ?_, fun z => absurd z (Nat.succ_ne_zero _)⟩
      · rcases iv.2.2.1 x hx with g | ⟨j, g1, g2⟩
        · exact v1 x g
        · have := iv.2.1 j g1
          rw [g2] at this
          exact ⟨this.1, this.2.1⟩
      · show (rReach B c y.1).1 x = true
        by_cases hq : x = c
        · rw [hq]; exact hc0
        · exact sub x (v2 x (by omega) ht)
      · show 2 * zSm (fun x => if (rReach B c y.1).1 x then 1 else 0) (bC B) ≤ 2 * (y.2 + 1) + zSm (fun x => if (rReach B c y.1).1 x then bTb B x else 0) (bC B)
        omega
      · show y.2 + 1 ≤ zSm (fun x => if (rReach B c y.1).1 x then 1 else 0) (bC B)
        have := iv.1.1
        omega
def bCnt (B : eBd) : Nat := zSm (fun c => if hT B c then 1 else 0) (bC B)
theorem bGroups_v (hb : bOk B) : 2 * bCnt B ≤ 2 * bGroups B + bEnds B ∧ bGroups B ≤ bCnt B ∧ (bGroups B = 0 → bCnt B = 0) := by
  obtain ⟨v1, v2, v3, v4, v5⟩ := rGf_v hb (bC B) 0 ((fun _ => false, fun _ => 0, 0), 0) (Nat.zero_add _) ⟨fun x z => absurd z Bool.false_ne_true, fun x z => absurd z (by omega), by
    rw [zSm_zero (f := fun x => if ((fun _ => false, fun _ => 0, 0) : rS).1 x then 1 else 0) (fun _ _ => rfl)]
    omega, Nat.zero_le _, fun _ _ => rfl⟩
  have key : ∀ x, x < bC B → (rGf B (bC B) 0 ((fun _ => false, fun _ => 0, 0), 0)).1.1 x = hT B x := fun x hx => by
    cases h : hT B x with
    | true => exact v2 x hx h
    | false =>
      cases h2 : (rGf B (bC B) 0 ((fun _ => false, fun _ => 0, 0), 0)).1.1 x with
      | false => rfl
      | true => have := (v1 x h2).2; rw [h] at this; cases this
  have e1 : zSm (fun x => if (rGf B (bC B) 0 ((fun _ => false, fun _ => 0, 0), 0)).1.1 x then 1 else 0) (bC B) = bCnt B := zSm_ext (fun x hx => by rw [key x hx])
  have e2 : zSm (fun x => if (rGf B (bC B) 0 ((fun _ => false, fun _ => 0, 0), 0)).1.1 x then bTb B x else 0) (bC B) = bEnds B := zSm_ext (fun x hx => by rw [key x hx])
  rw [e1, e2] at v3
  rw [e1] at v4
  refine ⟨v3, v4, fun z => ?_⟩
  have v6 := v5 z
  refine zSm_zero (fun x hx => ?_)
  show (if hT B x then 1 else 0) = 0
  rw [← key x hx, v6 x]
  rfl
end RIv
