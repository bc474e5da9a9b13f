/-! ===== sums, first places, small numbers, six bits ===== -/
theorem eDown {P : Nat → Prop} {N : Nat} (hN : P N) (hs : ∀ i, i < N → P (i + 1) → P i) : ∀ i, i ≤ N → P i := by
  intro i hi
  have h : ∀ d i, i + d = N → P i := by
    intro d
    induction d with
    | zero => intro i h; rw [Nat.add_zero] at h; rw [h]; exact hN
    | succ d ih => intro i h; exact hs i (by omega) (ih (i + 1) (by omega))
  exact h (N - i) i (by omega)
def zSm (f : Nat → Nat) : Nat → Nat
  | 0 => 0
  | n + 1 => zSm f n + f n
theorem zSm_ext {f g : Nat → Nat} : ∀ {n : Nat}, (∀ i, i < n → f i = g i) → zSm f n = zSm g n
  | 0, _ => rfl
  | n + 1, h => by rw [zSm, zSm, zSm_ext (fun i hi => h i (by omega)), h n (by omega)]
theorem zSm_le {f : Nat → Nat} {k : Nat} : ∀ {n : Nat}, (∀ i, i < n → f i ≤ k) → zSm f n ≤ n * k
  | 0, _ => Nat.zero_le _
  | n + 1, h => by
    have h1 := zSm_le (n := n) (fun i hi => h i (by omega))
    have h2 := h n (by omega)
    rw [zSm, Nat.succ_mul]
    omega
theorem zSm_add (f g : Nat → Nat) : ∀ n : Nat, zSm (fun i => f i + g i) n = zSm f n + zSm g n
  | 0 => rfl
  | n + 1 => by
    rw [zSm, zSm, zSm, zSm_add f g n]
    omega
theorem zSm_zero {f : Nat → Nat} : ∀ {n : Nat}, (∀ i, i < n → f i = 0) → zSm f n = 0
  | 0, _ => rfl
  | n + 1, h => by rw [zSm, zSm_zero (fun i hi => h i (by omega)), h n (by omega)]
theorem zSm_of0 {f : Nat → Nat} : ∀ {n : Nat}, zSm f n = 0 → ∀ i, i < n → f i = 0
  | 0, _ => fun i hi => absurd hi (by omega)
  | n + 1, h => by
    rw [zSm] at h
    intro i hi
    by_cases hn : i = n
    · subst hn; omega
    · exact zSm_of0 (n := n) (by omega) i (by omega)
theorem zSm_one {f : Nat → Nat} {k : Nat} : ∀ {n : Nat}, k < n → (∀ i, i < n → i ≠ k → f i = 0) → zSm f n = f k
  | 0, h, _ => absurd h (by omega)
  | n + 1, h, h0 => by
    rw [zSm]
    by_cases hn : k = n
    · subst hn
      rw [zSm_zero (fun i hi => h0 i (by omega) (by omega)), Nat.zero_add]
    · rw [zSm_one (n := n) (by omega) (fun i hi => h0 i (by omega)), h0 n (by omega) (fun q => hn q.symm), Nat.add_zero]
theorem zSm_swap (f : Nat → Nat → Nat) (m : Nat) : ∀ n : Nat, zSm (fun i => zSm (fun j => f i j) m) n = zSm (fun j => zSm (fun i => f i j) n) m
  | 0 => (zSm_zero (fun _ _ => rfl)).symm
  | n + 1 => by
    rw [zSm, zSm_swap f m n]
    have h : (fun j => zSm (fun i => f i j) (n + 1)) = fun j => zSm (fun i => f i j) n + f n j := by funext j; rw [zSm]
    rw [h, zSm_add]
/-- the first number below n with p -/
def zFf (p : Nat → Bool) : Nat → Option Nat
  | 0 => none
  | n + 1 => (zFf p n).or (if p n then some n else none)
theorem zFf_none {p : Nat → Bool} : ∀ {n : Nat}, (∀ i, i < n → p i = false) → zFf p n = none
  | 0, _ => rfl
  | n + 1, h => by rw [zFf, zFf_none (fun i hi => h i (by omega)), h n (by omega)]; rfl
theorem zFf_some {p : Nat → Bool} {i : Nat} : ∀ {n : Nat}, i < n → p i = true → (∀ j, j < i → p j = false) → zFf p n = some i
  | 0, h, _, _ => absurd h (by omega)
  | n + 1, h, hp, hj => by
    rw [zFf]
    by_cases hn : i = n
    · subst hn
      rw [zFf_none hj, hp]; rfl
    · rw [zFf_some (n := n) (by omega) hp hj]; rfl
theorem zFf_none' {p : Nat → Bool} : ∀ {n : Nat}, zFf p n = none → ∀ i, i < n → p i = false
  | 0, _ => fun i hi => absurd hi (by omega)
  | n + 1, h => by
    intro i hi
    rw [zFf] at h
    cases h1 : zFf p n with
    | some k => rw [h1] at h; cases h
    | none =>
      rw [h1] at h
      by_cases hn : i = n
      · subst hn
        cases h2 : p i with
        | false => rfl
        | true => rw [h2] at h; cases h
      · exact zFf_none' h1 i (by omega)
theorem zFf_some' {p : Nat → Bool} {i : Nat} : ∀ {n : Nat}, zFf p n = some i → i < n ∧ p i = true ∧ ∀ j, j < i → p j = false
  | 0, h => by cases h
  | n + 1, h => by
    rw [zFf] at h
    cases h1 : zFf p n with
    | some k =>
      rw [h1] at h
      cases h
      obtain ⟨a1, a2, a3⟩ := zFf_some' h1
      exact ⟨by omega, a2, a3⟩
    | none =>
      rw [h1] at h
      cases h2 : p n with
      | false => rw [h2] at h; cases h
      | true =>
        rw [h2] at h
        cases h
        exact ⟨by omega, h2, zFf_none' h1⟩
theorem zFf_ext {p q : Nat → Bool} : ∀ {n : Nat}, (∀ i, i < n → p i = q i) → zFf p n = zFf q n
  | 0, _ => rfl
  | n + 1, h => by rw [zFf, zFf, zFf_ext (fun i hi => h i (by omega)), h n (by omega)]
/-- a number or -1 -/
def eO (o : Option Nat) : Int32 := match o with
  | none => -1
  | some k => nI k
theorem eO_none : eO none = -1 := rfl
theorem eO_some (k : Nat) : eO (some k) = nI k := rfl
theorem eNeg (n : Nat) (h : n < 2 ^ 31) : ¬ (nI n = -1) := by
  intro q
  have h1 := congrArg Int32.toInt q
  rw [nI_toInt h] at h1
  have h2 : (-1 : Int32).toInt = -1 := by decide
  omega
theorem eL0 : (0 : Int32) = nI 0 := rfl
theorem eL1 : (1 : Int32) = nI 1 := rfl
theorem eL2 : (2 : Int32) = nI 2 := rfl
theorem eL3 : (3 : Int32) = nI 3 := rfl
theorem eL5 : (5 : Int32) = nI 5 := rfl
theorem eL6 : (6 : Int32) = nI 6 := rfl
theorem eL10 : (10 : Int32) = nI 10 := rfl
theorem nI_mul (a b : Nat) : nI a * nI b = nI (a * b) := (Int32.ofNat_mul a b).symm
theorem nI_sub {a b : Nat} (h : b ≤ a) : nI a - nI b = nI (a - b) := by
  have h1 : nI (a - b) + nI b = nI a := by rw [nI_add, Nat.sub_add_cancel h]
  rw [← h1]
  exact Int32.add_sub_cancel _ _
theorem nI_div {a b : Nat} (ha : a < 2 ^ 31) (hb : b < 2 ^ 31) (h0 : 0 < b) : nI a / nI b = nI (a / b) := by
  have h3 : a / b < 2 ^ 31 := Nat.lt_of_le_of_lt (Nat.div_le_self a b) ha
  refine Int32.toInt_inj.mp ?_
  rw [Int32.toInt_div_of_ne_right _ _ (fun q => by
    have h1 := congrArg Int32.toInt q
    rw [nI_toInt hb] at h1
    have h2 : (-1 : Int32).toInt = -1 := by decide
    omega), nI_toInt ha, nI_toInt hb, nI_toInt h3]
  rfl
/-- x - x / y * y -/
theorem nI_rem {a b : Nat} (ha : a < 2 ^ 31) (hb : b < 2 ^ 31) (h0 : 0 < b) : nI a - nI a / nI b * nI b = nI (a % b) := by
  rw [nI_div ha hb h0, nI_mul, nI_sub (Nat.div_mul_le_self a b)]
  have h1 := Nat.div_add_mod a b
  rw [Nat.mul_comm] at h1
  rw [show a - a / b * b = a % b by omega]
/-- six turns, a bit each -/
def zM6 (a b c d e f : Bool) : Int32 := (if a then 1 else 0) + (if b then 2 else 0) + (if c then 4 else 0) + (if d then 8 else 0) + (if e then 16 else 0) + (if f then 32 else 0)
def zMask (p : Nat → Bool) : Int32 := zM6 (p 0) (p 1) (p 2) (p 3) (p 4) (p 5)
theorem zMask_ext {p q : Nat → Bool} (h : ∀ t, t < 6 → p t = q t) : zMask p = zMask q := by
  unfold zMask
  rw [h 0 (by decide), h 1 (by decide), h 2 (by decide), h 3 (by decide), h 4 (by decide), h 5 (by decide)]
set_option maxRecDepth 100000 in
theorem zM6_and : ∀ a b c d e f a' b' c' d' e' f' : Bool, zM6 a b c d e f &&& zM6 a' b' c' d' e' f' = zM6 (a && a') (b && b') (c && c') (d && d') (e && e') (f && f') := by decide +kernel
theorem zMask_and (p q : Nat → Bool) : zMask p &&& zMask q = zMask (fun t => p t && q t) := zM6_and _ _ _ _ _ _ _ _ _ _ _ _
theorem zM6_0 : ∀ a b c d e f : Bool, zM6 a b c d e f = 0 ↔ (a = false ∧ b = false ∧ c = false ∧ d = false ∧ e = false ∧ f = false) := by decide +kernel
theorem zMask_0 (p : Nat → Bool) : zMask p = 0 ↔ zFf p 6 = none := by
  constructor
  · intro h
    obtain ⟨h0, h1, h2, h3, h4, h5⟩ := (zM6_0 _ _ _ _ _ _).mp h
    refine zFf_none (fun i hi => ?_)
    match i, hi with
    | 0, _ => exact h0
    | 1, _ => exact h1
    | 2, _ => exact h2
    | 3, _ => exact h3
    | 4, _ => exact h4
    | 5, _ => exact h5
  · intro h
    have h1 := zFf_none' h
    exact (zM6_0 _ _ _ _ _ _).mpr ⟨h1 0 (by decide), h1 1 (by decide), h1 2 (by decide), h1 3 (by decide), h1 4 (by decide), h1 5 (by decide)⟩
theorem zM6_bit : ∀ a b c d e f : Bool, zM6 a b c d e f >>> 0 &&& 1 = (if a then 1 else 0) ∧ zM6 a b c d e f >>> 1 &&& 1 = (if b then 1 else 0) ∧ zM6 a b c d e f >>> 2 &&& 1 = (if c then 1 else 0) ∧ zM6 a b c d e f >>> 3 &&& 1 = (if d then 1 else 0) ∧ zM6 a b c d e f >>> 4 &&& 1 = (if e then 1 else 0) ∧ zM6 a b c d e f >>> 5 &&& 1 = (if f then 1 else 0) := by decide +kernel
theorem zMask_bit (p : Nat → Bool) {t : Nat} (ht : t < 6) : zMask p >>> nI t &&& 1 = if p t then 1 else 0 := by
  have h := zM6_bit (p 0) (p 1) (p 2) (p 3) (p 4) (p 5)
  match t, ht with
  | 0, _ => exact h.1
  | 1, _ => exact h.2.1
  | 2, _ => exact h.2.2.1
  | 3, _ => exact h.2.2.2.1
  | 4, _ => exact h.2.2.2.2.1
  | 5, _ => exact h.2.2.2.2.2
theorem zM6_or : ∀ a b c d e f : Bool, (zM6 a b c d e f ||| 1 = zM6 true b c d e f ∧ zM6 a b c d e f ||| 2 = zM6 a true c d e f) ∧ (zM6 a b c d e f ||| 4 = zM6 a b true d e f ∧ zM6 a b c d e f ||| 8 = zM6 a b c true e f) ∧ (zM6 a b c d e f ||| 16 = zM6 a b c d true f ∧ zM6 a b c d e f ||| 32 = zM6 a b c d e true) := by decide +kernel
theorem zMask_or (p : Nat → Bool) {t : Nat} (ht : t < 6) : zMask p ||| (1 <<< nI t) = zMask (fun u => p u || decide (u = t)) := by
  have h := zM6_or (p 0) (p 1) (p 2) (p 3) (p 4) (p 5)
  have e0 : ∀ b : Bool, (b || decide ((0 : Nat) = 1)) = b := by decide
  match t, ht with
  | 0, _ => rw [show (1 : Int32) <<< nI 0 = 1 by decide]; simp only [zMask]; rw [h.1.1]; simp
  | 1, _ => rw [show (1 : Int32) <<< nI 1 = 2 by decide]; simp only [zMask]; rw [h.1.2]; simp
  | 2, _ => rw [show (1 : Int32) <<< nI 2 = 4 by decide]; simp only [zMask]; rw [h.2.1.1]; simp
  | 3, _ => rw [show (1 : Int32) <<< nI 3 = 8 by decide]; simp only [zMask]; rw [h.2.1.2]; simp
  | 4, _ => rw [show (1 : Int32) <<< nI 4 = 16 by decide]; simp only [zMask]; rw [h.2.2.1]; simp
  | 5, _ => rw [show (1 : Int32) <<< nI 5 = 32 by decide]; simp only [zMask]; rw [h.2.2.2]; simp

