/-! ===== the tape cut into tokens: bytes bt below 256, sz of them ===== -/
def tL (b : Nat) : Bool := decide (97 ≤ b) && decide (b ≤ 122)
def tD (b : Nat) : Bool := decide (48 ≤ b) && decide (b ≤ 57)
def tB (b : Nat) : Bool := b == 32 || b == 10
def tLD (b : Nat) : Bool := tL b || tD b
def tTo (bt : Nat → Nat) (sz : Nat) (p : Nat → Bool) : Nat → Nat → Nat
  | 0, a => a
  | n + 1, a => if a < sz ∧ p (bt a) = true then tTo bt sz p n (a + 1) else a
/-- the first place from a on where p fails, or the end -/
def tEnd (bt : Nat → Nat) (sz : Nat) (p : Nat → Bool) (a : Nat) : Nat := tTo bt sz p (sz - a) a
theorem tEnd_off {bt : Nat → Nat} {sz : Nat} {p : Nat → Bool} {a : Nat} (h : sz ≤ a) : tEnd bt sz p a = a := by
  unfold tEnd
  rw [show sz - a = 0 by omega]
  rfl
theorem tEnd_no {bt : Nat → Nat} {sz : Nat} {p : Nat → Bool} {a : Nat} (h : p (bt a) = false) : tEnd bt sz p a = a := by
  unfold tEnd
  cases sz - a with
  | zero => rfl
  | succ n => rw [tTo, if_neg (fun z => by rw [h] at z; cases z.2)]
theorem tEnd_yes {bt : Nat → Nat} {sz : Nat} {p : Nat → Bool} {a : Nat} (h1 : a < sz) (h : p (bt a) = true) : tEnd bt sz p a = tEnd bt sz p (a + 1) := by
  unfold tEnd
  rw [show sz - a = (sz - (a + 1)) + 1 by omega, tTo, if_pos ⟨h1, h⟩]
theorem tTo_in {bt : Nat → Nat} {sz : Nat} {p : Nat → Bool} : ∀ (n a : Nat), a + n ≤ sz → a ≤ tTo bt sz p n a ∧ tTo bt sz p n a ≤ a + n ∧ ∀ j, a ≤ j → j < tTo bt sz p n a → p (bt j) = true
  | 0, a, _ => ⟨Nat.le_refl _, Nat.le_refl _, fun j h1 h2 => absurd (show a < a from Nat.lt_of_le_of_lt h1 h2) (Nat.lt_irrefl _)⟩
  | n + 1, a, h => by
    rw [tTo]
    by_cases hq : a < sz ∧ p (bt a) = true
    · rw [if_pos hq]
      obtain ⟨h1, h2, h3⟩ := tTo_in (bt := bt) (sz := sz) (p := p) n (a + 1) (by omega)
      refine ⟨by omega, by omega, fun j j1 j2 => ?_⟩
      by_cases hj : j = a
      · subst hj; exact hq.2
      · exact h3 j (by omega) j2
    · rw [if_neg hq]
      exact ⟨Nat.le_refl _, by omega, fun j h1 h2 => absurd (show a < a from Nat.lt_of_le_of_lt h1 h2) (Nat.lt_irrefl _)⟩
theorem tEnd_in {bt : Nat → Nat} {sz : Nat} {p : Nat → Bool} {a : Nat} (h : a ≤ sz) : a ≤ tEnd bt sz p a ∧ tEnd bt sz p a ≤ sz ∧ ∀ j, a ≤ j → j < tEnd bt sz p a → p (bt j) = true := by
  have h1 := tTo_in (bt := bt) (sz := sz) (p := p) (sz - a) a (by omega)
  exact ⟨h1.1, by have := h1.2.1; unfold tEnd; omega, h1.2.2⟩
/-- behind the token at a -/
def tStop (bt : Nat → Nat) (sz a : Nat) : Nat :=
  if tL (bt a) = true then tEnd bt sz tLD a
  else if tD (bt a) = true then tEnd bt sz tD a
  else if (bt a = 60 ∨ bt a = 62) ∧ (a + 1 < sz ∧ bt (a + 1) = 61) then a + 2 else a + 1
theorem tLD_L {b : Nat} (h : tL b = true) : tLD b = true := by unfold tLD; rw [h]; rfl
theorem tStop_in {bt : Nat → Nat} {sz a : Nat} (h : a < sz) : a + 1 ≤ tStop bt sz a ∧ tStop bt sz a ≤ sz := by
  unfold tStop
  by_cases h1 : tL (bt a) = true
  · rw [if_pos h1, tEnd_yes h (tLD_L h1)]
    have := tEnd_in (bt := bt) (p := tLD) (show a + 1 ≤ sz by omega)
    exact ⟨this.1, this.2.1⟩
  · rw [if_neg h1]
    by_cases h2 : tD (bt a) = true
    · rw [if_pos h2, tEnd_yes h h2]
      have := tEnd_in (bt := bt) (p := tD) (show a + 1 ≤ sz by omega)
      exact ⟨this.1, this.2.1⟩
    · rw [if_neg h2]
      by_cases h3 : (bt a = 60 ∨ bt a = 62) ∧ (a + 1 < sz ∧ bt (a + 1) = 61)
      · rw [if_pos h3]; omega
      · rw [if_neg h3]; omega
/-- does the text k stand there, n bytes long -/
def tSays (bt : Nat → Nat) (a n k : Nat) : Bool := decide ((eKtx.getD k []).length = n) && (zFf (fun i => decide (eKc k i ≠ nI (bt (a + i)))) n).isNone
def tTxt (bt : Nat → Nat) (a n o : Nat) : Nat := match zFf (tSays bt a n) 44 with
  | none => o
  | some k => k + 1
def tKind (bt : Nat → Nat) (sz a : Nat) : Nat :=
  if tL (bt a) = true then (if tStop bt sz a - a ≤ 10 then tTxt bt a (tStop bt sz a - a) 41 else 43)
  else if tD (bt a) = true then (if tStop bt sz a - a ≤ 6 then 40 else 43)
  else tTxt bt a (tStop bt sz a - a) 43
def tAt (bt : Nat → Nat) (sz : Nat) : Nat → Nat
  | 0 => tEnd bt sz tB 0
  | k + 1 => tEnd bt sz tB (tStop bt sz (tAt bt sz k))
def tTk (bt : Nat → Nat) (sz k : Nat) : Nat := if sz ≤ tAt bt sz k then 42 else if 400 ≤ k then 43 else tKind bt sz (tAt bt sz k)
def tLast (bt : Nat → Nat) (sz : Nat) (k : Nat) : Bool := tTk bt sz k == 42 || tTk bt sz k == 43
def tT (bt : Nat → Nat) (sz : Nat) : Nat := (zFf (tLast bt sz) 401).getD 400
def tVal (bt : Nat → Nat) (a : Nat) : Nat → Nat
  | 0 => 0
  | n + 1 => tVal bt a n * 10 + (bt (a + n) - 48)
theorem tTxt_in {bt : Nat → Nat} {a n o : Nat} (hn : 1 ≤ n) : tTxt bt a n o = o ∨ (1 ≤ tTxt bt a n o ∧ tTxt bt a n o ≤ 39) := by
  unfold tTxt
  cases h : zFf (tSays bt a n) 44 with
  | none => exact Or.inl rfl
  | some k =>
    refine Or.inr ⟨Nat.le_add_left 1 k, ?_⟩
    obtain ⟨h1, h2, -⟩ := zFf_some' h
    have h3 : (eKtx.getD k []).length = n := by
      unfold tSays at h2
      rw [Bool.and_eq_true] at h2
      exact of_decide_eq_true h2.1
    have h4 : ∀ k, k < 44 → (eKtx.getD k []).length ≠ 0 → k + 1 ≤ 39 := by decide +kernel
    exact h4 k h1 (by omega)
theorem tKind_in {bt : Nat → Nat} {sz a : Nat} (h : a < sz) : 1 ≤ tKind bt sz a ∧ tKind bt sz a ≤ 43 ∧ tKind bt sz a ≠ 42 := by
  have h0 := tStop_in (bt := bt) h
  unfold tKind
  by_cases h1 : tL (bt a) = true
  · rw [if_pos h1]
    by_cases h2 : tStop bt sz a - a ≤ 10
    · rw [if_pos h2]
      rcases tTxt_in (bt := bt) (a := a) (n := tStop bt sz a - a) (o := 41) (by omega) with z | z
      · rw [z]; decide
      · omega
    · rw [if_neg h2]; decide
  · rw [if_neg h1]
    by_cases h2 : tD (bt a) = true
    · rw [if_pos h2]
      by_cases h3 : tStop bt sz a - a ≤ 6
      · rw [if_pos h3]; decide
      · rw [if_neg h3]; decide
    · rw [if_neg h2]
      rcases tTxt_in (bt := bt) (a := a) (n := tStop bt sz a - a) (o := 43) (by omega) with z | z
      · rw [z]; decide
      · omega
theorem tTk_in (bt : Nat → Nat) (sz k : Nat) : 1 ≤ tTk bt sz k ∧ tTk bt sz k ≤ 43 := by
  unfold tTk
  by_cases h1 : sz ≤ tAt bt sz k
  · rw [if_pos h1]; decide
  · rw [if_neg h1]
    by_cases h2 : 400 ≤ k
    · rw [if_pos h2]; decide
    · rw [if_neg h2]
      have := tKind_in (bt := bt) (show tAt bt sz k < sz by omega)
      exact ⟨this.1, this.2.1⟩
theorem tLast_400 (bt : Nat → Nat) (sz : Nat) : tLast bt sz 400 = true := by
  unfold tLast tTk
  by_cases h1 : sz ≤ tAt bt sz 400
  · rw [if_pos h1]; rfl
  · rw [if_neg h1, if_pos (Nat.le_refl _)]; rfl
theorem tT_is (bt : Nat → Nat) (sz : Nat) : tT bt sz ≤ 400 ∧ tLast bt sz (tT bt sz) = true ∧ ∀ j, j < tT bt sz → tLast bt sz j = false := by
  unfold tT
  cases h : zFf (tLast bt sz) 401 with
  | none => have := zFf_none' h 400 (by decide); rw [tLast_400] at this; cases this
  | some k =>
    obtain ⟨h1, h2, h3⟩ := zFf_some' h
    exact ⟨by show k ≤ 400; omega, h2, h3⟩
theorem tT_eq {bt : Nat → Nat} {sz k : Nat} (hk : k ≤ 400) (h : tLast bt sz k = true) (h0 : ∀ j, j < k → tLast bt sz j = false) : tT bt sz = k := by
  unfold tT
  rw [zFf_some (show k < 401 by omega) h h0]
  rfl
theorem tLast_f {bt : Nat → Nat} {sz k : Nat} (h : tLast bt sz k = false) : tTk bt sz k ≠ 42 ∧ tTk bt sz k ≠ 43 := by
  unfold tLast at h
  rw [Bool.or_eq_false_iff] at h
  exact ⟨fun z => absurd h.1 (by rw [z]; decide), fun z => absurd h.2 (by rw [z]; decide)⟩
theorem tLast_t {bt : Nat → Nat} {sz k : Nat} (h : tLast bt sz k = true) : tTk bt sz k = 42 ∨ tTk bt sz k = 43 := by
  unfold tLast at h
  rw [Bool.or_eq_true] at h
  exact h.imp (fun z => by simpa using z) (fun z => by simpa using z)
theorem tTk_pTk (bt : Nat → Nat) (sz : Nat) : pTk (tTk bt sz) (tT bt sz) := by
  obtain ⟨h1, h2, h3⟩ := tT_is bt sz
  exact ⟨h1, fun j _ => tTk_in bt sz j, fun j hj => tLast_f (h3 j hj), tLast_t h2⟩
theorem tAt_le (bt : Nat → Nat) (sz : Nat) : ∀ k, (∀ j, j < k → tLast bt sz j = false) → tAt bt sz k ≤ sz
  | 0, _ => (tEnd_in (Nat.zero_le sz)).2.1
  | k + 1, h => by
    have h1 := tAt_le bt sz k (fun j hj => h j (by omega))
    have h2 : tAt bt sz k < sz := by
      refine Decidable.byContradiction fun z => ?_
      have h3 := (tLast_f (h k (by omega))).1
      unfold tTk at h3
      rw [if_pos (by omega)] at h3
      exact h3 rfl
    exact (tEnd_in (tStop_in h2).2).2.1
theorem tTk_ok {bt : Nat → Nat} {sz k : Nat} (h : tLast bt sz k = false) : tAt bt sz k < sz ∧ k < 400 ∧ tTk bt sz k = tKind bt sz (tAt bt sz k) := by
  have h3 := tLast_f h
  unfold tTk at h3 ⊢
  by_cases h1 : sz ≤ tAt bt sz k
  · rw [if_pos h1] at h3; exact absurd rfl h3.1
  · rw [if_neg h1] at h3 ⊢
    by_cases h2 : 400 ≤ k
    · rw [if_pos h2] at h3; exact absurd rfl h3.2
    · rw [if_neg h2] at h3 ⊢
      exact ⟨by omega, by omega, rfl⟩
/-! bytes with a sign -/
def sb (b : Nat) : Int32 := if b < 128 then nI b else nI b - 256
theorem sb_all : ∀ b, b < 256 → ((sb b = 32 ↔ b = 32) ∧ (sb b = 10 ↔ b = 10) ∧ (sb b = 60 ↔ b = 60) ∧ (sb b = 62 ↔ b = 62) ∧ (sb b = 61 ↔ b = 61)) ∧ ((sb b < 97 ↔ b < 97 ∨ 128 ≤ b) ∧ (122 < sb b ↔ 122 < b ∧ b < 128) ∧ (sb b < 48 ↔ b < 48 ∨ 128 ≤ b) ∧ (57 < sb b ↔ 57 < b ∧ b < 128)) := by decide +kernel
theorem sb_toInt : ∀ b, b < 256 → (sb b).toInt = if b < 128 then (b : Int) else (b : Int) - 256 := by decide +kernel
theorem sb_inj {a b : Nat} (ha : a < 256) (hb : b < 256) (h : sb a = sb b) : a = b := by
  have h1 := congrArg Int32.toInt h
  rw [sb_toInt a ha, sb_toInt b hb] at h1
  split at h1 <;> split at h1 <;> omega
theorem eKc_lt : ∀ k, k < 44 → ∀ i, i < 8 → 0 ≤ eKc k i ∧ eKc k i < 128 := by decide +kernel
theorem eKtx_len : ∀ k, k < 44 → (eKtx.getD k []).length ≤ 7 := by decide +kernel
theorem eKc_sb {k i b : Nat} (hk : k < 44) (hi : i < 8) (hb : b < 256) : eKc k i = sb b ↔ eKc k i = nI b := by
  have h1 := eKc_lt k hk i hi
  unfold sb
  by_cases h2 : b < 128
  · rw [if_pos h2]
  · rw [if_neg h2]
    have h5 : ∀ n, n < 256 → 128 ≤ n → (nI n - 256 : Int32) < 0 := by decide +kernel
    have h6 := h5 b hb (by omega)
    refine ⟨fun z => ?_, fun z => ?_⟩
    · rw [z] at h1
      exact absurd h6 (Int32.not_lt.mpr h1.1)
    · rw [z] at h1
      exact absurd h1.2 (nI_nlt (a := b) (b := 128) (by omega) (by omega))

