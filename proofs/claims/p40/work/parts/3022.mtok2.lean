/-! ===== the model cuts its tape ===== -/
theorem zFf_cut {p : Nat → Bool} {m : Nat} : ∀ {n : Nat}, m ≤ n → (∀ k, m ≤ k → k < n → p k = false) → zFf p n = zFf p m
  | 0, h, _ => by rw [show m = 0 by omega]
  | n + 1, h, h0 => by
    by_cases hq : m = n + 1
    · rw [hq]
    · rw [zFf, h0 n (by omega) (by omega), zFf_cut (n := n) (by omega) (fun k k1 k2 => h0 k k1 (by omega))]
      cases zFf p m <;> rfl
def tSym (b : Nat) : Nat := if b = 40 then 25 else if b = 41 then 26 else if b = 91 then 27 else if b = 93 then 28 else if b = 59 then 29 else if b = 44 then 30 else if b = 43 then 31 else if b = 45 then 32 else if b = 42 then 33 else if b = 47 then 34 else if b = 60 then 35 else if b = 62 then 36 else if b = 61 then 37 else 43
def tS1 (b k : Nat) : Bool := decide ((eKtx.getD k []).length = 1) && !decide (eKc k 0 ≠ nI b)
def tS2 (b c k : Nat) : Bool := decide ((eKtx.getD k []).length = 2) && (!decide (eKc k 0 ≠ nI b) && !decide (eKc k 1 ≠ nI c))
theorem tS1_all : ∀ b, b < 256 → (match zFf (tS1 b) 44 with
  | none => 43
  | some k => k + 1) = tSym b := by decide +kernel
theorem tS2_lt : zFf (tS2 60 61) 44 = some 37 := by decide +kernel
theorem tS2_gt : zFf (tS2 62 61) 44 = some 38 := by decide +kernel
theorem tSays_1 {bt : Nat → Nat} {a k : Nat} : tSays bt a 1 k = tS1 (bt a) k := by
  unfold tSays tS1
  rw [zFf_isNone_succ]
  rfl
theorem tSays_2 {bt : Nat → Nat} {a k : Nat} : tSays bt a 2 k = tS2 (bt a) (bt (a + 1)) k := by
  unfold tSays tS2
  rw [zFf_isNone_succ, zFf_isNone_succ]
  rfl
theorem tTxt_1 {bt : Nat → Nat} {a : Nat} (h : bt a < 256) : tTxt bt a 1 43 = tSym (bt a) := by
  rw [← tS1_all _ h]
  unfold tTxt
  rw [zFf_ext (fun k _ => tSays_1)]
  rfl
theorem tTxt_lt {bt : Nat → Nat} {a : Nat} (h : bt a = 60) (h1 : bt (a + 1) = 61) : tTxt bt a 2 43 = 38 := by
  unfold tTxt
  rw [zFf_ext (q := tS2 60 61) (fun k _ => by rw [tSays_2, h, h1]), tS2_lt]
theorem tTxt_gt {bt : Nat → Nat} {a : Nat} (h : bt a = 62) (h1 : bt (a + 1) = 61) : tTxt bt a 2 43 = 39 := by
  unfold tTxt
  rw [zFf_ext (q := tS2 62 61) (fun k _ => by rw [tSays_2, h, h1]), tS2_gt]
theorem tSym_out : ∀ b, b < 256 → (b < 40 ∨ 93 < b) → mk (tSym b) = 32 := by decide +kernel
theorem tSym_cmp : ∀ b, b < 256 → ((mk (tSym b) = 44 ↔ b = 60) ∧ (mk (tSym b) = 45 ↔ b = 62)) := by decide +kernel
theorem eWK : ∀ k, k < 24 → eWtx.getD k [] = eKtx.getD k [] := by decide +kernel
theorem eK24 : ∀ k, k < 44 → 24 ≤ k → (eKtx.getD k []).length = 0 ∨ eKc k 0 < 97 := by decide +kernel
theorem tSays_24 {bt : Nat → Nat} {a n k : Nat} (hl : tL (bt a) = true) (hb : bt a < 256) (hn : 1 ≤ n) (h1 : 24 ≤ k) (h2 : k < 44) : tSays bt a n k = false := by
  cases h : tSays bt a n k with
  | false => rfl
  | true =>
    unfold tSays at h
    rw [Bool.and_eq_true] at h
    have h3 := of_decide_eq_true h.1
    have h4 := zFf_none' (Option.isNone_iff_eq_none.mp h.2) 0 (by omega)
    have h5 : eKc k 0 = nI (bt a) := Decidable.byContradiction fun z => absurd h4 (by rw [Nat.add_zero, decide_eq_true z]; decide)
    rcases eK24 k h2 h1 with z | z
    · omega
    · rw [h5] at z
      unfold tL at hl
      rw [Bool.and_eq_true] at hl
      exact absurd z (nI_nlt (a := bt a) (b := 97) (of_decide_eq_true hl.1) (by omega))
section MTok2
variable {bt : Nat → Nat} {sz : Nat}
theorem tL_nI {b : Nat} (hb : b < 256) : decide (97 ≤ nI b ∧ nI b ≤ 122) = tL b := by
  unfold tL
  rw [← Bool.decide_and]
  exact decide_eq_decide.mpr ⟨fun z => ⟨(nI_leI (a := 97) (by decide) (by omega)).mp z.1, (nI_leI (b := 122) (by omega) (by decide)).mp z.2⟩, fun z => ⟨nI_le (a := 97) z.1 (by omega), nI_le (b := 122) z.2 (by decide)⟩⟩
theorem tD_nI {b : Nat} (hb : b < 256) : decide (48 ≤ nI b ∧ nI b ≤ 57) = tD b := by
  unfold tD
  rw [← Bool.decide_and]
  exact decide_eq_decide.mpr ⟨fun z => ⟨(nI_leI (a := 48) (by decide) (by omega)).mp z.1, (nI_leI (b := 57) (by omega) (by decide)).mp z.2⟩, fun z => ⟨nI_le (a := 48) z.1 (by omega), nI_le (b := 57) z.2 (by decide)⟩⟩
end MTok2
