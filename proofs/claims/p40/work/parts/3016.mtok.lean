/-! ===== the model at its tokens ===== -/
def mk (k : Nat) : Nat := ([99, 0, 1, 2, 3, 4, 5, 6, 7, 8, 9, 10, 11, 12, 13, 14, 15, 16, 17, 18, 19, 20, 21, 22, 23, 49, 50, 51, 52, 53, 54, 40, 41, 42, 43, 44, 45, 46, 47, 48, 31, 30, 33, 32, 60] : List Nat).getD k 99
theorem mk_lt : ∀ k, k < 45 → mk k < 100 := by decide
theorem mk_inj' : ∀ a, a < 45 → ∀ b, b < 45 → mk a = mk b → a = b := by decide +kernel
theorem mk_inj {a b : Nat} (ha : a ≤ 44) (hb : b ≤ 44) (h : mk a = mk b) : a = b := mk_inj' a (by omega) b (by omega) h
/-- the words that the model compares: where they begin, their lengths, and the tape -/
abbrev mWd : Type := (Nat → Nat) × (Nat → Nat) × (Nat → Int32)
def mSame (w : mWd) (a b : Nat) : Bool := decide (w.2.1 a = w.2.1 b) && (zFf (fun x => decide (w.2.2 (w.1 a + x) ≠ w.2.2 (w.1 b + x))) (w.2.1 a)).isNone
/-- the tile that a token names: the tiles told have the tokens nk 0 .. nk (nt - 1) -/
def mKn (w : mWd) (nt : Nat) (nk : Nat → Nat) (p : Nat) : Option Nat := zFf (fun i => mSame w (nk i) p) nt
section MTok
variable {tk : Nat → Nat} {T : Nat} {w : mWd} {nt : Nat} {nk : Nat → Nat} {nb : Nat → Int32}
/-- the error after a name at p -/
def mErN (kn : Nat → Option Nat) (er : Nat × Nat) (p : Nat) : Nat × Nat := if er.1 = 0 ∧ kn p = none then (3, p) else er
end MTok
