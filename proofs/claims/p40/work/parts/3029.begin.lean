/-! ===== the class's board begins ===== -/
section CBegin
/-- the cell beside one as the class finds it -/
def cBes (W R c : Int32) (e : Nat) : Int32 := if sX W c e < 0 then -1 else if W ≤ sX W c e then -1 else if sY W c e < 0 then -1 else if R ≤ sY W c e then -1 else sY W c e * W + sX W c e
set_option maxRecDepth 1000000 in
theorem cBes_tab : ∀ w, w < 5 → ∀ r, r < 5 → ∀ c, c < (w + 3) * (r + 3) → ∀ e, e < 6 → cBes (nI (w + 3)) (nI (r + 3)) (nI c) e = eO (bBesW (w + 3) (r + 3) c e) := by decide +kernel
theorem cBes_eq {w r c e : Nat} (hw : 3 ≤ w ∧ w ≤ 7) (hr : 3 ≤ r ∧ r ≤ 7) (hc : c < w * r) (he : e < 6) : cBes (nI w) (nI r) (nI c) e = eO (bBesW w r c e) := by
  obtain ⟨a, rfl⟩ : ∃ a, w = a + 3 := ⟨w - 3, by omega⟩
  obtain ⟨b, rfl⟩ : ∃ b, r = b + 3 := ⟨r - 3, by omega⟩
  exact cBes_tab a (by omega) b (by omega) c hc e he
/-- a tile's number at an edge -/
def nNm (nu : Nat → Nat) (k t e : Nat) : Nat := nu (3 * k + (e + 6 - t) % 6 / 2)
/-- a board as a game begins -/
def b0 (wd r n : Nat) (nu : Nat → Nat) : eBd := ((wd, r, n, 0), fun _ => none, fun _ => none, fun _ => 0, nu)
theorem b0_tile (wd r n : Nat) (nu : Nat → Nat) (c e : Nat) : bTile (b0 wd r n nu) c e = none := by
  unfold bTile
  cases bBes (b0 wd r n nu) c e with
  | none => rfl
  | some d => rfl
theorem b0_face (wd r n : Nat) (nu : Nat → Nat) (c e : Nat) : bFace (b0 wd r n nu) c e = none := by
  unfold bFace
  rw [b0_tile]
theorem b0_tb (wd r n : Nat) (nu : Nat → Nat) (c : Nat) : bTb (b0 wd r n nu) c = 0 := zSm_zero (fun e _ => by rw [b0_tile]; rfl)
theorem b0_gm {wd r n : Nat} {nu : Nat → Nat} (hw : 3 ≤ wd ∧ wd ≤ 7) (hr : 3 ≤ r ∧ r ≤ 7) (hn : n ≤ 16) (hnu : ∀ j, j < 3 * n → nu j < 10) : bGm (b0 wd r n nu) := by
  refine ⟨⟨hw, hr, hn, fun c k _ h => (by cases h), fun k c _ h => (by cases h), hnu, (zSm_zero (fun i _ => rfl)).symm⟩, fun c e k x _ _ h _ => (by cases h)⟩
end CBegin
