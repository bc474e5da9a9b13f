/-! ===== p40: a game of the law is told without an error, and what it is then ===== -/
section DTold
variable {tk nv vl : Nat → Nat} {w : mWd} {T n : Nat}
theorem scan_orders (hT : pTk tk T) (hv : vOk tk w nv vl) (hn : 17 ≤ n) {C R N : Nat} {nk nu : Nat → Nat} (hk : ∀ i, i < N → tk (nk i) = 41 ∧ vl (nk i) = i) : ∀ (os : List xO) (p no : Nat), (∀ o ∈ os, xOk o) → tks tk p (orK os) → p + (orK os).length ≤ T → no + os.length ≤ 16 → sIs (sScan tk w nv p) C R N no nk nu → (∀ j, p ≤ j → j < p + (orK os).length → tk j = 41 → vl j < N) → sIs (sScan tk w nv (p + (orK os).length)) C R N (no + os.length) nk nu ∧ ∀ j, p ≤ j → j < p + (orK os).length → tk j = 41 → sKn w (sScan tk w nv j) j = some (vl j)
  | [], p, no, _, _, _, _, h, _ => ⟨h, fun j a b => absurd b (by show ¬ j < p + 0; omega)⟩
  | o :: os, p, no, ho, ht, hle, h16, h, hV => by
    have h1 := ho o List.mem_cons_self
    have hx : tks tk p (xK o ++ [29]) := ht.left
    have hr := ht.right
    have len : (xK o ++ [29]).length = (xK o).length + 1 := by rw [List.length_append, List.length_singleton]
    have k29 := hx.right.head
    rw [len, show p + ((xK o).length + 1) = p + (xK o).length + 1 by omega] at hr
    have lall : (orK (o :: os)).length = (xK o).length + 1 + (orK os).length := by
      show ((xK o ++ [29]) ++ orK os).length = _
      rw [List.length_append, len]
    rw [lall] at hle hV ⊢
    have l16 : no + (os.length + 1) ≤ 16 := h16
    have kp : tk p = 4 ∨ tk p = 7 ∨ tk p = 8 := by
      have hh := hx.left
      unfold xK xHd at hh
      by_cases h0 : o.1.1 = 0
      · rw [if_pos h0] at hh
        exact Or.inl hh.left.left.head
      · rw [if_neg h0] at hh
        have := hh.left.head
        have := h1.1
        omega
    have ok := pOrder_ok hT (show p < T by omega) kp (order_ok (n := n) (b := 0) h1 hn hx)
    have body := ok.2.2.2.1
    obtain ⟨f1, f2⟩ := scan_first h kp (by omega)
    have hx1 : 1 ≤ (xK o).length := by
      have := ok.2.1
      omega
    obtain ⟨g1, g2⟩ := scan_body hv hk ((xK o).length - 1) (p + 1) (q := p + (xK o).length) (by omega) f1 f2 (fun j a b => by
      have := body j a b
      exact ⟨this.1, this.2.1, this.2.2.1, this.2.2.2.1, this.2.2.2.2.1⟩) (fun j a b c => hV j (by omega) (by omega) c)
    have e29 : sScan tk w nv (p + (xK o).length + 1) = sScan tk w nv (p + (xK o).length) := step_29 k29
    obtain ⟨i1, i2⟩ := scan_orders hT hv hn hk os (p + (xK o).length + 1) (no + 1) (fun o' h => ho o' (List.mem_cons_of_mem _ h)) hr (by omega) (by omega) (by rw [e29]; exact g1) (fun j a b c => hV j (by omega) (by omega) c)
    rw [show p + ((xK o).length + 1 + (orK os).length) = p + (xK o).length + 1 + (orK os).length by omega, show no + (o :: os).length = no + 1 + os.length by rw [List.length_cons]; omega]
    refine ⟨i1, fun j a b c => ?_⟩
    by_cases hj : j < p + (xK o).length
    · by_cases hp : j = p
      · rw [hp] at c
        omega
      · exact g2 j (by omega) hj c
    · by_cases hq : j = p + (xK o).length
      · rw [hq] at c
        omega
      · exact i2 j (by omega) b c
theorem scan_board (hv : vOk tk w nv vl) {brd : Bool} (ht : brd = true → tks tk 0 [1, 40, 2, 40, 29]) (h : brd = true → (3 ≤ vl 1 ∧ vl 1 ≤ 7) ∧ (3 ≤ vl 3 ∧ vl 3 ≤ 7)) (nk nu : Nat → Nat) : sIs (sScan tk w nv (if brd then 5 else 0)) (if brd then vl 1 else 5) (if brd then vl 3 else 5) 0 0 nk nu := by
  cases brd with
  | false => exact ⟨⟨⟨rfl, rfl, rfl⟩, rfl, rfl, rfl⟩, fun i hi => absurd hi (by omega), fun i hi => absurd hi (by omega)⟩
  | true =>
    have t := ht rfl
    obtain ⟨hC, hR⟩ := h rfl
    have k0 : tk 0 = 1 := t.head
    have k1 : tk 1 = 40 := t.tail.head
    have k2 : tk 2 = 2 := t.tail.tail.head
    have k3 : tk 3 = 40 := t.tail.tail.tail.head
    have k4 : tk 4 = 29 := t.tail.tail.tail.tail.head
    have e1 : sScan tk w nv 1 = ((1, 0, 0, 0, 0), fun _ => 0, fun _ => 0, (5, 5), (0, 0)) := by
      show sStep tk w nv sInit 0 = _
      unfold sStep
      rw [if_pos (Or.inl k0), k0]
      rfl
    have e2 : sScan tk w nv 2 = ((1, 0, 0, 0, 1), fun _ => 0, fun _ => 0, (vl 1, 5), (0, 0)) := by
      show sStep tk w nv (sScan tk w nv 1) 1 = _
      rw [e1]
      unfold sStep
      rw [if_neg (by omega), if_neg (by omega), if_neg (by omega), if_pos k1, hv.1 1 k1]
      show ((1, 0, 0, 0, 1), (fun _ => 0), (fun _ => 0), (vl 1, 5), sErr (decide (vl 1 < 3 ∨ 7 < vl 1)) 5 1 (0, 0)) = _
      rw [decide_eq_false (show ¬ (vl 1 < 3 ∨ 7 < vl 1) by omega), sErr_f]
    have e3 : sScan tk w nv 3 = sScan tk w nv 2 := by
      show sStep tk w nv (sScan tk w nv 2) 2 = _
      unfold sStep
      rw [if_neg (by omega), if_neg (by omega), if_neg (by omega), if_neg (by omega)]
    have e4 : sScan tk w nv 4 = ((1, 0, 0, 0, 2), fun _ => 0, fun _ => 0, (vl 1, vl 3), (0, 0)) := by
      show sStep tk w nv (sScan tk w nv 3) 3 = _
      rw [e3, e2]
      unfold sStep
      rw [if_neg (by omega), if_neg (by omega), if_neg (by omega), if_pos k3, hv.1 3 k3]
      show ((1, 0, 0, 0, 2), (fun _ => 0), (fun _ => 0), (vl 1, vl 3), sErr (decide (vl 3 < 3 ∨ 7 < vl 3)) 5 3 (0, 0)) = _
      rw [decide_eq_false (show ¬ (vl 3 < 3 ∨ 7 < vl 3) by omega), sErr_f]
    have e5 : sScan tk w nv 5 = sScan tk w nv 4 := step_29 k4
    show sIs (sScan tk w nv 5) (vl 1) (vl 3) 0 0 nk nu
    rw [e5, e4]
    exact ⟨⟨⟨rfl, rfl, rfl⟩, rfl, rfl, rfl⟩, fun i hi => absurd hi (by omega), fun i hi => absurd hi (by omega)⟩
end DTold
/-- where the tiles begin -/
def q0 (brd : Bool) : Nat := if brd then 5 else 0
theorem gmP_q (brd : Bool) (nt : Nat) : gmP brd nt = q0 brd + 6 * nt := rfl
/-- the text of a game, by its tokens and their values -/
def gTx (bt : Nat → Nat) (sz : Nat) (vl : Nat → Nat) (brd : Bool) (C R nt : Nat) (nu : Nat → Nat) (os : List xO) : Prop :=
  (tks (tTk bt sz) 0 (gmK brd nt os) ∧ tT bt sz = (gmK brd nt os).length ∧ tTk bt sz (gmK brd nt os).length = 42) ∧ vOk (tTk bt sz) (tW bt sz) (tNv bt sz) vl ∧
  ((if brd then vl 1 else 5) = C ∧ (if brd then vl 3 else 5) = R ∧ (brd = true → (3 ≤ vl 1 ∧ vl 1 ≤ 7) ∧ (3 ≤ vl 3 ∧ vl 3 ≤ 7))) ∧
  (nt ≤ 16 ∧ (∀ i, i < nt → vl (q0 brd + 6 * i + 1) = i) ∧ (∀ i e, i < nt → e < 3 → vl (q0 brd + 6 * i + 2 + e) ≤ 9 ∧ nu (3 * i + e) = vl (q0 brd + 6 * i + 2 + e))) ∧
  (os.length ≤ 16 ∧ (∀ o ∈ os, xOk o) ∧ ∀ j, gmP brd nt ≤ j → j < (gmK brd nt os).length → tTk bt sz j = 41 → vl j < nt)
theorem gTx_told {bt : Nat → Nat} {sz : Nat} {vl : Nat → Nat} {brd : Bool} {C R nt : Nat} {nu : Nat → Nat} {os : List xO} (h : gTx bt sz vl brd C R nt nu os) : tEr bt sz = (0, 0) ∧ tOs bt sz = orP (gmP brd nt) 0 os ∧ (bW (tB0 bt sz) = C ∧ bR (tB0 bt sz) = R ∧ bN (tB0 bt sz) = nt ∧ ∀ i, i < 3 * nt → bNu (tB0 bt sz) i = nu i) ∧ ∀ j, gmP brd nt ≤ j → j < (gmK brd nt os).length → (tTk bt sz j = 40 ∨ tTk bt sz j = 41) → tV bt sz j = vl j := by
  obtain ⟨⟨ht, hT, h42⟩, hv, ⟨hC, hR, hb⟩, ⟨hn, hnm, hnu⟩, ho16, ho, hV⟩ := h
  have pt := tTk_pTk bt sz
  have g1 : tks (tTk bt sz) 0 ((if brd then [1, 40, 2, 40, 29] else []) ++ (tlK nt ++ orK os)) := ht
  have lB : (if brd then [1, 40, 2, 40, 29] else [] : List Nat).length = q0 brd := by cases brd <;> rfl
  have g2 := g1.right.left
  have g3 := g1.right.right
  rw [lB, Nat.zero_add] at g2 g3
  rw [tlK_len] at g3
  have len : (gmK brd nt os).length = q0 brd + 6 * nt + (orK os).length := by
    unfold gmK
    rw [List.length_append, List.length_append, lB, tlK_len]
    omega
  have s0 := scan_board (brd := brd) hv (fun z => by
    have := g1.left
    rw [z] at this
    exact this) hb (fun i => q0 brd + 6 * i + 1) nu
  rw [hC, hR] at s0
  have s1 := scan_tiles hv hn s0 g2 hnm (fun i e hi he => (hnu i e hi he).1) (fun i _ => rfl) (fun i e hi he => (hnu i e hi he).2) nt (Nat.le_refl nt)
  have kk : ∀ i, i < nt → tTk bt sz (q0 brd + 6 * i + 1) = 41 ∧ vl (q0 brd + 6 * i + 1) = i := fun i hi => by
    refine ⟨?_, hnm i hi⟩
    have : ∀ (m q : Nat), tks (tTk bt sz) q (tlK m) → ∀ k, k < m → tTk bt sz (q + 6 * k + 1) = 41 := by
      intro m
      induction m with
      | zero => intro q _ k hk; omega
      | succ m ih =>
        intro q hq k hk
        cases k with
        | zero => exact hq.left.tail.head
        | succ k =>
          have := ih (q + 6) hq.right k (by omega)
          rw [show q + 6 * (k + 1) + 1 = q + 6 + 6 * k + 1 by omega]
          exact this
    exact this nt (q0 brd) g2 i hi
  obtain ⟨s2, s3⟩ := scan_orders pt hv (n := 2500) (by decide) kk os (q0 brd + 6 * nt) 0 ho g3 (by rw [hT, len]; exact Nat.le_refl _) (by omega) s1 (fun j a b c => hV j a (by rw [len]; exact b) c)
  have gk : pGame (tTk bt sz) 2500 = some (.inr (orP (gmP brd nt) 0 os)) := game_ok (by decide) ho ht h42 (by omega)
  have e1 : tEr bt sz = sEr (tScan bt sz (tT bt sz)) ∧ tOs bt sz = orP (gmP brd nt) 0 os := tEr_good gk
  have eT : tT bt sz = q0 brd + 6 * nt + (orK os).length := hT.trans len
  have s4 : sIs (tScan bt sz (tT bt sz)) C R nt (0 + os.length) (fun i => q0 brd + 6 * i + 1) nu := by
    rw [eT]
    exact s2
  obtain ⟨⟨⟨z1, -, -⟩, z2, z3, z4⟩, -, z5⟩ := s4
  have eB : ∃ c0 r0 n0 u0, tB0 bt sz = b0 c0 r0 n0 u0 ∧ c0 = C ∧ r0 = R ∧ n0 = nt ∧ ∀ i, i < 3 * nt → u0 i = nu i := by
    unfold tB0
    exact ⟨_, _, _, _, rfl, z2, z3, z1, z5⟩
  obtain ⟨c0, r0, n0, u0, eB, y1, y2, y3, y4⟩ := eB
  have b1 : bW (tB0 bt sz) = C := by rw [eB]; exact y1
  have b2 : bR (tB0 bt sz) = R := by rw [eB]; exact y2
  have b3 : bN (tB0 bt sz) = nt := by rw [eB]; exact y3
  have b4 : ∀ i, i < 3 * nt → bNu (tB0 bt sz) i = nu i := by rw [eB]; exact y4
  refine ⟨e1.1.trans z4, e1.2, ⟨b1, b2, b3, b4⟩, fun j a b c => ?_⟩
  unfold tV
  rcases c with c | c
  · rw [if_pos c]
    exact hv.1 j c
  · rw [if_neg (by omega)]
    unfold tTile
    rw [show sKn (tW bt sz) (tScan bt sz j) j = some (vl j) from s3 j a (by rw [len] at b; exact b) c]
    rfl
