/-! ===== p40: what the tokens of a game of the law mean ===== -/
/-- values of tokens: of a number it, of a name the tile's -/
def vOk (tk : Nat → Nat) (w : mWd) (nv vl : Nat → Nat) : Prop := (∀ j, tk j = 40 → nv j = vl j) ∧ ∀ i j, tk i = 41 → tk j = 41 → mSame w i j = decide (vl i = vl j)
/-- what stands between: columns and rows, tiles told, orders told, tokens of their names, their numbers, no error -/
def sIs (S : sSt) (C R nt no : Nat) (nk nu : Nat → Nat) : Prop := ((sNt S = nt ∧ sNo S = no ∧ sNn S = 3 * nt) ∧ sCol S = C ∧ sRow S = R ∧ sEr S = (0, 0)) ∧ (∀ i, i < nt → sNk S i = nk i) ∧ ∀ i, i < 3 * nt → sNu S i = nu i
section DScan
variable {tk nv vl : Nat → Nat} {w : mWd}
theorem kn_is (hv : vOk tk w nv vl) {nt : Nat} {nk nk' : Nat → Nat} {p : Nat} (h : ∀ i, i < nt → nk' i = nk i) (hk : ∀ i, i < nt → tk (nk i) = 41 ∧ vl (nk i) = i) (hp : tk p = 41) : mKn w nt nk' p = if vl p < nt then some (vl p) else none := by
  have e : ∀ i, i < nt → mSame w (nk' i) p = decide (i = vl p) := fun i hi => by
    rw [h i hi, hv.2 _ _ (hk i hi).1 hp, (hk i hi).2]
  unfold mKn
  by_cases hq : vl p < nt
  · rw [if_pos hq]
    exact zFf_some hq (by rw [e _ hq]; exact decide_eq_true rfl) (fun j hj => by rw [e j (by omega)]; exact decide_eq_false (by omega))
  · rw [if_neg hq]
    exact zFf_none (fun i hi => by rw [e i hi]; exact decide_eq_false (by omega))
theorem step_29 {S : sSt} {j : Nat} (h : tk j = 29) : sStep tk w nv S j = S := by
  unfold sStep
  rw [if_neg (by omega), if_neg (by omega), if_neg (by omega), if_neg (by omega)]
/-- one tile -/
theorem scan_tile (hv : vOk tk w nv vl) {S : sSt} {C R nt no p : Nat} {nk nu : Nat → Nat} (h : sIs S C R nt no nk nu) (hS : sScan tk w nv p = S) (hn : nt < 16) (hk : ∀ i, i < nt → tk (nk i) = 41 ∧ vl (nk i) = i) (ht : tks tk p [3, 41, 40, 40, 40, 29]) (hnm : vl (p + 1) = nt) (h9 : ∀ e, e < 3 → vl (p + 2 + e) ≤ 9) (hk' : nk nt = p + 1) (hu : ∀ e, e < 3 → nu (3 * nt + e) = vl (p + 2 + e)) : sIs (sScan tk w nv (p + 6)) C R (nt + 1) no nk nu := by
  obtain ⟨⟨⟨a1, a2, a3⟩, a4, a5, a6⟩, a7, a8⟩ := h
  have k0 := ht.head
  have k1 : tk (p + 1) = 41 := ht.tail.head
  have k2 : tk (p + 2) = 40 := ht.tail.tail.head
  have k3 : tk (p + 3) = 40 := ht.tail.tail.tail.head
  have k4 : tk (p + 4) = 40 := ht.tail.tail.tail.tail.head
  have k5 : tk (p + 5) = 29 := ht.tail.tail.tail.tail.tail.head
  -- the word tile
  have e1 : sScan tk w nv (p + 1) = ((3, S.1.2), S.2) := by
    show sStep tk w nv (sScan tk w nv p) p = _
    rw [hS]
    unfold sStep
    rw [if_pos (Or.inr k0), k0]
  -- its name
  have kn : sKn w ((3, S.1.2), S.2) (p + 1) = none := by
    unfold sKn
    rw [show sNt ((3, S.1.2), S.2) = nt from a1]
    rw [kn_is hv (nk := nk) (fun i hi => a7 i hi) hk k1, if_neg (by omega)]
  have e2 : sScan tk w nv (p + 2) = ((3, nt + 1, sNo S, sNn S, sSd S), zU (sNk S) nt (p + 1), sNu S, S.2.2.2.1, (0, 0)) := by
    show sStep tk w nv (sScan tk w nv (p + 1)) (p + 1) = _
    rw [e1]
    unfold sStep
    rw [if_neg (by omega), if_neg (by omega), if_pos k1]
    unfold sName
    rw [if_pos (show sL ((3, S.1.2), S.2) = 3 from rfl), kn, show sNt ((3, S.1.2), S.2) = nt from a1, if_pos hn, if_pos hn, decide_eq_false (show ¬ 16 ≤ nt by omega)]
    show ((3, nt + 1, sNo S, sNn S, sSd S), zU (sNk S) nt (p + 1), sNu S, S.2.2.2.1, sErr false 4 (p + 1) (sErr false 2 (p + 1) (sEr S))) = _
    rw [sErr_f, sErr_f, a6]
  -- its numbers
  have num : ∀ (m j : Nat) (nk2 nu2 : Nat → Nat), tk j = 40 → m < 48 → vl j ≤ 9 → sStep tk w nv ((3, nt + 1, sNo S, m, sSd S), nk2, nu2, S.2.2.2.1, (0, 0)) j = ((3, nt + 1, sNo S, m + 1, sSd S), nk2, zU nu2 m (vl j), S.2.2.2.1, (0, 0)) := by
    intro m j nk2 nu2 hj hm h9
    unfold sStep
    rw [if_neg (by omega), if_neg (by omega), if_neg (by omega), if_pos hj]
    unfold sNum
    rw [if_neg (show ¬ 3 = 1 by decide), if_pos (show sL ((3, nt + 1, sNo S, m, sSd S), nk2, nu2, S.2.2.2.1, ((0, 0) : Nat × Nat)) = 3 from rfl), hv.1 j hj]
    show ((3, nt + 1, sNo S, (if m < 48 then m + 1 else m), sSd S), nk2, (if m < 48 then zU nu2 m (vl j) else nu2), S.2.2.2.1, sErr (decide (9 < vl j)) 5 j (0, 0)) = _
    rw [if_pos hm, if_pos hm, decide_eq_false (show ¬ 9 < vl j by omega), sErr_f]
  have h0 := h9 0 (by decide)
  have h1 := h9 1 (by decide)
  have h2 := h9 2 (by decide)
  have e3 : sScan tk w nv (p + 3) = ((3, nt + 1, sNo S, sNn S + 1, sSd S), zU (sNk S) nt (p + 1), zU (sNu S) (sNn S) (vl (p + 2)), S.2.2.2.1, (0, 0)) := by
    show sStep tk w nv (sScan tk w nv (p + 2)) (p + 2) = _
    rw [e2]
    exact num _ _ _ _ k2 (by omega) h0
  have e4 : sScan tk w nv (p + 4) = ((3, nt + 1, sNo S, sNn S + 1 + 1, sSd S), zU (sNk S) nt (p + 1), zU (zU (sNu S) (sNn S) (vl (p + 2))) (sNn S + 1) (vl (p + 3)), S.2.2.2.1, (0, 0)) := by
    show sStep tk w nv (sScan tk w nv (p + 3)) (p + 3) = _
    rw [e3]
    exact num _ _ _ _ k3 (by omega) h1
  have e5 : sScan tk w nv (p + 5) = ((3, nt + 1, sNo S, sNn S + 1 + 1 + 1, sSd S), zU (sNk S) nt (p + 1), zU (zU (zU (sNu S) (sNn S) (vl (p + 2))) (sNn S + 1) (vl (p + 3))) (sNn S + 1 + 1) (vl (p + 4)), S.2.2.2.1, (0, 0)) := by
    show sStep tk w nv (sScan tk w nv (p + 4)) (p + 4) = _
    rw [e4]
    exact num _ _ _ _ k4 (by omega) h2
  have e6 : sScan tk w nv (p + 6) = sScan tk w nv (p + 5) := by
    show sStep tk w nv (sScan tk w nv (p + 5)) (p + 5) = _
    exact step_29 k5
  rw [e6, e5]
  refine ⟨⟨⟨rfl, a2, ?_⟩, a4, a5, rfl⟩, fun i hi => ?_, fun i hi => ?_⟩
  · show sNn S + 1 + 1 + 1 = 3 * (nt + 1)
    omega
  · show zU (sNk S) nt (p + 1) i = nk i
    by_cases hq : i = nt
    · rw [hq, zU_same, hk']
    · rw [zU_ne _ _ hq]; exact a7 i (by omega)
  · show zU (zU (zU (sNu S) (sNn S) (vl (p + 2))) (sNn S + 1) (vl (p + 3))) (sNn S + 1 + 1) (vl (p + 4)) i = nu i
    rw [a3]
    by_cases q2 : i = 3 * nt + 2
    · rw [q2, zU_same]
      exact (hu 2 (by decide)).symm
    rw [zU_ne _ _ (show i ≠ 3 * nt + 1 + 1 by omega)]
    by_cases q1 : i = 3 * nt + 1
    · rw [q1, zU_same]
      exact (hu 1 (by decide)).symm
    rw [zU_ne _ _ q1]
    by_cases q0 : i = 3 * nt
    · rw [q0, zU_same]
      exact (hu 0 (by decide)).symm
    rw [zU_ne _ _ q0]
    exact a8 i (by omega)
/-- all tiles -/
theorem scan_tiles (hv : vOk tk w nv vl) {C R N q0 : Nat} {nk nu : Nat → Nat} (hN : N ≤ 16) (h0 : sIs (sScan tk w nv q0) C R 0 0 nk nu) (ht : tks tk q0 (tlK N)) (hnm : ∀ i, i < N → vl (q0 + 6 * i + 1) = i) (h9 : ∀ i e, i < N → e < 3 → vl (q0 + 6 * i + 2 + e) ≤ 9) (hk : ∀ i, i < N → nk i = q0 + 6 * i + 1) (hu : ∀ i e, i < N → e < 3 → nu (3 * i + e) = vl (q0 + 6 * i + 2 + e)) : ∀ k, k ≤ N → sIs (sScan tk w nv (q0 + 6 * k)) C R k 0 nk nu := by
  have tl : ∀ k, k < N → tks tk (q0 + 6 * k) [3, 41, 40, 40, 40, 29] := by
    have : ∀ (m q : Nat), tks tk q (tlK m) → ∀ k, k < m → tks tk (q + 6 * k) [3, 41, 40, 40, 40, 29] := by
      intro m
      induction m with
      | zero => intro q _ k hk; omega
      | succ m ih =>
        intro q hq k hk
        cases k with
        | zero => exact hq.left
        | succ k =>
          have := ih (q + 6) hq.right k (by omega)
          rw [show q + 6 * (k + 1) = q + 6 + 6 * k by omega]
          exact this
    exact this N q0 ht
  intro k
  induction k with
  | zero => intro _; exact h0
  | succ k ih =>
    intro hk1
    have kk : ∀ i, i < k → tk (nk i) = 41 ∧ vl (nk i) = i := fun i hi => by
      rw [hk i (by omega)]
      exact ⟨(tl i (by omega)).tail.head, hnm i (by omega)⟩
    have := scan_tile hv (ih (by omega)) rfl (by omega) kk (tl k (by omega)) (hnm k (by omega)) (fun e he => h9 k e (by omega) he) (hk k (by omega)) (fun e he => hu k e (by omega) he)
    rw [show q0 + 6 * (k + 1) = q0 + 6 * k + 6 by omega]
    exact this
/-- tokens of an order behind its first -/
theorem scan_body (hv : vOk tk w nv vl) {C R N no q : Nat} {nk nu : Nat → Nat} (hk : ∀ i, i < N → tk (nk i) = 41 ∧ vl (nk i) = i) : ∀ (m p : Nat), p + m = q → sIs (sScan tk w nv p) C R N no nk nu → (sL (sScan tk w nv p) ≠ 1 ∧ sL (sScan tk w nv p) ≠ 3) → (∀ j, p ≤ j → j < q → tk j ≠ 1 ∧ tk j ≠ 3 ∧ tk j ≠ 4 ∧ tk j ≠ 7 ∧ tk j ≠ 8) → (∀ j, p ≤ j → j < q → tk j = 41 → vl j < N) → sIs (sScan tk w nv q) C R N no nk nu ∧ ∀ j, p ≤ j → j < q → tk j = 41 → sKn w (sScan tk w nv j) j = some (vl j)
  | 0, p, hq, h, _, _, _ => by
    have hq' : p = q := hq
    subst hq'
    exact ⟨h, fun j a b => absurd b (by omega)⟩
  | m + 1, p, hq, h, hL, hT, hV => by
    have hp := hT p (Nat.le_refl p) (by omega)
    have kn : tk p = 41 → sKn w (sScan tk w nv p) p = some (vl p) := fun h41 => by
      unfold sKn
      rw [h.1.1.1, kn_is hv (nk := nk) h.2.1 hk h41, if_pos (hV p (Nat.le_refl p) (by omega) h41)]
    have key : sIs (sScan tk w nv (p + 1)) C R N no nk nu ∧ (sL (sScan tk w nv (p + 1)) ≠ 1 ∧ sL (sScan tk w nv (p + 1)) ≠ 3) := by
      show sIs (sStep tk w nv (sScan tk w nv p) p) C R N no nk nu ∧ (sL (sStep tk w nv (sScan tk w nv p) p) ≠ 1 ∧ sL (sStep tk w nv (sScan tk w nv p) p) ≠ 3)
      unfold sStep
      rw [if_neg (by omega), if_neg (by omega)]
      by_cases h41 : tk p = 41
      · rw [if_pos h41]
        unfold sName
        rw [if_neg hL.2, kn h41]
        obtain ⟨⟨a1, a4, a5, a6⟩, a7, a8⟩ := h
        refine ⟨⟨⟨a1, a4, a5, ?_⟩, a7, a8⟩, hL⟩
        show sErr false 3 p (sEr (sScan tk w nv p)) = (0, 0)
        rw [sErr_f]
        exact a6
      · rw [if_neg h41]
        by_cases h40 : tk p = 40
        · rw [if_pos h40]
          unfold sNum
          rw [if_neg hL.1, if_neg hL.2]
          exact ⟨h, hL⟩
        · rw [if_neg h40]
          exact ⟨h, hL⟩
    obtain ⟨b1, b2⟩ := scan_body hv hk m (p + 1) (by omega) key.1 key.2 (fun j a b => hT j (by omega) b) (fun j a b c => hV j (by omega) b c)
    refine ⟨b1, fun j a b c => ?_⟩
    by_cases hj : j = p
    · rw [hj] at c ⊢
      exact kn c
    · exact b2 j (by omega) b c
/-- the first token of an order -/
theorem scan_first {C R N no p : Nat} {nk nu : Nat → Nat} (h : sIs (sScan tk w nv p) C R N no nk nu) (hp : tk p = 4 ∨ tk p = 7 ∨ tk p = 8) (hn : no < 16) : sIs (sScan tk w nv (p + 1)) C R N (no + 1) nk nu ∧ (sL (sScan tk w nv (p + 1)) ≠ 1 ∧ sL (sScan tk w nv (p + 1)) ≠ 3) := by
  obtain ⟨⟨⟨a1, a2, a3⟩, a4, a5, a6⟩, a7, a8⟩ := h
  have e : sScan tk w nv (p + 1) = ((tk p, sNt (sScan tk w nv p), sNo (sScan tk w nv p) + 1, sNn (sScan tk w nv p), sSd (sScan tk w nv p)), sNk (sScan tk w nv p), sNu (sScan tk w nv p), (sScan tk w nv p).2.2.2.1, (0, 0)) := by
    show sStep tk w nv (sScan tk w nv p) p = _
    unfold sStep
    rw [if_neg (by omega), if_pos hp, a2, decide_eq_false (show ¬ 16 ≤ no by omega), sErr_f, a6]
  rw [e]
  refine ⟨⟨⟨⟨a1, ?_, a3⟩, a4, a5, rfl⟩, a7, a8⟩, ?_⟩
  · show sNo (sScan tk w nv p) + 1 = no + 1
    rw [a2]
  · show tk p ≠ 1 ∧ tk p ≠ 3
    omega
end DScan
