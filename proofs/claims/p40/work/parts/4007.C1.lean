/-! ===== p40: readings of sums and tests, row by row ===== -/
def vP (tk : Nat → Nat) (k m d p b q : Nat) (c : List pSt) : Prop := ∀ n, k ≤ n → pE tk n m d p b = some (.inr (q, c))
section VP
variable {tk : Nat → Nat} {d p b q r k : Nat} {c c1 c2 : List pSt}
theorem vP.mono {m k' : Nat} (h : vP tk k m d p b q c) (hk : k ≤ k') : vP tk k' m d p b q c := fun n hn => h n (Nat.le_trans hk hn)
theorem vP_val (h : ∀ rec : Nat → Nat → Nat → Nat → pRes, pVal tk rec d p b = some (.inr (q, c))) : vP tk 1 0 d p b q c := fun n hn => by
  obtain ⟨n, rfl⟩ : ∃ i, n = i + 1 := ⟨n - 1, by omega⟩
  exact h _
/-- one alone -/
theorem vP_head {m o l : Nat} {op : Nat → Bool} (hh : ∀ n, pE tk (n + 1) m d p b = pHead (pE tk n) o l d p b) (hl : ∀ n q b, pE tk (n + 1) l d q b = pLoop tk (pE tk n) o l op d q b) (hk : 1 ≤ k) (h : vP tk k o d p b q c) (hq : op (tk q) = false) : vP tk (k + 1) m d p b q c := fun n hn => by
  obtain ⟨n, rfl⟩ : ∃ i, n = i + 1 + 1 := ⟨n - 2, by omega⟩
  rw [hh]
  unfold pHead
  rw [h (n + 1) (by omega)]
  show pThen (pE tk (n + 1) l d q (b + c.length)) (fun p2 c2 => pOn p2 (c ++ c2)) = _
  rw [hl]
  unfold pLoop
  rw [hq]
  show pOn q (c ++ []) = _
  rw [List.append_nil]
/-- two -/
theorem vP_two {m o l : Nat} {op : Nat → Bool} (hh : ∀ n, pE tk (n + 1) m d p b = pHead (pE tk n) o l d p b) (hl : ∀ n q b, pE tk (n + 1) l d q b = pLoop tk (pE tk n) o l op d q b) (hk : 1 ≤ k) (h : vP tk k o d p b q c1) (hq : op (tk q) = true) (h2 : vP tk k o d (q + 1) (b + c1.length) r c2) (hr : op (tk r) = false) : vP tk (k + 2) m d p b r (c1 ++ (c2 ++ [(tk q, 0, b + c1.length - 1, b + c1.length + c2.length - 1)])) := fun n hn => by
  obtain ⟨n, rfl⟩ : ∃ i, n = i + 1 + 1 + 1 := ⟨n - 3, by omega⟩
  rw [hh]
  unfold pHead
  rw [h (n + 1 + 1) (by omega)]
  show pThen (pE tk (n + 1 + 1) l d q (b + c1.length)) (fun p2 c2 => pOn p2 (c1 ++ c2)) = _
  rw [hl]
  unfold pLoop
  rw [hq, if_pos rfl, h2 (n + 1) (by omega)]
  show pThen (pThen (pE tk (n + 1) l d r (b + c1.length + c2.length + 1)) (fun p2 c3 => pOn p2 (c2 ++ (tk q, 0, b + c1.length - 1, b + c1.length + c2.length - 1) :: c3))) (fun p2 c2 => pOn p2 (c1 ++ c2)) = _
  rw [hl]
  unfold pLoop
  rw [hr]
  rfl
theorem vP_prod (hk : 1 ≤ k) (h : vP tk k 0 d p b q c) (hq : pOpM (tk q) = false) : vP tk (k + 1) 1 d p b q c := vP_head (fun _ => rfl) (fun _ _ _ => rfl) hk h hq
theorem vP_prod2 (hk : 1 ≤ k) (h : vP tk k 0 d p b q c1) (hq : pOpM (tk q) = true) (h2 : vP tk k 0 d (q + 1) (b + c1.length) r c2) (hr : pOpM (tk r) = false) : vP tk (k + 2) 1 d p b r (c1 ++ (c2 ++ [(tk q, 0, b + c1.length - 1, b + c1.length + c2.length - 1)])) := vP_two (fun _ => rfl) (fun _ _ _ => rfl) hk h hq h2 hr
theorem vP_sum (hk : 1 ≤ k) (h : vP tk k 1 d p b q c) (hq : pOpA (tk q) = false) : vP tk (k + 1) 3 d p b q c := vP_head (fun _ => rfl) (fun _ _ _ => rfl) hk h hq
theorem vP_sum2 (hk : 1 ≤ k) (h : vP tk k 1 d p b q c1) (hq : pOpA (tk q) = true) (h2 : vP tk k 1 d (q + 1) (b + c1.length) r c2) (hr : pOpA (tk r) = false) : vP tk (k + 2) 3 d p b r (c1 ++ (c2 ++ [(tk q, 0, b + c1.length - 1, b + c1.length + c2.length - 1)])) := vP_two (fun _ => rfl) (fun _ _ _ => rfl) hk h hq h2 hr
theorem vP_and (hk : 1 ≤ k) (h : vP tk k 5 d p b q c) (hq : pOpN (tk q) = false) : vP tk (k + 1) 6 d p b q c := vP_head (fun _ => rfl) (fun _ _ _ => rfl) hk h hq
theorem vP_and2 (hk : 1 ≤ k) (h : vP tk k 5 d p b q c1) (hq : pOpN (tk q) = true) (h2 : vP tk k 5 d (q + 1) (b + c1.length) r c2) (hr : pOpN (tk r) = false) : vP tk (k + 2) 6 d p b r (c1 ++ (c2 ++ [(tk q, 0, b + c1.length - 1, b + c1.length + c2.length - 1)])) := vP_two (fun _ => rfl) (fun _ _ _ => rfl) hk h hq h2 hr
theorem vP_or (hk : 1 ≤ k) (h : vP tk k 6 d p b q c) (hq : pOpO (tk q) = false) : vP tk (k + 1) 8 d p b q c := vP_head (fun _ => rfl) (fun _ _ _ => rfl) hk h hq
theorem vP_or2 (hk : 1 ≤ k) (h : vP tk k 6 d p b q c1) (hq : pOpO (tk q) = true) (h2 : vP tk k 6 d (q + 1) (b + c1.length) r c2) (hr : pOpO (tk r) = false) : vP tk (k + 2) 8 d p b r (c1 ++ (c2 ++ [(tk q, 0, b + c1.length - 1, b + c1.length + c2.length - 1)])) := vP_two (fun _ => rfl) (fun _ _ _ => rfl) hk h hq h2 hr
theorem vP_neg (hp : tk p = 32) (hd : d < 8) (h : vP tk k 0 (d + 1) (p + 1) b q c) : vP tk (k + 1) 0 d p b q (c ++ [(44, 0, b + c.length - 1, 0)]) := fun n hn => by
  obtain ⟨n, rfl⟩ : ∃ i, n = i + 1 := ⟨n - 1, by omega⟩
  show pVal tk (pE tk n) d p b = _
  unfold pVal
  rw [if_neg (by omega), if_neg (by omega), if_pos hp, if_pos hd, h n (by omega)]
  rfl
theorem vP_par (hp : tk p = 25) (hd : d < 8) (h : vP tk k 3 (d + 1) (p + 1) b q c) (hq : tk q = 26) : vP tk (k + 1) 0 d p b (q + 1) c := fun n hn => by
  obtain ⟨n, rfl⟩ : ∃ i, n = i + 1 := ⟨n - 1, by omega⟩
  show pVal tk (pE tk n) d p b = _
  unfold pVal
  rw [if_neg (by omega), if_neg (by omega), if_neg (by omega), if_pos hp, if_pos hd, h n (by omega)]
  show pEat tk 26 q (pOn (q + 1) c) = _
  unfold pEat
  rw [if_pos hq]
theorem vP_mm (hp : tk p = 23 ∨ tk p = 24) (hp1 : tk (p + 1) = 25) (hd : d < 8) (h : vP tk k 3 (d + 1) (p + 2) b q c1) (hq : tk q = 30) (h2 : vP tk k 3 (d + 1) (q + 1) (b + c1.length) r c2) (hr : tk r = 26) : vP tk (k + 1) 0 d p b (r + 1) (c1 ++ (c2 ++ [(tk p, 0, b + c1.length - 1, b + c1.length + c2.length - 1)])) := fun n hn => by
  obtain ⟨n, rfl⟩ : ∃ i, n = i + 1 := ⟨n - 1, by omega⟩
  show pVal tk (pE tk n) d p b = _
  unfold pVal
  rw [if_neg (by omega), if_neg (by omega), if_neg (by omega), if_neg (by omega), if_pos hp]
  unfold pEat
  rw [if_pos hp1, if_pos hd, h n (by omega)]
  show (if tk q = 30 then pThen (pE tk n 3 (d + 1) (q + 1) (b + c1.length)) (fun p2 c2 => if tk p2 = 26 then pOn (p2 + 1) (c1 ++ (c2 ++ [(tk p, 0, b + c1.length - 1, b + c1.length + c2.length - 1)])) else pBad p2) else pBad q) = _
  rw [if_pos hq, h2 n (by omega)]
  show (if tk r = 26 then pOn (r + 1) (c1 ++ (c2 ++ [(tk p, 0, b + c1.length - 1, b + c1.length + c2.length - 1)])) else pBad r) = _
  rw [if_pos hr]
theorem vP_not (hp : tk p = 20) (hd : d < 8) (h : vP tk k 5 (d + 1) (p + 1) b q c) : vP tk (k + 1) 5 d p b q (c ++ [(20, 0, b + c.length - 1, 0)]) := fun n hn => by
  obtain ⟨n, rfl⟩ : ∃ i, n = i + 1 := ⟨n - 1, by omega⟩
  show pSin tk (pE tk n) d p b = _
  unfold pSin
  rw [if_pos hp, if_pos hd, h n (by omega)]
  rfl
theorem vP_bra (hp : tk p = 27) (hd : d < 8) (h : vP tk k 8 (d + 1) (p + 1) b q c) (hq : tk q = 28) : vP tk (k + 1) 5 d p b (q + 1) c := fun n hn => by
  obtain ⟨n, rfl⟩ : ∃ i, n = i + 1 := ⟨n - 1, by omega⟩
  show pSin tk (pE tk n) d p b = _
  unfold pSin
  rw [if_neg (by omega), if_pos hp, if_pos hd, h n (by omega)]
  show pEat tk 28 q (pOn (q + 1) c) = _
  unfold pEat
  rw [if_pos hq]
theorem vP_on (hp : tk p = 18 ∨ tk p = 19) (h1 : tk (p + 1) = 41) : vP tk 1 5 d p b (p + 2) [(tk p, p + 1, 0, 0)] := fun n hn => by
  obtain ⟨n, rfl⟩ : ∃ i, n = i + 1 := ⟨n - 1, by omega⟩
  show pSin tk (pE tk n) d p b = _
  unfold pSin
  rw [if_neg (by omega), if_neg (by omega), if_pos hp]
  unfold pEat
  rw [if_pos h1]
theorem vP_cmp (hp : tk p ≠ 20 ∧ tk p ≠ 27 ∧ tk p ≠ 18 ∧ tk p ≠ 19) (h : vP tk k 3 d p b q c1) (hq : 35 ≤ tk q ∧ tk q ≤ 39) (h2 : vP tk k 3 d (q + 1) (b + c1.length) r c2) : vP tk (k + 1) 5 d p b r (c1 ++ (c2 ++ [(tk q, 0, b + c1.length - 1, b + c1.length + c2.length - 1)])) := fun n hn => by
  obtain ⟨n, rfl⟩ : ∃ i, n = i + 1 := ⟨n - 1, by omega⟩
  show pSin tk (pE tk n) d p b = _
  unfold pSin
  rw [if_neg (by omega), if_neg (by omega), if_neg (by omega), h n (by omega)]
  show (if 35 ≤ tk q ∧ tk q ≤ 39 then pThen (pE tk n 3 d (q + 1) (b + c1.length)) (fun p2 c2 => pOn p2 (c1 ++ (c2 ++ [(tk q, 0, b + c1.length - 1, b + c1.length + c2.length - 1)]))) else pBad q) = _
  rw [if_pos hq, h2 n (by omega)]
  rfl
end VP
