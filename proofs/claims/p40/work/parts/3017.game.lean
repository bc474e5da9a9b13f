/-! ===== what a good reading is made of: its tokens, its steps, its tree ===== -/
def pIn (k : Nat) : Prop := 10 ≤ k ∧ k ≤ 41 ∧ k ≠ 29
def pRng (tk : Nat → Nat) (p q : Nat) : Prop := ∀ j, p ≤ j → j < q → pIn (tk j)
theorem pRng.nil (tk : Nat → Nat) (p : Nat) : pRng tk p p := fun j h1 h2 => absurd (Nat.lt_of_le_of_lt h1 h2) (Nat.lt_irrefl _)
theorem pRng.one {tk : Nat → Nat} {p : Nat} (h : pIn (tk p)) : pRng tk p (p + 1) := fun j h1 h2 => by rw [show j = p by omega]; exact h
theorem pRng.join {tk : Nat → Nat} {p r q : Nat} (h1 : pRng tk p r) (h2 : pRng tk r q) : pRng tk p q := fun j a b => by
  by_cases hq : j < r
  · exact h1 j a hq
  · exact h2 j (by omega) b
def pStOk (tk : Nat → Nat) (p q : Nat) (s : pSt) : Prop := (s.1 = 40 → p ≤ s.2.1 ∧ s.2.1 < q ∧ tk s.2.1 = 40) ∧ ((s.1 = 16 ∨ s.1 = 18 ∨ s.1 = 19) → p ≤ s.2.1 ∧ s.2.1 < q ∧ tk s.2.1 = 41) ∧ 10 ≤ s.1 ∧ s.1 ≤ 44
def pSts (tk : Nat → Nat) (p q : Nat) (cd : List pSt) : Prop := ∀ s, s ∈ cd → pStOk tk p q s
theorem pSts.nil (tk : Nat → Nat) (p q : Nat) : pSts tk p q [] := fun s h => absurd h List.not_mem_nil
theorem pSts.mono {tk : Nat → Nat} {p q p' q' : Nat} {cd : List pSt} (h : pSts tk p q cd) (h1 : p' ≤ p) (h2 : q ≤ q') : pSts tk p' q' cd := by
  intro s hs
  obtain ⟨a, b, c⟩ := h s hs
  refine ⟨fun z => ?_, fun z => ?_, c⟩
  · obtain ⟨x, y, w⟩ := a z; exact ⟨by omega, by omega, w⟩
  · obtain ⟨x, y, w⟩ := b z; exact ⟨by omega, by omega, w⟩
theorem pSts.app {tk : Nat → Nat} {p q : Nat} {c1 c2 : List pSt} (h1 : pSts tk p q c1) (h2 : pSts tk p q c2) : pSts tk p q (c1 ++ c2) := by
  intro s hs
  rcases List.mem_append.mp hs with z | z
  · exact h1 s z
  · exact h2 s z
theorem pSts.one {tk : Nat → Nat} {p q : Nat} {s : pSt} (h : pStOk tk p q s) : pSts tk p q [s] := by
  intro t ht
  rw [List.mem_singleton.mp ht]
  exact h
theorem pSts.op {tk : Nat → Nat} {p q k l r : Nat} (h : 10 ≤ k ∧ k ≤ 44) (h1 : k ≠ 40) (h2 : ¬ (k = 16 ∨ k = 18 ∨ k = 19)) : pSts tk p q [((k, 0, l, r) : pSt)] := pSts.one ⟨fun z => absurd z h1, fun z => absurd z h2, h⟩
/-- trees: false a number, true a test -/
def pLeaf (ty : Bool) (k : Nat) : Prop := (ty = false ∧ (k = 40 ∨ (10 ≤ k ∧ k ≤ 16))) ∨ (ty = true ∧ (k = 18 ∨ k = 19))
def pUn (ty : Bool) (k : Nat) : Prop := (ty = false ∧ k = 44) ∨ (ty = true ∧ k = 20)
def pBi (ty a : Bool) (k : Nat) : Prop := (ty = false ∧ a = false ∧ (k = 23 ∨ k = 24 ∨ k = 31 ∨ k = 32 ∨ k = 33 ∨ k = 34)) ∨ (ty = true ∧ a = false ∧ 35 ≤ k ∧ k ≤ 39) ∨ (ty = true ∧ a = true ∧ (k = 21 ∨ k = 22))
def pTree : Nat → Bool → Nat → List pSt → Prop
  | 0, _, _, _ => False
  | n + 1, ty, b, cd => (∃ k t, pLeaf ty k ∧ cd = [(k, t, 0, 0)]) ∨ (∃ c k, pUn ty k ∧ pTree n ty b c ∧ cd = c ++ [(k, 0, b + c.length - 1, 0)]) ∨ (∃ c1 c2 a k, pBi ty a k ∧ pTree n a b c1 ∧ pTree n a (b + c1.length) c2 ∧ cd = c1 ++ (c2 ++ [(k, 0, b + c1.length - 1, b + c1.length + c2.length - 1)]))
theorem pTree.mono : ∀ {n m : Nat} {ty : Bool} {b : Nat} {cd : List pSt}, n ≤ m → pTree n ty b cd → pTree m ty b cd
  | 0, _, _, _, _, _, h => h.elim
  | n + 1, 0, _, _, _, hm, _ => absurd hm (by omega)
  | n + 1, m + 1, ty, b, cd, hm, h => by
    rcases h with h | ⟨c, k, h1, h2, h3⟩ | ⟨c1, c2, a, k, h1, h2, h3, h4⟩
    · exact Or.inl h
    · exact Or.inr (Or.inl ⟨c, k, h1, pTree.mono (by omega) h2, h3⟩)
    · exact Or.inr (Or.inr ⟨c1, c2, a, k, h1, pTree.mono (by omega) h2, pTree.mono (by omega) h3, h4⟩)
def pTr (ty : Bool) (b : Nat) (cd : List pSt) : Prop := ∃ n, pTree n ty b cd
theorem pTr.leaf {ty : Bool} {b k t : Nat} (h : pLeaf ty k) : pTr ty b [(k, t, 0, 0)] := ⟨1, Or.inl ⟨k, t, h, rfl⟩⟩
theorem pTr.un {ty : Bool} {b k : Nat} {c : List pSt} (h : pUn ty k) (hc : pTr ty b c) : pTr ty b (c ++ [(k, 0, b + c.length - 1, 0)]) := by
  obtain ⟨n, hn⟩ := hc
  exact ⟨n + 1, Or.inr (Or.inl ⟨c, k, h, hn, rfl⟩)⟩
theorem pTr.bi {ty a : Bool} {b k : Nat} {c1 c2 : List pSt} (h : pBi ty a k) (h1 : pTr a b c1) (h2 : pTr a (b + c1.length) c2) : pTr ty b (c1 ++ (c2 ++ [(k, 0, b + c1.length - 1, b + c1.length + c2.length - 1)])) := by
  obtain ⟨n1, e1⟩ := h1
  obtain ⟨n2, e2⟩ := h2
  exact ⟨max n1 n2 + 1, Or.inr (Or.inr ⟨c1, c2, a, k, h, pTree.mono (Nat.le_max_left _ _) e1, pTree.mono (Nat.le_max_right _ _) e2, rfl⟩)⟩
def pTy (m : Nat) : Bool := decide (5 ≤ m)
theorem pThen_ok {r : pRes} {f : Nat → List pSt → pRes} {y : Nat × List pSt} (h : pThen r f = some (.inr y)) : ∃ p cd, r = some (.inr (p, cd)) ∧ f p cd = some (.inr y) := by
  rcases pThen_on h with ⟨e, -, h2⟩ | h2
  · cases h2
  · exact h2
theorem pEat_ok {tk : Nat → Nat} {k p : Nat} {r : pRes} {y : Nat × List pSt} (h : pEat tk k p r = some (.inr y)) : tk p = k ∧ r = some (.inr y) := by
  rcases pEat_on h with h2 | ⟨-, h2⟩
  · exact h2
  · cases h2
/-! enough fuel -/
theorem pThen_tot {r : pRes} {f : Nat → List pSt → pRes} (h : ∃ x, r = some x) (h1 : ∀ p cd, r = some (.inr (p, cd)) → ∃ x, f p cd = some x) : ∃ x, pThen r f = some x := by
  obtain ⟨x, rfl⟩ := h
  match x, h1 with
  | .inl e, _ => exact ⟨_, rfl⟩
  | .inr (p, cd), h1 => exact h1 p cd rfl
theorem pEat_tot {tk : Nat → Nat} {k p : Nat} {r : pRes} (h : tk p = k → ∃ x, r = some x) : ∃ x, pEat tk k p r = some x := by
  unfold pEat
  by_cases hq : tk p = k
  · rw [if_pos hq]; exact h hq
  · rw [if_neg hq]; exact ⟨_, rfl⟩
def pWt (m : Nat) : Nat := match m with
  | 1 => 1
  | 3 => 2
  | 5 => 3
  | 6 => 4
  | 8 => 5
  | _ => 0
theorem pE_tot {tk : Nat → Nat} {T : Nat} (ht : pTk tk T) : ∀ (n m d p b : Nat), m ≤ 9 → p ≤ T → (T - p) * 6 + pWt m < n → ∃ x, pE tk n m d p b = some x := by
  intro n
  induction n with
  | zero => intro m d p b _ _ h; exact absurd h (by omega)
  | succ n ih =>
    intro m d p b hm hp h
    have hlt : ∀ j k, j ≤ T → tk j = k → k ≠ 42 → k ≠ 43 → j + 1 ≤ T := fun j k hj h1 h2 h3 => ht.lt hj (by omega) (by omega)
    have fine : ∀ m d p b q cd, p ≤ T → pE tk n m d p b = some (.inr (q, cd)) → q ≤ T ∧ p + cd.length ≤ q ∧ (pLp m = false → p + 1 ≤ q) := fun m d p b q cd hp h => by
      have := pE_fine ht n m d p b _ hp h
      exact ⟨this.1, this.2.1, fun z => by have h9 := this.2.2 z; have h8 := this.2.1; omega⟩
    have rc : ∀ m d p' b, m ≤ 9 → p' ≤ T → p + 1 ≤ p' → ∃ x, pE tk n m d p' b = some x := fun m' d p' b hm' hp' hpp => ih m' d p' b hm' hp' (by
      have : pWt m' ≤ 5 := by unfold pWt; split <;> omega
      omega)
    have hhead : ∀ o l, o ≤ 9 → l ≤ 9 → pLp o = false → pWt o < pWt m → ∃ x, pHead (pE tk n) o l d p b = some x := by
      intro o l ho hl hlo hw
      refine pThen_tot (ih o d p b ho hp (by omega)) (fun p1 c1 h1 => ?_)
      obtain ⟨f1, f2, f3⟩ := fine _ _ _ _ _ _ hp h1
      exact pThen_tot (rc l d p1 _ hl f1 (f3 hlo)) (fun p2 c2 _ => ⟨_, rfl⟩)
    have hloop : ∀ o l (op : Nat → Bool), o ≤ 9 → l ≤ 9 → pLp o = false → (∀ k, op k = true → k ≠ 42 ∧ k ≠ 43) → ∃ x, pLoop tk (pE tk n) o l op d p b = some x := by
      intro o l op ho hl hlo hop
      unfold pLoop
      cases hq : op (tk p) with
      | false => exact ⟨_, rfl⟩
      | true =>
        rw [if_pos rfl]
        have hp1 := hlt p _ hp rfl (hop _ hq).1 (hop _ hq).2
        refine pThen_tot (rc o d (p + 1) b ho hp1 (Nat.le_refl _)) (fun p1 c1 h1 => ?_)
        obtain ⟨f1, f2, f3⟩ := fine _ _ _ _ _ _ hp1 h1
        exact pThen_tot (rc l d p1 _ hl f1 (by omega)) (fun p2 c2 _ => ⟨_, rfl⟩)
    have hval : ∃ x, pVal tk (pE tk n) d p b = some x := by
      unfold pVal
      split
      · exact ⟨_, rfl⟩
      split
      · exact pEat_tot (fun _ => pEat_tot (fun _ => ⟨_, rfl⟩))
      split
      · rename_i h0
        have hp1 := hlt p _ hp h0 (by decide) (by decide)
        split
        · exact pThen_tot (rc 0 (d + 1) (p + 1) b (by decide) hp1 (Nat.le_refl _)) (fun p1 c1 _ => ⟨_, rfl⟩)
        · exact ⟨_, rfl⟩
      split
      · rename_i h0
        have hp1 := hlt p _ hp h0 (by decide) (by decide)
        split
        · exact pThen_tot (rc 3 (d + 1) (p + 1) b (by decide) hp1 (Nat.le_refl _)) (fun p1 c1 _ => pEat_tot (fun _ => ⟨_, rfl⟩))
        · exact ⟨_, rfl⟩
      split
      · rename_i h0
        have hp1 := hlt p _ hp rfl (by omega) (by omega)
        refine pEat_tot (fun h1 => ?_)
        have hp2 := hlt _ _ hp1 h1 (by decide) (by decide)
        split
        · refine pThen_tot (rc 3 (d + 1) (p + 2) b (by decide) hp2 (by omega)) (fun p1 c1 h3 => pEat_tot (fun h5 => ?_))
          obtain ⟨f1, f2, f3⟩ := fine _ _ _ _ _ _ hp2 h3
          have hp3 := hlt _ _ f1 h5 (by decide) (by decide)
          exact pThen_tot (rc 3 (d + 1) (p1 + 1) _ (by decide) hp3 (by omega)) (fun p2 c2 _ => pEat_tot (fun _ => ⟨_, rfl⟩))
        · exact ⟨_, rfl⟩
      · exact ⟨_, rfl⟩
    have hsin : 3 ≤ pWt m → ∃ x, pSin tk (pE tk n) d p b = some x := by
      intro hw
      unfold pSin
      split
      · rename_i h0
        have hp1 := hlt p _ hp h0 (by decide) (by decide)
        split
        · exact pThen_tot (rc 5 (d + 1) (p + 1) b (by decide) hp1 (Nat.le_refl _)) (fun p1 c1 _ => ⟨_, rfl⟩)
        · exact ⟨_, rfl⟩
      split
      · rename_i h0
        have hp1 := hlt p _ hp h0 (by decide) (by decide)
        split
        · exact pThen_tot (rc 8 (d + 1) (p + 1) b (by decide) hp1 (Nat.le_refl _)) (fun p1 c1 _ => pEat_tot (fun _ => ⟨_, rfl⟩))
        · exact ⟨_, rfl⟩
      split
      · exact pEat_tot (fun _ => ⟨_, rfl⟩)
      · refine pThen_tot (ih 3 d p b (by decide) hp (by show (T - p) * 6 + 2 < n; omega)) (fun p1 c1 h1 => ?_)
        obtain ⟨f1, f2, f3⟩ := fine _ _ _ _ _ _ hp h1
        split
        · rename_i h3
          have hp1 := hlt p1 _ f1 rfl (by omega) (by omega)
          exact pThen_tot (rc 3 d (p1 + 1) _ (by decide) hp1 (by have := f3 rfl; omega)) (fun p2 c2 _ => ⟨_, rfl⟩)
        · exact ⟨_, rfl⟩
    have hM : ∀ k, pOpM k = true → k ≠ 42 ∧ k ≠ 43 := fun k hk => by
      refine ⟨fun z => ?_, fun z => ?_⟩ <;> (subst z; revert hk; decide)
    have hA : ∀ k, pOpA k = true → k ≠ 42 ∧ k ≠ 43 := fun k hk => by
      refine ⟨fun z => ?_, fun z => ?_⟩ <;> (subst z; revert hk; decide)
    have hN : ∀ k, pOpN k = true → k ≠ 42 ∧ k ≠ 43 := fun k hk => by
      refine ⟨fun z => ?_, fun z => ?_⟩ <;> (subst z; revert hk; decide)
    have hO : ∀ k, pOpO k = true → k ≠ 42 ∧ k ≠ 43 := fun k hk => by
      refine ⟨fun z => ?_, fun z => ?_⟩ <;> (subst z; revert hk; decide)
    match m, hm, hhead, hsin with
    | 0, _, _, _ => exact hval
    | 1, _, hhead, _ => exact hhead 0 2 (by decide) (by decide) rfl (by decide)
    | 2, _, _, _ => exact hloop 0 2 pOpM (by decide) (by decide) rfl hM
    | 3, _, hhead, _ => exact hhead 1 4 (by decide) (by decide) rfl (by decide)
    | 4, _, _, _ => exact hloop 1 4 pOpA (by decide) (by decide) rfl hA
    | 5, _, _, hsin => exact hsin (by decide)
    | 6, _, hhead, _ => exact hhead 5 7 (by decide) (by decide) rfl (by decide)
    | 7, _, _, _ => exact hloop 5 7 pOpN (by decide) (by decide) rfl hN
    | 8, _, hhead, _ => exact hhead 6 9 (by decide) (by decide) rfl (by decide)
    | 9, _, _, _ => exact hloop 6 9 pOpO (by decide) (by decide) rfl hO
    | k + 10, hm, _, _ => exact absurd hm (by omega)
/-! ===== lines ===== -/
/-- an order: its kind, its name's token, its first step; three sums; a test, and whether it has one -/
abbrev pOrd : Type := (Nat × Nat × Nat) × (List pSt × List pSt × List pSt) × (List pSt × Bool)
abbrev oKind (o : pOrd) : Nat := o.1.1
abbrev oName (o : pOrd) : Nat := o.1.2.1
abbrev oFrom (o : pOrd) : Nat := o.1.2.2
abbrev oS1 (o : pOrd) : List pSt := o.2.1.1
abbrev oS2 (o : pOrd) : List pSt := o.2.1.2.1
abbrev oS3 (o : pOrd) : List pSt := o.2.1.2.2
abbrev oTst (o : pOrd) : List pSt := o.2.2.1
abbrev oHas (o : pOrd) : Bool := o.2.2.2
abbrev oMid (o : pOrd) : Nat := oFrom o + (oS1 o).length + (oS2 o).length + (oS3 o).length
abbrev oEnd (o : pOrd) : Nat := oMid o + (oTst o).length
def oCode (o : pOrd) : List pSt := oS1 o ++ (oS2 o ++ (oS3 o ++ oTst o))
theorem oCode_len (o : pOrd) : oFrom o + (oCode o).length = oEnd o := by
  unfold oCode oEnd oMid
  rw [List.length_append, List.length_append, List.length_append]
  omega
def gThen {α : Type} (r : pRes) (f : Nat → List pSt → Option (Nat ⊕ α)) : Option (Nat ⊕ α) := match r with
  | none => none
  | some (.inl e) => some (.inl e)
  | some (.inr (p, cd)) => f p cd
def gEat {α : Type} (tk : Nat → Nat) (k p : Nat) (r : Option (Nat ⊕ α)) : Option (Nat ⊕ α) := if tk p = k then r else some (.inl p)
theorem gThen_on {α : Type} {r : pRes} {f : Nat → List pSt → Option (Nat ⊕ α)} {x : Nat ⊕ α} (h : gThen r f = some x) : (∃ e, r = some (.inl e) ∧ x = .inl e) ∨ ∃ p cd, r = some (.inr (p, cd)) ∧ f p cd = some x := by
  unfold gThen at h
  match r, h with
  | none, h => cases h
  | some (.inl e), h => exact Or.inl ⟨e, rfl, (Option.some.inj h).symm⟩
  | some (.inr (p, cd)), h => exact Or.inr ⟨p, cd, rfl, h⟩
theorem gEat_on {α : Type} {tk : Nat → Nat} {k p : Nat} {r : Option (Nat ⊕ α)} {x : Nat ⊕ α} (h : gEat tk k p r = some x) : (tk p = k ∧ r = some x) ∨ (tk p ≠ k ∧ x = .inl p) := by
  unfold gEat at h
  by_cases hq : tk p = k
  · rw [if_pos hq] at h; exact Or.inl ⟨hq, h⟩
  · rw [if_neg hq] at h; exact Or.inr ⟨hq, (Option.some.inj h).symm⟩
theorem gThen_tot {α : Type} {r : pRes} {f : Nat → List pSt → Option (Nat ⊕ α)} (h : ∃ x, r = some x) (h1 : ∀ p cd, r = some (.inr (p, cd)) → ∃ x, f p cd = some x) : ∃ x, gThen r f = some x := by
  obtain ⟨x, rfl⟩ := h
  match x, h1 with
  | .inl e, _ => exact ⟨_, rfl⟩
  | .inr (p, cd), h1 => exact h1 p cd rfl
theorem gEat_tot {α : Type} {tk : Nat → Nat} {k p : Nat} {r : Option (Nat ⊕ α)} (h : tk p = k → ∃ x, r = some x) : ∃ x, gEat tk k p r = some x := by
  unfold gEat
  by_cases hq : tk p = k
  · rw [if_pos hq]; exact h hq
  · rw [if_neg hq]; exact ⟨_, rfl⟩
def pWhen (tk : Nat → Nat) (n : Nat) (h : Nat × Nat × Nat) (s : List pSt × List pSt × List pSt) (q b : Nat) : Option (Nat ⊕ (Nat × pOrd)) := if tk q = 9 then gThen (pE tk n 8 0 (q + 1) b) (fun q4 c4 => some (.inr (q4, (h, s, (c4, true))))) else some (.inr (q, (h, s, ([], false))))
def pOrder (tk : Nat → Nat) (n p b : Nat) : Option (Nat ⊕ (Nat × pOrd)) := gEat tk 41 (p + 1) (if tk p = 4 then gEat tk 5 (p + 2) (gThen (pE tk n 3 0 (p + 3) b) (fun p1 c1 => gEat tk 30 p1 (gThen (pE tk n 3 0 (p1 + 1) (b + c1.length)) (fun p2 c2 => gEat tk 6 p2 (gThen (pE tk n 3 0 (p2 + 1) (b + c1.length + c2.length)) (fun p3 c3 => pWhen tk n (tk p, p + 1, b) (c1, c2, c3) p3 (b + c1.length + c2.length + c3.length))))))) else pWhen tk n (tk p, p + 1, b) ([], [], []) (p + 2) b)
def pTile (tk : Nat → Nat) (p : Nat) : Option (Nat ⊕ Nat) := gEat tk 41 (p + 1) (gEat tk 40 (p + 2) (gEat tk 40 (p + 3) (gEat tk 40 (p + 4) (some (.inr (p + 5))))))
def pLines (tk : Nat → Nat) (n : Nat) : Nat → Nat → Nat → List pOrd → Option (Nat ⊕ List pOrd)
  | 0, _, _, _ => none
  | f + 1, p, b, os => if tk p = 42 then some (.inr os)
    else if tk p = 3 then (match pTile tk p with
      | none => none
      | some (.inl e) => some (.inl e)
      | some (.inr q) => gEat tk 29 q (pLines tk n f (q + 1) b os))
    else if tk p = 4 ∨ tk p = 7 ∨ tk p = 8 then (match pOrder tk n p b with
      | none => none
      | some (.inl e) => some (.inl e)
      | some (.inr (q, o)) => gEat tk 29 q (pLines tk n f (q + 1) (b + (oCode o).length) (os ++ [o])))
    else some (.inl p)
def pGame (tk : Nat → Nat) (n : Nat) : Option (Nat ⊕ List pOrd) := if tk 0 = 1 then gEat tk 40 1 (gEat tk 2 2 (gEat tk 40 3 (gEat tk 29 4 (pLines tk n 401 5 0 [])))) else pLines tk n 401 0 0 []
/-- an order's sense: where it ends, its tokens, steps, trees -/
def pOk (tk : Nat → Nat) (T p b q : Nat) (o : pOrd) : Prop := q ≤ T ∧ p + 2 + (oCode o).length ≤ q ∧ (oKind o = tk p ∧ oName o = p + 1 ∧ oFrom o = b) ∧ (∀ j, p + 1 ≤ j → j < q → tk j ≠ 1 ∧ tk j ≠ 3 ∧ tk j ≠ 4 ∧ tk j ≠ 7 ∧ tk j ≠ 8 ∧ tk j ≠ 29) ∧ tk (p + 1) = 41 ∧ pSts tk p q (oCode o) ∧ (tk p = 4 → pTr false b (oS1 o) ∧ pTr false (b + (oS1 o).length) (oS2 o) ∧ pTr false (b + (oS1 o).length + (oS2 o).length) (oS3 o)) ∧ (tk p ≠ 4 → oS1 o = [] ∧ oS2 o = [] ∧ oS3 o = []) ∧ (oHas o = true → pTr true (oMid o) (oTst o)) ∧ (oHas o = false → oTst o = [])
theorem pRng.out {tk : Nat → Nat} {p q : Nat} (h : pRng tk p q) : ∀ j, p ≤ j → j < q → tk j ≠ 1 ∧ tk j ≠ 3 ∧ tk j ≠ 4 ∧ tk j ≠ 7 ∧ tk j ≠ 8 ∧ tk j ≠ 29 := by
  intro j h1 h2
  obtain ⟨a, b, c⟩ := h j h1 h2
  omega
theorem pTr.len {ty : Bool} {b : Nat} {cd : List pSt} (h : pTr ty b cd) : 1 ≤ cd.length := by
  obtain ⟨n, h⟩ := h
  cases n with
  | zero => exact h.elim
  | succ n =>
    rcases h with ⟨k, t, -, rfl⟩ | ⟨c, k, -, -, rfl⟩ | ⟨c1, c2, a, k, -, -, -, rfl⟩
    · exact Nat.le_refl _
    · rw [List.length_append]; exact Nat.le_add_left _ _
    · rw [List.length_append, List.length_append, List.length_singleton]; omega
theorem pOrder_bad {tk : Nat → Nat} {T n : Nat} (ht : pTk tk T) {p b e : Nat} (hp : p < T) (hx : pOrder tk n p b = some (.inl e)) : p + 1 ≤ e ∧ e ≤ T := by
  have hwhen : ∀ (h : Nat × Nat × Nat) (s : List pSt × List pSt × List pSt) (r b : Nat), r ≤ T → p + 1 ≤ r → pWhen tk n h s r b = some (.inl e) → p + 1 ≤ e ∧ e ≤ T := by
    intro h s r b hr hpr hx
    unfold pWhen at hx
    by_cases h9 : tk r = 9
    · rw [if_pos h9] at hx
      have hr1 := ht.lt hr (by omega) (by omega)
      rcases gThen_on hx with ⟨e', he, z⟩ | ⟨p4, c4, h4, h5⟩
      · cases z
        have g := pE_fine ht _ _ _ _ _ _ hr1 he
        have g1 := g.1
        exact ⟨by omega, g.2⟩
      · cases h5
    · rw [if_neg h9] at hx; cases hx
  unfold pOrder at hx
  rcases gEat_on hx with ⟨h41, hx⟩ | ⟨-, z⟩
  rotate_left
  · cases z; exact ⟨Nat.le_refl _, hp⟩
  have hp1 := ht.lt (show p + 1 ≤ T by omega) (by omega) (by omega)
  by_cases h4 : tk p = 4
  · rw [if_pos h4] at hx
    rcases gEat_on hx with ⟨h5, hx⟩ | ⟨-, z⟩
    rotate_left
    · cases z; exact ⟨by omega, by omega⟩
    have hp2 := ht.lt (show p + 2 ≤ T by omega) (by omega) (by omega)
    rcases gThen_on hx with ⟨e', r1, z⟩ | ⟨p1, c1, r1, hx⟩
    · cases z
      have g := pE_fine ht _ _ _ _ _ _ (show p + 3 ≤ T by omega) r1
      have g1 := g.1
      exact ⟨by omega, g.2⟩
    obtain ⟨f1, f2, -⟩ := pE_fine ht _ _ _ _ _ _ (show p + 3 ≤ T by omega) r1
    rcases gEat_on hx with ⟨h30, hx⟩ | ⟨-, z⟩
    rotate_left
    · cases z; exact ⟨by omega, by omega⟩
    have hp3 := ht.lt f1 (by omega) (by omega)
    rcases gThen_on hx with ⟨e', r2, z⟩ | ⟨p2, c2, r2, hx⟩
    · cases z
      have g := pE_fine ht _ _ _ _ _ _ (show p1 + 1 ≤ T by omega) r2
      have g1 := g.1
      exact ⟨by omega, g.2⟩
    obtain ⟨f3, f4, -⟩ := pE_fine ht _ _ _ _ _ _ (show p1 + 1 ≤ T by omega) r2
    rcases gEat_on hx with ⟨h6, hx⟩ | ⟨-, z⟩
    rotate_left
    · cases z; exact ⟨by omega, by omega⟩
    have hp4 := ht.lt f3 (by omega) (by omega)
    rcases gThen_on hx with ⟨e', r3, z⟩ | ⟨p3, c3, r3, hx⟩
    · cases z
      have g := pE_fine ht _ _ _ _ _ _ (show p2 + 1 ≤ T by omega) r3
      have g1 := g.1
      exact ⟨by omega, g.2⟩
    obtain ⟨f5, f6, -⟩ := pE_fine ht _ _ _ _ _ _ (show p2 + 1 ≤ T by omega) r3
    exact hwhen _ _ _ _ f5 (by omega) hx
  · rw [if_neg h4] at hx
    exact hwhen _ _ _ _ (by omega) (by omega) hx
theorem pTile_ok {tk : Nat → Nat} {T : Nat} (ht : pTk tk T) {p q : Nat} (hp : p < T) (hx : pTile tk p = some (.inr q)) : q = p + 5 ∧ p + 5 ≤ T ∧ tk (p + 1) = 41 ∧ tk (p + 2) = 40 ∧ tk (p + 3) = 40 ∧ tk (p + 4) = 40 := by
  unfold pTile at hx
  rcases gEat_on hx with ⟨h1, hx⟩ | ⟨-, z⟩
  rotate_left
  · cases z
  have g1 := ht.lt (show p + 1 ≤ T by omega) (by omega) (by omega)
  rcases gEat_on hx with ⟨h2, hx⟩ | ⟨-, z⟩
  rotate_left
  · cases z
  have g2 := ht.lt (show p + 2 ≤ T by omega) (by omega) (by omega)
  rcases gEat_on hx with ⟨h3, hx⟩ | ⟨-, z⟩
  rotate_left
  · cases z
  have g3 := ht.lt (show p + 3 ≤ T by omega) (by omega) (by omega)
  rcases gEat_on hx with ⟨h4, hx⟩ | ⟨-, z⟩
  rotate_left
  · cases z
  have g4 := ht.lt (show p + 4 ≤ T by omega) (by omega) (by omega)
  cases hx
  exact ⟨rfl, by omega, h1, h2, h3, h4⟩
theorem pTile_tot (tk : Nat → Nat) (p : Nat) : ∃ x, pTile tk p = some x := gEat_tot (fun _ => gEat_tot (fun _ => gEat_tot (fun _ => gEat_tot (fun _ => ⟨_, rfl⟩))))
theorem pOrder_tot {tk : Nat → Nat} {T : Nat} (ht : pTk tk T) {p b : Nat} (hp : p < T) : ∃ x, pOrder tk 2500 p b = some x := by
  have h400 := ht.1
  have tot : ∀ m q b, m ≤ 9 → q ≤ T → ∃ x, pE tk 2500 m 0 q b = some x := fun m q b hm hq => pE_tot ht 2500 m 0 q b hm hq (by
    have : pWt m ≤ 5 := by unfold pWt; split <;> omega
    omega)
  have hwhen : ∀ (h : Nat × Nat × Nat) (s : List pSt × List pSt × List pSt) (r b : Nat), r ≤ T → ∃ x, pWhen tk 2500 h s r b = some x := by
    intro h s r b hr
    unfold pWhen
    by_cases h9 : tk r = 9
    · rw [if_pos h9]
      exact gThen_tot (tot 8 (r + 1) b (by decide) (ht.lt hr (by omega) (by omega))) (fun _ _ _ => ⟨_, rfl⟩)
    · rw [if_neg h9]
      exact ⟨_, rfl⟩
  unfold pOrder
  refine gEat_tot (fun h41 => ?_)
  have hp1 := ht.lt (show p + 1 ≤ T by omega) (by omega) (by omega)
  by_cases h4 : tk p = 4
  · rw [if_pos h4]
    refine gEat_tot (fun h5 => ?_)
    have hp2 := ht.lt (show p + 2 ≤ T by omega) (by omega) (by omega)
    refine gThen_tot (tot 3 (p + 3) b (by decide) (by omega)) (fun p1 c1 r1 => gEat_tot (fun h30 => ?_))
    obtain ⟨f1, f2, -⟩ := pE_fine ht _ _ _ _ _ _ (show p + 3 ≤ T by omega) r1
    have hp3 := ht.lt f1 (by omega) (by omega)
    refine gThen_tot (tot 3 (p1 + 1) _ (by decide) hp3) (fun p2 c2 r2 => gEat_tot (fun h6 => ?_))
    obtain ⟨f3, f4, -⟩ := pE_fine ht _ _ _ _ _ _ hp3 r2
    have hp4 := ht.lt f3 (by omega) (by omega)
    refine gThen_tot (tot 3 (p2 + 1) _ (by decide) hp4) (fun p3 c3 r3 => ?_)
    obtain ⟨f5, f6, -⟩ := pE_fine ht _ _ _ _ _ _ hp4 r3
    exact hwhen _ _ _ _ f5
  · rw [if_neg h4]
    exact hwhen _ _ _ _ (by omega)
