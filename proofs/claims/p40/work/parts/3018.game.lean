/-! ===== what a good reading is made of: its tokens, its steps, its tree ===== -/
def pIn (k : Nat) : Prop := 10 ≤ k ∧ k ≤ 41 ∧ k ≠ 29
def pRng (tk : Nat → Nat) (p q : Nat) : Prop := ∀ j, p ≤ j → j < q → pIn (tk j)
theorem pRng.nil (tk : Nat → Nat) (p : Nat) : pRng tk p p := fun j h1 h2 => absurd (Nat.lt_of_le_of_lt h1 h2) (Nat.lt_irrefl _)
theorem pRng.one {tk : Nat → Nat} {p : Nat} (h : pIn (tk p)) : pRng tk p (p + 1) := fun j h1 h2 => by rw [show j = p by omega]; exact h
theorem pRng.join {tk : Nat → Nat} {p r q : Nat} (h1 : pRng tk p r) (h2 : pRng tk r q) : pRng tk p q := fun j a b => by
  by_cases hq : j < r
  · exact h1 j a hq
  · exact h2 j (by omega) b
def pStOk (tk : Nat → Nat) (p q : Nat) (s : pSt) : Prop := (s.1 = 40 → p ≤ s.2.1 ∧ s.2.1 < q ∧ tk s.2.1 = 40) ∧ ((s.1 = 16 ∨ s.1 = 18 ∨ s.1 = 19) → p ≤ s.2.1 ∧ s.2.1 < q ∧ tk s.2.1 = 41) ∧ 10 ≤ s.1 ∧ s.1 ≤ 44
def pSts (tk : Nat → Nat) (p q : Nat) (cd : List pSt) : Prop := ∀ s, s ∈ cd → pStOk tk p q s
theorem pSts.nil (tk : Nat → Nat) (p q : Nat) : pSts tk p q [] := fun s h => absurd h List.not_mem_nil
theorem pSts.mono {tk : Nat → Nat} {p q p' q' : Nat} {cd : List pSt} (h : pSts tk p q cd) (h1 : p' ≤ p) (h2 : q ≤ q') : pSts tk p' q' cd := by
  intro s hs
  obtain ⟨a, b, c⟩ := h s hs
  refine ⟨fun z => ?_, fun z => ?_, c⟩
  · obtain ⟨x, y, w⟩ := a z; exact ⟨by omega, by omega, w⟩
  · obtain ⟨x, y, w⟩ := b z; exact ⟨by omega, by omega, w⟩
theorem pSts.app {tk : Nat → Nat} {p q : Nat} {c1 c2 : List pSt} (h1 : pSts tk p q c1) (h2 : pSts tk p q c2) : pSts tk p q (c1 ++ c2) := by
  intro s hs
  rcases List.mem_append.mp hs with z | z
  · exact h1 s z
  · exact h2 s z
theorem pSts.one {tk : Nat → Nat} {p q : Nat} {s : pSt} (h : pStOk tk p q s) : pSts tk p q [s] := by
  intro t ht
  rw [List.mem_singleton.mp ht]
  exact h
theorem pSts.op {tk : Nat → Nat} {p q k l r : Nat} (h : 10 ≤ k ∧ k ≤ 44) (h1 : k ≠ 40) (h2 : ¬ (k = 16 ∨ k = 18 ∨ k = 19)) : pSts tk p q [((k, 0, l, r) : pSt)] := pSts.one ⟨fun z => absurd z h1, fun z => absurd z h2, h⟩
/-- trees: false a number, true a test -/
def pLeaf (ty : Bool) (k : Nat) : Prop := (ty = false ∧ (k = 40 ∨ (10 ≤ k ∧ k ≤ 16))) ∨ (ty = true ∧ (k = 18 ∨ k = 19))
def pUn (ty : Bool) (k : Nat) : Prop := (ty = false ∧ k = 44) ∨ (ty = true ∧ k = 20)
def pBi (ty a : Bool) (k : Nat) : Prop := (ty = false ∧ a = false ∧ (k = 23 ∨ k = 24 ∨ k = 31 ∨ k = 32 ∨ k = 33 ∨ k = 34)) ∨ (ty = true ∧ a = false ∧ 35 ≤ k ∧ k ≤ 39) ∨ (ty = true ∧ a = true ∧ (k = 21 ∨ k = 22))
def pTree : Nat → Bool → Nat → List pSt → Prop
  | 0, _, _, _ => False
  | n + 1, ty, b, cd => (∃ k t, pLeaf ty k ∧ cd = [(k, t, 0, 0)]) ∨ (∃ c k, pUn ty k ∧ pTree n ty b c ∧ cd = c ++ [(k, 0, b + c.length - 1, 0)]) ∨ (∃ c1 c2 a k, pBi ty a k ∧ pTree n a b c1 ∧ pTree n a (b + c1.length) c2 ∧ cd = c1 ++ (c2 ++ [(k, 0, b + c1.length - 1, b + c1.length + c2.length - 1)]))
theorem pTree.mono : ∀ {n m : Nat} {ty : Bool} {b : Nat} {cd : List pSt}, n ≤ m → pTree n ty b cd → pTree m ty b cd
  | 0, _, _, _, _, _, h => h.elim
  | n + 1, 0, _, _, _, hm, _ => absurd hm (by omega)
  | n + 1, m + 1, ty, b, cd, hm, h => by
    rcases h with h | ⟨c, k, h1, h2, h3⟩ | ⟨c1, c2, a, k, h1, h2, h3, h4⟩
    · exact Or.inl h
    · exact Or.inr (Or.inl ⟨c, k, h1, pTree.mono (by omega) h2, h3⟩)
    · exact Or.inr (Or.inr ⟨c1, c2, a, k, h1, pTree.mono (by omega) h2, pTree.mono (by omega) h3, h4⟩)
def pTr (ty : Bool) (b : Nat) (cd : List pSt) : Prop := ∃ n, pTree n ty b cd
theorem pTr.leaf {ty : Bool} {b k t : Nat} (h : pLeaf ty k) : pTr ty b [(k, t, 0, 0)] := ⟨1, Or.inl ⟨k, t, h, rfl⟩⟩
theorem pTr.un {ty : Bool} {b k : Nat} {c : List pSt} (h : pUn ty k) (hc : pTr ty b c) : pTr ty b (c ++ [(k, 0, b + c.length - 1, 0)]) := by
  obtain ⟨n, hn⟩ := hc
  exact ⟨n + 1, Or.inr (Or.inl ⟨c, k, h, hn, rfl⟩)⟩
theorem pTr.bi {ty a : Bool} {b k : Nat} {c1 c2 : List pSt} (h : pBi ty a k) (h1 : pTr a b c1) (h2 : pTr a (b + c1.length) c2) : pTr ty b (c1 ++ (c2 ++ [(k, 0, b + c1.length - 1, b + c1.length + c2.length - 1)])) := by
  obtain ⟨n1, e1⟩ := h1
  obtain ⟨n2, e2⟩ := h2
  exact ⟨max n1 n2 + 1, Or.inr (Or.inr ⟨c1, c2, a, k, h, pTree.mono (Nat.le_max_left _ _) e1, pTree.mono (Nat.le_max_right _ _) e2, rfl⟩)⟩
def pTy (m : Nat) : Bool := decide (5 ≤ m)
def pWf (tk : Nat → Nat) (m p b q : Nat) (cd : List pSt) : Prop := pRng tk p q ∧ pSts tk p q cd ∧ (pLp m = false → pTr (pTy m) b cd) ∧ (pLp m = true → ∀ b0 c0, pTr (pTy m) b0 c0 → b = b0 + c0.length → pTr (pTy m) b0 (c0 ++ cd))
theorem pThen_ok {r : pRes} {f : Nat → List pSt → pRes} {y : Nat × List pSt} (h : pThen r f = some (.inr y)) : ∃ p cd, r = some (.inr (p, cd)) ∧ f p cd = some (.inr y) := by
  rcases pThen_on h with ⟨e, -, h2⟩ | h2
  · cases h2
  · exact h2
theorem pEat_ok {tk : Nat → Nat} {k p : Nat} {r : pRes} {y : Nat × List pSt} (h : pEat tk k p r = some (.inr y)) : tk p = k ∧ r = some (.inr y) := by
  rcases pEat_on h with h2 | ⟨-, h2⟩
  · exact h2
  · cases h2
theorem pE_wf {tk : Nat → Nat} {T : Nat} (ht : pTk tk T) : ∀ (n m d p b q : Nat) (cd : List pSt), m ≤ 9 → p ≤ T → pE tk n m d p b = some (.inr (q, cd)) → pWf tk m p b q cd := by
  intro n
  induction n with
  | zero => intro m d p b q cd _ _ h; cases h
  | succ n ih =>
    intro m d p b q cd hm hp h
    have hlt : ∀ j k, j ≤ T → tk j = k → k ≠ 42 → k ≠ 43 → j + 1 ≤ T := fun j k hj h1 h2 h3 => ht.lt hj (by omega) (by omega)
    have fine : ∀ m d p b q cd, p ≤ T → pE tk n m d p b = some (.inr (q, cd)) → q ≤ T ∧ p + cd.length ≤ q := fun m d p b q cd hp h => by
      have := pE_fine ht n m d p b _ hp h
      exact ⟨this.1, this.2.1⟩
    have hhead : ∀ o l, o ≤ 9 → l ≤ 9 → pLp o = false → pLp l = true → pLp m = false → pTy o = pTy m ∨ (pTy o = false ∧ pTy m = true) → pTy l = pTy m → pTy o = pTy m → pHead (pE tk n) o l d p b = some (.inr (q, cd)) → pWf tk m p b q cd := by
      intro o l ho9 hl9 ho hl hmm _ htl hto h
      obtain ⟨p1, c1, h1, h2⟩ := pThen_ok h
      obtain ⟨p2, c2, h3, h4⟩ := pThen_ok h2
      cases h4
      obtain ⟨f1, f2⟩ := fine _ _ _ _ _ _ hp h1
      obtain ⟨f3, f4⟩ := fine _ _ _ _ _ _ f1 h3
      obtain ⟨a1, a2, a3, -⟩ := ih _ _ _ _ _ _ ho9 hp h1
      obtain ⟨b1, b2, -, b4⟩ := ih _ _ _ _ _ _ hl9 f1 h3
      refine ⟨a1.join b1, (a2.mono (Nat.le_refl _) (by omega)).app (b2.mono (by omega) (Nat.le_refl _)), fun _ => ?_, fun z => by rw [hmm] at z; cases z⟩
      have t1 := a3 ho
      have t2 := b4 hl b c1 (by rw [htl, ← hto]; exact t1) rfl
      rw [htl] at t2
      exact t2
    have hloop : ∀ o l (op : Nat → Bool), o ≤ 9 → l ≤ 9 → pLp o = false → pLp l = true → pLp m = true → pTy l = pTy m → (∀ k, op k = true → pIn k ∧ (k ≠ 40 ∧ ¬ (k = 16 ∨ k = 18 ∨ k = 19)) ∧ pBi (pTy m) (pTy m) k) → pTy o = pTy m → pLoop tk (pE tk n) o l op d p b = some (.inr (q, cd)) → pWf tk m p b q cd := by
      intro o l op ho9 hl9 ho hl hmm htl hop hto h
      unfold pLoop at h
      cases hq : op (tk p) with
      | false =>
        rw [hq] at h
        cases h
        refine ⟨pRng.nil _ _, pSts.nil _ _ _, fun z => (by rw [hmm] at z; cases z), fun _ b0 c0 t0 _ => ?_⟩
        rw [List.append_nil]
        exact t0
      | true =>
        rw [hq, if_pos rfl] at h
        obtain ⟨k1, k2, k3⟩ := hop _ hq
        have hk2 := k1.2.1
        have hp1 := hlt p _ hp rfl (by omega) (by omega)
        obtain ⟨p1, c1, h1, h2⟩ := pThen_ok h
        obtain ⟨p2, c2, h3, h4⟩ := pThen_ok h2
        cases h4
        obtain ⟨f1, f2⟩ := fine _ _ _ _ _ _ hp1 h1
        obtain ⟨f3, f4⟩ := fine _ _ _ _ _ _ f1 h3
        obtain ⟨a1, a2, a3, -⟩ := ih _ _ _ _ _ _ ho9 hp1 h1
        obtain ⟨b1, b2, -, b4⟩ := ih _ _ _ _ _ _ hl9 f1 h3
        refine ⟨((pRng.one k1).join a1).join b1, (a2.mono (by omega) (by omega)).app ?_, fun z => (by rw [hmm] at z; cases z), fun _ b0 c0 t0 e0 => ?_⟩
        · have := (pSts.op (tk := tk) (p := p) (q := q) (l := b - 1) (r := b + c1.length - 1) ⟨k1.1, by omega⟩ k2.1 k2.2).app (b2.mono (show p ≤ p1 by omega) (Nat.le_refl _))
          exact this
        · subst e0
          have t1 := a3 ho
          rw [hto] at t1
          have t2 := pTr.bi k3 t0 t1
          have t3 := b4 hl b0 _ (by rw [htl]; exact t2) (by rw [List.length_append, List.length_append, List.length_singleton]; omega)
          rw [htl, List.append_assoc, List.append_assoc] at t3
          exact t3
    have hval : m = 0 → pVal tk (pE tk n) d p b = some (.inr (q, cd)) → pWf tk m p b q cd := by
      clear h
      intro hm0 h
      subst hm0
      unfold pVal at h
      split at h
      · rename_i h0
        cases h
        refine ⟨pRng.one ⟨by omega, by omega, by omega⟩, pSts.one ⟨fun z => ⟨Nat.le_refl _, Nat.lt_succ_self _, z⟩, fun z => ?_, by omega, by omega⟩, fun _ => pTr.leaf (Or.inl ⟨rfl, by omega⟩), fun z => by cases z⟩
        have z' : tk p = 16 ∨ tk p = 18 ∨ tk p = 19 := z
        omega
      split at h
      · rename_i h0
        have hp1 := hlt p _ hp h0 (by decide) (by decide)
        obtain ⟨h1, h2⟩ := pEat_ok h
        obtain ⟨h3, h4⟩ := pEat_ok h2
        cases h4
        refine ⟨((pRng.one ⟨by omega, by omega, by omega⟩).join (pRng.one (p := p + 1) ⟨by omega, by omega, by omega⟩)).join (pRng.one (p := p + 2) ⟨by omega, by omega, by omega⟩), pSts.one ⟨fun z => absurd z (show ¬ (16 = 40) by decide), fun _ => ⟨by show p ≤ p + 2; omega, by show p + 2 < p + 3; omega, h3⟩, (show 10 ≤ 16 by decide), (show 16 ≤ 44 by decide)⟩, fun _ => pTr.leaf (Or.inl ⟨rfl, by omega⟩), fun z => by cases z⟩
      split at h
      · rename_i h0
        have hp1 := hlt p _ hp h0 (by decide) (by decide)
        split at h
        · obtain ⟨p1, c1, h1, h2⟩ := pThen_ok h
          cases h2
          obtain ⟨f1, f2⟩ := fine _ _ _ _ _ _ hp1 h1
          obtain ⟨a1, a2, a3, -⟩ := ih _ _ _ _ _ _ (by decide) hp1 h1
          exact ⟨(pRng.one ⟨by omega, by omega, by omega⟩).join a1, (a2.mono (by omega) (Nat.le_refl _)).app (pSts.op (by decide) (by decide) (by decide)), fun _ => (a3 rfl).un (Or.inl ⟨rfl, rfl⟩), fun z => by cases z⟩
        · cases h
      split at h
      · rename_i h0
        have hp1 := hlt p _ hp h0 (by decide) (by decide)
        split at h
        · obtain ⟨p1, c1, h1, h2⟩ := pThen_ok h
          obtain ⟨h3, h4⟩ := pEat_ok h2
          cases h4
          obtain ⟨f1, f2⟩ := fine _ _ _ _ _ _ hp1 h1
          obtain ⟨a1, a2, a3, -⟩ := ih _ _ _ _ _ _ (by decide) hp1 h1
          exact ⟨((pRng.one ⟨by omega, by omega, by omega⟩).join a1).join (pRng.one ⟨by omega, by omega, by omega⟩), a2.mono (by omega) (by omega), fun _ => a3 rfl, fun z => by cases z⟩
        · cases h
      split at h
      · rename_i h0
        have hp1 := hlt p _ hp rfl (by omega) (by omega)
        obtain ⟨h1, h2⟩ := pEat_ok h
        have hp2 := hlt _ _ hp1 h1 (by decide) (by decide)
        split at h2
        · obtain ⟨p1, c1, h3, h4⟩ := pThen_ok h2
          obtain ⟨h5, h6⟩ := pEat_ok h4
          obtain ⟨f1, f2⟩ := fine _ _ _ _ _ _ hp2 h3
          have hp3 := hlt _ _ f1 h5 (by decide) (by decide)
          obtain ⟨p2, c2, h7, h8⟩ := pThen_ok h6
          obtain ⟨h9, h10⟩ := pEat_ok h8
          cases h10
          obtain ⟨f3, f4⟩ := fine _ _ _ _ _ _ hp3 h7
          obtain ⟨a1, a2, a3, -⟩ := ih _ _ _ _ _ _ (by decide) hp2 h3
          obtain ⟨b1, b2, b3, -⟩ := ih _ _ _ _ _ _ (by decide) hp3 h7
          refine ⟨?_, (a2.mono (by omega) (by omega)).app ((b2.mono (by omega) (by omega)).app (pSts.op ⟨by omega, by omega⟩ (by omega) (by omega))), fun _ => pTr.bi (Or.inl ⟨rfl, rfl, by omega⟩) (a3 rfl) (b3 rfl), fun z => by cases z⟩
          exact (((((pRng.one ⟨by omega, by omega, by omega⟩).join (pRng.one (p := p + 1) ⟨by omega, by omega, by omega⟩)).join a1).join (pRng.one ⟨by omega, by omega, by omega⟩)).join b1).join (pRng.one ⟨by omega, by omega, by omega⟩)
        · cases h2
      · cases h
    have hsin : m = 5 → pSin tk (pE tk n) d p b = some (.inr (q, cd)) → pWf tk m p b q cd := by
      clear h
      intro hm0 h
      subst hm0
      unfold pSin at h
      split at h
      · rename_i h0
        have hp1 := hlt p _ hp h0 (by decide) (by decide)
        split at h
        · obtain ⟨p1, c1, h1, h2⟩ := pThen_ok h
          cases h2
          obtain ⟨f1, f2⟩ := fine _ _ _ _ _ _ hp1 h1
          obtain ⟨a1, a2, a3, -⟩ := ih _ _ _ _ _ _ (by decide) hp1 h1
          exact ⟨(pRng.one ⟨by omega, by omega, by omega⟩).join a1, (a2.mono (by omega) (Nat.le_refl _)).app (pSts.op (by decide) (by decide) (by decide)), fun _ => (a3 rfl).un (Or.inr ⟨rfl, rfl⟩), fun z => by cases z⟩
        · cases h
      split at h
      · rename_i h0
        have hp1 := hlt p _ hp h0 (by decide) (by decide)
        split at h
        · obtain ⟨p1, c1, h1, h2⟩ := pThen_ok h
          obtain ⟨h3, h4⟩ := pEat_ok h2
          cases h4
          obtain ⟨f1, f2⟩ := fine _ _ _ _ _ _ hp1 h1
          obtain ⟨a1, a2, a3, -⟩ := ih _ _ _ _ _ _ (by decide) hp1 h1
          exact ⟨((pRng.one ⟨by omega, by omega, by omega⟩).join a1).join (pRng.one ⟨by omega, by omega, by omega⟩), a2.mono (by omega) (by omega), fun _ => a3 rfl, fun z => by cases z⟩
        · cases h
      split at h
      · rename_i h0
        have hp1 := hlt p _ hp rfl (by omega) (by omega)
        obtain ⟨h1, h2⟩ := pEat_ok h
        cases h2
        refine ⟨(pRng.one ⟨by omega, by omega, by omega⟩).join (pRng.one (p := p + 1) ⟨by omega, by omega, by omega⟩), pSts.one ⟨fun z => ?_, fun _ => ⟨by show p ≤ p + 1; omega, by show p + 1 < p + 2; omega, h1⟩, by show 10 ≤ tk p; omega, by show tk p ≤ 44; omega⟩, fun _ => pTr.leaf (Or.inr ⟨rfl, h0⟩), fun z => by cases z⟩
        have z' : tk p = 40 := z
        omega
      · obtain ⟨p1, c1, h1, h2⟩ := pThen_ok h
        obtain ⟨f1, f2⟩ := fine _ _ _ _ _ _ hp h1
        split at h2
        · rename_i h3
          have hp1 := hlt p1 _ f1 rfl (by omega) (by omega)
          obtain ⟨p2, c2, h4, h5⟩ := pThen_ok h2
          cases h5
          obtain ⟨f3, f4⟩ := fine _ _ _ _ _ _ hp1 h4
          obtain ⟨a1, a2, a3, -⟩ := ih _ _ _ _ _ _ (by decide) hp h1
          obtain ⟨b1, b2, b3, -⟩ := ih _ _ _ _ _ _ (by decide) hp1 h4
          refine ⟨(a1.join (pRng.one ⟨by omega, by omega, by omega⟩)).join b1, (a2.mono (Nat.le_refl _) (by omega)).app ((b2.mono (by omega) (Nat.le_refl _)).app (pSts.op ⟨by omega, by omega⟩ (by omega) (by omega))), fun _ => pTr.bi (Or.inr (Or.inl ⟨rfl, rfl, h3⟩)) (a3 rfl) (b3 rfl), fun z => by cases z⟩
        · cases h2
    have oM : ∀ k, pOpM k = true → pIn k ∧ (k ≠ 40 ∧ ¬ (k = 16 ∨ k = 18 ∨ k = 19)) ∧ pBi false false k := by
      intro k hk
      have hk' : k = 33 ∨ k = 34 := by unfold pOpM at hk; rw [Bool.or_eq_true] at hk; exact hk.imp (fun z => by simpa using z) (fun z => by simpa using z)
      exact ⟨⟨by omega, by omega, by omega⟩, ⟨by omega, by omega⟩, Or.inl ⟨rfl, rfl, by omega⟩⟩
    have oA : ∀ k, pOpA k = true → pIn k ∧ (k ≠ 40 ∧ ¬ (k = 16 ∨ k = 18 ∨ k = 19)) ∧ pBi false false k := by
      intro k hk
      have hk' : k = 31 ∨ k = 32 := by unfold pOpA at hk; rw [Bool.or_eq_true] at hk; exact hk.imp (fun z => by simpa using z) (fun z => by simpa using z)
      exact ⟨⟨by omega, by omega, by omega⟩, ⟨by omega, by omega⟩, Or.inl ⟨rfl, rfl, by omega⟩⟩
    have oN : ∀ k, pOpN k = true → pIn k ∧ (k ≠ 40 ∧ ¬ (k = 16 ∨ k = 18 ∨ k = 19)) ∧ pBi true true k := by
      intro k hk
      have hk' : k = 21 := by unfold pOpN at hk; simpa using hk
      exact ⟨⟨by omega, by omega, by omega⟩, ⟨by omega, by omega⟩, Or.inr (Or.inr ⟨rfl, rfl, by omega⟩)⟩
    have oO : ∀ k, pOpO k = true → pIn k ∧ (k ≠ 40 ∧ ¬ (k = 16 ∨ k = 18 ∨ k = 19)) ∧ pBi true true k := by
      intro k hk
      have hk' : k = 22 := by unfold pOpO at hk; simpa using hk
      exact ⟨⟨by omega, by omega, by omega⟩, ⟨by omega, by omega⟩, Or.inr (Or.inr ⟨rfl, rfl, by omega⟩)⟩
    match m, hm, hhead, hloop, hval, hsin, h with
    | 0, _, _, _, hval, _, h => exact hval rfl h
    | 1, _, hhead, _, _, _, h => exact hhead 0 2 (by decide) (by decide) rfl rfl rfl (Or.inl rfl) rfl rfl h
    | 2, _, _, hloop, _, _, h => exact hloop 0 2 pOpM (by decide) (by decide) rfl rfl rfl rfl oM rfl h
    | 3, _, hhead, _, _, _, h => exact hhead 1 4 (by decide) (by decide) rfl rfl rfl (Or.inl rfl) rfl rfl h
    | 4, _, _, hloop, _, _, h => exact hloop 1 4 pOpA (by decide) (by decide) rfl rfl rfl rfl oA rfl h
    | 5, _, _, _, _, hsin, h => exact hsin rfl h
    | 6, _, hhead, _, _, _, h => exact hhead 5 7 (by decide) (by decide) rfl rfl rfl (Or.inl rfl) rfl rfl h
    | 7, _, _, hloop, _, _, h => exact hloop 5 7 pOpN (by decide) (by decide) rfl rfl rfl rfl oN rfl h
    | 8, _, hhead, _, _, _, h => exact hhead 6 9 (by decide) (by decide) rfl rfl rfl (Or.inl rfl) rfl rfl h
    | 9, _, _, hloop, _, _, h => exact hloop 6 9 pOpO (by decide) (by decide) rfl rfl rfl rfl oO rfl h
    | k + 10, hm, _, _, _, _, _ => exact absurd hm (by omega)
/-! enough fuel -/
theorem pThen_tot {r : pRes} {f : Nat → List pSt → pRes} (h : ∃ x, r = some x) (h1 : ∀ p cd, r = some (.inr (p, cd)) → ∃ x, f p cd = some x) : ∃ x, pThen r f = some x := by
  obtain ⟨x, rfl⟩ := h
  match x, h1 with
  | .inl e, _ => exact ⟨_, rfl⟩
  | .inr (p, cd), h1 => exact h1 p cd rfl
theorem pEat_tot {tk : Nat → Nat} {k p : Nat} {r : pRes} (h : tk p = k → ∃ x, r = some x) : ∃ x, pEat tk k p r = some x := by
  unfold pEat
  by_cases hq : tk p = k
  · rw [if_pos hq]; exact h hq
  · rw [if_neg hq]; exact ⟨_, rfl⟩
def pWt (m : Nat) : Nat := match m with
  | 1 => 1
  | 3 => 2
  | 5 => 3
  | 6 => 4
  | 8 => 5
  | _ => 0
theorem pE_tot {tk : Nat → Nat} {T : Nat} (ht : pTk tk T) : ∀ (n m d p b : Nat), m ≤ 9 → p ≤ T → (T - p) * 6 + pWt m < n → ∃ x, pE tk n m d p b = some x := by
  intro n
  induction n with
  | zero => intro m d p b _ _ h; exact absurd h (by omega)
  | succ n ih =>
    intro m d p b hm hp h
    have hlt : ∀ j k, j ≤ T → tk j = k → k ≠ 42 → k ≠ 43 → j + 1 ≤ T := fun j k hj h1 h2 h3 => ht.lt hj (by omega) (by omega)
    have fine : ∀ m d p b q cd, p ≤ T → pE tk n m d p b = some (.inr (q, cd)) → q ≤ T ∧ p + cd.length ≤ q ∧ (pLp m = false → p + 1 ≤ q) := fun m d p b q cd hp h => by
      have := pE_fine ht n m d p b _ hp h
      exact ⟨this.1, this.2.1, fun z => by have h9 := this.2.2 z; have h8 := this.2.1; omega⟩
    have rc : ∀ m d p' b, m ≤ 9 → p' ≤ T → p + 1 ≤ p' → ∃ x, pE tk n m d p' b = some x := fun m' d p' b hm' hp' hpp => ih m' d p' b hm' hp' (by
      have : pWt m' ≤ 5 := by unfold pWt; split <;> omega
      omega)
    have hhead : ∀ o l, o ≤ 9 → l ≤ 9 → pLp o = false → pWt o < pWt m → ∃ x, pHead (pE tk n) o l d p b = some x := by
      intro o l ho hl hlo hw
      refine pThen_tot (ih o d p b ho hp (by omega)) (fun p1 c1 h1 => ?_)
      obtain ⟨f1, f2, f3⟩ := fine _ _ _ _ _ _ hp h1
      exact pThen_tot (rc l d p1 _ hl f1 (f3 hlo)) (fun p2 c2 _ => ⟨_, rfl⟩)
    have hloop : ∀ o l (op : Nat → Bool), o ≤ 9 → l ≤ 9 → pLp o = false → (∀ k, op k = true → k ≠ 42 ∧ k ≠ 43) → ∃ x, pLoop tk (pE tk n) o l op d p b = some x := by
      intro o l op ho hl hlo hop
      unfold pLoop
      cases hq : op (tk p) with
      | false => exact ⟨_, rfl⟩
      | true =>
        rw [if_pos rfl]
        have hp1 := hlt p _ hp rfl (hop _ hq).1 (hop _ hq).2
        refine pThen_tot (rc o d (p + 1) b ho hp1 (Nat.le_refl _)) (fun p1 c1 h1 => ?_)
        obtain ⟨f1, f2, f3⟩ := fine _ _ _ _ _ _ hp1 h1
        exact pThen_tot (rc l d p1 _ hl f1 (by omega)) (fun p2 c2 _ => ⟨_, rfl⟩)
    have hval : ∃ x, pVal tk (pE tk n) d p b = some x := by
      unfold pVal
      split
      · exact ⟨_, rfl⟩
      split
      · exact pEat_tot (fun _ => pEat_tot (fun _ => ⟨_, rfl⟩))
      split
      · rename_i h0
        have hp1 := hlt p _ hp h0 (by decide) (by decide)
        split
        · exact pThen_tot (rc 0 (d + 1) (p + 1) b (by decide) hp1 (Nat.le_refl _)) (fun p1 c1 _ => ⟨_, rfl⟩)
        · exact ⟨_, rfl⟩
      split
      · rename_i h0
        have hp1 := hlt p _ hp h0 (by decide) (by decide)
        split
        · exact pThen_tot (rc 3 (d + 1) (p + 1) b (by decide) hp1 (Nat.le_refl _)) (fun p1 c1 _ => pEat_tot (fun _ => ⟨_, rfl⟩))
        · exact ⟨_, rfl⟩
      split
      · rename_i h0
        have hp1 := hlt p _ hp rfl (by omega) (by omega)
        refine pEat_tot (fun h1 => ?_)
        have hp2 := hlt _ _ hp1 h1 (by decide) (by decide)
        split
        · refine pThen_tot (rc 3 (d + 1) (p + 2) b (by decide) hp2 (by omega)) (fun p1 c1 h3 => pEat_tot (fun h5 => ?_))
          obtain ⟨f1, f2, f3⟩ := fine _ _ _ _ _ _ hp2 h3
          have hp3 := hlt _ _ f1 h5 (by decide) (by decide)
          exact pThen_tot (rc 3 (d + 1) (p1 + 1) _ (by decide) hp3 (by omega)) (fun p2 c2 _ => pEat_tot (fun _ => ⟨_, rfl⟩))
        · exact ⟨_, rfl⟩
      · exact ⟨_, rfl⟩
    have hsin : 3 ≤ pWt m → ∃ x, pSin tk (pE tk n) d p b = some x := by
      intro hw
      unfold pSin
      split
      · rename_i h0
        have hp1 := hlt p _ hp h0 (by decide) (by decide)
        split
        · exact pThen_tot (rc 5 (d + 1) (p + 1) b (by decide) hp1 (Nat.le_refl _)) (fun p1 c1 _ => ⟨_, rfl⟩)
        · exact ⟨_, rfl⟩
      split
      · rename_i h0
        have hp1 := hlt p _ hp h0 (by decide) (by decide)
        split
        · exact pThen_tot (rc 8 (d + 1) (p + 1) b (by decide) hp1 (Nat.le_refl _)) (fun p1 c1 _ => pEat_tot (fun _ => ⟨_, rfl⟩))
        · exact ⟨_, rfl⟩
      split
      · exact pEat_tot (fun _ => ⟨_, rfl⟩)
      · refine pThen_tot (ih 3 d p b (by decide) hp (by show (T - p) * 6 + 2 < n; omega)) (fun p1 c1 h1 => ?_)
        obtain ⟨f1, f2, f3⟩ := fine _ _ _ _ _ _ hp h1
        split
        · rename_i h3
          have hp1 := hlt p1 _ f1 rfl (by omega) (by omega)
          exact pThen_tot (rc 3 d (p1 + 1) _ (by decide) hp1 (by have := f3 rfl; omega)) (fun p2 c2 _ => ⟨_, rfl⟩)
        · exact ⟨_, rfl⟩
    have hM : ∀ k, pOpM k = true → k ≠ 42 ∧ k ≠ 43 := fun k hk => by
      refine ⟨fun z => ?_, fun z => ?_⟩ <;> (subst z; revert hk; decide)
    have hA : ∀ k, pOpA k = true → k ≠ 42 ∧ k ≠ 43 := fun k hk => by
      refine ⟨fun z => ?_, fun z => ?_⟩ <;> (subst z; revert hk; decide)
    have hN : ∀ k, pOpN k = true → k ≠ 42 ∧ k ≠ 43 := fun k hk => by
      refine ⟨fun z => ?_, fun z => ?_⟩ <;> (subst z; revert hk; decide)
    have hO : ∀ k, pOpO k = true → k ≠ 42 ∧ k ≠ 43 := fun k hk => by
      refine ⟨fun z => ?_, fun z => ?_⟩ <;> (subst z; revert hk; decide)
    match m, hm, hhead, hsin with
    | 0, _, _, _ => exact hval
    | 1, _, hhead, _ => exact hhead 0 2 (by decide) (by decide) rfl (by decide)
    | 2, _, _, _ => exact hloop 0 2 pOpM (by decide) (by decide) rfl hM
    | 3, _, hhead, _ => exact hhead 1 4 (by decide) (by decide) rfl (by decide)
    | 4, _, _, _ => exact hloop 1 4 pOpA (by decide) (by decide) rfl hA
    | 5, _, _, hsin => exact hsin (by decide)
    | 6, _, hhead, _ => exact hhead 5 7 (by decide) (by decide) rfl (by decide)
    | 7, _, _, _ => exact hloop 5 7 pOpN (by decide) (by decide) rfl hN
    | 8, _, hhead, _ => exact hhead 6 9 (by decide) (by decide) rfl (by decide)
    | 9, _, _, _ => exact hloop 6 9 pOpO (by decide) (by decide) rfl hO
    | k + 10, hm, _, _ => exact absurd hm (by omega)
/-! ===== lines ===== -/
/-- an order: its kind, its name's token, its first step; three sums; a test, and whether it has one -/
abbrev pOrd : Type := (Nat × Nat × Nat) × (List pSt × List pSt × List pSt) × (List pSt × Bool)
abbrev oKind (o : pOrd) : Nat := o.1.1
abbrev oName (o : pOrd) : Nat := o.1.2.1
abbrev oFrom (o : pOrd) : Nat := o.1.2.2
abbrev oS1 (o : pOrd) : List pSt := o.2.1.1
abbrev oS2 (o : pOrd) : List pSt := o.2.1.2.1
abbrev oS3 (o : pOrd) : List pSt := o.2.1.2.2
abbrev oTst (o : pOrd) : List pSt := o.2.2.1
abbrev oHas (o : pOrd) : Bool := o.2.2.2
abbrev oMid (o : pOrd) : Nat := oFrom o + (oS1 o).length + (oS2 o).length + (oS3 o).length
abbrev oEnd (o : pOrd) : Nat := oMid o + (oTst o).length
def oCode (o : pOrd) : List pSt := oS1 o ++ (oS2 o ++ (oS3 o ++ oTst o))
theorem oCode_len (o : pOrd) : oFrom o + (oCode o).length = oEnd o := by
  unfold oCode oEnd oMid
  rw [List.length_append, List.length_append, List.length_append]
  omega
def gThen {α : Type} (r : pRes) (f : Nat → List pSt → Option (Nat ⊕ α)) : Option (Nat ⊕ α) := match r with
  | none => none
  | some (.inl e) => some (.inl e)
  | some (.inr (p, cd)) => f p cd
def gEat {α : Type} (tk : Nat → Nat) (k p : Nat) (r : Option (Nat ⊕ α)) : Option (Nat ⊕ α) := if tk p = k then r else some (.inl p)
theorem gThen_on {α : Type} {r : pRes} {f : Nat → List pSt → Option (Nat ⊕ α)} {x : Nat ⊕ α} (h : gThen r f = some x) : (∃ e, r = some (.inl e) ∧ x = .inl e) ∨ ∃ p cd, r = some (.inr (p, cd)) ∧ f p cd = some x := by
  unfold gThen at h
  match r, h with
  | none, h => cases h
  | some (.inl e), h => exact Or.inl ⟨e, rfl, (Option.some.inj h).symm⟩
  | some (.inr (p, cd)), h => exact Or.inr ⟨p, cd, rfl, h⟩
theorem gEat_on {α : Type} {tk : Nat → Nat} {k p : Nat} {r : Option (Nat ⊕ α)} {x : Nat ⊕ α} (h : gEat tk k p r = some x) : (tk p = k ∧ r = some x) ∨ (tk p ≠ k ∧ x = .inl p) := by
  unfold gEat at h
  by_cases hq : tk p = k
  · rw [if_pos hq] at h; exact Or.inl ⟨hq, h⟩
  · rw [if_neg hq] at h; exact Or.inr ⟨hq, (Option.some.inj h).symm⟩
theorem gThen_tot {α : Type} {r : pRes} {f : Nat → List pSt → Option (Nat ⊕ α)} (h : ∃ x, r = some x) (h1 : ∀ p cd, r = some (.inr (p, cd)) → ∃ x, f p cd = some x) : ∃ x, gThen r f = some x := by
  obtain ⟨x, rfl⟩ := h
  match x, h1 with
  | .inl e, _ => exact ⟨_, rfl⟩
  | .inr (p, cd), h1 => exact h1 p cd rfl
theorem gEat_tot {α : Type} {tk : Nat → Nat} {k p : Nat} {r : Option (Nat ⊕ α)} (h : tk p = k → ∃ x, r = some x) : ∃ x, gEat tk k p r = some x := by
  unfold gEat
  by_cases hq : tk p = k
  · rw [if_pos hq]; exact h hq
  · rw [if_neg hq]; exact ⟨_, rfl⟩
def pWhen (tk : Nat → Nat) (n : Nat) (h : Nat × Nat × Nat) (s : List pSt × List pSt × List pSt) (q b : Nat) : Option (Nat ⊕ (Nat × pOrd)) := if tk q = 9 then gThen (pE tk n 8 0 (q + 1) b) (fun q4 c4 => some (.inr (q4, (h, s, (c4, true))))) else some (.inr (q, (h, s, ([], false))))
def pOrder (tk : Nat → Nat) (n p b : Nat) : Option (Nat ⊕ (Nat × pOrd)) := gEat tk 41 (p + 1) (if tk p = 4 then gEat tk 5 (p + 2) (gThen (pE tk n 3 0 (p + 3) b) (fun p1 c1 => gEat tk 30 p1 (gThen (pE tk n 3 0 (p1 + 1) (b + c1.length)) (fun p2 c2 => gEat tk 6 p2 (gThen (pE tk n 3 0 (p2 + 1) (b + c1.length + c2.length)) (fun p3 c3 => pWhen tk n (tk p, p + 1, b) (c1, c2, c3) p3 (b + c1.length + c2.length + c3.length))))))) else pWhen tk n (tk p, p + 1, b) ([], [], []) (p + 2) b)
def pTile (tk : Nat → Nat) (p : Nat) : Option (Nat ⊕ Nat) := gEat tk 41 (p + 1) (gEat tk 40 (p + 2) (gEat tk 40 (p + 3) (gEat tk 40 (p + 4) (some (.inr (p + 5))))))
def pLines (tk : Nat → Nat) (n : Nat) : Nat → Nat → Nat → List pOrd → Option (Nat ⊕ List pOrd)
  | 0, _, _, _ => none
  | f + 1, p, b, os => if tk p = 42 then some (.inr os)
    else if tk p = 3 then (match pTile tk p with
      | none => none
      | some (.inl e) => some (.inl e)
      | some (.inr q) => gEat tk 29 q (pLines tk n f (q + 1) b os))
    else if tk p = 4 ∨ tk p = 7 ∨ tk p = 8 then (match pOrder tk n p b with
      | none => none
      | some (.inl e) => some (.inl e)
      | some (.inr (q, o)) => gEat tk 29 q (pLines tk n f (q + 1) (b + (oCode o).length) (os ++ [o])))
    else some (.inl p)
def pGame (tk : Nat → Nat) (n : Nat) : Option (Nat ⊕ List pOrd) := if tk 0 = 1 then gEat tk 40 1 (gEat tk 2 2 (gEat tk 40 3 (gEat tk 29 4 (pLines tk n 401 5 0 [])))) else pLines tk n 401 0 0 []
/-- an order's sense: where it ends, its tokens, steps, trees -/
def pOk (tk : Nat → Nat) (T p b q : Nat) (o : pOrd) : Prop := q ≤ T ∧ p + 2 + (oCode o).length ≤ q ∧ (oKind o = tk p ∧ oName o = p + 1 ∧ oFrom o = b) ∧ (∀ j, p + 1 ≤ j → j < q → tk j ≠ 1 ∧ tk j ≠ 3 ∧ tk j ≠ 4 ∧ tk j ≠ 7 ∧ tk j ≠ 8 ∧ tk j ≠ 29) ∧ tk (p + 1) = 41 ∧ pSts tk p q (oCode o) ∧ (tk p = 4 → pTr false b (oS1 o) ∧ pTr false (b + (oS1 o).length) (oS2 o) ∧ pTr false (b + (oS1 o).length + (oS2 o).length) (oS3 o)) ∧ (tk p ≠ 4 → oS1 o = [] ∧ oS2 o = [] ∧ oS3 o = []) ∧ (oHas o = true → pTr true (oMid o) (oTst o)) ∧ (oHas o = false → oTst o = [])
theorem pRng.out {tk : Nat → Nat} {p q : Nat} (h : pRng tk p q) : ∀ j, p ≤ j → j < q → tk j ≠ 1 ∧ tk j ≠ 3 ∧ tk j ≠ 4 ∧ tk j ≠ 7 ∧ tk j ≠ 8 ∧ tk j ≠ 29 := by
  intro j h1 h2
  obtain ⟨a, b, c⟩ := h j h1 h2
  omega
theorem pTr.len {ty : Bool} {b : Nat} {cd : List pSt} (h : pTr ty b cd) : 1 ≤ cd.length := by
  obtain ⟨n, h⟩ := h
  cases n with
  | zero => exact h.elim
  | succ n =>
    rcases h with ⟨k, t, -, rfl⟩ | ⟨c, k, -, -, rfl⟩ | ⟨c1, c2, a, k, -, -, -, rfl⟩
    · exact Nat.le_refl _
    · rw [List.length_append]; exact Nat.le_add_left _ _
    · rw [List.length_append, List.length_append, List.length_singleton]; omega
theorem pWhen_ok {tk : Nat → Nat} {T n : Nat} (ht : pTk tk T) {h : Nat × Nat × Nat} {s : List pSt × List pSt × List pSt} {r b q : Nat} {o : pOrd} (hr : r ≤ T) (hx : pWhen tk n h s r b = some (.inr (q, o))) : q ≤ T ∧ o.1 = h ∧ o.2.1 = s ∧ r + (oTst o).length ≤ q ∧ (∀ j, r ≤ j → j < q → tk j ≠ 1 ∧ tk j ≠ 3 ∧ tk j ≠ 4 ∧ tk j ≠ 7 ∧ tk j ≠ 8 ∧ tk j ≠ 29) ∧ pSts tk r q (oTst o) ∧ (oHas o = true → pTr true b (oTst o)) ∧ (oHas o = false → oTst o = []) := by
  unfold pWhen at hx
  by_cases h9 : tk r = 9
  · rw [if_pos h9] at hx
    have hr1 := ht.lt hr (by omega) (by omega)
    rcases gThen_on hx with ⟨e, -, z⟩ | ⟨p4, c4, h4, h5⟩
    · cases z
    · cases h5
      have g := pE_fine ht _ _ _ _ _ _ hr1 h4
      obtain ⟨w1, w2, w3, -⟩ := pE_wf ht _ _ _ _ _ _ _ (by decide) hr1 h4
      have g2 := g.2.1
      refine ⟨g.1, rfl, rfl, ?_, fun j j1 j2 => ?_, w2.mono (by omega) (Nat.le_refl _), fun _ => w3 rfl, fun z => by cases z⟩
      · show r + c4.length ≤ q
        omega
      · by_cases hj : j = r
        · subst hj; omega
        · exact w1.out j (by omega) j2
  · rw [if_neg h9] at hx
    cases hx
    exact ⟨hr, rfl, rfl, Nat.le_refl _, fun j j1 j2 => absurd (Nat.lt_of_le_of_lt j1 j2) (Nat.lt_irrefl _), pSts.nil _ _ _, fun z => (by cases z), fun _ => rfl⟩
theorem pOrder_ok {tk : Nat → Nat} {T n : Nat} (ht : pTk tk T) {p b q : Nat} {o : pOrd} (hp : p < T) (hk : tk p = 4 ∨ tk p = 7 ∨ tk p = 8) (hx : pOrder tk n p b = some (.inr (q, o))) : pOk tk T p b q o := by
  unfold pOrder at hx
  rcases gEat_on hx with ⟨h41, hx⟩ | ⟨-, z⟩
  rotate_left
  · cases z
  have hp1 := ht.lt (show p + 1 ≤ T by omega) (by omega) (by omega)
  by_cases h4 : tk p = 4
  · rw [if_pos h4] at hx
    rcases gEat_on hx with ⟨h5, hx⟩ | ⟨-, z⟩
    rotate_left
    · cases z
    have hp2 := ht.lt (show p + 2 ≤ T by omega) (by omega) (by omega)
    rcases gThen_on hx with ⟨e, -, z⟩ | ⟨p1, c1, r1, hx⟩
    · cases z
    rcases gEat_on hx with ⟨h30, hx⟩ | ⟨-, z⟩
    rotate_left
    · cases z
    obtain ⟨f1, f2, -⟩ := pE_fine ht _ _ _ _ _ _ (show p + 3 ≤ T by omega) r1
    obtain ⟨w1, w2, w3, -⟩ := pE_wf ht _ _ _ _ _ _ _ (by decide) (show p + 3 ≤ T by omega) r1
    have hp3 := ht.lt f1 (by omega) (by omega)
    rcases gThen_on hx with ⟨e, -, z⟩ | ⟨p2, c2, r2, hx⟩
    · cases z
    rcases gEat_on hx with ⟨h6, hx⟩ | ⟨-, z⟩
    rotate_left
    · cases z
    obtain ⟨f3, f4, -⟩ := pE_fine ht _ _ _ _ _ _ (show p1 + 1 ≤ T by omega) r2
    obtain ⟨v1, v2, v3, -⟩ := pE_wf ht _ _ _ _ _ _ _ (by decide) (show p1 + 1 ≤ T by omega) r2
    have hp4 := ht.lt f3 (by omega) (by omega)
    rcases gThen_on hx with ⟨e, -, z⟩ | ⟨p3, c3, r3, hx⟩
    · cases z
    obtain ⟨f5, f6, -⟩ := pE_fine ht _ _ _ _ _ _ (show p2 + 1 ≤ T by omega) r3
    obtain ⟨u1, u2, u3, -⟩ := pE_wf ht _ _ _ _ _ _ _ (by decide) (show p2 + 1 ≤ T by omega) r3
    obtain ⟨k1, k2, k3, k4, k5, k6, k7, k8⟩ := pWhen_ok ht f5 hx
    obtain ⟨oh, os, ot⟩ := o
    try dsimp only at k2 k3
    subst k2
    subst k3
    refine ⟨k1, ?_, ⟨rfl, rfl, rfl⟩, fun j j1 j2 => ?_, h41, ?_, fun _ => ⟨w3 rfl, v3 rfl, u3 rfl⟩, fun z => absurd h4 z, k7, k8⟩
    · unfold oCode
      rw [List.length_append, List.length_append, List.length_append]
      have k4' : p3 + ot.1.length ≤ q := k4
      show p + 2 + (c1.length + (c2.length + (c3.length + ot.1.length))) ≤ q
      omega
    · by_cases a1 : j = p + 1
      · subst a1; omega
      by_cases a2 : j = p + 2
      · subst a2; omega
      by_cases a3 : j < p1
      · exact w1.out j (by omega) a3
      by_cases a4 : j = p1
      · subst a4; omega
      by_cases a5 : j < p2
      · exact v1.out j (by omega) a5
      by_cases a6 : j = p2
      · subst a6; omega
      by_cases a7 : j < p3
      · exact u1.out j (by omega) a7
      · exact k5 j (by omega) j2
    · have k4' : p3 + ot.1.length ≤ q := k4
      exact (w2.mono (by omega) (by omega)).app ((v2.mono (by omega) (by omega)).app ((u2.mono (by omega) (by omega)).app (k6.mono (by omega) (Nat.le_refl _))))
  · rw [if_neg h4] at hx
    obtain ⟨k1, k2, k3, k4, k5, k6, k7, k8⟩ := pWhen_ok ht (show p + 2 ≤ T by omega) hx
    obtain ⟨oh, os, ot⟩ := o
    try dsimp only at k2 k3
    subst k2
    subst k3
    refine ⟨k1, ?_, ⟨rfl, rfl, rfl⟩, fun j j1 j2 => ?_, h41, ?_, fun z => absurd z h4, fun _ => ⟨rfl, rfl, rfl⟩, fun z => k7 z, k8⟩
    · show p + 2 + (oTst ((tk p, p + 1, b), ([], [], []), ot)).length ≤ q
      exact k4
    · by_cases a1 : j = p + 1
      · subst a1; omega
      · exact k5 j (by omega) j2
    · exact k6.mono (by omega) (Nat.le_refl _)
theorem pOrder_bad {tk : Nat → Nat} {T n : Nat} (ht : pTk tk T) {p b e : Nat} (hp : p < T) (hx : pOrder tk n p b = some (.inl e)) : p + 1 ≤ e ∧ e ≤ T := by
  have hwhen : ∀ (h : Nat × Nat × Nat) (s : List pSt × List pSt × List pSt) (r b : Nat), r ≤ T → p + 1 ≤ r → pWhen tk n h s r b = some (.inl e) → p + 1 ≤ e ∧ e ≤ T := by
    intro h s r b hr hpr hx
    unfold pWhen at hx
    by_cases h9 : tk r = 9
    · rw [if_pos h9] at hx
      have hr1 := ht.lt hr (by omega) (by omega)
      rcases gThen_on hx with ⟨e', he, z⟩ | ⟨p4, c4, h4, h5⟩
      · cases z
        have g := pE_fine ht _ _ _ _ _ _ hr1 he
        have g1 := g.1
        exact ⟨by omega, g.2⟩
      · cases h5
    · rw [if_neg h9] at hx; cases hx
  unfold pOrder at hx
  rcases gEat_on hx with ⟨h41, hx⟩ | ⟨-, z⟩
  rotate_left
  · cases z; exact ⟨Nat.le_refl _, hp⟩
  have hp1 := ht.lt (show p + 1 ≤ T by omega) (by omega) (by omega)
  by_cases h4 : tk p = 4
  · rw [if_pos h4] at hx
    rcases gEat_on hx with ⟨h5, hx⟩ | ⟨-, z⟩
    rotate_left
    · cases z; exact ⟨by omega, by omega⟩
    have hp2 := ht.lt (show p + 2 ≤ T by omega) (by omega) (by omega)
    rcases gThen_on hx with ⟨e', r1, z⟩ | ⟨p1, c1, r1, hx⟩
    · cases z
      have g := pE_fine ht _ _ _ _ _ _ (show p + 3 ≤ T by omega) r1
      have g1 := g.1
      exact ⟨by omega, g.2⟩
    obtain ⟨f1, f2, -⟩ := pE_fine ht _ _ _ _ _ _ (show p + 3 ≤ T by omega) r1
    rcases gEat_on hx with ⟨h30, hx⟩ | ⟨-, z⟩
    rotate_left
    · cases z; exact ⟨by omega, by omega⟩
    have hp3 := ht.lt f1 (by omega) (by omega)
    rcases gThen_on hx with ⟨e', r2, z⟩ | ⟨p2, c2, r2, hx⟩
    · cases z
      have g := pE_fine ht _ _ _ _ _ _ (show p1 + 1 ≤ T by omega) r2
      have g1 := g.1
      exact ⟨by omega, g.2⟩
    obtain ⟨f3, f4, -⟩ := pE_fine ht _ _ _ _ _ _ (show p1 + 1 ≤ T by omega) r2
    rcases gEat_on hx with ⟨h6, hx⟩ | ⟨-, z⟩
    rotate_left
    · cases z; exact ⟨by omega, by omega⟩
    have hp4 := ht.lt f3 (by omega) (by omega)
    rcases gThen_on hx with ⟨e', r3, z⟩ | ⟨p3, c3, r3, hx⟩
    · cases z
      have g := pE_fine ht _ _ _ _ _ _ (show p2 + 1 ≤ T by omega) r3
      have g1 := g.1
      exact ⟨by omega, g.2⟩
    obtain ⟨f5, f6, -⟩ := pE_fine ht _ _ _ _ _ _ (show p2 + 1 ≤ T by omega) r3
    exact hwhen _ _ _ _ f5 (by omega) hx
  · rw [if_neg h4] at hx
    exact hwhen _ _ _ _ (by omega) (by omega) hx
theorem pTile_ok {tk : Nat → Nat} {T : Nat} (ht : pTk tk T) {p q : Nat} (hp : p < T) (hx : pTile tk p = some (.inr q)) : q = p + 5 ∧ p + 5 ≤ T ∧ tk (p + 1) = 41 ∧ tk (p + 2) = 40 ∧ tk (p + 3) = 40 ∧ tk (p + 4) = 40 := by
  unfold pTile at hx
  rcases gEat_on hx with ⟨h1, hx⟩ | ⟨-, z⟩
  rotate_left
  · cases z
  have g1 := ht.lt (show p + 1 ≤ T by omega) (by omega) (by omega)
  rcases gEat_on hx with ⟨h2, hx⟩ | ⟨-, z⟩
  rotate_left
  · cases z
  have g2 := ht.lt (show p + 2 ≤ T by omega) (by omega) (by omega)
  rcases gEat_on hx with ⟨h3, hx⟩ | ⟨-, z⟩
  rotate_left
  · cases z
  have g3 := ht.lt (show p + 3 ≤ T by omega) (by omega) (by omega)
  rcases gEat_on hx with ⟨h4, hx⟩ | ⟨-, z⟩
  rotate_left
  · cases z
  have g4 := ht.lt (show p + 4 ≤ T by omega) (by omega) (by omega)
  cases hx
  exact ⟨rfl, by omega, h1, h2, h3, h4⟩
theorem pTile_tot (tk : Nat → Nat) (p : Nat) : ∃ x, pTile tk p = some x := gEat_tot (fun _ => gEat_tot (fun _ => gEat_tot (fun _ => gEat_tot (fun _ => ⟨_, rfl⟩))))
theorem pOrder_tot {tk : Nat → Nat} {T : Nat} (ht : pTk tk T) {p b : Nat} (hp : p < T) : ∃ x, pOrder tk 2500 p b = some x := by
  have h400 := ht.1
  have tot : ∀ m q b, m ≤ 9 → q ≤ T → ∃ x, pE tk 2500 m 0 q b = some x := fun m q b hm hq => pE_tot ht 2500 m 0 q b hm hq (by
    have : pWt m ≤ 5 := by unfold pWt; split <;> omega
    omega)
  have hwhen : ∀ (h : Nat × Nat × Nat) (s : List pSt × List pSt × List pSt) (r b : Nat), r ≤ T → ∃ x, pWhen tk 2500 h s r b = some x := by
    intro h s r b hr
    unfold pWhen
    by_cases h9 : tk r = 9
    · rw [if_pos h9]
      exact gThen_tot (tot 8 (r + 1) b (by decide) (ht.lt hr (by omega) (by omega))) (fun _ _ _ => ⟨_, rfl⟩)
    · rw [if_neg h9]
      exact ⟨_, rfl⟩
  unfold pOrder
  refine gEat_tot (fun h41 => ?_)
  have hp1 := ht.lt (show p + 1 ≤ T by omega) (by omega) (by omega)
  by_cases h4 : tk p = 4
  · rw [if_pos h4]
    refine gEat_tot (fun h5 => ?_)
    have hp2 := ht.lt (show p + 2 ≤ T by omega) (by omega) (by omega)
    refine gThen_tot (tot 3 (p + 3) b (by decide) (by omega)) (fun p1 c1 r1 => gEat_tot (fun h30 => ?_))
    obtain ⟨f1, f2, -⟩ := pE_fine ht _ _ _ _ _ _ (show p + 3 ≤ T by omega) r1
    have hp3 := ht.lt f1 (by omega) (by omega)
    refine gThen_tot (tot 3 (p1 + 1) _ (by decide) hp3) (fun p2 c2 r2 => gEat_tot (fun h6 => ?_))
    obtain ⟨f3, f4, -⟩ := pE_fine ht _ _ _ _ _ _ hp3 r2
    have hp4 := ht.lt f3 (by omega) (by omega)
    refine gThen_tot (tot 3 (p2 + 1) _ (by decide) hp4) (fun p3 c3 r3 => ?_)
    obtain ⟨f5, f6, -⟩ := pE_fine ht _ _ _ _ _ _ hp4 r3
    exact hwhen _ _ _ _ f5
  · rw [if_neg h4]
    exact hwhen _ _ _ _ (by omega)
theorem pLines_tot {tk : Nat → Nat} {T : Nat} (ht : pTk tk T) : ∀ (f p b : Nat) (os : List pOrd), p ≤ T → T - p < f → ∃ x, pLines tk 2500 f p b os = some x := by
  intro f
  induction f with
  | zero => intro p b os _ h; exact absurd h (by omega)
  | succ f ih =>
    intro p b os hp h
    unfold pLines
    by_cases h42 : tk p = 42
    · rw [if_pos h42]; exact ⟨_, rfl⟩
    rw [if_neg h42]
    by_cases h3 : tk p = 3
    · rw [if_pos h3]
      have hpT := ht.lt hp (by omega) (by omega)
      obtain ⟨x, hx⟩ := pTile_tot tk p
      match x, hx with
      | .inl e, hx => rw [hx]; exact ⟨_, rfl⟩
      | .inr q, hx =>
        rw [hx]
        obtain ⟨e1, e2, -⟩ := pTile_ok ht hpT hx
        refine gEat_tot (fun h29 => ?_)
        have := ht.lt (show q ≤ T by omega) (by omega) (by omega)
        exact ih (q + 1) b os this (by omega)
    rw [if_neg h3]
    by_cases hk : tk p = 4 ∨ tk p = 7 ∨ tk p = 8
    · rw [if_pos hk]
      have hpT := ht.lt hp (by omega) (by omega)
      obtain ⟨x, hx⟩ := pOrder_tot ht (b := b) hpT
      match x, hx with
      | .inl e, hx => rw [hx]; exact ⟨_, rfl⟩
      | .inr (q, o), hx =>
        rw [hx]
        have e1 := pOrder_ok ht hpT hk hx
        have e2 := e1.1
        have e3 := e1.2.1
        refine gEat_tot (fun h29 => ?_)
        have := ht.lt e2 (by omega) (by omega)
        exact ih (q + 1) _ _ this (by omega)
    · rw [if_neg hk]; exact ⟨_, rfl⟩
theorem pGame_tot {tk : Nat → Nat} {T : Nat} (ht : pTk tk T) : ∃ x, pGame tk 2500 = some x := by
  have h400 := ht.1
  unfold pGame
  by_cases h1 : tk 0 = 1
  · rw [if_pos h1]
    have g0 := ht.lt (Nat.zero_le T) (by omega) (by omega)
    refine gEat_tot (fun h2 => ?_)
    have g1 := ht.lt (show 1 ≤ T by omega) (by omega) (by omega)
    refine gEat_tot (fun h3 => ?_)
    have g2 := ht.lt (show 2 ≤ T by omega) (by omega) (by omega)
    refine gEat_tot (fun h4 => ?_)
    have g3 := ht.lt (show 3 ≤ T by omega) (by omega) (by omega)
    refine gEat_tot (fun h5 => ?_)
    have g4 := ht.lt (show 4 ≤ T by omega) (by omega) (by omega)
    exact pLines_tot ht 401 5 0 [] (by omega) (by omega)
  · rw [if_neg h1]
    exact pLines_tot ht 401 0 0 [] (Nat.zero_le _) (by omega)

