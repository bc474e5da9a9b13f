/-! ===== the class reads the game ===== -/
/-- what the reading of lines may write: k orders are there -/
def gFr (M M' : eM) (b k : Nat) : Prop := ∀ c j, M' c j = M c j ∨ (c = 13 ∧ (j = 2 ∨ j = 3)) ∨ (c = 8 ∧ (j = 6 ∨ j = 9)) ∨ ((c = 11 ∨ c = 12) ∧ b ≤ j) ∨ (36 + k ≤ c ∧ c < 52)
theorem gFr.refl (M : eM) (b k : Nat) : gFr M M b k := fun _ _ => Or.inl rfl
theorem gFr.trans {M M1 M2 : eM} {b k b1 k1 : Nat} (h : gFr M M1 b k) (h1 : gFr M1 M2 b1 k1) (hb : b ≤ b1) (hk : k ≤ k1) : gFr M M2 b k := by
  intro c j
  rcases h1 c j with z | z | z | z | z
  · rcases h c j with y | y
    · exact Or.inl (z.trans y)
    · exact Or.inr y
  · exact Or.inr (Or.inl z)
  · exact Or.inr (Or.inr (Or.inl z))
  · exact Or.inr (Or.inr (Or.inr (Or.inl ⟨z.1, Nat.le_trans hb z.2⟩)))
  · exact Or.inr (Or.inr (Or.inr (Or.inr ⟨by omega, z.2⟩)))
theorem gFr.at {M M' : eM} {b k : Nat} (h : gFr M M' b k) {c j : Nat} (h1 : ¬ (c = 13 ∧ (j = 2 ∨ j = 3))) (h2 : ¬ (c = 8 ∧ (j = 6 ∨ j = 9))) (h3 : ¬ ((c = 11 ∨ c = 12) ∧ b ≤ j)) (h4 : ¬ (36 + k ≤ c ∧ c < 52)) : M' c j = M c j := by
  rcases h c j with z | z | z | z | z
  · exact z
  · exact absurd z h1
  · exact absurd z h2
  · exact absurd z h3
  · exact absurd z h4
theorem pFr.g {M M' : eM} {b : Nat} (h : pFr M M' b) (k : Nat) : gFr M M' b k := by
  intro c j
  rcases h c j with z | z | z | z
  · exact Or.inl z
  · exact Or.inr (Or.inl z)
  · exact Or.inr (Or.inr (Or.inl ⟨z.1, Or.inr z.2⟩))
  · exact Or.inr (Or.inr (Or.inr (Or.inl z)))
theorem pFr.at {M M' : eM} {b : Nat} (h : pFr M M' b) {c j : Nat} (h1 : c ≠ 13) (h2 : ¬ (c = 8 ∧ j = 9)) (h3 : c ≠ 11) (h4 : c ≠ 12) : M' c j = M c j := by
  rcases h c j with z | z | z | z
  · exact z
  · exact absurd z.1 h1
  · exact absurd z h2
  · rcases z.1 with y | y
    · exact absurd y h3
    · exact absurd y h4
theorem cRd.fr {tk : Nat → Nat} {T : Nat} {M M' : eM} {p b : Nat} (h : cRd tk T M p b) (h4 : M' 4 = M 4) (h3 : M' 3 5 = M 3 5) (h13 : M' 13 = M 13) (h8 : M' 8 9 = M 8 9) : cRd tk T M' p b := by
  obtain ⟨m1, m2, m3, m4, m5⟩ := h
  refine ⟨fun j hj => ?_, ?_, ?_, ?_, ?_⟩
  · rw [h4]; exact m1 j hj
  · rw [h3]; exact m2
  · rw [h13]; exact m3
  · rw [h13]; exact m4
  · rw [h8]; exact m5
theorem pCd.fr {M M' : eM} {b : Nat} {cd : List pSt} (h : pCd M b cd) (h1 : M' 11 = M 11) (h2 : M' 12 = M 12) : pCd M' b cd := by
  unfold pCd at h ⊢
  rw [h1, h2]
  exact h
/-- the order k as the draft holds it -/
def cOrd (M : eM) (k : Nat) (o : pOrd) : Prop := M (36 + k) 0 = nI (oKind o) ∧ M (36 + k) 1 = nI (oName o) ∧ M (36 + k) 2 = nI (oFrom o) ∧ M (36 + k) 3 = nI (oMid o) ∧ M (36 + k) 4 = nI (oEnd o)
section CGame
variable {G : eG} {tk : Nat → Nat} {T n : Nat}
theorem R_beginOrder {M : eM} {k : Nat} (h6 : M 8 6 = nI (min 16 k)) (F : eM → Prop) (a1 a2 : Int32) (h : ∀ M', (∀ c j, ¬ (k < 16 ∧ c = 36 + k) → M' c j = M c j) → (k < 16 → M' (36 + k) 0 = a1 ∧ M' (36 + k) 1 = a2 ∧ M' (36 + k) 2 = M 8 9) → F M') : Cal G 0 68 (1, 0, 0) kX7_beginOrder [.ref (G.1 8), eV G 1 a1, .int a2] M (eFV F) := by
  refine C_X7_beginOrder G M F a1 a2 ?_
  rw [h6]
  by_cases hk : k < 16
  · rw [show min 16 k = k by omega, nI_clamp (show k < 2 ^ 31 by omega)]
    refine ⟨fun q => absurd q (nI_ge hk (by decide)), fun _ => ⟨vp_in_nI hk (by decide), h _ (fun c j n1 => ?_) (fun _ => ⟨?_, ?_, ?_⟩)⟩⟩
    · have hc : c ≠ 36 + k := fun z => n1 ⟨hk, z⟩
      rw [eU_cell _ _ _ _ hc, eU_cell _ _ _ _ hc, eU_cell _ _ _ _ hc]
    · rw [eU_place _ _ _ _ (by decide), eU_place _ _ _ _ (by decide), eU_same]
    · rw [eU_place _ _ _ _ (by decide), eU_same]
    · rw [eU_same, eU_cell _ _ _ _ (by omega), eU_cell _ _ _ _ (by omega)]
  · rw [show min 16 k = 16 by omega]
    exact ⟨fun _ => h M (fun _ _ _ => rfl) (fun z => absurd z hk), fun q => absurd (Int32.le_refl 16) q⟩
theorem R_beginTest {M : eM} {k : Nat} (h6 : M 8 6 = nI (min 16 k)) (F : eM → Prop) (h : ∀ M', (∀ c j, ¬ (k < 16 ∧ c = 36 + k ∧ j = 3) → M' c j = M c j) → (k < 16 → M' (36 + k) 3 = M 8 9) → F M') : Cal G 0 68 (1, 0, 0) kX7_beginTest [.ref (G.1 8)] M (eFV F) := by
  refine C_X7_beginTest G M F ?_
  rw [h6]
  by_cases hk : k < 16
  · rw [show min 16 k = k by omega, nI_clamp (show k < 2 ^ 31 by omega)]
    exact ⟨fun q => absurd q (nI_ge hk (by decide)), fun _ => ⟨vp_in_nI hk (by decide), h _ (fun c j n1 => if_neg (fun z => n1 ⟨hk, z⟩)) (fun _ => eU_same _ _ _ _)⟩⟩
  · rw [show min 16 k = 16 by omega]
    exact ⟨fun _ => h M (fun _ _ _ => rfl) (fun z => absurd z hk), fun q => absurd (Int32.le_refl 16) q⟩
theorem R_endOrder {M : eM} {k : Nat} (h6 : M 8 6 = nI (min 16 k)) (F : eM → Prop) (h : ∀ M', (∀ c j, ¬ (k < 16 ∧ c = 36 + k ∧ j = 4) → ¬ (c = 8 ∧ j = 6) → M' c j = M c j) → M' 8 6 = nI (min 16 (k + 1)) → (k < 16 → M' (36 + k) 4 = M 8 9) → F M') : Cal G 0 68 (1, 0, 0) kX7_endOrder [.ref (G.1 8)] M (eFV F) := by
  refine C_X7_endOrder G M F ?_
  rw [h6]
  by_cases hk : k < 16
  · rw [show min 16 k = k by omega, nI_clamp (show k < 2 ^ 31 by omega)]
    refine ⟨fun q => absurd q (nI_ge hk (by decide)), fun _ => ⟨vp_in_nI hk (by decide), h _ (fun c j n1 n2 => ?_) ?_ (fun _ => ?_)⟩⟩
    · show (if c = 8 ∧ j = 6 then _ else (if c = 36 + k ∧ j = 4 then _ else M c j)) = M c j
      rw [if_neg n2, if_neg (fun z => n1 ⟨hk, z⟩)]
    · rw [eU_same, eU_cell _ _ _ _ (by omega), h6, show min 16 k = k by omega, show min 16 (k + 1) = k + 1 by omega]
      exact (nI_succ k).symm
    · rw [eU_cell _ _ _ _ (by omega), eU_same]
  · rw [show min 16 k = 16 by omega]
    exact ⟨fun _ => h M (fun _ _ _ _ => rfl) (by rw [h6, show min 16 k = 16 by omega, show min 16 (k + 1) = 16 by omega]) (fun z => absurd z hk), fun q => absurd (Int32.le_refl 16) q⟩
/-- the state of lines -/
def cLn (tk : Nat → Nat) (T : Nat) (M : eM) (p b k : Nat) : Prop := cRd tk T M p b ∧ M 8 6 = nI (min 16 k)
theorem R_when (ht : pTk tk T) {M M0 : eM} {r b k b0 : Nat} {h : Nat × Nat × Nat} {s : List pSt × List pSt × List pSt} (hM : cLn tk T M r b k) (hr : r ≤ T) (hb : b ≤ r) (hb0 : h.2.2 = b0) (hbs : b = b0 + s.1.length + s.2.1.length + s.2.2.length) {x : Nat ⊕ (Nat × pOrd)} (hx : pWhen tk n h s r b = some x) (f0 : gFr M0 M b0 (min 16 k)) (hcd : pCd M b0 (s.1 ++ (s.2.1 ++ s.2.2))) (hrec : k < 16 → M (36 + k) 0 = nI h.1 ∧ M (36 + k) 1 = nI h.2.1 ∧ M (36 + k) 2 = nI b0) (F : Bool → eM → Prop)
    (hF : match (generalizing := false) x with
      | .inl e => ∀ M', gFr M0 M' b0 (min 16 k) → M' 13 3 = nI e → F false M'
      | .inr (q, o) => ∀ M', gFr M0 M' b0 (min 16 k) → cLn tk T M' q (b0 + (oCode o).length) (k + 1) → pCd M' b0 (oCode o) → (k < 16 → cOrd M' k o) → F true M') : Ev (eZ G 0 68 0 0 (eFZ F)) G 0 68 (101, 0, 0) kX3_readsOrder 128 [(0, .ref (G.1 13)), (2, .int (eZi true))] [] M 0 0 := by
  obtain ⟨m1, m2⟩ := hM
  have h400 := ht.1
  refine B_X3_readsOrder_128 G M F true (R_beginTest m2 _ (fun M1 g1 w1 => ⟨cTF, fun _ => ?_⟩))
  have fr1 : gFr M M1 b0 (min 16 k) := fun c j => by
    by_cases hc : k < 16 ∧ c = 36 + k ∧ j = 3
    · exact Or.inr (Or.inr (Or.inr (Or.inr ⟨by omega, by omega⟩)))
    · exact Or.inl (g1 c j hc)
  have a1 : ∀ c, (c < 36 ∨ 52 ≤ c) → M1 c = M c := fun c hc => funext fun j => g1 c j (by omega)
  have m1' : cRd tk T M1 r b := m1.fr (a1 4 (by decide)) (by rw [a1 3 (by decide)]) (a1 13 (by decide)) (by rw [a1 8 (by decide)])
  have cd1 : pCd M1 b0 (s.1 ++ (s.2.1 ++ s.2.2)) := hcd.fr (a1 11 (by decide)) (a1 12 (by decide))
  have ls : (s.1 ++ (s.2.1 ++ s.2.2)).length = s.1.length + s.2.1.length + s.2.2.length := by rw [List.length_append, List.length_append]; omega
  have h89 : M 8 9 = nI b := m1.2.2.2.2
  -- the end of an order, after its test
  have fin : ∀ (M2 : eM) (q : Nat) (o : pOrd) (be : Nat), gFr M1 M2 b0 (min 16 k) → (∀ j, M2 (36 + k) j = M1 (36 + k) j) → M2 8 6 = M1 8 6 → cRd tk T M2 q be → o.1 = h → o.2.1 = s → be = b + (oTst o).length → pCd M2 b0 (oCode o) → x = .inr (q, o) → Cal G 0 68 (1, 0, 0) kX7_endOrder [.ref (G.1 8)] M2 (eFV (fun (M6 : eM) => F true M6)) := by
    intro M2 q o be f2 r2 e6 c2 o1 o2 hbe cd2 hxo
    subst hxo
    refine R_endOrder (k := k) (by rw [e6, a1 8 (by decide)]; exact m2) _ (fun M3 g3 n6 w3 => ?_)
    have fr3 : gFr M2 M3 b0 (min 16 k) := fun c j => by
      by_cases hc : k < 16 ∧ c = 36 + k ∧ j = 4
      · exact Or.inr (Or.inr (Or.inr (Or.inr ⟨by omega, by omega⟩)))
      by_cases hc2 : c = 8 ∧ j = 6
      · exact Or.inr (Or.inr (Or.inl ⟨hc2.1, Or.inl hc2.2⟩))
      · exact Or.inl (g3 c j hc hc2)
    have a3 : ∀ c j, (c < 36 ∨ 52 ≤ c) → ¬ (c = 8 ∧ j = 6) → M3 c j = M2 c j := fun c j hc hj => g3 c j (by omega) hj
    have hfrom : oFrom o = b0 := by show o.1.2.2 = b0; rw [o1]; exact hb0
    have hmid : oMid o = b := by
      show o.1.2.2 + o.2.1.1.length + o.2.1.2.1.length + o.2.1.2.2.length = b
      rw [o1, o2, hb0]; omega
    have hlen : b0 + (oCode o).length = be := by rw [← hfrom, oCode_len, hbe, ← hmid]
    refine hF M3 (((f0.trans fr1 (Nat.le_refl _) (Nat.le_refl _)).trans f2 (Nat.le_refl _) (Nat.le_refl _)).trans fr3 (Nat.le_refl _) (Nat.le_refl _)) ⟨?_, n6⟩ (cd2.fr (funext fun j => a3 11 j (by decide) (by omega)) (funext fun j => a3 12 j (by decide) (by omega))) (fun hk => ⟨?_, ?_, ?_, ?_, ?_⟩)
    · rw [hlen]
      exact c2.fr (funext fun j => a3 4 j (by decide) (by omega)) (a3 3 5 (by decide) (by omega)) (funext fun j => a3 13 j (by decide) (by omega)) (a3 8 9 (by decide) (by omega))
    · rw [g3 _ _ (by omega) (by omega), r2, g1 _ _ (by omega)]
      show _ = nI o.1.1
      rw [o1]
      exact (hrec hk).1
    · rw [g3 _ _ (by omega) (by omega), r2, g1 _ _ (by omega)]
      show _ = nI o.1.2.1
      rw [o1]
      exact (hrec hk).2.1
    · rw [g3 _ _ (by omega) (by omega), r2, g1 _ _ (by omega), hfrom]
      exact (hrec hk).2.2
    · rw [g3 _ _ (by omega) (by omega), r2, w1 hk, hmid]
      exact h89
    · rw [w3 hk, c2.2.2.2.2, hbe, ← hmid]
  unfold pWhen at hx
  refine S_accept G ht m1' hr _ 9 (by decide) (fun h9 M2 f2 r2 _ => ⟨cTF, fun _ => ?_⟩) (fun h9 => ⟨fun _ => ?_, cFT⟩)
  · rw [if_pos h9] at hx
    have hr1 := ht.lt hr (by omega) (by omega)
    have kp : ∀ (M2 M3 : eM), pFr M2 M3 b → (∀ j, M3 (36 + k) j = M2 (36 + k) j) ∨ 16 ≤ k := fun M2 M3 f => by
      by_cases hk : k < 16
      · exact Or.inl fun j => f.at (by omega) (by omega) (by omega) (by omega)
      · exact Or.inr (by omega)
    rcases gThen_on hx with ⟨e, hr2, rfl⟩ | ⟨q4, c4, hr2, hx⟩
    · refine cP_all (n := n) ht 8 0 (r + 1) b 95 M2 _ _ (by decide) (by decide) hr1 (by omega) r2 hr2 (fun M3 f3 n3 => ?_) (by decide)
      have f23 := f2.trans f3 (Nat.le_refl _)
      have e6 : M3 8 6 = nI (min 16 k) := by rw [f23.at (by decide) (by decide) (by decide) (by decide), a1 8 (by decide)]; exact m2
      refine R_endOrder (k := k) e6 _ (fun M4 g4 _ _ => hF M4 (((f0.trans fr1 (Nat.le_refl _) (Nat.le_refl _)).trans (f23.g _) (by omega) (Nat.le_refl _)).trans (b1 := b0) (k1 := min 16 k) (fun c j => ?_) (Nat.le_refl _) (Nat.le_refl _)) ?_)
      · by_cases hc : k < 16 ∧ c = 36 + k ∧ j = 4
        · exact Or.inr (Or.inr (Or.inr (Or.inr ⟨by omega, by omega⟩)))
        by_cases hc2 : c = 8 ∧ j = 6
        · exact Or.inr (Or.inr (Or.inl ⟨hc2.1, Or.inl hc2.2⟩))
        · exact Or.inl (g4 c j hc hc2)
      · rw [g4 13 3 (by omega) (by omega)]; exact n3
    · cases hx
      refine cP_all (n := n) ht 8 0 (r + 1) b 95 M2 _ _ (by decide) (by decide) hr1 (by omega) r2 hr2 (fun M3 f3 c3 k3 => ?_) (by decide)
      have f23 := f2.trans f3 (Nat.le_refl _)
      have r36 : k < 16 → ∀ j, M3 (36 + k) j = M1 (36 + k) j := fun hk j => f23.at (by omega) (by omega) (by omega) (by omega)
      have cdAll : pCd M3 b0 (oCode (h, s, (c4, true))) := by
        have e1 : oCode (h, s, (c4, true)) = (s.1 ++ (s.2.1 ++ s.2.2)) ++ c4 := by
          show s.1 ++ (s.2.1 ++ (s.2.2 ++ c4)) = _
          rw [List.append_assoc, List.append_assoc]
        rw [e1]
        refine ((cd1.keep f23 (by rw [ls]; omega))).append ?_
        rw [ls, show b0 + (s.1.length + s.2.1.length + s.2.2.length) = b by omega]
        exact k3
      by_cases hk : k < 16
      · exact fin M3 q4 _ _ (f23.g _ |> fun z => (gFr.refl M1 b0 (min 16 k)).trans z (by omega) (Nat.le_refl _)) (r36 hk) (f23.at (by decide) (by decide) (by decide) (by decide)) c3 rfl rfl rfl cdAll rfl
      · have e6 : M3 8 6 = nI (min 16 k) := by rw [f23.at (by decide) (by decide) (by decide) (by decide), a1 8 (by decide)]; exact m2
        refine R_endOrder (k := k) e6 _ (fun M4 g4 n6 _ => ?_)
        have hm4 : ∀ c j, ¬ (c = 8 ∧ j = 6) → M4 c j = M3 c j := fun c j hj => g4 c j (by omega) hj
        have hlen : b0 + (oCode (h, s, (c4, true))).length = b + c4.length := by
          have := oCode_len (h, s, (c4, true))
          show b0 + _ = _
          have e2 : oFrom (h, s, (c4, true)) = b0 := hb0
          rw [e2] at this
          rw [this]
          show h.2.2 + s.1.length + s.2.1.length + s.2.2.length + c4.length = _
          omega
        refine hF M4 (((f0.trans fr1 (Nat.le_refl _) (Nat.le_refl _)).trans (f23.g _) (by omega) (Nat.le_refl _)).trans (b1 := b0) (k1 := min 16 k) (fun c j => ?_) (Nat.le_refl _) (Nat.le_refl _)) ⟨?_, n6⟩ (cdAll.fr (funext fun j => hm4 11 j (by omega)) (funext fun j => hm4 12 j (by omega))) (fun z => absurd z hk)
        · by_cases hc2 : c = 8 ∧ j = 6
          · exact Or.inr (Or.inr (Or.inl ⟨hc2.1, Or.inl hc2.2⟩))
          · exact Or.inl (hm4 c j hc2)
        · rw [hlen]
          exact c3.fr (funext fun j => hm4 4 j (by omega)) (hm4 3 5 (by omega)) (funext fun j => hm4 13 j (by omega)) (hm4 8 9 (by omega))
  · rw [if_neg h9] at hx
    cases hx
    have e1 : oCode (h, s, (([] : List pSt), false)) = s.1 ++ (s.2.1 ++ s.2.2) := by
      show s.1 ++ (s.2.1 ++ (s.2.2 ++ [])) = _
      rw [List.append_nil]
    exact fin M1 r _ b (gFr.refl _ _ _) (fun _ => rfl) rfl m1' rfl rfl rfl (by rw [e1]; exact cd1) rfl
theorem R_order (ht : pTk tk T) {M : eM} {p b k : Nat} (hM : cLn tk T M p b k) (hp : p < T) (hk : tk p = 4 ∨ tk p = 7 ∨ tk p = 8) (hb : b ≤ p) {x : Nat ⊕ (Nat × pOrd)} (hx : pOrder tk n p b = some x) (F : Bool → eM → Prop)
    (hF : match (generalizing := false) x with
      | .inl e => ∀ M', gFr M M' b (min 16 k) → M' 13 3 = nI e → F false M'
      | .inr (q, o) => ∀ M', gFr M M' b (min 16 k) → cLn tk T M' q (b + (oCode o).length) (k + 1) → pCd M' b (oCode o) → (k < 16 → cOrd M' k o) → F true M') : Cal G 0 68 (101, 0, 0) kX3_readsOrder [.ref (G.1 13)] M (eFZ F) := by
  have h400 := ht.1
  obtain ⟨m1, m2⟩ := hM
  -- behind a wrong token: a place for the test, the end of the order
  have bad : ∀ (M1 : eM) (e : Nat), gFr M M1 b (min 16 k) → M1 8 6 = nI (min 16 k) → M1 13 3 = nI e → x = .inl e → Ev (eZ G 0 68 0 0 (eFZ F)) G 0 68 (101, 0, 0) kX3_readsOrder 128 [(0, .ref (G.1 13)), (2, .int (eZi false))] [] M1 0 0 := by
    intro M1 e f1 e6 n1 hxe
    subst hxe
    refine B_X3_readsOrder_128 G M1 F false (R_beginTest e6 _ (fun M2 g2 _ => ⟨fun _ => ?_, cFT⟩))
    refine R_endOrder (k := k) (by rw [g2 8 6 (by omega)]; exact e6) _ (fun M3 g3 _ _ => hF M3 (f1.trans (b1 := b) (k1 := min 16 k) (fun c j => ?_) (Nat.le_refl _) (Nat.le_refl _)) ?_)
    · by_cases hc : k < 16 ∧ c = 36 + k
      · exact Or.inr (Or.inr (Or.inr (Or.inr ⟨by omega, by omega⟩)))
      by_cases hc2 : c = 8 ∧ j = 6
      · exact Or.inr (Or.inr (Or.inl ⟨hc2.1, Or.inl hc2.2⟩))
      · refine Or.inl ?_
        rw [g3 c j (by omega) hc2, g2 c j (by omega)]
    · rw [g3 13 3 (by omega) (by omega), g2 13 3 (by omega)]; exact n1
  have bad2 : ∀ (M1 : eM) (e : Nat), gFr M M1 b (min 16 k) → M1 8 6 = nI (min 16 k) → M1 13 3 = nI e → x = .inl e → Ev (eZ G 0 68 0 0 (eFZ F)) G 0 68 (101, 0, 0) kX3_readsOrder 126 [(0, .ref (G.1 13))] [] M1 0 0 := fun M1 e f1 e6 n1 hxe => B_X3_readsOrder_126 G M1 F (bad M1 e f1 e6 n1 hxe)
  have main : ∀ M1, pFr M M1 b → cRd tk T M1 (p + 1) b → Ev (eZ G 0 68 0 0 (eFZ F)) G 0 68 (101, 0, 0) kX3_readsOrder 37 [(0, .ref (G.1 13)), (1, eV G 1 (M 13 2))] [] M1 0 0 := by
    intro M1 f1 r1
    rw [m1.2.2.1]
    have e61 : M1 8 6 = nI (min 16 k) := by rw [f1.at (by decide) (by decide) (by decide) (by decide)]; exact m2
    refine B_X3_readsOrder_37 G M1 F _ ?_
    rw [r1.2.2.2.1]
    refine R_beginOrder e61 _ _ _ (fun M2 g2 w2 => ?_)
    have a2 : ∀ c, (c < 36 ∨ 52 ≤ c) → M2 c = M1 c := fun c hc => funext fun j => g2 c j (by omega)
    have r2 : cRd tk T M2 (p + 1) b := r1.fr (a2 4 (by decide)) (by rw [a2 3 (by decide)]) (a2 13 (by decide)) (by rw [a2 8 (by decide)])
    have f2 : gFr M M2 b (min 16 k) := (f1.g (min 16 k)).trans (b1 := b) (k1 := min 16 k) (fun c j => by
      by_cases hc : k < 16 ∧ c = 36 + k
      · exact Or.inr (Or.inr (Or.inr (Or.inr ⟨by omega, by omega⟩)))
      · exact Or.inl (g2 c j hc)) (Nat.le_refl _) (Nat.le_refl _)
    have e62 : M2 8 6 = nI (min 16 k) := by rw [a2 8 (by decide)]; exact e61
    have hrec : k < 16 → M2 (36 + k) 0 = nI (tk p) ∧ M2 (36 + k) 1 = nI (p + 1) ∧ M2 (36 + k) 2 = nI b := fun hk16 => by
      obtain ⟨z1, z2, z3⟩ := w2 hk16
      exact ⟨z1, z2, z3.trans r1.2.2.2.2⟩
    have keep : ∀ (Ma Mb : eM) (bb : Nat), pFr Ma Mb bb → (k < 16 → Ma (36 + k) 0 = nI (tk p) ∧ Ma (36 + k) 1 = nI (p + 1) ∧ Ma (36 + k) 2 = nI b) → (k < 16 → Mb (36 + k) 0 = nI (tk p) ∧ Mb (36 + k) 1 = nI (p + 1) ∧ Mb (36 + k) 2 = nI b) := fun Ma Mb bb f hh hk16 => by
      obtain ⟨z1, z2, z3⟩ := hh hk16
      rw [f.at (by omega) (by omega) (by omega) (by omega), f.at (by omega) (by omega) (by omega) (by omega), f.at (by omega) (by omega) (by omega) (by omega)]
      exact ⟨z1, z2, z3⟩
    have k6 : ∀ (Ma Mb : eM) (bb : Nat), pFr Ma Mb bb → Ma 8 6 = nI (min 16 k) → Mb 8 6 = nI (min 16 k) := fun Ma Mb bb f hh => by rw [f.at (by decide) (by decide) (by decide) (by decide)]; exact hh
    unfold pOrder at hx
    rcases gEat_on hx with ⟨h41, hx⟩ | ⟨h41, hxe⟩
    rotate_left
    · exact S_accept G ht r2 (by omega) _ 41 (by decide) (fun z => absurd z h41) (fun _ => ⟨fun _ => bad M2 _ f2 e62 r2.2.2.2.1 hxe, cFT⟩)
    have hp1 := ht.lt (show p + 1 ≤ T by omega) (by omega) (by omega)
    refine S_accept G ht r2 (by omega) _ 41 (by decide) (fun _ M3 f3 r3 _ => ⟨cTF, fun _ => ?_⟩) (fun z => absurd h41 z)
    have g3 := f2.trans (f3.g (min 16 k)) (Nat.le_refl _) (Nat.le_refl _)
    have e63 := k6 _ _ _ f3 e62
    have hrec3 := keep _ _ _ f3 hrec
    by_cases h4 : tk p = 4
    · rw [if_pos h4] at hx
      refine ⟨fun z => absurd (by rw [h4]; rfl) z, fun _ => ?_⟩
      rcases gEat_on hx with ⟨h5, hx⟩ | ⟨h5, hxe⟩
      rotate_left
      · exact S_accept G ht r3 (by omega) _ 5 (by decide) (fun z => absurd z h5) (fun _ => ⟨fun _ => bad2 M3 _ g3 e63 r3.2.2.2.1 hxe, cFT⟩)
      have hp2 := ht.lt (show p + 2 ≤ T by omega) (by omega) (by omega)
      refine S_accept G ht r3 (by omega) _ 5 (by decide) (fun _ M4 f4 r4 _ => ⟨cTF, fun _ => ?_⟩) (fun z => absurd h5 z)
      have g4 := g3.trans (f4.g (min 16 k)) (Nat.le_refl _) (Nat.le_refl _)
      have e64 := k6 _ _ _ f4 e63
      have hrec4 := keep _ _ _ f4 hrec3
      rcases gThen_on hx with ⟨e, hr1, hxe⟩ | ⟨p1, c1, hr1, hx⟩
      · exact cP_all (n := n) ht 3 0 (p + 3) b 95 M4 _ _ (by decide) (by decide) (by omega) (by omega) r4 hr1 (fun M5 f5 n5 => ⟨fun _ => bad2 M5 _ (g4.trans (f5.g _) (Nat.le_refl _) (Nat.le_refl _)) (k6 _ _ _ f5 e64) n5 hxe, cFT⟩) (by decide)
      obtain ⟨q1, q2, -⟩ := pE_fine ht _ _ _ _ _ _ (show p + 3 ≤ T by omega) hr1
      refine cP_all (n := n) ht 3 0 (p + 3) b 95 M4 _ _ (by decide) (by decide) (by omega) (by omega) r4 hr1 (fun M5 f5 r5 k5 => ⟨cTF, fun _ => ?_⟩) (by decide)
      have g5 := g4.trans (f5.g (min 16 k)) (Nat.le_refl _) (Nat.le_refl _)
      have e65 := k6 _ _ _ f5 e64
      have hrec5 := keep _ _ _ f5 hrec4
      rcases gEat_on hx with ⟨h30, hx⟩ | ⟨h30, hxe⟩
      rotate_left
      · exact S_accept G ht r5 (by omega) _ 30 (by decide) (fun z => absurd z h30) (fun _ => ⟨fun _ => bad2 M5 _ g5 e65 r5.2.2.2.1 hxe, cFT⟩)
      have hp3 := ht.lt q1 (by omega) (by omega)
      refine S_accept G ht r5 (by omega) _ 30 (by decide) (fun _ M6 f6 r6 _ => ⟨cTF, fun _ => ?_⟩) (fun z => absurd h30 z)
      have g6 := g5.trans (f6.g (min 16 k)) (by omega) (Nat.le_refl _)
      have e66 := k6 _ _ _ f6 e65
      have hrec6 := keep _ _ _ f6 hrec5
      rcases gThen_on hx with ⟨e, hr2, hxe⟩ | ⟨p2, c2, hr2, hx⟩
      · exact cP_all (n := n) ht 3 0 (p1 + 1) (b + c1.length) 95 M6 _ _ (by decide) (by decide) hp3 (by omega) r6 hr2 (fun M7 f7 n7 => ⟨fun _ => bad2 M7 _ (g6.trans (f7.g _) (by omega) (Nat.le_refl _)) (k6 _ _ _ f7 e66) n7 hxe, cFT⟩) (by decide)
      obtain ⟨q3, q4, -⟩ := pE_fine ht _ _ _ _ _ _ hp3 hr2
      refine cP_all (n := n) ht 3 0 (p1 + 1) (b + c1.length) 95 M6 _ _ (by decide) (by decide) hp3 (by omega) r6 hr2 (fun M7 f7 r7 k7 => ⟨cTF, fun _ => ?_⟩) (by decide)
      have g7 := g6.trans (f7.g (min 16 k)) (by omega) (Nat.le_refl _)
      have e67 := k6 _ _ _ f7 e66
      have hrec7 := keep _ _ _ f7 hrec6
      rcases gEat_on hx with ⟨h6, hx⟩ | ⟨h6, hxe⟩
      rotate_left
      · exact S_accept G ht r7 (by omega) _ 6 (by decide) (fun z => absurd z h6) (fun _ => ⟨fun _ => bad2 M7 _ g7 e67 r7.2.2.2.1 hxe, cFT⟩)
      have hp4 := ht.lt q3 (by omega) (by omega)
      refine S_accept G ht r7 (by omega) _ 6 (by decide) (fun _ M8 f8 r8 _ => ⟨cTF, fun _ => ?_⟩) (fun z => absurd h6 z)
      have g8 := g7.trans (f8.g (min 16 k)) (by omega) (Nat.le_refl _)
      have e68 := k6 _ _ _ f8 e67
      have hrec8 := keep _ _ _ f8 hrec7
      rcases gThen_on hx with ⟨e, hr3, hxe⟩ | ⟨p3, c3, hr3, hx⟩
      · exact cP_all (n := n) ht 3 0 (p2 + 1) (b + c1.length + c2.length) 95 M8 _ _ (by decide) (by decide) hp4 (by omega) r8 hr3 (fun M9 f9 n9 => ⟨fun _ => bad2 M9 _ (g8.trans (f9.g _) (by omega) (Nat.le_refl _)) (k6 _ _ _ f9 e68) n9 hxe, cFT⟩) (by decide)
      obtain ⟨q5, q6, -⟩ := pE_fine ht _ _ _ _ _ _ hp4 hr3
      refine cP_all (n := n) ht 3 0 (p2 + 1) (b + c1.length + c2.length) 95 M8 _ _ (by decide) (by decide) hp4 (by omega) r8 hr3 (fun M9 f9 r9 k9 => ⟨cTF, fun _ => ?_⟩) (by decide)
      have g9 := g8.trans (f9.g (min 16 k)) (by omega) (Nat.le_refl _)
      have e69 := k6 _ _ _ f9 e68
      have hrec9 := keep _ _ _ f9 hrec8
      have cd9 : pCd M9 b (c1 ++ (c2 ++ c3)) := by
        have z1 := ((k5.keep f6 (Nat.le_refl _)).keep f7 (Nat.le_refl _)).keep (f8.trans f9 (Nat.le_refl _)) (by omega)
        have z2 := k7.keep (f8.trans f9 (Nat.le_refl _)) (Nat.le_refl _)
        exact z1.append (z2.append k9)
      exact R_when ht ⟨r9, e69⟩ q5 (by omega) rfl rfl hx g9 cd9 hrec9 F hF
    · rw [if_neg h4] at hx
      refine ⟨fun _ => ?_, fun z => absurd ?_ h4⟩
      · exact R_when ht ⟨r3, e63⟩ (by omega) (by omega) rfl rfl hx g3 (pCd.nil _ _) hrec3 F hF
      · have hkp := ht.2.1 p (by omega)
        rw [eKn1_nI hkp.1 (by omega), show eKn1 4 = nI 4 from eKn1_nI (k := 4) (by decide) (by decide)] at z
        exact (nI_eq (by omega) (by decide)).mp z
  refine C_X3_readsOrder G M F ?_
  refine S_accept G ht m1 (by omega) _ 4 (by decide) (fun _ M1 f1 r1 _ => ⟨fun _ => main M1 f1 r1, cTF⟩) (fun n4 => ⟨cFT, fun _ => ?_⟩)
  refine S_accept G ht m1 (by omega) _ 7 (by decide) (fun _ M1 f1 r1 _ => ⟨fun _ => main M1 f1 r1, cTF⟩) (fun n7 => ⟨cFT, fun _ => ?_⟩)
  exact S_accept G ht m1 (by omega) _ 8 (by decide) (fun _ M1 f1 r1 _ => ⟨fun _ => main M1 f1 r1, cTF⟩) (fun n8 => by omega)
/-- no line begins there -/
theorem R_order0 (ht : pTk tk T) {M : eM} {p b : Nat} (m1 : cRd tk T M p b) (hp : p ≤ T) (hk : ¬ (tk p = 4 ∨ tk p = 7 ∨ tk p = 8)) (F : Bool → eM → Prop) (h : F false M) : Cal G 0 68 (101, 0, 0) kX3_readsOrder [.ref (G.1 13)] M (eFZ F) := by
  refine C_X3_readsOrder G M F ?_
  refine S_accept G ht m1 hp _ 4 (by decide) (fun z => by omega) (fun n4 => ⟨cFT, fun _ => ?_⟩)
  refine S_accept G ht m1 hp _ 7 (by decide) (fun z => by omega) (fun n7 => ⟨cFT, fun _ => ?_⟩)
  exact S_accept G ht m1 hp _ 8 (by decide) (fun z => by omega) (fun n8 => ⟨cFT, fun _ => h⟩)
theorem R_tile (ht : pTk tk T) {M : eM} {p b : Nat} (m1 : cRd tk T M p b) (hp : p < T) (h3 : tk p = 3) {x : Nat ⊕ Nat} (hx : pTile tk p = some x) (F : Bool → eM → Prop)
    (hF : match (generalizing := false) x with
      | .inl e => ∀ M', pFr M M' b → M' 13 3 = nI e → F false M'
      | .inr q => ∀ M', pFr M M' b → cRd tk T M' q b → F true M') : Cal G 0 68 (3, 0, 0) kX3_readsTile [.ref (G.1 13)] M (eFZ F) := by
  unfold pTile at hx
  refine C_X3_readsTile G M F (S_accept G ht m1 (by omega) _ 3 (by decide) (fun _ M1 f1 r1 _ => ⟨cTF, fun _ => ?_⟩) (fun z => absurd h3 z))
  rcases gEat_on hx with ⟨h41, hx⟩ | ⟨h41, rfl⟩
  rotate_left
  · exact S_accept G ht r1 (by omega) _ 41 (by decide) (fun z => absurd z h41) (fun _ => ⟨fun _ => hF M1 f1 r1.2.2.2.1, cFT⟩)
  have g1 := ht.lt (show p + 1 ≤ T by omega) (by omega) (by omega)
  refine S_accept G ht r1 (by omega) _ 41 (by decide) (fun _ M2 f2 r2 _ => ⟨cTF, fun _ => ?_⟩) (fun z => absurd h41 z)
  have f12 := f1.trans f2 (Nat.le_refl _)
  rcases gEat_on hx with ⟨h40, hx⟩ | ⟨h40, rfl⟩
  rotate_left
  · exact S_accept G ht r2 (by omega) _ 40 (by decide) (fun z => absurd z h40) (fun _ => ⟨fun _ => hF M2 f12 r2.2.2.2.1, cFT⟩)
  have g2 := ht.lt (show p + 2 ≤ T by omega) (by omega) (by omega)
  refine S_accept G ht r2 (by omega) _ 40 (by decide) (fun _ M3 f3 r3 _ => ⟨cTF, fun _ => ?_⟩) (fun z => absurd h40 z)
  have f13 := f12.trans f3 (Nat.le_refl _)
  rcases gEat_on hx with ⟨h40', hx⟩ | ⟨h40', rfl⟩
  rotate_left
  · exact S_accept G ht r3 (by omega) _ 40 (by decide) (fun z => absurd z h40') (fun _ => ⟨fun _ => hF M3 f13 r3.2.2.2.1, cFT⟩)
  have g3 := ht.lt (show p + 3 ≤ T by omega) (by omega) (by omega)
  refine S_accept G ht r3 (by omega) _ 40 (by decide) (fun _ M4 f4 r4 _ => ⟨cTF, fun _ => ?_⟩) (fun z => absurd h40' z)
  have f14 := f13.trans f4 (Nat.le_refl _)
  rcases gEat_on hx with ⟨h40'', hx⟩ | ⟨h40'', rfl⟩
  rotate_left
  · exact S_accept G ht r4 (by omega) _ 40 (by decide) (fun z => absurd z h40'') (fun _ => ⟨fun _ => hF M4 f14 r4.2.2.2.1, cFT⟩)
  have g4 := ht.lt (show p + 4 ≤ T by omega) (by omega) (by omega)
  cases hx
  exact S_accept G ht r4 (by omega) _ 40 (by decide) (fun _ M5 f5 r5 _ => ⟨cTF, fun _ => hF M5 (f14.trans f5 (Nat.le_refl _)) r5⟩) (fun z => absurd h40'' z)
/-- all orders told so far, as the draft holds them -/
def cOs (M : eM) (os : List pOrd) : Prop := (∀ i o, os[i]? = some o → i < 16 → cOrd M i o) ∧ pCd M 0 (osCode os)
theorem cOrd.fr {M M' : eM} {i b k : Nat} {o : pOrd} (h : cOrd M i o) (hf : gFr M M' b k) (hi : i < k) (hk : k ≤ 16) : cOrd M' i o := by
  unfold cOrd at h ⊢
  rw [hf.at (by omega) (by omega) (by omega) (by omega), hf.at (by omega) (by omega) (by omega) (by omega), hf.at (by omega) (by omega) (by omega) (by omega), hf.at (by omega) (by omega) (by omega) (by omega), hf.at (by omega) (by omega) (by omega) (by omega)]
  exact h
theorem pCd.keepG {M M' : eM} {b b1 k : Nat} {cd : List pSt} (h : pCd M b cd) (hf : gFr M M' b1 k) (hb : b + cd.length ≤ b1) : pCd M' b cd := by
  intro i s hs
  have hi : i < cd.length := (List.getElem?_eq_some_iff.mp hs).1
  obtain ⟨h1, h2⟩ := h i s hs
  rw [hf.at (by omega) (by omega) (by omega) (by omega), hf.at (by omega) (by omega) (by omega) (by omega)]
  exact ⟨h1, h2⟩
theorem cOs.app {M M' : eM} {os : List pOrd} {o : pOrd} {b : Nat} (h : cOs M os) (hb : b = (osCode os).length) (hf : gFr M M' b (min 16 os.length)) (hcd : pCd M' b (oCode o)) (hr : os.length < 16 → cOrd M' os.length o) : cOs M' (os ++ [o]) := by
  refine ⟨fun i o' hi h16 => ?_, ?_⟩
  · by_cases hq : i < os.length
    · rw [List.getElem?_append_left hq] at hi
      exact (h.1 i o' hi h16).fr hf (by omega) (Nat.min_le_left _ _)
    · rw [List.getElem?_append_right (by omega)] at hi
      have hi0 : i - os.length = 0 := by
        have := (List.getElem?_eq_some_iff.mp hi).1
        rw [List.length_singleton] at this
        omega
      rw [hi0] at hi
      cases hi
      have e : i = os.length := by omega
      subst e
      exact hr h16
  · rw [osCode_app]
    refine (h.2.keepG hf (by omega)).append ?_
    rw [Nat.zero_add, ← hb]
    exact hcd
theorem cOs.fr {M M' : eM} {os : List pOrd} {b : Nat} (h : cOs M os) (hb : b = (osCode os).length) (hf : gFr M M' b (min 16 os.length)) : cOs M' os := by
  refine ⟨fun i o' hi h16 => ?_, h.2.keepG hf (by omega)⟩
  have := (List.getElem?_eq_some_iff.mp hi).1
  exact (h.1 i o' hi h16).fr hf (by omega) (Nat.min_le_left _ _)
theorem R_lines (ht : pTk tk T) (F : Bool → eM → Prop) : ∀ (f : Nat) (p b c : Nat) (os : List pOrd) (M0 M : eM) (x : Nat ⊕ List pOrd), cLn tk T M p b os.length → p ≤ T → b ≤ p → b = (osCode os).length → c + c ≤ p → cOs M os → gFr M0 M 0 0 → pLines tk n f p b os = some x →
    (match (generalizing := false) x with
      | .inl e => ∀ M', gFr M0 M' 0 0 → M' 13 3 = nI e → F false M'
      | .inr os' => ∀ M', gFr M0 M' 0 0 → M' 8 6 = nI (min 16 os'.length) → M' 8 9 = nI (osCode os').length → cOs M' os' → F true M') → Ev (eZ G 0 68 0 0 (eFZ F)) G 0 68 (102, 0, 0) kX3_readsGame 78 [(0, .ref (G.1 13)), (1, .int 1), (2, .int (nI c))] [] M 0 0 := by
  have h400 := ht.1
  intro f
  induction f with
  | zero => intro p b c os M0 M x _ _ _ _ _ _ _ hx; cases hx
  | succ f ih =>
    intro p b c os M0 M x hM hp hb hbo hc hos f0 hx hF
    unfold pLines at hx
    obtain ⟨m1, m2⟩ := hM
    have e42 : eKn1 (M 13 2) = eKn1 42 ↔ tk p = 42 := by rw [m1.2.2.1]; exact eKn1_tk ht hp (k := 42) (by decide)
    have e3 : eKn1 (M 13 2) = eKn1 3 ↔ tk p = 3 := by rw [m1.2.2.1]; exact eKn1_tk ht hp (k := 3) (by decide)
    have wrong : ∀ (M1 : eM) (e : Nat), gFr M0 M1 0 0 → M1 13 3 = nI e → x = .inl e → Ev (eZ G 0 68 0 0 (eFZ F)) G 0 68 (102, 0, 0) kX3_readsGame 140 [(0, .ref (G.1 13)), (2, .int (nI c))] [] M1 0 0 := by
      intro M1 e f1 n1 hxe
      subst hxe
      refine B_X3_readsGame_140 G M1 F _ ?_
      have out : Ev (eZ G 0 68 0 0 (eFZ F)) G 0 68 (102, 0, 0) kX3_readsGame 148 [(0, .ref (G.1 13)), (1, .int 0)] [] M1 0 0 := B_X3_readsGame_148 G M1 F _ ⟨fun _ => hF M1 f1 n1, fun z => absurd rfl z⟩
      exact B_X3_readsGame_78 G M1 F _ _ ⟨fun _ => out, fun _ => ⟨fun _ => out, fun z => absurd rfl z⟩⟩
    have semi : ∀ (M1 : eM) (q b1 : Nat) (os1 : List pOrd) (x1 : Option (Nat ⊕ List pOrd)), gFr M0 M1 0 0 → cLn tk T M1 q b1 os1.length → q ≤ T → p + 2 ≤ q → b1 ≤ q → b1 = (osCode os1).length → cOs M1 os1 → x1 = pLines tk n f (q + 1) b1 os1 → gEat tk 29 q x1 = some x → Ev (eZ G 0 68 0 0 (eFZ F)) G 0 68 (102, 0, 0) kX3_readsGame 126 [(0, .ref (G.1 13)), (2, .int (nI c))] [] M1 0 0 := by
      intro M1 q b1 os1 x1 f1 c1 hq hpq hb1 hbo1 hos1 hx1 hx
      subst hx1
      refine B_X3_readsGame_126 G M1 F _ ?_
      rcases gEat_on hx with ⟨h29, hx⟩ | ⟨h29, hxe⟩
      · have hq1 := ht.lt hq (by omega) (by omega)
        refine S_accept G ht c1.1 hq _ 29 (by decide) (fun _ M2 f2 r2 w2 => ⟨cTF, fun _ => ?_⟩) (fun z => absurd h29 z)
        rw [← nI_succ]
        refine ih (q + 1) b1 (c + 1) os1 M0 M2 x ⟨r2, by rw [f2.at (by decide) (by decide) (by decide) (by decide)]; exact c1.2⟩ hq1 (by omega) hbo1 (by omega) (hos1.fr hbo1 (f2.g _)) (f1.trans (f2.g 0) (Nat.zero_le _) (Nat.le_refl _)) hx hF
      · exact S_accept G ht c1.1 hq _ 29 (by decide) (fun z => absurd z h29) (fun _ => ⟨fun _ => wrong M1 _ f1 c1.1.2.2.2.1 hxe, cFT⟩)
    refine B_X3_readsGame_78 G M F _ _ ⟨fun z => absurd z (nI_ge (b := 400) (by omega) (by decide)), fun _ => ⟨fun z => absurd z (by decide), fun _ => ⟨fun z => ?_, fun z => ⟨fun z3 => ?_, fun z3 => ?_⟩⟩⟩⟩
    · have h42 := e42.mp z
      rw [if_pos h42] at hx
      cases hx
      refine B_X3_readsGame_148 G M F _ ⟨fun y => absurd y (by decide), fun _ => ⟨fun y => absurd z y, fun _ => hF M f0 m2 ?_ hos⟩⟩
      rw [← hbo]
      exact m1.2.2.2.2
    · have h42 : ¬ tk p = 42 := fun y => z (e42.mpr y)
      have h3 : ¬ tk p = 3 := fun y => z3 (e3.mpr y)
      rw [if_neg h42, if_neg h3] at hx
      by_cases hk : tk p = 4 ∨ tk p = 7 ∨ tk p = 8
      · rw [if_pos hk] at hx
        have hpT := ht.lt hp (by omega) (by omega)
        cases hxo : pOrder tk n p b with
        | none => rw [hxo] at hx; cases hx
        | some y =>
          rw [hxo] at hx
          refine R_order ht ⟨m1, m2⟩ hpT hk hb hxo _ ?_
          match y, hxo, hx with
          | .inl e, hxo, hx =>
            have hxe : x = .inl e := (Option.some.inj hx).symm
            exact fun M' f' n' => ⟨fun _ => wrong M' e (f0.trans f' (Nat.zero_le _) (Nat.zero_le _)) n' hxe, cFT⟩
          | .inr (q, o), hxo, hx =>
            have hok := pOrder_ok ht hpT hk hxo
            have k1 := hok.1
            have k2 := hok.2.1
            refine fun M' f' c' cd' rc' => ⟨cTF, fun _ => ?_⟩
            refine semi M' q (b + (oCode o).length) (os ++ [o]) _ (f0.trans f' (Nat.zero_le _) (Nat.zero_le _)) (by rw [List.length_append, List.length_singleton]; exact c') k1 (by omega) (by omega) (by rw [osCode_app, List.length_append, hbo]) (hos.app hbo f' cd' rc') rfl hx
      · rw [if_neg hk] at hx
        cases hx
        exact R_order0 ht m1 hp hk _ ⟨fun _ => wrong M _ f0 m1.2.2.2.1 rfl, cFT⟩
    · have h3 := e3.mp z3
      have h42 : ¬ tk p = 42 := fun y => z (e42.mpr y)
      rw [if_neg h42, if_pos h3] at hx
      have hpT := ht.lt hp (by omega) (by omega)
      obtain ⟨y, hxt⟩ := pTile_tot tk p
      rw [hxt] at hx
      refine R_tile ht m1 hpT h3 hxt _ ?_
      match y, hxt, hx with
      | .inl e, hxt, hx =>
        have hxe : x = .inl e := (Option.some.inj hx).symm
        exact fun M' f' n' => ⟨fun _ => wrong M' e (f0.trans (f'.g 0) (Nat.zero_le _) (Nat.le_refl _)) n' hxe, cFT⟩
      | .inr q, hxt, hx =>
        obtain ⟨k1, k2, -⟩ := pTile_ok ht hpT hxt
        refine fun M' f' c' => ⟨cTF, fun _ => ?_⟩
        exact semi M' q b os _ (f0.trans (f'.g 0) (Nat.zero_le _) (Nat.le_refl _)) ⟨c', by rw [f'.at (by decide) (by decide) (by decide) (by decide)]; exact m2⟩ (by omega) (by omega) (by omega) hbo (hos.fr hbo (f'.g _)) rfl hx
theorem R_game (ht : pTk tk T) {M : eM} (h4 : ∀ j, j ≤ T → M 4 j = nI (tk j)) (h3 : M 3 5 = nI (T + 1)) (h86 : M 8 6 = 0) (h89 : M 8 9 = 0) {x : Nat ⊕ List pOrd} (hx : pGame tk n = some x) (F : Bool → eM → Prop)
    (hF : match (generalizing := false) x with
      | .inl e => ∀ M', gFr M M' 0 0 → M' 13 3 = nI e → F false M'
      | .inr os => ∀ M', gFr M M' 0 0 → M' 8 6 = nI (min 16 os.length) → M' 8 9 = nI (osCode os).length → cOs M' os → F true M') : Cal G 0 68 (102, 0, 0) kX3_readsGame [.ref (G.1 13)] M (eFZ F) := by
  have h400 := ht.1
  refine C_X3_readsGame G M F ?_
  rw [eU_same]
  refine S_kindOf G ht (p := 0) (fun j hj => ?_) ?_ _ (Nat.zero_le _) ?_
  · rw [eU_cell _ _ _ _ (by decide)]; exact h4 j hj
  · rw [eU_cell _ _ _ _ (by decide)]; exact h3
  generalize hM1 : eU (eU M 13 3 0) 13 2 (nI (tk 0)) = M1
  have f1 : gFr M M1 0 0 := fun c j => by
    subst hM1
    by_cases hc : c = 13 ∧ (j = 2 ∨ j = 3)
    · exact Or.inr (Or.inl hc)
    · refine Or.inl ?_
      show (if c = 13 ∧ j = 2 then _ else (if c = 13 ∧ j = 3 then _ else M c j)) = M c j
      rw [if_neg (by omega), if_neg (by omega)]
  have r1 : cRd tk T M1 0 0 := by
    subst hM1
    refine ⟨fun j hj => ?_, ?_, ?_, ?_, ?_⟩
    · rw [eU_cell _ _ _ _ (by decide), eU_cell _ _ _ _ (by decide)]; exact h4 j hj
    · rw [eU_cell _ _ _ _ (by decide), eU_cell _ _ _ _ (by decide)]; exact h3
    · exact eU_same _ _ _ _
    · rw [eU_place _ _ _ _ (by decide), eU_same]; rfl
    · rw [eU_cell _ _ _ _ (by decide), eU_cell _ _ _ _ (by decide)]; exact h89
  have e6 : M1 8 6 = nI (min 16 0) := by
    subst hM1
    rw [eU_cell _ _ _ _ (by decide), eU_cell _ _ _ _ (by decide)]; exact h86
  unfold pGame at hx
  have wrong : ∀ (M2 : eM) (e : Nat), gFr M M2 0 0 → M2 13 3 = nI e → x = .inl e → Ev (eZ G 0 68 0 0 (eFZ F)) G 0 68 (102, 0, 0) kX3_readsGame 74 [(0, .ref (G.1 13))] [] M2 0 0 := by
    intro M2 e f2 n2 hxe
    subst hxe
    refine B_X3_readsGame_74 G M2 F ?_
    have out : Ev (eZ G 0 68 0 0 (eFZ F)) G 0 68 (102, 0, 0) kX3_readsGame 148 [(0, .ref (G.1 13)), (1, .int 0)] [] M2 0 0 := B_X3_readsGame_148 G M2 F _ ⟨fun _ => hF M2 f2 n2, fun z => absurd rfl z⟩
    exact B_X3_readsGame_78 G M2 F _ _ ⟨fun _ => out, fun _ => ⟨fun _ => out, fun z => absurd rfl z⟩⟩
  have c0 : ∀ M2 : eM, cOs M2 [] := fun M2 => ⟨fun i o hi _ => by simp at hi, pCd.nil _ _⟩
  by_cases hb : tk 0 = 1
  · rw [if_pos hb] at hx
    have g0 := ht.lt (Nat.zero_le T) (by omega) (by omega)
    refine S_accept G ht r1 (Nat.zero_le _) _ 1 (by decide) (fun _ M2 f2 r2 _ => ⟨cTF, fun _ => ?_⟩) (fun z => absurd hb z)
    have f12 := f1.trans (f2.g 0) (Nat.le_refl _) (Nat.le_refl _)
    have k6 : ∀ (Ma Mb : eM), pFr Ma Mb 0 → Ma 8 6 = nI (min 16 0) → Mb 8 6 = nI (min 16 0) := fun Ma Mb f hh => by rw [f.at (by decide) (by decide) (by decide) (by decide)]; exact hh
    have e62 := k6 _ _ f2 e6
    rcases gEat_on hx with ⟨h40, hx⟩ | ⟨h40, hxe⟩
    rotate_left
    · exact S_accept G ht r2 (by omega) _ 40 (by decide) (fun z => absurd z h40) (fun _ => ⟨fun _ => wrong M2 _ f12 r2.2.2.2.1 hxe, cFT⟩)
    have g1 := ht.lt (show 1 ≤ T by omega) (by omega) (by omega)
    refine S_accept G ht r2 (by omega) _ 40 (by decide) (fun _ M3 f3 r3 _ => ⟨cTF, fun _ => ?_⟩) (fun z => absurd h40 z)
    have f13 := f12.trans (f3.g 0) (Nat.le_refl _) (Nat.le_refl _)
    have e63 := k6 _ _ f3 e62
    rcases gEat_on hx with ⟨h2, hx⟩ | ⟨h2, hxe⟩
    rotate_left
    · exact S_accept G ht r3 (by omega) _ 2 (by decide) (fun z => absurd z h2) (fun _ => ⟨fun _ => wrong M3 _ f13 r3.2.2.2.1 hxe, cFT⟩)
    have g2 := ht.lt (show 2 ≤ T by omega) (by omega) (by omega)
    refine S_accept G ht r3 (by omega) _ 2 (by decide) (fun _ M4 f4 r4 _ => ⟨cTF, fun _ => ?_⟩) (fun z => absurd h2 z)
    have f14 := f13.trans (f4.g 0) (Nat.le_refl _) (Nat.le_refl _)
    have e64 := k6 _ _ f4 e63
    rcases gEat_on hx with ⟨h40', hx⟩ | ⟨h40', hxe⟩
    rotate_left
    · exact S_accept G ht r4 (by omega) _ 40 (by decide) (fun z => absurd z h40') (fun _ => ⟨fun _ => wrong M4 _ f14 r4.2.2.2.1 hxe, cFT⟩)
    have g3 := ht.lt (show 3 ≤ T by omega) (by omega) (by omega)
    refine S_accept G ht r4 (by omega) _ 40 (by decide) (fun _ M5 f5 r5 _ => ⟨cTF, fun _ => ?_⟩) (fun z => absurd h40' z)
    have f15 := f14.trans (f5.g 0) (Nat.le_refl _) (Nat.le_refl _)
    have e65 := k6 _ _ f5 e64
    rcases gEat_on hx with ⟨h29, hx⟩ | ⟨h29, hxe⟩
    rotate_left
    · exact S_accept G ht r5 (by omega) _ 29 (by decide) (fun z => absurd z h29) (fun _ => ⟨fun _ => wrong M5 _ f15 r5.2.2.2.1 hxe, cFT⟩)
    have g4 := ht.lt (show 4 ≤ T by omega) (by omega) (by omega)
    refine S_accept G ht r5 (by omega) _ 29 (by decide) (fun _ M6 f6 r6 _ => ⟨cTF, fun _ => B_X3_readsGame_70 G M6 F ?_⟩) (fun z => absurd h29 z)
    have f16 := f15.trans (f6.g 0) (Nat.le_refl _) (Nat.le_refl _)
    have e66 := k6 _ _ f6 e65
    exact R_lines ht F 401 5 0 0 [] M M6 x ⟨r6, e66⟩ (by omega) (by omega) rfl (by omega) (c0 M6) f16 hx hF
  · rw [if_neg hb] at hx
    refine S_accept G ht r1 (Nat.zero_le _) _ 1 (by decide) (fun z => absurd z hb) (fun _ => ⟨fun _ => B_X3_readsGame_70 G M1 F ?_, cFT⟩)
    exact R_lines ht F 401 0 0 0 [] M M1 x ⟨r1, e6⟩ (Nat.zero_le _) (Nat.le_refl _) rfl (Nat.le_refl _) (c0 M1) f1 hx hF
end CGame
