/-! ===== the class carries orders out ===== -/
theorem cB.fr {M M' : eM} {B : eBd} (h : cB M B) (hf : ∀ c, 23 ≤ c → c ≤ 31 → M' c = M c) : cB M' B := by
  unfold cB at h ⊢
  rw [hf 23 (by decide) (by decide), hf 24 (by decide) (by decide), hf 25 (by decide) (by decide), hf 26 (by decide) (by decide), hf 27 (by decide) (by decide), hf 28 (by decide) (by decide), hf 29 (by decide) (by decide), hf 30 (by decide) (by decide), hf 31 (by decide) (by decide)]
  exact h
/-- a game's orders as the class holds them -/
def cPg (M : eM) (tv : Nat → Nat) (os : List pOrd) : Prop := M 21 6 = nI os.length ∧ M 21 9 = nI (osCode os).length ∧ (∀ i o, os[i]? = some o → M (52 + i) 0 = nI (oKind o) ∧ M (52 + i) 1 = nI (tv (oName o)) ∧ M (52 + i) 2 = nI (oFrom o) ∧ M (52 + i) 3 = nI (oMid o) ∧ M (52 + i) 4 = nI (oEnd o)) ∧ (∀ i s, (osCode os)[i]? = some s → M 19 i = nI s.1 ∧ (pTok s.1 → M 20 i = nI (tv s.2.1)))
theorem cPg.fr {M M' : eM} {tv : Nat → Nat} {os : List pOrd} (h : cPg M tv os) (hf : ∀ c, (19 ≤ c ∧ c ≤ 21) ∨ 52 ≤ c → M' c = M c) : cPg M' tv os := by
  unfold cPg at h ⊢
  rw [hf 19 (by omega), hf 20 (by omega), hf 21 (by omega)]
  refine ⟨h.1, h.2.1, fun i o ho => ?_, h.2.2.2⟩
  rw [hf (52 + i) (by omega)]
  exact h.2.2.1 i o ho
/-- the stack -/
def cSk (M : eM) : List Int32 → Prop
  | [] => True
  | v :: st => M 17 st.length = v ∧ cSk M st
theorem cSk.fr {M M' : eM} : ∀ {st : List Int32}, cSk M st → (∀ j, j < st.length → M' 17 j = M 17 j) → cSk M' st
  | [], _, _ => trivial
  | v :: st, h, hf => ⟨by rw [hf st.length (Nat.lt_succ_self _)]; exact h.1, cSk.fr h.2 (fun j hj => hf j (Nat.lt_succ_of_lt hj))⟩
def cSt (M : eM) (st : List Int32) : Prop := M 16 3 = nI st.length ∧ cSk M st
def kFr (M M' : eM) : Prop := (∀ c, c ≠ 16 → c ≠ 17 → M' c = M c) ∧ ∀ j, j ≠ 3 → M' 16 j = M 16 j
theorem kFr.refl (M : eM) : kFr M M := ⟨fun _ _ _ => rfl, fun _ _ => rfl⟩
theorem kFr.trans {M M1 M2 : eM} (h : kFr M M1) (h1 : kFr M1 M2) : kFr M M2 := ⟨fun c a b => (h1.1 c a b).trans (h.1 c a b), fun j a => (h1.2 j a).trans (h.2 j a)⟩
theorem cB.k {M M' : eM} {B : eBd} (h : cB M B) (hf : kFr M M') : cB M' B := h.fr (fun c _ _ => hf.1 c (by omega) (by omega))
section CEval
variable {G : eG}
theorem S_push {M : eM} {st : List Int32} (h : cSt M st) (hl : st.length < 400) (F : eM → Prop) (v : Int32) (hF : ∀ M', kFr M M' → cSt M' (v :: st) → F M') : Cal G 0 68 (1, 0, 0) kX2_push [.ref (G.1 16), .int v] M (eFV F) := by
  obtain ⟨h1, h2⟩ := h
  have e1 : ∀ k v, (eU M 17 k v) 16 3 = nI st.length := fun k v => by rw [eU_cell _ _ _ _ (by decide)]; exact h1
  refine C_X2_push G M F v ?_
  rw [h1, nI_clamp (show st.length < 2 ^ 31 by omega), e1]
  refine ⟨fun q => absurd q (nI_ge (b := 400) hl (by decide)), fun _ => ⟨vp_in_nI hl (by decide), hF _ ⟨fun c a b => ?_, fun j a => ?_⟩ ⟨?_, ?_, ?_⟩⟩⟩
  · rw [eU_other _ _ _ a, eU_other _ _ _ b]
  · rw [eU_place _ _ _ _ a, eU_cell _ _ _ _ (by decide)]
  · rw [eU_same]; exact (nI_succ _).symm
  · rw [eU_cell _ _ _ _ (by decide), eU_same]
  · refine h2.fr (fun j hj => ?_)
    rw [eU_cell _ _ _ _ (by decide), eU_place _ _ _ _ (by omega)]
theorem S_pop {M : eM} {st : List Int32} (h : cSt M st) (hl : st.length ≤ 400) (F : Int32 → eM → Prop) (hF : ∀ M', kFr M M' → cSt M' st.tail → F (st.headD 0) M') : Cal G 0 68 (1, 0, 0) kX2_pop [.ref (G.1 16)] M (eFI F) := by
  obtain ⟨h1, h2⟩ := h
  match st, h1, h2, hl, hF with
  | [], h1, h2, hl, hF =>
    refine C_X2_pop G M F ⟨fun q => absurd q ?_, fun _ => hF M (kFr.refl M) ⟨h1, h2⟩⟩
    rw [h1]
    exact (by decide : ¬ (0 : Int32) < nI 0)
  | v :: st, h1, h2, hl, hF =>
    have hl' : st.length + 1 ≤ 400 := hl
    have e0 : M 16 3 - 1 = nI st.length := by
      rw [h1]
      show nI (st.length + 1) - nI 1 = _
      rw [nI_sub (by omega), Nat.add_sub_cancel]
    refine C_X2_pop G M F ⟨fun _ => ?_, fun q => absurd ?_ q⟩
    · rw [e0, eU_same, nI_clamp (show st.length < 2 ^ 31 by omega), eU_cell _ _ _ _ (by decide), h2.1]
      refine ⟨vp_in_nI (by omega) (by decide), hF _ ⟨fun c a b => ?_, fun j a => ?_⟩ ⟨?_, ?_⟩⟩
      · rw [eU_other _ _ _ a]
      · rw [eU_place _ _ _ _ a]
      · rw [eU_same]; rfl
      · exact h2.2.fr (fun j hj => by rw [eU_cell _ _ _ _ (by decide)])
    · rw [h1]
      exact (nI_lt (a := 0) (b := st.length + 1) (by omega) (by omega))
theorem S_holds {k : Nat} (hk : k = 35 ∨ k = 36 ∨ k = 37 ∨ k = 38 ∨ k = 39 ∨ k = 21 ∨ k = 22) {M : eM} (F : Bool → eM → Prop) (l r : Int32) (h : F (gHold k l r) M) : Cal G 0 68 (2, 0, 0) kX2_holdsBetween [eV G 1 (nI k), .int l, .int r] M (eFZ F) := by
  rcases hk with rfl | rfl | rfl | rfl | rfl | rfl | rfl
  · refine C_X2_holdsBetween G M F _ l r ?_
    rw [show nI 35 - 1 = nI 34 from by decide, show eSw (nI 34).toNatClampNeg = 27 from by decide]
    replace h : F (decide (l < r)) M := h
    exact ⟨by decide, vp_in_nI (by decide) (by decide), fun q => absurd q (by decide), fun _ => B_X2_holdsBetween_52 G M F l r ⟨fun q => by rw [decide_eq_false (Int32.not_lt.mpr q)] at h; exact h, fun q => by rw [decide_eq_true (Int32.not_le.mp q)] at h; exact h⟩, fun q => absurd q (by decide), fun q => absurd q (by decide), fun q => absurd q (by decide), fun q => absurd q (by decide), fun q => absurd q (by decide), fun q => absurd q (by decide)⟩
  · refine C_X2_holdsBetween G M F _ l r ?_
    rw [show nI 36 - 1 = nI 35 from by decide, show eSw (nI 35).toNatClampNeg = 28 from by decide]
    replace h : F (decide (r < l)) M := h
    exact ⟨by decide, vp_in_nI (by decide) (by decide), fun q => absurd q (by decide), fun q => absurd q (by decide), fun _ => B_X2_holdsBetween_63 G M F l r ⟨fun q => by rw [decide_eq_false (Int32.not_lt.mpr q)] at h; exact h, fun q => by rw [decide_eq_true (Int32.not_le.mp q)] at h; exact h⟩, fun q => absurd q (by decide), fun q => absurd q (by decide), fun q => absurd q (by decide), fun q => absurd q (by decide), fun q => absurd q (by decide)⟩
  · refine C_X2_holdsBetween G M F _ l r ?_
    rw [show nI 37 - 1 = nI 36 from by decide, show eSw (nI 36).toNatClampNeg = 29 from by decide]
    replace h : F (decide (l = r)) M := h
    exact ⟨by decide, vp_in_nI (by decide) (by decide), fun q => absurd q (by decide), fun q => absurd q (by decide), fun q => absurd q (by decide), fun _ => B_X2_holdsBetween_74 G M F l r ⟨fun q => by rw [decide_eq_false q] at h; exact h, fun q => by rw [decide_eq_true q] at h; exact h⟩, fun q => absurd q (by decide), fun q => absurd q (by decide), fun q => absurd q (by decide), fun q => absurd q (by decide)⟩
  · refine C_X2_holdsBetween G M F _ l r ?_
    rw [show nI 38 - 1 = nI 37 from by decide, show eSw (nI 37).toNatClampNeg = 30 from by decide]
    replace h : F (decide (l ≤ r)) M := h
    exact ⟨by decide, vp_in_nI (by decide) (by decide), fun q => absurd q (by decide), fun q => absurd q (by decide), fun q => absurd q (by decide), fun q => absurd q (by decide), fun _ => B_X2_holdsBetween_85 G M F l r ⟨fun q => by rw [decide_eq_false (Int32.not_le.mpr q)] at h; exact h, fun q => by rw [decide_eq_true (Int32.not_lt.mp q)] at h; exact h⟩, fun q => absurd q (by decide), fun q => absurd q (by decide), fun q => absurd q (by decide)⟩
  · refine C_X2_holdsBetween G M F _ l r ?_
    rw [show nI 39 - 1 = nI 38 from by decide, show eSw (nI 38).toNatClampNeg = 31 from by decide]
    replace h : F (decide (r ≤ l)) M := h
    exact ⟨by decide, vp_in_nI (by decide) (by decide), fun q => absurd q (by decide), fun q => absurd q (by decide), fun q => absurd q (by decide), fun q => absurd q (by decide), fun q => absurd q (by decide), fun _ => B_X2_holdsBetween_96 G M F l r ⟨fun q => by rw [decide_eq_false (Int32.not_le.mpr q)] at h; exact h, fun q => by rw [decide_eq_true (Int32.not_lt.mp q)] at h; exact h⟩, fun q => absurd q (by decide), fun q => absurd q (by decide)⟩
  · refine C_X2_holdsBetween G M F _ l r ?_
    rw [show nI 21 - 1 = nI 20 from by decide, show eSw (nI 20).toNatClampNeg = 32 from by decide]
    replace h : F (!decide (l = 0) && !decide (r = 0)) M := h
    exact ⟨by decide, vp_in_nI (by decide) (by decide), fun q => absurd q (by decide), fun q => absurd q (by decide), fun q => absurd q (by decide), fun q => absurd q (by decide), fun q => absurd q (by decide), fun q => absurd q (by decide), fun _ => B_X2_holdsBetween_107 G M F l r ⟨fun q => by rw [decide_eq_true q] at h; exact h, fun q => ⟨fun z => by rw [decide_eq_false q, decide_eq_true z] at h; exact h, fun z => by rw [decide_eq_false q, decide_eq_false z] at h; exact h⟩⟩, fun q => absurd q (by decide)⟩
  · refine C_X2_holdsBetween G M F _ l r ?_
    rw [show nI 22 - 1 = nI 21 from by decide, show eSw (nI 21).toNatClampNeg = 33 from by decide]
    replace h : F (!decide (l = 0) || !decide (r = 0)) M := h
    exact ⟨by decide, vp_in_nI (by decide) (by decide), fun q => absurd q (by decide), fun q => absurd q (by decide), fun q => absurd q (by decide), fun q => absurd q (by decide), fun q => absurd q (by decide), fun q => absurd q (by decide), fun q => absurd q (by decide), fun _ => B_X2_holdsBetween_121 G M F l r ⟨fun q => by rw [decide_eq_false q] at h; exact h, fun q => ⟨fun z => by rw [decide_eq_true q, decide_eq_true z] at h; exact h, fun z => by rw [decide_eq_true q, decide_eq_false z] at h; exact h⟩⟩⟩
theorem S_combined {k : Nat} (hk : gKb k) {M : eM} (F : Int32 → eM → Prop) (l r : Int32) (h : F (gBi k l r) M) : Cal G 0 68 (3, 0, 0) kX2_combined [eV G 1 (nI k), .int l, .int r] M (eFI F) := by
  have hold : (k = 35 ∨ k = 36 ∨ k = 37 ∨ k = 38 ∨ k = 39 ∨ k = 21 ∨ k = 22) → Ev (eZ G 0 68 0 0 (eFI F)) G 0 68 (3, 0, 0) kX2_combined 116 [(0, eV G 1 (nI k)), (1, .int l), (2, .int r)] [] M 0 0 := by
    intro hq
    refine B_X2_combined_116 G M F _ l r (S_holds hq _ l r ?_)
    have e : gBi k l r = if gHold k l r then 1 else 0 := by
      unfold gBi
      rw [if_neg (by omega), if_neg (by omega), if_neg (by omega), if_neg (by omega), if_neg (by omega), if_neg (by omega)]
    rw [e] at h
    refine ⟨fun z => ?_, fun z => ?_⟩
    · rw [z] at h; exact h
    · rw [z] at h; exact h
  rcases hk with rfl | rfl | rfl | rfl | rfl | rfl | rfl | rfl | rfl | rfl | rfl | rfl | rfl
  · refine C_X2_combined G M F _ l r ?_
    rw [show nI 21 - 1 = nI 20 from by decide, show eSw (nI 20).toNatClampNeg = 32 from by decide]
    exact ⟨by decide, vp_in_nI (by decide) (by decide), fun _ => hold (by decide), fun q => absurd q (by decide), fun q => absurd q (by decide), fun q => absurd q (by decide), fun q => absurd q (by decide), fun q => absurd q (by decide), fun q => absurd q (by decide), fun q => absurd q (by decide), fun q => absurd q (by decide), fun q => absurd q (by decide), fun q => absurd q (by decide), fun q => absurd q (by decide), fun q => absurd q (by decide), fun q => absurd q (by decide), fun q => absurd q (by decide)⟩
  · refine C_X2_combined G M F _ l r ?_
    rw [show nI 22 - 1 = nI 21 from by decide, show eSw (nI 21).toNatClampNeg = 33 from by decide]
    exact ⟨by decide, vp_in_nI (by decide) (by decide), fun _ => hold (by decide), fun q => absurd q (by decide), fun q => absurd q (by decide), fun q => absurd q (by decide), fun q => absurd q (by decide), fun q => absurd q (by decide), fun q => absurd q (by decide), fun q => absurd q (by decide), fun q => absurd q (by decide), fun q => absurd q (by decide), fun q => absurd q (by decide), fun q => absurd q (by decide), fun q => absurd q (by decide), fun q => absurd q (by decide), fun q => absurd q (by decide)⟩
  · refine C_X2_combined G M F _ l r ?_
    rw [show nI 23 - 1 = nI 22 from by decide, show eSw (nI 22).toNatClampNeg = 15 from by decide]
    replace h : F (if r < l then r else l) M := h
    exact ⟨by decide, vp_in_nI (by decide) (by decide), fun q => absurd q (by decide), fun q => absurd q (by decide), fun q => absurd q (by decide), fun _ => h, fun q => absurd q (by decide), fun q => absurd q (by decide), fun q => absurd q (by decide), fun q => absurd q (by decide), fun q => absurd q (by decide), fun q => absurd q (by decide), fun q => absurd q (by decide), fun q => absurd q (by decide), fun q => absurd q (by decide), fun q => absurd q (by decide), fun q => absurd q (by decide)⟩
  · refine C_X2_combined G M F _ l r ?_
    rw [show nI 24 - 1 = nI 23 from by decide, show eSw (nI 23).toNatClampNeg = 16 from by decide]
    replace h : F (if l < r then r else l) M := h
    exact ⟨by decide, vp_in_nI (by decide) (by decide), fun q => absurd q (by decide), fun q => absurd q (by decide), fun q => absurd q (by decide), fun q => absurd q (by decide), fun _ => h, fun q => absurd q (by decide), fun q => absurd q (by decide), fun q => absurd q (by decide), fun q => absurd q (by decide), fun q => absurd q (by decide), fun q => absurd q (by decide), fun q => absurd q (by decide), fun q => absurd q (by decide), fun q => absurd q (by decide), fun q => absurd q (by decide)⟩
  · refine C_X2_combined G M F _ l r ?_
    rw [show nI 31 - 1 = nI 30 from by decide, show eSw (nI 30).toNatClampNeg = 24 from by decide]
    replace h : F (l + r) M := h
    exact ⟨by decide, vp_in_nI (by decide) (by decide), fun q => absurd q (by decide), fun q => absurd q (by decide), fun q => absurd q (by decide), fun q => absurd q (by decide), fun q => absurd q (by decide), fun q => absurd q (by decide), fun q => absurd q (by decide), fun q => absurd q (by decide), fun q => absurd q (by decide), fun q => absurd q (by decide), fun q => absurd q (by decide), fun q => absurd q (by decide), fun _ => h, fun q => absurd q (by decide), fun q => absurd q (by decide)⟩
  · refine C_X2_combined G M F _ l r ?_
    rw [show nI 32 - 1 = nI 31 from by decide, show eSw (nI 31).toNatClampNeg = 13 from by decide]
    replace h : F (l - r) M := h
    exact ⟨by decide, vp_in_nI (by decide) (by decide), fun q => absurd q (by decide), fun _ => h, fun q => absurd q (by decide), fun q => absurd q (by decide), fun q => absurd q (by decide), fun q => absurd q (by decide), fun q => absurd q (by decide), fun q => absurd q (by decide), fun q => absurd q (by decide), fun q => absurd q (by decide), fun q => absurd q (by decide), fun q => absurd q (by decide), fun q => absurd q (by decide), fun q => absurd q (by decide), fun q => absurd q (by decide)⟩
  · refine C_X2_combined G M F _ l r ?_
    rw [show nI 33 - 1 = nI 32 from by decide, show eSw (nI 32).toNatClampNeg = 25 from by decide]
    replace h : F (l * r) M := h
    exact ⟨by decide, vp_in_nI (by decide) (by decide), fun q => absurd q (by decide), fun q => absurd q (by decide), fun q => absurd q (by decide), fun q => absurd q (by decide), fun q => absurd q (by decide), fun q => absurd q (by decide), fun q => absurd q (by decide), fun q => absurd q (by decide), fun q => absurd q (by decide), fun q => absurd q (by decide), fun q => absurd q (by decide), fun q => absurd q (by decide), fun q => absurd q (by decide), fun _ => h, fun q => absurd q (by decide)⟩
  · refine C_X2_combined G M F _ l r ?_
    rw [show nI 34 - 1 = nI 33 from by decide, show eSw (nI 33).toNatClampNeg = 26 from by decide]
    replace h : F (if r = 0 then 0 else l / r) M := h
    exact ⟨by decide, vp_in_nI (by decide) (by decide), fun q => absurd q (by decide), fun q => absurd q (by decide), fun q => absurd q (by decide), fun q => absurd q (by decide), fun q => absurd q (by decide), fun q => absurd q (by decide), fun q => absurd q (by decide), fun q => absurd q (by decide), fun q => absurd q (by decide), fun q => absurd q (by decide), fun q => absurd q (by decide), fun q => absurd q (by decide), fun q => absurd q (by decide), fun q => absurd q (by decide), fun _ => B_X2_combined_92 G M F l r ⟨fun q => ⟨q, by rw [if_neg q] at h; exact h⟩, fun q => by rw [if_pos q] at h; exact h⟩⟩
  · refine C_X2_combined G M F _ l r ?_
    rw [show nI 35 - 1 = nI 34 from by decide, show eSw (nI 34).toNatClampNeg = 27 from by decide]
    exact ⟨by decide, vp_in_nI (by decide) (by decide), fun _ => hold (by decide), fun q => absurd q (by decide), fun q => absurd q (by decide), fun q => absurd q (by decide), fun q => absurd q (by decide), fun q => absurd q (by decide), fun q => absurd q (by decide), fun q => absurd q (by decide), fun q => absurd q (by decide), fun q => absurd q (by decide), fun q => absurd q (by decide), fun q => absurd q (by decide), fun q => absurd q (by decide), fun q => absurd q (by decide), fun q => absurd q (by decide)⟩
  · refine C_X2_combined G M F _ l r ?_
    rw [show nI 36 - 1 = nI 35 from by decide, show eSw (nI 35).toNatClampNeg = 28 from by decide]
    exact ⟨by decide, vp_in_nI (by decide) (by decide), fun _ => hold (by decide), fun q => absurd q (by decide), fun q => absurd q (by decide), fun q => absurd q (by decide), fun q => absurd q (by decide), fun q => absurd q (by decide), fun q => absurd q (by decide), fun q => absurd q (by decide), fun q => absurd q (by decide), fun q => absurd q (by decide), fun q => absurd q (by decide), fun q => absurd q (by decide), fun q => absurd q (by decide), fun q => absurd q (by decide), fun q => absurd q (by decide)⟩
  · refine C_X2_combined G M F _ l r ?_
    rw [show nI 37 - 1 = nI 36 from by decide, show eSw (nI 36).toNatClampNeg = 29 from by decide]
    exact ⟨by decide, vp_in_nI (by decide) (by decide), fun _ => hold (by decide), fun q => absurd q (by decide), fun q => absurd q (by decide), fun q => absurd q (by decide), fun q => absurd q (by decide), fun q => absurd q (by decide), fun q => absurd q (by decide), fun q => absurd q (by decide), fun q => absurd q (by decide), fun q => absurd q (by decide), fun q => absurd q (by decide), fun q => absurd q (by decide), fun q => absurd q (by decide), fun q => absurd q (by decide), fun q => absurd q (by decide)⟩
  · refine C_X2_combined G M F _ l r ?_
    rw [show nI 38 - 1 = nI 37 from by decide, show eSw (nI 37).toNatClampNeg = 30 from by decide]
    exact ⟨by decide, vp_in_nI (by decide) (by decide), fun _ => hold (by decide), fun q => absurd q (by decide), fun q => absurd q (by decide), fun q => absurd q (by decide), fun q => absurd q (by decide), fun q => absurd q (by decide), fun q => absurd q (by decide), fun q => absurd q (by decide), fun q => absurd q (by decide), fun q => absurd q (by decide), fun q => absurd q (by decide), fun q => absurd q (by decide), fun q => absurd q (by decide), fun q => absurd q (by decide), fun q => absurd q (by decide)⟩
  · refine C_X2_combined G M F _ l r ?_
    rw [show nI 39 - 1 = nI 38 from by decide, show eSw (nI 38).toNatClampNeg = 31 from by decide]
    exact ⟨by decide, vp_in_nI (by decide) (by decide), fun _ => hold (by decide), fun q => absurd q (by decide), fun q => absurd q (by decide), fun q => absurd q (by decide), fun q => absurd q (by decide), fun q => absurd q (by decide), fun q => absurd q (by decide), fun q => absurd q (by decide), fun q => absurd q (by decide), fun q => absurd q (by decide), fun q => absurd q (by decide), fun q => absurd q (by decide), fun q => absurd q (by decide), fun q => absurd q (by decide), fun q => absurd q (by decide)⟩
theorem S_operand {M : eM} {nc b : Nat} (h9 : M 21 9 = nI nc) (hnc : nc ≤ 400) (hb : b < nc) (F : Int32 → eM → Prop) (h : F (M 20 b) M) : Cal G 0 68 (1, 0, 0) kX7_operand [.ref (G.1 21), .int (nI b)] M (eFI F) := by
  refine C_X7_operand G M F _ ⟨fun q => absurd q (nI_pos (by omega)), fun _ => ⟨fun q => absurd q ?_, fun _ => ⟨vp_in_nI (by omega) (by decide), ?_⟩⟩⟩
  · rw [h9]; exact nI_ge hb (by omega)
  · rw [nI_clamp (by omega)]; exact h
theorem S_step {M : eM} {nc b : Nat} (h9 : M 21 9 = nI nc) (hnc : nc ≤ 400) (hb : b < nc) (F : Int32 → eM → Prop) (h : F (M 19 b) M) : Cal G 0 68 (1, 0, 0) kX7_step [.ref (G.1 21), .int (nI b)] M (eFK G F) := by
  refine C_X7_step G M F _ ⟨fun q => absurd q (nI_pos (by omega)), fun _ => ⟨fun q => absurd q ?_, fun _ => ⟨vp_in_nI (by omega) (by decide), ?_⟩⟩⟩
  · rw [h9]; exact nI_ge hb (by omega)
  · rw [nI_clamp (by omega)]; exact h
/-- one step on the stack -/
theorem E_step (F : eM → Prop) {tv : Nat → Nat} {B : eBd} {r : Int32} (hg : bGm B) {M : eM} {nc b e : Nat} {st : List Int32} {s : pSt} (hnc : nc ≤ 400) (hb : b < nc) (hbe : b < e) (he : e ≤ 400) (h9 : M 21 9 = nI nc) (hk : gKd s.1) (hn : (s.1 = 16 ∨ s.1 = 18 ∨ s.1 = 19) → tv s.2.1 < bN B) (h19 : M 19 b = nI s.1) (h20 : pTok s.1 → M 20 b = nI (tv s.2.1)) (hB : cB M B) (hr : M 16 5 = r) (hst : cSt M st) (hl : st.length < 400) (next : ∀ M', kFr M M' → cSt M' (gStep tv B r st s) → Ev (eZ G 0 68 0 0 (eFV F)) G 0 68 (4, 0, 0) kX2_reckon 374 [(0, .ref (G.1 16)), (2, .int (nI e)), (3, .int (nI b))] [] M' 0 0) : Ev (eZ G 0 68 0 0 (eFV F)) G 0 68 (4, 0, 0) kX2_reckon 7 [(0, .ref (G.1 16)), (2, .int (nI e)), (3, .int (nI b))] [] M 0 0 := by
  obtain ⟨k, t, x, y⟩ := s
  replace hk : gKd k := hk
  replace hn : (k = 16 ∨ k = 18 ∨ k = 19) → tv t < bN B := hn
  replace h19 : M 19 b = nI k := h19
  replace h20 : pTok k → M 20 b = nI (tv t) := h20
  have h49 := hg.1.c49
  have hP16 : bP B ≤ 16 := by
    rw [hg.1.2.2.2.2.2.2]
    have h1 := zSm_le (f := fun k => if (bCe B k).isSome then 1 else 0) (k := 1) (n := bN B) (fun i _ => by split <;> omega)
    have h2 := hg.1.2.2.1
    omega
  refine B_X2_reckon_7 G M F _ _ ⟨fun q => absurd q (nI_ge hbe (by omega)), fun _ => S_step h9 hnc hb _ ?_⟩
  rw [h19]
  have lf : gKl k → ∀ v, v = gLf tv B r k t → Cal G 0 68 (1, 0, 0) kX2_push [.ref (G.1 16), .int v] M (eFV (fun M2 => Ev (eZ G 0 68 0 0 (eFV F)) G 0 68 (4, 0, 0) kX2_reckon 374 [(0, .ref (G.1 16)), (2, .int (nI e)), (3, .int (nI b))] [] M2 0 0)) := by
    intro hq v hv
    refine S_push hst hl _ v (fun M' f' s' => next M' f' ?_)
    rw [gStep_l (s := (k, t, x, y)) hq]
    rw [hv] at s'
    exact s'
  have un : (k = 44 ∨ k = 20) → ∀ M1, kFr M M1 → cSt M1 st.tail → ∀ v, v = gUn k (st.headD 0) → Cal G 0 68 (1, 0, 0) kX2_push [.ref (G.1 16), .int v] M1 (eFV (fun M2 => Ev (eZ G 0 68 0 0 (eFV F)) G 0 68 (4, 0, 0) kX2_reckon 374 [(0, .ref (G.1 16)), (2, .int (nI e)), (3, .int (nI b))] [] M2 0 0)) := by
    intro hq M1 f1 s1 v hv
    refine S_push s1 (by rw [List.length_tail]; omega) _ v (fun M' f' s' => next M' (f1.trans f') ?_)
    rw [gStep_u (s := (k, t, x, y)) hq]
    rw [hv] at s'
    exact s'
  have bn : gKb k → Ev (eZ G 0 68 0 0 (eFV F)) G 0 68 (4, 0, 0) kX2_reckon 353 [(0, .ref (G.1 16)), (2, .int (nI e)), (3, .int (nI b)), (4, eV G 1 (nI k))] [] M 0 0 := by
    intro hq
    refine B_X2_reckon_353 G M F _ _ _ (S_pop hst (by omega) _ (fun M1 f1 s1 => S_pop s1 (by rw [List.length_tail]; omega) _ (fun M2 f2 s2 => S_combined hq _ _ _ ?_)))
    refine S_push s2 (by rw [List.length_tail, List.length_tail]; omega) _ _ (fun M' f' s' => next M' ((f1.trans f2).trans f') ?_)
    rw [gStep_b (s := (k, t, x, y)) hq]
    exact s'
  rcases hk with (rfl | rfl | rfl | rfl | rfl | rfl | rfl | rfl | rfl | rfl) | (rfl | rfl) | (rfl | rfl | rfl | rfl | rfl | rfl | rfl | rfl | rfl | rfl | rfl | rfl | rfl)
  · rw [show nI 40 - 1 = nI 39 from by decide, show eSw (nI 39).toNatClampNeg = 5 from by decide]
    exact ⟨by decide, vp_in_nI (by decide) (by decide), fun q => absurd q (by decide), fun q => absurd q (by decide), fun q => absurd q (by decide), fun q => absurd q (by decide), fun q => absurd q (by decide), fun _ => B_X2_reckon_136 G M F _ _ (S_operand h9 hnc hb _ (lf (by decide) _ (h20 (Or.inl rfl)))), fun q => absurd q (by decide), fun q => absurd q (by decide), fun q => absurd q (by decide), fun q => absurd q (by decide), fun q => absurd q (by decide), fun q => absurd q (by decide), fun q => absurd q (by decide), fun q => absurd q (by decide), fun q => absurd q (by decide), fun q => absurd q (by decide), fun q => absurd q (by decide), fun q => absurd q (by decide), fun q => absurd q (by decide), fun q => absurd q (by decide), fun q => absurd q (by decide), fun q => absurd q (by decide), fun q => absurd q (by decide), fun q => absurd q (by decide)⟩
  · rw [show nI 10 - 1 = nI 9 from by decide, show eSw (nI 9).toNatClampNeg = 6 from by decide]
    exact ⟨by decide, vp_in_nI (by decide) (by decide), fun q => absurd q (by decide), fun q => absurd q (by decide), fun q => absurd q (by decide), fun q => absurd q (by decide), fun q => absurd q (by decide), fun q => absurd q (by decide), fun _ => B_X2_reckon_151 G M F _ _ (lf (by decide) _ hr), fun q => absurd q (by decide), fun q => absurd q (by decide), fun q => absurd q (by decide), fun q => absurd q (by decide), fun q => absurd q (by decide), fun q => absurd q (by decide), fun q => absurd q (by decide), fun q => absurd q (by decide), fun q => absurd q (by decide), fun q => absurd q (by decide), fun q => absurd q (by decide), fun q => absurd q (by decide), fun q => absurd q (by decide), fun q => absurd q (by decide), fun q => absurd q (by decide), fun q => absurd q (by decide), fun q => absurd q (by decide)⟩
  · rw [show nI 11 - 1 = nI 10 from by decide, show eSw (nI 10).toNatClampNeg = 7 from by decide]
    exact ⟨by decide, vp_in_nI (by decide) (by decide), fun q => absurd q (by decide), fun q => absurd q (by decide), fun q => absurd q (by decide), fun q => absurd q (by decide), fun q => absurd q (by decide), fun q => absurd q (by decide), fun q => absurd q (by decide), fun _ => B_X2_reckon_162 G M F _ _ (lf (by decide) _ hB.np), fun q => absurd q (by decide), fun q => absurd q (by decide), fun q => absurd q (by decide), fun q => absurd q (by decide), fun q => absurd q (by decide), fun q => absurd q (by decide), fun q => absurd q (by decide), fun q => absurd q (by decide), fun q => absurd q (by decide), fun q => absurd q (by decide), fun q => absurd q (by decide), fun q => absurd q (by decide), fun q => absurd q (by decide), fun q => absurd q (by decide), fun q => absurd q (by decide), fun q => absurd q (by decide)⟩
  · rw [show nI 12 - 1 = nI 11 from by decide, show eSw (nI 11).toNatClampNeg = 8 from by decide]
    exact ⟨by decide, vp_in_nI (by decide) (by decide), fun q => absurd q (by decide), fun q => absurd q (by decide), fun q => absurd q (by decide), fun q => absurd q (by decide), fun q => absurd q (by decide), fun q => absurd q (by decide), fun q => absurd q (by decide), fun q => absurd q (by decide), fun _ => B_X2_reckon_176 G M F _ _ (S_countMatches G hg.1 hB _ (lf (by decide) _ rfl)), fun q => absurd q (by decide), fun q => absurd q (by decide), fun q => absurd q (by decide), fun q => absurd q (by decide), fun q => absurd q (by decide), fun q => absurd q (by decide), fun q => absurd q (by decide), fun q => absurd q (by decide), fun q => absurd q (by decide), fun q => absurd q (by decide), fun q => absurd q (by decide), fun q => absurd q (by decide), fun q => absurd q (by decide), fun q => absurd q (by decide), fun q => absurd q (by decide)⟩
  · rw [show nI 13 - 1 = nI 12 from by decide, show eSw (nI 12).toNatClampNeg = 9 from by decide]
    exact ⟨by decide, vp_in_nI (by decide) (by decide), fun q => absurd q (by decide), fun q => absurd q (by decide), fun q => absurd q (by decide), fun q => absurd q (by decide), fun q => absurd q (by decide), fun q => absurd q (by decide), fun q => absurd q (by decide), fun q => absurd q (by decide), fun q => absurd q (by decide), fun _ => B_X2_reckon_190 G M F _ _ (S_countPoints G hg.1 hg.2 hB _ (lf (by decide) _ rfl)), fun q => absurd q (by decide), fun q => absurd q (by decide), fun q => absurd q (by decide), fun q => absurd q (by decide), fun q => absurd q (by decide), fun q => absurd q (by decide), fun q => absurd q (by decide), fun q => absurd q (by decide), fun q => absurd q (by decide), fun q => absurd q (by decide), fun q => absurd q (by decide), fun q => absurd q (by decide), fun q => absurd q (by decide), fun q => absurd q (by decide)⟩
  · rw [show nI 14 - 1 = nI 13 from by decide, show eSw (nI 13).toNatClampNeg = 10 from by decide]
    exact ⟨by decide, vp_in_nI (by decide) (by decide), fun q => absurd q (by decide), fun q => absurd q (by decide), fun q => absurd q (by decide), fun q => absurd q (by decide), fun q => absurd q (by decide), fun q => absurd q (by decide), fun q => absurd q (by decide), fun q => absurd q (by decide), fun q => absurd q (by decide), fun q => absurd q (by decide), fun _ => B_X2_reckon_204 G M F _ _ (S_countRings G hg.1 hB _ (lf (by decide) _ rfl)), fun q => absurd q (by decide), fun q => absurd q (by decide), fun q => absurd q (by decide), fun q => absurd q (by decide), fun q => absurd q (by decide), fun q => absurd q (by decide), fun q => absurd q (by decide), fun q => absurd q (by decide), fun q => absurd q (by decide), fun q => absurd q (by decide), fun q => absurd q (by decide), fun q => absurd q (by decide), fun q => absurd q (by decide)⟩
  · rw [show nI 15 - 1 = nI 14 from by decide, show eSw (nI 14).toNatClampNeg = 11 from by decide]
    exact ⟨by decide, vp_in_nI (by decide) (by decide), fun q => absurd q (by decide), fun q => absurd q (by decide), fun q => absurd q (by decide), fun q => absurd q (by decide), fun q => absurd q (by decide), fun q => absurd q (by decide), fun q => absurd q (by decide), fun q => absurd q (by decide), fun q => absurd q (by decide), fun q => absurd q (by decide), fun q => absurd q (by decide), fun _ => B_X2_reckon_218 G M F _ _ (lf (by decide) _ (by rw [hB.nc, hB.np]; rfl)), fun q => absurd q (by decide), fun q => absurd q (by decide), fun q => absurd q (by decide), fun q => absurd q (by decide), fun q => absurd q (by decide), fun q => absurd q (by decide), fun q => absurd q (by decide), fun q => absurd q (by decide), fun q => absurd q (by decide), fun q => absurd q (by decide), fun q => absurd q (by decide), fun q => absurd q (by decide)⟩
  · rw [show nI 16 - 1 = nI 15 from by decide, show eSw (nI 15).toNatClampNeg = 12 from by decide]
    exact ⟨by decide, vp_in_nI (by decide) (by decide), fun q => absurd q (by decide), fun q => absurd q (by decide), fun q => absurd q (by decide), fun q => absurd q (by decide), fun q => absurd q (by decide), fun q => absurd q (by decide), fun q => absurd q (by decide), fun q => absurd q (by decide), fun q => absurd q (by decide), fun q => absurd q (by decide), fun q => absurd q (by decide), fun q => absurd q (by decide), fun _ => B_X2_reckon_240 G M F _ _ (S_operand h9 hnc hb _ (by rw [h20 (Or.inr (Or.inl rfl))]; exact S_countWays G hg.1 hB _ (hn (Or.inl rfl)) (lf (by decide) _ rfl))), fun q => absurd q (by decide), fun q => absurd q (by decide), fun q => absurd q (by decide), fun q => absurd q (by decide), fun q => absurd q (by decide), fun q => absurd q (by decide), fun q => absurd q (by decide), fun q => absurd q (by decide), fun q => absurd q (by decide), fun q => absurd q (by decide), fun q => absurd q (by decide)⟩
  · rw [show nI 18 - 1 = nI 17 from by decide, show eSw (nI 17).toNatClampNeg = 3 from by decide]
    exact ⟨by decide, vp_in_nI (by decide) (by decide), fun q => absurd q (by decide), fun q => absurd q (by decide), fun q => absurd q (by decide), fun _ => B_X2_reckon_262 G M F _ _ (S_operand h9 hnc hb _ (by rw [h20 (Or.inr (Or.inr (Or.inl rfl)))]; exact S_lies G hg.1 hB _ (hn (Or.inr (Or.inl rfl))) ⟨fun z => lf (by decide) _ (by show (0 : Int32) = if (bCe B (tv t)).isSome then 1 else 0; rw [z]; rfl), fun z => lf (by decide) _ (by show (1 : Int32) = if (bCe B (tv t)).isSome then 1 else 0; rw [z]; rfl)⟩)), fun q => absurd q (by decide), fun q => absurd q (by decide), fun q => absurd q (by decide), fun q => absurd q (by decide), fun q => absurd q (by decide), fun q => absurd q (by decide), fun q => absurd q (by decide), fun q => absurd q (by decide), fun q => absurd q (by decide), fun q => absurd q (by decide), fun q => absurd q (by decide), fun q => absurd q (by decide), fun q => absurd q (by decide), fun q => absurd q (by decide), fun q => absurd q (by decide), fun q => absurd q (by decide), fun q => absurd q (by decide), fun q => absurd q (by decide), fun q => absurd q (by decide), fun q => absurd q (by decide)⟩
  · rw [show nI 19 - 1 = nI 18 from by decide, show eSw (nI 18).toNatClampNeg = 4 from by decide]
    have fc : (∀ v, v = gLf tv B r 19 t → Cal G 0 68 (1, 0, 0) kX2_push [.ref (G.1 16), .int v] M (eFV (fun M2 => Ev (eZ G 0 68 0 0 (eFV F)) G 0 68 (4, 0, 0) kX2_reckon 374 [(0, .ref (G.1 16)), (2, .int (nI e)), (3, .int (nI b))] [] M2 0 0))) → ((eO (bFirst B (tv t)) < 0 → Cal G 0 68 (1, 0, 0) kX2_push [.ref (G.1 16), .int 0] M (eFV (fun M2 => Ev (eZ G 0 68 0 0 (eFV F)) G 0 68 (4, 0, 0) kX2_reckon 374 [(0, .ref (G.1 16)), (2, .int (nI e)), (3, .int (nI b))] [] M2 0 0))) ∧ (¬ eO (bFirst B (tv t)) < 0 → Cal G 0 68 (1, 0, 0) kX2_push [.ref (G.1 16), .int 1] M (eFV (fun M2 => Ev (eZ G 0 68 0 0 (eFV F)) G 0 68 (4, 0, 0) kX2_reckon 374 [(0, .ref (G.1 16)), (2, .int (nI e)), (3, .int (nI b))] [] M2 0 0)))) := by
      intro go
      cases h1 : bFirst B (tv t) with
      | none => exact ⟨fun _ => go _ (by show (0 : Int32) = if (bFirst B (tv t)).isSome then 1 else 0; rw [h1]; rfl), fun q => absurd (by decide) q⟩
      | some c =>
        have hc := (bFirst_some h1).1
        exact ⟨fun q => absurd q (nI_pos (by omega)), fun _ => go _ (by show (1 : Int32) = if (bFirst B (tv t)).isSome then 1 else 0; rw [h1]; rfl)⟩
    exact ⟨by decide, vp_in_nI (by decide) (by decide), fun q => absurd q (by decide), fun q => absurd q (by decide), fun q => absurd q (by decide), fun q => absurd q (by decide), fun _ => B_X2_reckon_292 G M F _ _ (S_operand h9 hnc hb _ (by rw [h20 (Or.inr (Or.inr (Or.inr rfl)))]; exact S_firstCell G hg.1 hB _ (hn (Or.inr (Or.inr rfl))) (fc (lf (by decide))))), fun q => absurd q (by decide), fun q => absurd q (by decide), fun q => absurd q (by decide), fun q => absurd q (by decide), fun q => absurd q (by decide), fun q => absurd q (by decide), fun q => absurd q (by decide), fun q => absurd q (by decide), fun q => absurd q (by decide), fun q => absurd q (by decide), fun q => absurd q (by decide), fun q => absurd q (by decide), fun q => absurd q (by decide), fun q => absurd q (by decide), fun q => absurd q (by decide), fun q => absurd q (by decide), fun q => absurd q (by decide), fun q => absurd q (by decide), fun q => absurd q (by decide)⟩
  · rw [show nI 44 - 1 = nI 43 from by decide, show eSw (nI 43).toNatClampNeg = 23 from by decide]
    exact ⟨by decide, vp_in_nI (by decide) (by decide), fun q => absurd q (by decide), fun q => absurd q (by decide), fun q => absurd q (by decide), fun q => absurd q (by decide), fun q => absurd q (by decide), fun q => absurd q (by decide), fun q => absurd q (by decide), fun q => absurd q (by decide), fun q => absurd q (by decide), fun q => absurd q (by decide), fun q => absurd q (by decide), fun q => absurd q (by decide), fun q => absurd q (by decide), fun q => absurd q (by decide), fun q => absurd q (by decide), fun q => absurd q (by decide), fun q => absurd q (by decide), fun q => absurd q (by decide), fun q => absurd q (by decide), fun q => absurd q (by decide), fun q => absurd q (by decide), fun q => absurd q (by decide), fun q => absurd q (by decide), fun _ => B_X2_reckon_322 G M F _ _ (S_pop hst (by omega) _ (fun M1 f1 s1 => un (by decide) M1 f1 s1 _ rfl))⟩
  · rw [show nI 20 - 1 = nI 19 from by decide, show eSw (nI 19).toNatClampNeg = 1 from by decide]
    exact ⟨by decide, vp_in_nI (by decide) (by decide), fun q => absurd q (by decide), fun _ => B_X2_reckon_334 G M F _ _ (S_pop hst (by omega) _ (fun M1 f1 s1 => ⟨fun z => un (by decide) M1 f1 s1 _ (by show (0 : Int32) = if st.headD 0 = 0 then 1 else 0; rw [if_neg z]), fun z => un (by decide) M1 f1 s1 _ (by show (1 : Int32) = if st.headD 0 = 0 then 1 else 0; rw [if_pos z])⟩)), fun q => absurd q (by decide), fun q => absurd q (by decide), fun q => absurd q (by decide), fun q => absurd q (by decide), fun q => absurd q (by decide), fun q => absurd q (by decide), fun q => absurd q (by decide), fun q => absurd q (by decide), fun q => absurd q (by decide), fun q => absurd q (by decide), fun q => absurd q (by decide), fun q => absurd q (by decide), fun q => absurd q (by decide), fun q => absurd q (by decide), fun q => absurd q (by decide), fun q => absurd q (by decide), fun q => absurd q (by decide), fun q => absurd q (by decide), fun q => absurd q (by decide), fun q => absurd q (by decide), fun q => absurd q (by decide), fun q => absurd q (by decide)⟩
  · rw [show nI 21 - 1 = nI 20 from by decide, show eSw (nI 20).toNatClampNeg = 32 from by decide]
    exact ⟨by decide, vp_in_nI (by decide) (by decide), fun _ => bn (by unfold gKb; decide), fun q => absurd q (by decide), fun q => absurd q (by decide), fun q => absurd q (by decide), fun q => absurd q (by decide), fun q => absurd q (by decide), fun q => absurd q (by decide), fun q => absurd q (by decide), fun q => absurd q (by decide), fun q => absurd q (by decide), fun q => absurd q (by decide), fun q => absurd q (by decide), fun q => absurd q (by decide), fun q => absurd q (by decide), fun q => absurd q (by decide), fun q => absurd q (by decide), fun q => absurd q (by decide), fun q => absurd q (by decide), fun q => absurd q (by decide), fun q => absurd q (by decide), fun q => absurd q (by decide), fun q => absurd q (by decide), fun q => absurd q (by decide), fun q => absurd q (by decide)⟩
  · rw [show nI 22 - 1 = nI 21 from by decide, show eSw (nI 21).toNatClampNeg = 33 from by decide]
    exact ⟨by decide, vp_in_nI (by decide) (by decide), fun _ => bn (by unfold gKb; decide), fun q => absurd q (by decide), fun q => absurd q (by decide), fun q => absurd q (by decide), fun q => absurd q (by decide), fun q => absurd q (by decide), fun q => absurd q (by decide), fun q => absurd q (by decide), fun q => absurd q (by decide), fun q => absurd q (by decide), fun q => absurd q (by decide), fun q => absurd q (by decide), fun q => absurd q (by decide), fun q => absurd q (by decide), fun q => absurd q (by decide), fun q => absurd q (by decide), fun q => absurd q (by decide), fun q => absurd q (by decide), fun q => absurd q (by decide), fun q => absurd q (by decide), fun q => absurd q (by decide), fun q => absurd q (by decide), fun q => absurd q (by decide), fun q => absurd q (by decide)⟩
  · rw [show nI 23 - 1 = nI 22 from by decide, show eSw (nI 22).toNatClampNeg = 15 from by decide]
    exact ⟨by decide, vp_in_nI (by decide) (by decide), fun q => absurd q (by decide), fun q => absurd q (by decide), fun q => absurd q (by decide), fun q => absurd q (by decide), fun q => absurd q (by decide), fun q => absurd q (by decide), fun q => absurd q (by decide), fun q => absurd q (by decide), fun q => absurd q (by decide), fun q => absurd q (by decide), fun q => absurd q (by decide), fun q => absurd q (by decide), fun q => absurd q (by decide), fun q => absurd q (by decide), fun q => absurd q (by decide), fun _ => bn (by unfold gKb; decide), fun q => absurd q (by decide), fun q => absurd q (by decide), fun q => absurd q (by decide), fun q => absurd q (by decide), fun q => absurd q (by decide), fun q => absurd q (by decide), fun q => absurd q (by decide), fun q => absurd q (by decide)⟩
  · rw [show nI 24 - 1 = nI 23 from by decide, show eSw (nI 23).toNatClampNeg = 16 from by decide]
    exact ⟨by decide, vp_in_nI (by decide) (by decide), fun q => absurd q (by decide), fun q => absurd q (by decide), fun q => absurd q (by decide), fun q => absurd q (by decide), fun q => absurd q (by decide), fun q => absurd q (by decide), fun q => absurd q (by decide), fun q => absurd q (by decide), fun q => absurd q (by decide), fun q => absurd q (by decide), fun q => absurd q (by decide), fun q => absurd q (by decide), fun q => absurd q (by decide), fun q => absurd q (by decide), fun q => absurd q (by decide), fun q => absurd q (by decide), fun _ => bn (by unfold gKb; decide), fun q => absurd q (by decide), fun q => absurd q (by decide), fun q => absurd q (by decide), fun q => absurd q (by decide), fun q => absurd q (by decide), fun q => absurd q (by decide), fun q => absurd q (by decide)⟩
  · rw [show nI 31 - 1 = nI 30 from by decide, show eSw (nI 30).toNatClampNeg = 24 from by decide]
    exact ⟨by decide, vp_in_nI (by decide) (by decide), fun _ => bn (by unfold gKb; decide), fun q => absurd q (by decide), fun q => absurd q (by decide), fun q => absurd q (by decide), fun q => absurd q (by decide), fun q => absurd q (by decide), fun q => absurd q (by decide), fun q => absurd q (by decide), fun q => absurd q (by decide), fun q => absurd q (by decide), fun q => absurd q (by decide), fun q => absurd q (by decide), fun q => absurd q (by decide), fun q => absurd q (by decide), fun q => absurd q (by decide), fun q => absurd q (by decide), fun q => absurd q (by decide), fun q => absurd q (by decide), fun q => absurd q (by decide), fun q => absurd q (by decide), fun q => absurd q (by decide), fun q => absurd q (by decide), fun q => absurd q (by decide), fun q => absurd q (by decide)⟩
  · rw [show nI 32 - 1 = nI 31 from by decide, show eSw (nI 31).toNatClampNeg = 13 from by decide]
    exact ⟨by decide, vp_in_nI (by decide) (by decide), fun q => absurd q (by decide), fun q => absurd q (by decide), fun q => absurd q (by decide), fun q => absurd q (by decide), fun q => absurd q (by decide), fun q => absurd q (by decide), fun q => absurd q (by decide), fun q => absurd q (by decide), fun q => absurd q (by decide), fun q => absurd q (by decide), fun q => absurd q (by decide), fun q => absurd q (by decide), fun q => absurd q (by decide), fun _ => bn (by unfold gKb; decide), fun q => absurd q (by decide), fun q => absurd q (by decide), fun q => absurd q (by decide), fun q => absurd q (by decide), fun q => absurd q (by decide), fun q => absurd q (by decide), fun q => absurd q (by decide), fun q => absurd q (by decide), fun q => absurd q (by decide), fun q => absurd q (by decide)⟩
  · rw [show nI 33 - 1 = nI 32 from by decide, show eSw (nI 32).toNatClampNeg = 25 from by decide]
    exact ⟨by decide, vp_in_nI (by decide) (by decide), fun _ => bn (by unfold gKb; decide), fun q => absurd q (by decide), fun q => absurd q (by decide), fun q => absurd q (by decide), fun q => absurd q (by decide), fun q => absurd q (by decide), fun q => absurd q (by decide), fun q => absurd q (by decide), fun q => absurd q (by decide), fun q => absurd q (by decide), fun q => absurd q (by decide), fun q => absurd q (by decide), fun q => absurd q (by decide), fun q => absurd q (by decide), fun q => absurd q (by decide), fun q => absurd q (by decide), fun q => absurd q (by decide), fun q => absurd q (by decide), fun q => absurd q (by decide), fun q => absurd q (by decide), fun q => absurd q (by decide), fun q => absurd q (by decide), fun q => absurd q (by decide), fun q => absurd q (by decide)⟩
  · rw [show nI 34 - 1 = nI 33 from by decide, show eSw (nI 33).toNatClampNeg = 26 from by decide]
    exact ⟨by decide, vp_in_nI (by decide) (by decide), fun _ => bn (by unfold gKb; decide), fun q => absurd q (by decide), fun q => absurd q (by decide), fun q => absurd q (by decide), fun q => absurd q (by decide), fun q => absurd q (by decide), fun q => absurd q (by decide), fun q => absurd q (by decide), fun q => absurd q (by decide), fun q => absurd q (by decide), fun q => absurd q (by decide), fun q => absurd q (by decide), fun q => absurd q (by decide), fun q => absurd q (by decide), fun q => absurd q (by decide), fun q => absurd q (by decide), fun q => absurd q (by decide), fun q => absurd q (by decide), fun q => absurd q (by decide), fun q => absurd q (by decide), fun q => absurd q (by decide), fun q => absurd q (by decide), fun q => absurd q (by decide), fun q => absurd q (by decide)⟩
  · rw [show nI 35 - 1 = nI 34 from by decide, show eSw (nI 34).toNatClampNeg = 27 from by decide]
    exact ⟨by decide, vp_in_nI (by decide) (by decide), fun _ => bn (by unfold gKb; decide), fun q => absurd q (by decide), fun q => absurd q (by decide), fun q => absurd q (by decide), fun q => absurd q (by decide), fun q => absurd q (by decide), fun q => absurd q (by decide), fun q => absurd q (by decide), fun q => absurd q (by decide), fun q => absurd q (by decide), fun q => absurd q (by decide), fun q => absurd q (by decide), fun q => absurd q (by decide), fun q => absurd q (by decide), fun q => absurd q (by decide), fun q => absurd q (by decide), fun q => absurd q (by decide), fun q => absurd q (by decide), fun q => absurd q (by decide), fun q => absurd q (by decide), fun q => absurd q (by decide), fun q => absurd q (by decide), fun q => absurd q (by decide), fun q => absurd q (by decide)⟩
  · rw [show nI 36 - 1 = nI 35 from by decide, show eSw (nI 35).toNatClampNeg = 28 from by decide]
    exact ⟨by decide, vp_in_nI (by decide) (by decide), fun _ => bn (by unfold gKb; decide), fun q => absurd q (by decide), fun q => absurd q (by decide), fun q => absurd q (by decide), fun q => absurd q (by decide), fun q => absurd q (by decide), fun q => absurd q (by decide), fun q => absurd q (by decide), fun q => absurd q (by decide), fun q => absurd q (by decide), fun q => absurd q (by decide), fun q => absurd q (by decide), fun q => absurd q (by decide), fun q => absurd q (by decide), fun q => absurd q (by decide), fun q => absurd q (by decide), fun q => absurd q (by decide), fun q => absurd q (by decide), fun q => absurd q (by decide), fun q => absurd q (by decide), fun q => absurd q (by decide), fun q => absurd q (by decide), fun q => absurd q (by decide), fun q => absurd q (by decide)⟩
  · rw [show nI 37 - 1 = nI 36 from by decide, show eSw (nI 36).toNatClampNeg = 29 from by decide]
    exact ⟨by decide, vp_in_nI (by decide) (by decide), fun _ => bn (by unfold gKb; decide), fun q => absurd q (by decide), fun q => absurd q (by decide), fun q => absurd q (by decide), fun q => absurd q (by decide), fun q => absurd q (by decide), fun q => absurd q (by decide), fun q => absurd q (by decide), fun q => absurd q (by decide), fun q => absurd q (by decide), fun q => absurd q (by decide), fun q => absurd q (by decide), fun q => absurd q (by decide), fun q => absurd q (by decide), fun q => absurd q (by decide), fun q => absurd q (by decide), fun q => absurd q (by decide), fun q => absurd q (by decide), fun q => absurd q (by decide), fun q => absurd q (by decide), fun q => absurd q (by decide), fun q => absurd q (by decide), fun q => absurd q (by decide), fun q => absurd q (by decide)⟩
  · rw [show nI 38 - 1 = nI 37 from by decide, show eSw (nI 37).toNatClampNeg = 30 from by decide]
    exact ⟨by decide, vp_in_nI (by decide) (by decide), fun _ => bn (by unfold gKb; decide), fun q => absurd q (by decide), fun q => absurd q (by decide), fun q => absurd q (by decide), fun q => absurd q (by decide), fun q => absurd q (by decide), fun q => absurd q (by decide), fun q => absurd q (by decide), fun q => absurd q (by decide), fun q => absurd q (by decide), fun q => absurd q (by decide), fun q => absurd q (by decide), fun q => absurd q (by decide), fun q => absurd q (by decide), fun q => absurd q (by decide), fun q => absurd q (by decide), fun q => absurd q (by decide), fun q => absurd q (by decide), fun q => absurd q (by decide), fun q => absurd q (by decide), fun q => absurd q (by decide), fun q => absurd q (by decide), fun q => absurd q (by decide), fun q => absurd q (by decide)⟩
  · rw [show nI 39 - 1 = nI 38 from by decide, show eSw (nI 38).toNatClampNeg = 31 from by decide]
    exact ⟨by decide, vp_in_nI (by decide) (by decide), fun _ => bn (by unfold gKb; decide), fun q => absurd q (by decide), fun q => absurd q (by decide), fun q => absurd q (by decide), fun q => absurd q (by decide), fun q => absurd q (by decide), fun q => absurd q (by decide), fun q => absurd q (by decide), fun q => absurd q (by decide), fun q => absurd q (by decide), fun q => absurd q (by decide), fun q => absurd q (by decide), fun q => absurd q (by decide), fun q => absurd q (by decide), fun q => absurd q (by decide), fun q => absurd q (by decide), fun q => absurd q (by decide), fun q => absurd q (by decide), fun q => absurd q (by decide), fun q => absurd q (by decide), fun q => absurd q (by decide), fun q => absurd q (by decide), fun q => absurd q (by decide), fun q => absurd q (by decide)⟩
theorem E_run (F : eM → Prop) {tv : Nat → Nat} {B : eBd} {r : Int32} (hg : bGm B) {nc e : Nat} (hnc : nc ≤ 400) (he : e ≤ nc) : ∀ (cd : List pSt) (b : Nat) (st : List Int32) (M : eM), b + cd.length = e → (∀ s, s ∈ cd → gKd s.1) → gNm (bN B) tv cd → (∀ j s, cd[j]? = some s → M 19 (b + j) = nI s.1 ∧ (pTok s.1 → M 20 (b + j) = nI (tv s.2.1))) → M 21 9 = nI nc → cB M B → M 16 5 = r → cSt M st → st.length + cd.length ≤ 400 → (∀ M', kFr M M' → cSt M' (gRun tv B r st cd) → F M') → Ev (eZ G 0 68 0 0 (eFV F)) G 0 68 (4, 0, 0) kX2_reckon 7 [(0, .ref (G.1 16)), (2, .int (nI e)), (3, .int (nI b))] [] M 0 0
  | [], b, st, M, hb, _, _, _, _, _, _, hst, _, hF => by
    have hb' : b = e := hb
    subst hb'
    exact B_X2_reckon_7 G M F _ _ ⟨fun _ => hF M (kFr.refl M) hst, fun q => absurd (Int32.le_refl _) q⟩
  | s :: cd, b, st, M, hb, hk, hn, hc, h9, hB, hr, hst, hl, hF => by
    have hb' : b + (cd.length + 1) = e := hb
    have hl' : st.length + (cd.length + 1) ≤ 400 := hl
    obtain ⟨c1, c2⟩ := hc 0 s rfl
    refine E_step F (B := B) (r := r) (tv := tv) (s := s) hg hnc (by omega) (by omega) (by omega) h9 (hk s List.mem_cons_self) (hn s List.mem_cons_self) c1 c2 hB hr hst (by omega) (fun M' f' s' => ?_)
    refine B_X2_reckon_374 G M' F _ _ ?_
    rw [← nI_succ]
    have hs := gStep_len (tv := tv) (B := B) (r := r) st s
    refine E_run F hg hnc he cd (b + 1) (gStep tv B r st s) M' (by omega) (fun x hx => hk x (List.mem_cons_of_mem _ hx)) (fun x hx => hn x (List.mem_cons_of_mem _ hx)) (fun j x hx => ?_) (by rw [f'.1 21 (by decide) (by decide)]; exact h9) (hB.k f') (by rw [f'.2 5 (by decide)]; exact hr) s' (by omega) (fun M2 f2 s2 => hF M2 (f'.trans f2) s2)
    have := hc (j + 1) x hx
    rw [f'.1 19 (by decide) (by decide), f'.1 20 (by decide) (by decide), show b + 1 + j = b + (j + 1) by omega]
    exact this
theorem S_reckon (F : eM → Prop) {tv : Nat → Nat} {B : eBd} {r : Int32} (hg : bGm B) {nc b : Nat} {cd : List pSt} {M : eM} (hnc : nc ≤ 400) (he : b + cd.length ≤ nc) (hk : ∀ s, s ∈ cd → gKd s.1) (hn : gNm (bN B) tv cd) (hc : ∀ j s, cd[j]? = some s → M 19 (b + j) = nI s.1 ∧ (pTok s.1 → M 20 (b + j) = nI (tv s.2.1))) (h9 : M 21 9 = nI nc) (hB : cB M B) (hr : M 16 5 = r) (hF : ∀ M', kFr M M' → cSt M' (gRun tv B r [] cd) → F M') : Cal G 0 68 (4, 0, 0) kX2_reckon [.ref (G.1 16), .int (nI b), .int (nI (b + cd.length))] M (eFV F) := by
  have f0 : kFr M (eU M 16 3 0) := ⟨fun c a _ => eU_other _ _ _ a, fun j a => eU_place _ _ _ _ a⟩
  refine C_X2_reckon G M F _ _ (E_run F hg hnc he cd b [] (eU M 16 3 0) rfl hk hn ?_ ?_ (hB.k f0) ?_ ⟨eU_same _ _ _ _, trivial⟩ ?_ (fun M' f' s' => hF M' (f0.trans f') s'))
  · intro j s hs
    rw [f0.1 19 (by decide) (by decide), f0.1 20 (by decide) (by decide)]
    exact hc j s hs
  · rw [f0.1 21 (by decide) (by decide)]; exact h9
  · rw [f0.2 5 (by decide)]; exact hr
  · show 0 + cd.length ≤ 400
    omega
end CEval
