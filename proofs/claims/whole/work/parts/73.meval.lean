/-! ===== the model carries orders and rounds out ===== -/
def gLv (tv : Nat → Nat) (s : pSt) : Int32 := if s.1 = 40 ∨ s.1 = 16 ∨ s.1 = 18 ∨ s.1 = 19 then nI (tv s.2.1) else nI s.2.2.1
def mNo (M : eM) (tv : Nat → Nat) (b : Nat) (cd : List pSt) : Prop := ∀ i s, cd[i]? = some s → M 115 (b + i) = nI (mk s.1) ∧ M 116 (b + i) = gLv tv s ∧ M 117 (b + i) = nI s.2.2.2
def mPo (M : eM) (tv : Nat → Nat) (i : Nat) (o : pOrd) : Prop := M 109 i = nI (mDoes (oKind o)) ∧ M 110 i = nI (tv (oName o)) ∧ M 111 i = nI (oFrom o) ∧ M 112 i = nI (oEnd o) ∧ (oKind o = 4 → M 113 (3 * i) = nI (oFrom o + (oS1 o).length - 1) ∧ M 113 (3 * i + 1) = nI (oFrom o + (oS1 o).length + (oS2 o).length - 1) ∧ M 113 (3 * i + 2) = nI (oMid o - 1)) ∧ M 114 i = (if oHas o = true then nI (oEnd o - 1) else -1)
def mPg (M : eM) (tv : Nat → Nat) (os : List pOrd) : Prop := M 107 4 = nI os.length ∧ (∀ i o, os[i]? = some o → mPo M tv i o) ∧ mNo M tv 0 (osCode os)
theorem mPg.fr {M M' : eM} {tv : Nat → Nat} {os : List pOrd} (h : mPg M tv os) (hf : ∀ c, 107 ≤ c → c ≤ 117 → M' c = M c) : mPg M' tv os := by
  unfold mPg mPo mNo at h ⊢
  rw [hf 107 (by decide) (by decide), hf 109 (by decide) (by decide), hf 110 (by decide) (by decide), hf 111 (by decide) (by decide), hf 112 (by decide) (by decide), hf 113 (by decide) (by decide), hf 114 (by decide) (by decide), hf 115 (by decide) (by decide), hf 116 (by decide) (by decide), hf 117 (by decide) (by decide)]
  exact h
def vFr (M M' : eM) (b : Nat) : Prop := ∀ c j, ¬ (c = 129 ∧ b ≤ j) → M' c j = M c j
theorem vFr.refl (M : eM) (b : Nat) : vFr M M b := fun _ _ _ => rfl
theorem vFr.trans {M M1 M2 : eM} {b b1 : Nat} (h : vFr M M1 b) (h1 : vFr M1 M2 b1) (hb : b ≤ b1) : vFr M M2 b := fun c j hc => (h1 c j (fun z => hc ⟨z.1, by omega⟩)).trans (h c j hc)
theorem vFr.c {M M' : eM} {b c : Nat} (h : vFr M M' b) (hc : c ≠ 129) : M' c = M c := funext fun j => h c j (fun z => hc z.1)
theorem vFr.one (M : eM) {b j : Nat} (v : Int32) (h : b ≤ j) : vFr M (eU M 129 j v) b := fun c i hc => by
  show (if c = 129 ∧ i = j then v else M c i) = M c i
  rw [if_neg (fun z => hc ⟨z.1, by omega⟩)]
theorem mB.v {s a k t b : Nat} {M M' : eM} {B : eBd} (h : mB s a k t M B) (hf : vFr M M' b) (h1 : s ≠ 129 ∧ a ≠ 129 ∧ k ≠ 129 ∧ t ≠ 129) : mB s a k t M' B := h.of (hf.c (by decide)) (hf.c (by decide)) (hf.c h1.2.1) (hf.c h1.2.2.1) (hf.c h1.2.2.2) (hf.c h1.1)
theorem mNo.v {M M' : eM} {tv : Nat → Nat} {b d : Nat} {cd : List pSt} (h : mNo M tv b cd) (hf : vFr M M' d) : mNo M' tv b cd := by
  unfold mNo at h ⊢
  rw [hf.c (c := 115) (by decide), hf.c (c := 116) (by decide), hf.c (c := 117) (by decide)]
  exact h
theorem mNo.left {M : eM} {tv : Nat → Nat} {b : Nat} {c1 c2 : List pSt} (h : mNo M tv b (c1 ++ c2)) : mNo M tv b c1 := by
  intro i s hs
  have hi : i < c1.length := by
    rcases Nat.lt_or_ge i c1.length with h1 | h1
    · exact h1
    · rw [List.getElem?_eq_none h1] at hs; cases hs
  exact h i s (by rw [List.getElem?_append_left hi]; exact hs)
theorem mNo.right {M : eM} {tv : Nat → Nat} {b : Nat} {c1 c2 : List pSt} (h : mNo M tv b (c1 ++ c2)) : mNo M tv (b + c1.length) c2 := by
  intro i s hs
  have := h (c1.length + i) s (by rw [List.getElem?_append_right (Nat.le_add_right _ _), Nat.add_sub_cancel_left]; exact hs)
  rw [← Nat.add_assoc] at this
  exact this
section MEval
variable {G : eG}
theorem S_joined {k : Nat} (hk : gKb k) {M : eM} (F : Int32 → eM → Prop) (l r : Int32) (hb : k = 21 ∨ k = 22 → (l = 0 ∨ l = 1) ∧ (r = 0 ∨ r = 1)) (h : F (gBi k l r) M) : Cal G 100 40 (2, 0, 0) kX13_joined [.int (nI (mk k)), .int l, .int r] M (eFI F) := by
  rcases hk with rfl | rfl | rfl | rfl | rfl | rfl | rfl | rfl | rfl | rfl | rfl | rfl | rfl
  · refine C_X13_joined G M F _ l r ?_
    rw [show nI (mk 21) = 20 from by decide]
    obtain ⟨hl, hr⟩ := hb (by decide)
    exact ⟨fun q => absurd q (by decide), fun _ => by rcases hl with rfl | rfl <;> rcases hr with rfl | rfl <;> exact h, fun q => absurd q (by decide), fun q => absurd q (by decide), fun q => absurd q (by decide), fun q => absurd q (by decide), fun q => absurd q (by decide), fun q => absurd q (by decide), fun q => absurd q (by decide), fun q => absurd q (by decide), fun q => absurd q (by decide), fun q => absurd q (by decide), fun q => absurd q (by decide), fun q => absurd q (by decide), fun q => absurd q (by decide), fun q => absurd q (by decide), fun q => absurd q (by decide), fun q => absurd q (by decide), fun q => absurd q (by decide), fun q => absurd q (by decide), fun q => absurd q (by decide), fun q => absurd q (by decide), fun q => absurd q (by decide), fun q => absurd q (by decide), fun q => absurd q (by decide), fun q => absurd q (by decide), fun q => absurd q (by decide), fun q => absurd q (by decide), fun q => absurd q (by decide)⟩
  · refine C_X13_joined G M F _ l r ?_
    rw [show nI (mk 22) = 21 from by decide]
    obtain ⟨hl, hr⟩ := hb (by decide)
    exact ⟨fun q => absurd q (by decide), fun q => absurd q (by decide), fun _ => by rcases hl with rfl | rfl <;> rcases hr with rfl | rfl <;> exact h, fun q => absurd q (by decide), fun q => absurd q (by decide), fun q => absurd q (by decide), fun q => absurd q (by decide), fun q => absurd q (by decide), fun q => absurd q (by decide), fun q => absurd q (by decide), fun q => absurd q (by decide), fun q => absurd q (by decide), fun q => absurd q (by decide), fun q => absurd q (by decide), fun q => absurd q (by decide), fun q => absurd q (by decide), fun q => absurd q (by decide), fun q => absurd q (by decide), fun q => absurd q (by decide), fun q => absurd q (by decide), fun q => absurd q (by decide), fun q => absurd q (by decide), fun q => absurd q (by decide), fun q => absurd q (by decide), fun q => absurd q (by decide), fun q => absurd q (by decide), fun q => absurd q (by decide), fun q => absurd q (by decide), fun q => absurd q (by decide)⟩
  · refine C_X13_joined G M F _ l r ?_
    rw [show nI (mk 23) = 22 from by decide]
    replace h : F (if r < l then r else l) M := h
    exact ⟨fun q => absurd q (by decide), fun q => absurd q (by decide), fun q => absurd q (by decide), fun _ => h, fun q => absurd q (by decide), fun q => absurd q (by decide), fun q => absurd q (by decide), fun q => absurd q (by decide), fun q => absurd q (by decide), fun q => absurd q (by decide), fun q => absurd q (by decide), fun q => absurd q (by decide), fun q => absurd q (by decide), fun q => absurd q (by decide), fun q => absurd q (by decide), fun q => absurd q (by decide), fun q => absurd q (by decide), fun q => absurd q (by decide), fun q => absurd q (by decide), fun q => absurd q (by decide), fun q => absurd q (by decide), fun q => absurd q (by decide), fun q => absurd q (by decide), fun q => absurd q (by decide), fun q => absurd q (by decide), fun q => absurd q (by decide), fun q => absurd q (by decide), fun q => absurd q (by decide), fun q => absurd q (by decide)⟩
  · refine C_X13_joined G M F _ l r ?_
    rw [show nI (mk 24) = 23 from by decide]
    replace h : F (if l < r then r else l) M := h
    exact ⟨fun q => absurd q (by decide), fun q => absurd q (by decide), fun q => absurd q (by decide), fun q => absurd q (by decide), fun _ => h, fun q => absurd q (by decide), fun q => absurd q (by decide), fun q => absurd q (by decide), fun q => absurd q (by decide), fun q => absurd q (by decide), fun q => absurd q (by decide), fun q => absurd q (by decide), fun q => absurd q (by decide), fun q => absurd q (by decide), fun q => absurd q (by decide), fun q => absurd q (by decide), fun q => absurd q (by decide), fun q => absurd q (by decide), fun q => absurd q (by decide), fun q => absurd q (by decide), fun q => absurd q (by decide), fun q => absurd q (by decide), fun q => absurd q (by decide), fun q => absurd q (by decide), fun q => absurd q (by decide), fun q => absurd q (by decide), fun q => absurd q (by decide), fun q => absurd q (by decide), fun q => absurd q (by decide)⟩
  · refine C_X13_joined G M F _ l r ?_
    rw [show nI (mk 31) = 40 from by decide]
    replace h : F (l + r) M := h
    exact ⟨fun q => absurd q (by decide), fun q => absurd q (by decide), fun q => absurd q (by decide), fun q => absurd q (by decide), fun q => absurd q (by decide), fun q => absurd q (by decide), fun q => absurd q (by decide), fun q => absurd q (by decide), fun q => absurd q (by decide), fun q => absurd q (by decide), fun q => absurd q (by decide), fun q => absurd q (by decide), fun q => absurd q (by decide), fun q => absurd q (by decide), fun q => absurd q (by decide), fun q => absurd q (by decide), fun q => absurd q (by decide), fun q => absurd q (by decide), fun q => absurd q (by decide), fun q => absurd q (by decide), fun q => absurd q (by decide), fun _ => h, fun q => absurd q (by decide), fun q => absurd q (by decide), fun q => absurd q (by decide), fun q => absurd q (by decide), fun q => absurd q (by decide), fun q => absurd q (by decide), fun q => absurd q (by decide)⟩
  · refine C_X13_joined G M F _ l r ?_
    rw [show nI (mk 32) = 41 from by decide]
    replace h : F (l - r) M := h
    exact ⟨fun q => absurd q (by decide), fun q => absurd q (by decide), fun q => absurd q (by decide), fun q => absurd q (by decide), fun q => absurd q (by decide), fun q => absurd q (by decide), fun q => absurd q (by decide), fun q => absurd q (by decide), fun q => absurd q (by decide), fun q => absurd q (by decide), fun q => absurd q (by decide), fun q => absurd q (by decide), fun q => absurd q (by decide), fun q => absurd q (by decide), fun q => absurd q (by decide), fun q => absurd q (by decide), fun q => absurd q (by decide), fun q => absurd q (by decide), fun q => absurd q (by decide), fun q => absurd q (by decide), fun q => absurd q (by decide), fun q => absurd q (by decide), fun _ => h, fun q => absurd q (by decide), fun q => absurd q (by decide), fun q => absurd q (by decide), fun q => absurd q (by decide), fun q => absurd q (by decide), fun q => absurd q (by decide)⟩
  · refine C_X13_joined G M F _ l r ?_
    rw [show nI (mk 33) = 42 from by decide]
    replace h : F (l * r) M := h
    exact ⟨fun q => absurd q (by decide), fun q => absurd q (by decide), fun q => absurd q (by decide), fun q => absurd q (by decide), fun q => absurd q (by decide), fun q => absurd q (by decide), fun q => absurd q (by decide), fun q => absurd q (by decide), fun q => absurd q (by decide), fun q => absurd q (by decide), fun q => absurd q (by decide), fun q => absurd q (by decide), fun q => absurd q (by decide), fun q => absurd q (by decide), fun q => absurd q (by decide), fun q => absurd q (by decide), fun q => absurd q (by decide), fun q => absurd q (by decide), fun q => absurd q (by decide), fun q => absurd q (by decide), fun q => absurd q (by decide), fun q => absurd q (by decide), fun q => absurd q (by decide), fun _ => h, fun q => absurd q (by decide), fun q => absurd q (by decide), fun q => absurd q (by decide), fun q => absurd q (by decide), fun q => absurd q (by decide)⟩
  · refine C_X13_joined G M F _ l r ?_
    rw [show nI (mk 34) = 43 from by decide]
    replace h : F (if r = 0 then 0 else l / r) M := h
    exact ⟨fun q => absurd q (by decide), fun q => absurd q (by decide), fun q => absurd q (by decide), fun q => absurd q (by decide), fun q => absurd q (by decide), fun q => absurd q (by decide), fun q => absurd q (by decide), fun q => absurd q (by decide), fun q => absurd q (by decide), fun q => absurd q (by decide), fun q => absurd q (by decide), fun q => absurd q (by decide), fun q => absurd q (by decide), fun q => absurd q (by decide), fun q => absurd q (by decide), fun q => absurd q (by decide), fun q => absurd q (by decide), fun q => absurd q (by decide), fun q => absurd q (by decide), fun q => absurd q (by decide), fun q => absurd q (by decide), fun q => absurd q (by decide), fun q => absurd q (by decide), fun q => absurd q (by decide), fun _ => B_X13_joined_140 G M F l r ⟨fun q => ⟨q, by rw [if_neg q] at h; exact h⟩, fun q => by rw [if_pos q] at h; exact h⟩, fun q => absurd q (by decide), fun q => absurd q (by decide), fun q => absurd q (by decide), fun q => absurd q (by decide)⟩
  · refine C_X13_joined G M F _ l r ?_
    rw [show nI (mk 35) = 44 from by decide]
    replace h : F (if decide (l < r) then 1 else 0) M := h
    exact ⟨fun q => absurd q (by decide), fun q => absurd q (by decide), fun q => absurd q (by decide), fun q => absurd q (by decide), fun q => absurd q (by decide), fun q => absurd q (by decide), fun q => absurd q (by decide), fun q => absurd q (by decide), fun q => absurd q (by decide), fun q => absurd q (by decide), fun q => absurd q (by decide), fun q => absurd q (by decide), fun q => absurd q (by decide), fun q => absurd q (by decide), fun q => absurd q (by decide), fun q => absurd q (by decide), fun q => absurd q (by decide), fun q => absurd q (by decide), fun q => absurd q (by decide), fun q => absurd q (by decide), fun q => absurd q (by decide), fun q => absurd q (by decide), fun q => absurd q (by decide), fun q => absurd q (by decide), fun q => absurd q (by decide), fun _ => B_X13_joined_172 G M F l r ⟨fun q => by rw [decide_eq_false (Int32.not_lt.mpr q)] at h; exact h, fun q => by rw [decide_eq_true (Int32.not_le.mp q)] at h; exact h⟩, fun q => absurd q (by decide), fun q => absurd q (by decide), fun q => absurd q (by decide)⟩
  · refine C_X13_joined G M F _ l r ?_
    rw [show nI (mk 36) = 45 from by decide]
    replace h : F (if decide (r < l) then 1 else 0) M := h
    exact ⟨fun q => absurd q (by decide), fun q => absurd q (by decide), fun q => absurd q (by decide), fun q => absurd q (by decide), fun q => absurd q (by decide), fun q => absurd q (by decide), fun q => absurd q (by decide), fun q => absurd q (by decide), fun q => absurd q (by decide), fun q => absurd q (by decide), fun q => absurd q (by decide), fun q => absurd q (by decide), fun q => absurd q (by decide), fun q => absurd q (by decide), fun q => absurd q (by decide), fun q => absurd q (by decide), fun q => absurd q (by decide), fun q => absurd q (by decide), fun q => absurd q (by decide), fun q => absurd q (by decide), fun q => absurd q (by decide), fun q => absurd q (by decide), fun q => absurd q (by decide), fun q => absurd q (by decide), fun q => absurd q (by decide), fun q => absurd q (by decide), fun _ => B_X13_joined_183 G M F l r ⟨fun q => by rw [decide_eq_false (Int32.not_lt.mpr q)] at h; exact h, fun q => by rw [decide_eq_true (Int32.not_le.mp q)] at h; exact h⟩, fun q => absurd q (by decide), fun q => absurd q (by decide)⟩
  · refine C_X13_joined G M F _ l r ?_
    rw [show nI (mk 37) = 46 from by decide]
    replace h : F (if decide (l = r) then 1 else 0) M := h
    exact ⟨fun q => absurd q (by decide), fun q => absurd q (by decide), fun q => absurd q (by decide), fun q => absurd q (by decide), fun q => absurd q (by decide), fun q => absurd q (by decide), fun q => absurd q (by decide), fun q => absurd q (by decide), fun q => absurd q (by decide), fun q => absurd q (by decide), fun q => absurd q (by decide), fun q => absurd q (by decide), fun q => absurd q (by decide), fun q => absurd q (by decide), fun q => absurd q (by decide), fun q => absurd q (by decide), fun q => absurd q (by decide), fun q => absurd q (by decide), fun q => absurd q (by decide), fun q => absurd q (by decide), fun q => absurd q (by decide), fun q => absurd q (by decide), fun q => absurd q (by decide), fun q => absurd q (by decide), fun q => absurd q (by decide), fun q => absurd q (by decide), fun q => absurd q (by decide), fun _ => B_X13_joined_194 G M F l r ⟨fun q => by rw [decide_eq_false q] at h; exact h, fun q => by rw [decide_eq_true q] at h; exact h⟩, fun q => absurd q (by decide)⟩
  · refine C_X13_joined G M F _ l r ?_
    rw [show nI (mk 38) = 47 from by decide]
    replace h : F (if decide (l ≤ r) then 1 else 0) M := h
    exact ⟨fun q => absurd q (by decide), fun q => absurd q (by decide), fun q => absurd q (by decide), fun q => absurd q (by decide), fun q => absurd q (by decide), fun q => absurd q (by decide), fun q => absurd q (by decide), fun q => absurd q (by decide), fun q => absurd q (by decide), fun q => absurd q (by decide), fun q => absurd q (by decide), fun q => absurd q (by decide), fun q => absurd q (by decide), fun q => absurd q (by decide), fun q => absurd q (by decide), fun q => absurd q (by decide), fun q => absurd q (by decide), fun q => absurd q (by decide), fun q => absurd q (by decide), fun q => absurd q (by decide), fun q => absurd q (by decide), fun q => absurd q (by decide), fun q => absurd q (by decide), fun q => absurd q (by decide), fun q => absurd q (by decide), fun q => absurd q (by decide), fun q => absurd q (by decide), fun q => absurd q (by decide), fun _ => B_X13_joined_205 G M F l r ⟨fun q => by rw [decide_eq_false (Int32.not_le.mpr q)] at h; exact h, fun q => by rw [decide_eq_true (Int32.not_lt.mp q)] at h; exact h⟩⟩
  · refine C_X13_joined G M F _ l r ?_
    rw [show nI (mk 39) = 48 from by decide]
    replace h : F (if decide (r ≤ l) then 1 else 0) M := h
    exact ⟨fun _ => B_X13_joined_216 G M F l r ⟨fun q => by rw [decide_eq_false (Int32.not_le.mpr q)] at h; exact h, fun q => by rw [decide_eq_true (Int32.not_lt.mp q)] at h; exact h⟩, fun q => absurd q (by decide), fun q => absurd q (by decide), fun q => absurd q (by decide), fun q => absurd q (by decide), fun q => absurd q (by decide), fun q => absurd q (by decide), fun q => absurd q (by decide), fun q => absurd q (by decide), fun q => absurd q (by decide), fun q => absurd q (by decide), fun q => absurd q (by decide), fun q => absurd q (by decide), fun q => absurd q (by decide), fun q => absurd q (by decide), fun q => absurd q (by decide), fun q => absurd q (by decide), fun q => absurd q (by decide), fun q => absurd q (by decide), fun q => absurd q (by decide), fun q => absurd q (by decide), fun q => absurd q (by decide), fun q => absurd q (by decide), fun q => absurd q (by decide), fun q => absurd q (by decide), fun q => absurd q (by decide), fun q => absurd q (by decide), fun q => absurd q (by decide), fun q => absurd q (by decide)⟩
theorem S_mleaf_130 {k t : Nat} (hk : gKl k) {tv : Nat → Nat} {B : eBd} {r : Int32} (hg : bOk B) {M : eM} (hM : mB 130 131 132 133 M B) (hr : M 130 4 = r) (hn : (k = 16 ∨ k = 18 ∨ k = 19) → tv t < bN B) (F : Int32 → eM → Prop) (h : F (gLf tv B r k t) M) (a3 a4 : Int32) (ha : (k = 40 ∨ k = 16 ∨ k = 18 ∨ k = 19) → a3 = nI (tv t)) : Cal G 100 40 (8, 0, 0) kX13_reckon [.ref (G.1 100), .ref (G.1 130), .int (nI (mk k)), .int a3, .int a4] M (eFI F) := by
  rcases hk with rfl | rfl | rfl | rfl | rfl | rfl | rfl | rfl | rfl | rfl
  · refine C_X13_reckon_130 G M F _ a3 a4 ?_
    rw [show nI (mk 40) = 31 from by decide]
    exact ⟨fun q => absurd q (by decide), fun q => absurd q (by decide), fun q => absurd q (by decide), fun q => absurd q (by decide), fun q => absurd q (by decide), fun q => absurd q (by decide), fun q => absurd q (by decide), fun q => absurd q (by decide), fun q => absurd q (by decide), fun q => absurd q (by decide), fun q => absurd q (by decide), fun _ => by rw [ha (by decide)]; exact h, fun q => absurd q (by decide)⟩
  · refine C_X13_reckon_130 G M F _ a3 a4 ?_
    rw [show nI (mk 10) = 9 from by decide]
    exact ⟨fun q => absurd q (by decide), fun _ => by rw [hr]; exact h, fun q => absurd q (by decide), fun q => absurd q (by decide), fun q => absurd q (by decide), fun q => absurd q (by decide), fun q => absurd q (by decide), fun q => absurd q (by decide), fun q => absurd q (by decide), fun q => absurd q (by decide), fun q => absurd q (by decide), fun q => absurd q (by decide), fun q => absurd q (by decide)⟩
  · refine C_X13_reckon_130 G M F _ a3 a4 ?_
    rw [show nI (mk 11) = 10 from by decide]
    exact ⟨fun q => absurd q (by decide), fun q => absurd q (by decide), fun _ => by rw [hM.2.2.2.2.2]; exact h, fun q => absurd q (by decide), fun q => absurd q (by decide), fun q => absurd q (by decide), fun q => absurd q (by decide), fun q => absurd q (by decide), fun q => absurd q (by decide), fun q => absurd q (by decide), fun q => absurd q (by decide), fun q => absurd q (by decide), fun q => absurd q (by decide)⟩
  · refine C_X13_reckon_130 G M F _ a3 a4 ?_
    rw [show nI (mk 12) = 11 from by decide]
    exact ⟨fun q => absurd q (by decide), fun q => absurd q (by decide), fun q => absurd q (by decide), fun _ => S_matches_130 G hg hM _ h, fun q => absurd q (by decide), fun q => absurd q (by decide), fun q => absurd q (by decide), fun q => absurd q (by decide), fun q => absurd q (by decide), fun q => absurd q (by decide), fun q => absurd q (by decide), fun q => absurd q (by decide), fun q => absurd q (by decide)⟩
  · refine C_X13_reckon_130 G M F _ a3 a4 ?_
    rw [show nI (mk 13) = 12 from by decide]
    exact ⟨fun q => absurd q (by decide), fun q => absurd q (by decide), fun q => absurd q (by decide), fun q => absurd q (by decide), fun _ => S_points_130 G hg hM _ h, fun q => absurd q (by decide), fun q => absurd q (by decide), fun q => absurd q (by decide), fun q => absurd q (by decide), fun q => absurd q (by decide), fun q => absurd q (by decide), fun q => absurd q (by decide), fun q => absurd q (by decide)⟩
  · refine C_X13_reckon_130 G M F _ a3 a4 ?_
    rw [show nI (mk 14) = 13 from by decide]
    exact ⟨fun q => absurd q (by decide), fun q => absurd q (by decide), fun q => absurd q (by decide), fun q => absurd q (by decide), fun q => absurd q (by decide), fun _ => S_rings_130 G hg hM _ h, fun q => absurd q (by decide), fun q => absurd q (by decide), fun q => absurd q (by decide), fun q => absurd q (by decide), fun q => absurd q (by decide), fun q => absurd q (by decide), fun q => absurd q (by decide)⟩
  · refine C_X13_reckon_130 G M F _ a3 a4 ?_
    rw [show nI (mk 15) = 14 from by decide]
    exact ⟨fun q => absurd q (by decide), fun q => absurd q (by decide), fun q => absurd q (by decide), fun q => absurd q (by decide), fun q => absurd q (by decide), fun q => absurd q (by decide), fun _ => B_X13_reckon_130_138 G M F (S_cells G hM _ (by rw [hM.2.2.2.2.2]; exact h)), fun q => absurd q (by decide), fun q => absurd q (by decide), fun q => absurd q (by decide), fun q => absurd q (by decide), fun q => absurd q (by decide), fun q => absurd q (by decide)⟩
  · refine C_X13_reckon_130 G M F _ a3 a4 ?_
    rw [show nI (mk 16) = 15 from by decide]
    exact ⟨fun q => absurd q (by decide), fun q => absurd q (by decide), fun q => absurd q (by decide), fun q => absurd q (by decide), fun q => absurd q (by decide), fun q => absurd q (by decide), fun q => absurd q (by decide), fun _ => B_X13_reckon_130_148 G M F _ (by rw [ha (by decide)]; exact S_ways_130 G hg hM _ (hn (by decide)) h), fun q => absurd q (by decide), fun q => absurd q (by decide), fun q => absurd q (by decide), fun q => absurd q (by decide), fun q => absurd q (by decide)⟩
  · refine C_X13_reckon_130 G M F _ a3 a4 ?_
    rw [show nI (mk 18) = 17 from by decide]
    have on : (eO (bCe B (tv t)) = -1 → F 0 M) ∧ (¬ eO (bCe B (tv t)) = -1 → F 1 M) := by
      have h' : F (if (bCe B (tv t)).isSome then 1 else 0) M := h
      cases h1 : bCe B (tv t) with
      | none => rw [h1] at h'; exact ⟨fun _ => h', fun q => absurd rfl q⟩
      | some c =>
        rw [h1] at h'
        have hc := (hg.2.2.2.2.1 _ c (hn (by decide)) h1).1
        have h49 := hg.c49
        exact ⟨fun q => absurd q (eNeg c (by omega)), fun _ => h'⟩
    exact ⟨fun q => absurd q (by decide), fun q => absurd q (by decide), fun q => absurd q (by decide), fun q => absurd q (by decide), fun q => absurd q (by decide), fun q => absurd q (by decide), fun q => absurd q (by decide), fun q => absurd q (by decide), fun _ => B_X13_reckon_130_155 G M F _ (by rw [ha (by decide), nI_clamp (show tv t < 2 ^ 31 by have := hn (by decide); have := hg.2.2.1; omega), hM.2.2.2.1 _ (hn (by decide))]; exact ⟨vp_in_nI (by have := hn (by decide); have := hg.2.2.1; omega) (by decide), on⟩), fun q => absurd q (by decide), fun q => absurd q (by decide), fun q => absurd q (by decide), fun q => absurd q (by decide)⟩
  · refine C_X13_reckon_130 G M F _ a3 a4 ?_
    rw [show nI (mk 19) = 18 from by decide]
    have fw : (eO (bWay B (tv t)) = -1 → F 0 M) ∧ (¬ eO (bWay B (tv t)) = -1 → F 1 M) := by
      have h' : F (if (bFirst B (tv t)).isSome then 1 else 0) M := h
      unfold bWay
      cases h1 : bFirst B (tv t) with
      | none => rw [h1] at h'; exact ⟨fun _ => h', fun q => absurd rfl q⟩
      | some c =>
        rw [h1] at h'
        obtain ⟨hc, u, hu, h6, -⟩ := bFirst_some h1
        have h49 := hg.c49
        show (eO (some (6 * c + (bAny B (tv t) c).getD 0)) = -1 → F 0 M) ∧ (¬ eO (some (6 * c + (bAny B (tv t) c).getD 0)) = -1 → F 1 M)
        rw [hu]
        exact ⟨fun q => absurd q (eNeg (6 * c + u) (by omega)), fun _ => h'⟩
    exact ⟨fun q => absurd q (by decide), fun q => absurd q (by decide), fun q => absurd q (by decide), fun q => absurd q (by decide), fun q => absurd q (by decide), fun q => absurd q (by decide), fun q => absurd q (by decide), fun q => absurd q (by decide), fun q => absurd q (by decide), fun _ => B_X13_reckon_130_171 G M F _ (by rw [ha (by decide)]; exact S_firstWay_130 G hg hM _ (hn (by decide)) fw), fun q => absurd q (by decide), fun q => absurd q (by decide), fun q => absurd q (by decide)⟩
theorem S_mun_130 {k l : Nat} (hk : k = 44 ∨ k = 20) {M : eM} (hl : l < 800) (hb : k = 20 → M 129 l = 0 ∨ M 129 l = 1) (F : Int32 → eM → Prop) (h : F (gUn k (M 129 l)) M) (a4 : Int32) : Cal G 100 40 (8, 0, 0) kX13_reckon [.ref (G.1 100), .ref (G.1 130), .int (nI (mk k)), .int (nI l), .int a4] M (eFI F) := by
  rcases hk with rfl | rfl
  · refine C_X13_reckon_130 G M F _ _ a4 ?_
    rw [show nI (mk 44) = 60 from by decide]
    exact ⟨fun q => absurd q (by decide), fun q => absurd q (by decide), fun q => absurd q (by decide), fun q => absurd q (by decide), fun q => absurd q (by decide), fun q => absurd q (by decide), fun q => absurd q (by decide), fun q => absurd q (by decide), fun q => absurd q (by decide), fun q => absurd q (by decide), fun q => absurd q (by decide), fun q => absurd q (by decide), fun _ => B_X13_reckon_130_187 G M F _ ⟨vp_in_nI hl (by decide), by rw [nI_clamp (show l < 2 ^ 31 by omega)]; exact h⟩⟩
  · refine C_X13_reckon_130 G M F _ _ a4 ?_
    rw [show nI (mk 20) = 19 from by decide]
    have h' : F (1 - M 129 l) M := by
      rcases hb rfl with z | z
      · rw [z] at h ⊢; exact h
      · rw [z] at h ⊢; exact h
    exact ⟨fun q => absurd q (by decide), fun q => absurd q (by decide), fun q => absurd q (by decide), fun q => absurd q (by decide), fun q => absurd q (by decide), fun q => absurd q (by decide), fun q => absurd q (by decide), fun q => absurd q (by decide), fun q => absurd q (by decide), fun q => absurd q (by decide), fun _ => B_X13_reckon_130_195 G M F _ ⟨vp_in_nI hl (by decide), by rw [nI_clamp (show l < 2 ^ 31 by omega)]; exact h'⟩, fun q => absurd q (by decide), fun q => absurd q (by decide)⟩
theorem S_mbi_130 {k l r : Nat} (hk : gKb k) {M : eM} (hl : l < 800) (hr : r < 800) (hb : k = 21 ∨ k = 22 → (M 129 l = 0 ∨ M 129 l = 1) ∧ (M 129 r = 0 ∨ M 129 r = 1)) (F : Int32 → eM → Prop) (h : F (gBi k (M 129 l) (M 129 r)) M) : Cal G 100 40 (8, 0, 0) kX13_reckon [.ref (G.1 100), .ref (G.1 130), .int (nI (mk k)), .int (nI l), .int (nI r)] M (eFI F) := by
  have go : Ev (eZ G 100 40 0 0 (eFI F)) G 100 40 (8, 0, 0) kX13_reckon 204 [(0, .ref (G.1 100)), (2, .int (nI (mk k))), (3, .int (nI l)), (4, .int (nI r))] [] M 0 0 := by
    refine B_X13_reckon_130_204 G M F _ _ _ ⟨vp_in_nI hl (by decide), vp_in_nI hr (by decide), ?_⟩
    rw [nI_clamp (show l < 2 ^ 31 by omega), nI_clamp (show r < 2 ^ 31 by omega)]
    exact S_joined hk _ _ _ hb h
  refine C_X13_reckon_130 G M F _ _ _ ?_
  rcases hk with rfl | rfl | rfl | rfl | rfl | rfl | rfl | rfl | rfl | rfl | rfl | rfl | rfl
  · exact ⟨fun _ => go, fun q => absurd q (by decide), fun q => absurd q (by decide), fun q => absurd q (by decide), fun q => absurd q (by decide), fun q => absurd q (by decide), fun q => absurd q (by decide), fun q => absurd q (by decide), fun q => absurd q (by decide), fun q => absurd q (by decide), fun q => absurd q (by decide), fun q => absurd q (by decide), fun q => absurd q (by decide)⟩
  · exact ⟨fun _ => go, fun q => absurd q (by decide), fun q => absurd q (by decide), fun q => absurd q (by decide), fun q => absurd q (by decide), fun q => absurd q (by decide), fun q => absurd q (by decide), fun q => absurd q (by decide), fun q => absurd q (by decide), fun q => absurd q (by decide), fun q => absurd q (by decide), fun q => absurd q (by decide), fun q => absurd q (by decide)⟩
  · exact ⟨fun _ => go, fun q => absurd q (by decide), fun q => absurd q (by decide), fun q => absurd q (by decide), fun q => absurd q (by decide), fun q => absurd q (by decide), fun q => absurd q (by decide), fun q => absurd q (by decide), fun q => absurd q (by decide), fun q => absurd q (by decide), fun q => absurd q (by decide), fun q => absurd q (by decide), fun q => absurd q (by decide)⟩
  · exact ⟨fun _ => go, fun q => absurd q (by decide), fun q => absurd q (by decide), fun q => absurd q (by decide), fun q => absurd q (by decide), fun q => absurd q (by decide), fun q => absurd q (by decide), fun q => absurd q (by decide), fun q => absurd q (by decide), fun q => absurd q (by decide), fun q => absurd q (by decide), fun q => absurd q (by decide), fun q => absurd q (by decide)⟩
  · exact ⟨fun _ => go, fun q => absurd q (by decide), fun q => absurd q (by decide), fun q => absurd q (by decide), fun q => absurd q (by decide), fun q => absurd q (by decide), fun q => absurd q (by decide), fun q => absurd q (by decide), fun q => absurd q (by decide), fun q => absurd q (by decide), fun q => absurd q (by decide), fun q => absurd q (by decide), fun q => absurd q (by decide)⟩
  · exact ⟨fun _ => go, fun q => absurd q (by decide), fun q => absurd q (by decide), fun q => absurd q (by decide), fun q => absurd q (by decide), fun q => absurd q (by decide), fun q => absurd q (by decide), fun q => absurd q (by decide), fun q => absurd q (by decide), fun q => absurd q (by decide), fun q => absurd q (by decide), fun q => absurd q (by decide), fun q => absurd q (by decide)⟩
  · exact ⟨fun _ => go, fun q => absurd q (by decide), fun q => absurd q (by decide), fun q => absurd q (by decide), fun q => absurd q (by decide), fun q => absurd q (by decide), fun q => absurd q (by decide), fun q => absurd q (by decide), fun q => absurd q (by decide), fun q => absurd q (by decide), fun q => absurd q (by decide), fun q => absurd q (by decide), fun q => absurd q (by decide)⟩
  · exact ⟨fun _ => go, fun q => absurd q (by decide), fun q => absurd q (by decide), fun q => absurd q (by decide), fun q => absurd q (by decide), fun q => absurd q (by decide), fun q => absurd q (by decide), fun q => absurd q (by decide), fun q => absurd q (by decide), fun q => absurd q (by decide), fun q => absurd q (by decide), fun q => absurd q (by decide), fun q => absurd q (by decide)⟩
  · exact ⟨fun _ => go, fun q => absurd q (by decide), fun q => absurd q (by decide), fun q => absurd q (by decide), fun q => absurd q (by decide), fun q => absurd q (by decide), fun q => absurd q (by decide), fun q => absurd q (by decide), fun q => absurd q (by decide), fun q => absurd q (by decide), fun q => absurd q (by decide), fun q => absurd q (by decide), fun q => absurd q (by decide)⟩
  · exact ⟨fun _ => go, fun q => absurd q (by decide), fun q => absurd q (by decide), fun q => absurd q (by decide), fun q => absurd q (by decide), fun q => absurd q (by decide), fun q => absurd q (by decide), fun q => absurd q (by decide), fun q => absurd q (by decide), fun q => absurd q (by decide), fun q => absurd q (by decide), fun q => absurd q (by decide), fun q => absurd q (by decide)⟩
  · exact ⟨fun _ => go, fun q => absurd q (by decide), fun q => absurd q (by decide), fun q => absurd q (by decide), fun q => absurd q (by decide), fun q => absurd q (by decide), fun q => absurd q (by decide), fun q => absurd q (by decide), fun q => absurd q (by decide), fun q => absurd q (by decide), fun q => absurd q (by decide), fun q => absurd q (by decide), fun q => absurd q (by decide)⟩
  · exact ⟨fun _ => go, fun q => absurd q (by decide), fun q => absurd q (by decide), fun q => absurd q (by decide), fun q => absurd q (by decide), fun q => absurd q (by decide), fun q => absurd q (by decide), fun q => absurd q (by decide), fun q => absurd q (by decide), fun q => absurd q (by decide), fun q => absurd q (by decide), fun q => absurd q (by decide), fun q => absurd q (by decide)⟩
  · exact ⟨fun _ => go, fun q => absurd q (by decide), fun q => absurd q (by decide), fun q => absurd q (by decide), fun q => absurd q (by decide), fun q => absurd q (by decide), fun q => absurd q (by decide), fun q => absurd q (by decide), fun q => absurd q (by decide), fun q => absurd q (by decide), fun q => absurd q (by decide), fun q => absurd q (by decide), fun q => absurd q (by decide)⟩
theorem Em_step_130 (F : Bool → eM → Prop) {M : eM} {k j e : Nat} (hk : k < 17) (hj : j < e) (he : e ≤ 800) (h112 : M 112 k = nI e) (v : Int32) (hv : ∀ F' : Int32 → eM → Prop, F' v M → Cal G 100 40 (8, 0, 0) kX13_reckon [.ref (G.1 100), .ref (G.1 130), .int (M 115 j), .int (M 116 j), .int (M 117 j)] M (eFI F')) (next : Ev (eZ G 100 40 0 0 (eFZ F)) G 100 40 (9, 0, 0) kX13_carryOut 10 [(0, .ref (G.1 100)), (1, .ref (G.1 130)), (2, .int (nI k)), (3, .int (nI (j + 1)))] [] (eU M 129 j v) 0 0) : Ev (eZ G 100 40 0 0 (eFZ F)) G 100 40 (9, 0, 0) kX13_carryOut 10 [(0, .ref (G.1 100)), (1, .ref (G.1 130)), (2, .int (nI k)), (3, .int (nI j))] [] M 0 0 := by
  have ek : (nI k).toNatClampNeg = k := nI_clamp (by omega)
  have ej : (nI j).toNatClampNeg = j := nI_clamp (by omega)
  refine B_X13_carryOut_130_10 G M F _ _ ?_
  rw [ek, ej, h112]
  refine ⟨vp_in_nI hk (by decide), fun q => absurd q (nI_ge hj (by omega)), fun _ => ⟨vp_in_nI (by omega) (by decide), vp_in_nI (by omega) (by decide), vp_in_nI (by omega) (by decide), hv _ ⟨vp_in_nI (by omega) (by decide), ?_⟩⟩⟩
  rw [← nI_succ]
  exact next
theorem Em_tree_130 (F : Bool → eM → Prop) {tv : Nat → Nat} {B : eBd} {r : Int32} (hg : bOk B) {k e : Nat} (hk : k < 17) (he : e ≤ 800) : ∀ (n : Nat) (ty : Bool) (b : Nat) (cd : List pSt) (M : eM), pTree n ty b cd → gNm (bN B) tv cd → b + cd.length ≤ e → mB 130 131 132 133 M B → M 130 4 = r → mNo M tv b cd → M 112 k = nI e → (∀ M', vFr M M' b → M' 129 (b + cd.length - 1) = gVal tv B r cd → Ev (eZ G 100 40 0 0 (eFZ F)) G 100 40 (9, 0, 0) kX13_carryOut 10 [(0, .ref (G.1 100)), (1, .ref (G.1 130)), (2, .int (nI k)), (3, .int (nI (b + cd.length)))] [] M' 0 0) → Ev (eZ G 100 40 0 0 (eFZ F)) G 100 40 (9, 0, 0) kX13_carryOut 10 [(0, .ref (G.1 100)), (1, .ref (G.1 130)), (2, .int (nI k)), (3, .int (nI b))] [] M 0 0
  | 0, _, _, _, _, h, _, _, _, _, _, _, _ => h.elim
  | n + 1, ty, b, cd, M, h, hn, hl, hM, hr, hN, h112, hF => by
    rcases h with ⟨kk, t, h1, rfl⟩ | ⟨c, kk, h1, h2, rfl⟩ | ⟨c1, c2, a, kk, h1, h2, h3, rfl⟩
    · have hl' : b + 1 ≤ e := hl
      obtain ⟨n1, n2, n3⟩ := hN 0 _ rfl
      refine Em_step_130 F hk (show b < e by omega) he h112 (gLf tv B r kk t) (fun F' h' => ?_) (hF _ (vFr.one M _ (Nat.le_refl b)) ?_)
      · have n1' : M 115 b = nI (mk kk) := n1
        have n2' : M 116 b = gLv tv (kk, t, 0, 0) := n2
        rw [n1', n2']
        refine S_mleaf_130 h1.kl hg hM hr (fun z => hn _ List.mem_cons_self z) F' h' _ _ (fun z => ?_)
        exact if_pos z
      · show (eU M 129 b (gLf tv B r kk t)) 129 b = _
        rw [eU_same, gTree_leaf h1.kl]
    · have hlen : (c ++ [((kk, 0, b + c.length - 1, 0) : pSt)]).length = c.length + 1 := by rw [List.length_append]; rfl
      rw [hlen] at hl hF
      have hpos := (show pTr ty b c from ⟨n, h2⟩).len
      refine Em_tree_130 F hg hk he n ty b c M h2 (fun s hs => hn s (List.mem_append_left _ hs)) (by omega) hM hr hN.left h112 (fun M1 f1 v1 => ?_)
      obtain ⟨n1, n2, n3⟩ := (hN.v f1).right 0 _ rfl
      have e112 : M1 112 k = nI e := by rw [f1.c (by decide)]; exact h112
      refine Em_step_130 F hk (show b + c.length < e by omega) he e112 (gUn kk (gVal tv B r c)) (fun F' h' => ?_) (hF _ (f1.trans (vFr.one M1 _ (by omega)) (Nat.le_refl b)) ?_)
      · have n1' : M1 115 (b + c.length) = nI (mk kk) := n1
        have n2' : M1 116 (b + c.length) = nI (b + c.length - 1) := by
          have : M1 116 (b + c.length) = gLv tv (kk, 0, b + c.length - 1, 0) := n2
          rw [this]
          exact if_neg (by have := h1.k; show ¬ (kk = 40 ∨ kk = 16 ∨ kk = 18 ∨ kk = 19); omega)
        rw [n1', n2']
        refine S_mun_130 h1.k (by omega) (fun z => ?_) F' ?_ _
        · rw [v1]
          rcases h1 with ⟨-, y⟩ | ⟨y, -⟩
          · omega
          · subst y; exact gTree_bool h2
        · rw [v1]; exact h'
      · rw [show b + (c.length + 1) - 1 = b + c.length by omega, eU_same, gTree_un h2 h1.k]
    · have hlen : (c1 ++ (c2 ++ [((kk, 0, b + c1.length - 1, b + c1.length + c2.length - 1) : pSt)])).length = c1.length + c2.length + 1 := by rw [List.length_append, List.length_append]; show c1.length + (c2.length + 1) = _; omega
      rw [hlen] at hl hF
      have hpos1 := (show pTr a b c1 from ⟨n, h2⟩).len
      have hpos2 := (show pTr a (b + c1.length) c2 from ⟨n, h3⟩).len
      refine Em_tree_130 F hg hk he n a b c1 M h2 (fun s hs => hn s (List.mem_append_left _ hs)) (by omega) hM hr hN.left h112 (fun M1 f1 v1 => ?_)
      have r1 : M1 130 4 = r := by rw [f1.c (by decide)]; exact hr
      have e112 : M1 112 k = nI e := by rw [f1.c (by decide)]; exact h112
      refine Em_tree_130 F hg hk he n a (b + c1.length) c2 M1 h3 (fun s hs => hn s (List.mem_append_right _ (List.mem_append_left _ hs))) (by omega) (hM.v f1 (by decide)) r1 (hN.v f1).right.left e112 (fun M2 f2 v2 => ?_)
      have g2 := f1.trans f2 (Nat.le_add_right _ _)
      obtain ⟨n1, n2, n3⟩ := (hN.v g2).right.right 0 _ rfl
      have e112' : M2 112 k = nI e := by rw [g2.c (by decide)]; exact h112
      have v1' : M2 129 (b + c1.length - 1) = gVal tv B r c1 := by rw [f2 129 _ (by omega)]; exact v1
      refine Em_step_130 F hk (show b + c1.length + c2.length < e by omega) he e112' (gBi kk (gVal tv B r c1) (gVal tv B r c2)) (fun F' h' => ?_) ?_
      · have n1' : M2 115 (b + c1.length + c2.length) = nI (mk kk) := n1
        have n2' : M2 116 (b + c1.length + c2.length) = nI (b + c1.length - 1) := by
          have : M2 116 (b + c1.length + c2.length) = gLv tv (kk, 0, b + c1.length - 1, b + c1.length + c2.length - 1) := n2
          rw [this]
          exact if_neg (by have := h1.kb; unfold gKb at this; show ¬ (kk = 40 ∨ kk = 16 ∨ kk = 18 ∨ kk = 19); omega)
        have n3' : M2 117 (b + c1.length + c2.length) = nI (b + c1.length + c2.length - 1) := n3
        rw [n1', n2', n3']
        refine S_mbi_130 h1.kb (by omega) (by omega) (fun z => ?_) F' ?_
        · rw [v1', v2]
          have ha : a = true := by
            rcases h1 with ⟨-, -, y⟩ | ⟨-, -, y⟩ | ⟨-, y, -⟩
            · omega
            · omega
            · exact y
          subst ha
          exact ⟨gTree_bool h2, gTree_bool h3⟩
        · rw [v1', v2]; exact h'
      · have hF' := hF _ (g2.trans (vFr.one M2 (gBi kk (gVal tv B r c1) (gVal tv B r c2)) (show b ≤ b + c1.length + c2.length by omega)) (Nat.le_refl b))
        rw [show b + (c1.length + c2.length + 1) - 1 = b + c1.length + c2.length by omega, eU_same, show b + (c1.length + c2.length + 1) = b + c1.length + c2.length + 1 by omega] at hF'
        exact hF' (gTree_bi h2 h3 h1.kb).symm
theorem S_mleaf_134 {k t : Nat} (hk : gKl k) {tv : Nat → Nat} {B : eBd} {r : Int32} (hg : bOk B) {M : eM} (hM : mB 134 135 136 137 M B) (hr : M 134 4 = r) (hn : (k = 16 ∨ k = 18 ∨ k = 19) → tv t < bN B) (F : Int32 → eM → Prop) (h : F (gLf tv B r k t) M) (a3 a4 : Int32) (ha : (k = 40 ∨ k = 16 ∨ k = 18 ∨ k = 19) → a3 = nI (tv t)) : Cal G 100 40 (8, 0, 0) kX13_reckon [.ref (G.1 100), .ref (G.1 134), .int (nI (mk k)), .int a3, .int a4] M (eFI F) := by
  rcases hk with rfl | rfl | rfl | rfl | rfl | rfl | rfl | rfl | rfl | rfl
  · refine C_X13_reckon_134 G M F _ a3 a4 ?_
    rw [show nI (mk 40) = 31 from by decide]
    exact ⟨fun q => absurd q (by decide), fun q => absurd q (by decide), fun q => absurd q (by decide), fun q => absurd q (by decide), fun q => absurd q (by decide), fun q => absurd q (by decide), fun q => absurd q (by decide), fun q => absurd q (by decide), fun q => absurd q (by decide), fun q => absurd q (by decide), fun q => absurd q (by decide), fun _ => by rw [ha (by decide)]; exact h, fun q => absurd q (by decide)⟩
  · refine C_X13_reckon_134 G M F _ a3 a4 ?_
    rw [show nI (mk 10) = 9 from by decide]
    exact ⟨fun q => absurd q (by decide), fun _ => by rw [hr]; exact h, fun q => absurd q (by decide), fun q => absurd q (by decide), fun q => absurd q (by decide), fun q => absurd q (by decide), fun q => absurd q (by decide), fun q => absurd q (by decide), fun q => absurd q (by decide), fun q => absurd q (by decide), fun q => absurd q (by decide), fun q => absurd q (by decide), fun q => absurd q (by decide)⟩
  · refine C_X13_reckon_134 G M F _ a3 a4 ?_
    rw [show nI (mk 11) = 10 from by decide]
    exact ⟨fun q => absurd q (by decide), fun q => absurd q (by decide), fun _ => by rw [hM.2.2.2.2.2]; exact h, fun q => absurd q (by decide), fun q => absurd q (by decide), fun q => absurd q (by decide), fun q => absurd q (by decide), fun q => absurd q (by decide), fun q => absurd q (by decide), fun q => absurd q (by decide), fun q => absurd q (by decide), fun q => absurd q (by decide), fun q => absurd q (by decide)⟩
  · refine C_X13_reckon_134 G M F _ a3 a4 ?_
    rw [show nI (mk 12) = 11 from by decide]
    exact ⟨fun q => absurd q (by decide), fun q => absurd q (by decide), fun q => absurd q (by decide), fun _ => S_matches_134 G hg hM _ h, fun q => absurd q (by decide), fun q => absurd q (by decide), fun q => absurd q (by decide), fun q => absurd q (by decide), fun q => absurd q (by decide), fun q => absurd q (by decide), fun q => absurd q (by decide), fun q => absurd q (by decide), fun q => absurd q (by decide)⟩
  · refine C_X13_reckon_134 G M F _ a3 a4 ?_
    rw [show nI (mk 13) = 12 from by decide]
    exact ⟨fun q => absurd q (by decide), fun q => absurd q (by decide), fun q => absurd q (by decide), fun q => absurd q (by decide), fun _ => S_points_134 G hg hM _ h, fun q => absurd q (by decide), fun q => absurd q (by decide), fun q => absurd q (by decide), fun q => absurd q (by decide), fun q => absurd q (by decide), fun q => absurd q (by decide), fun q => absurd q (by decide), fun q => absurd q (by decide)⟩
  · refine C_X13_reckon_134 G M F _ a3 a4 ?_
    rw [show nI (mk 14) = 13 from by decide]
    exact ⟨fun q => absurd q (by decide), fun q => absurd q (by decide), fun q => absurd q (by decide), fun q => absurd q (by decide), fun q => absurd q (by decide), fun _ => S_rings_134 G hg hM _ h, fun q => absurd q (by decide), fun q => absurd q (by decide), fun q => absurd q (by decide), fun q => absurd q (by decide), fun q => absurd q (by decide), fun q => absurd q (by decide), fun q => absurd q (by decide)⟩
  · refine C_X13_reckon_134 G M F _ a3 a4 ?_
    rw [show nI (mk 15) = 14 from by decide]
    exact ⟨fun q => absurd q (by decide), fun q => absurd q (by decide), fun q => absurd q (by decide), fun q => absurd q (by decide), fun q => absurd q (by decide), fun q => absurd q (by decide), fun _ => B_X13_reckon_134_138 G M F (S_cells G hM _ (by rw [hM.2.2.2.2.2]; exact h)), fun q => absurd q (by decide), fun q => absurd q (by decide), fun q => absurd q (by decide), fun q => absurd q (by decide), fun q => absurd q (by decide), fun q => absurd q (by decide)⟩
  · refine C_X13_reckon_134 G M F _ a3 a4 ?_
    rw [show nI (mk 16) = 15 from by decide]
    exact ⟨fun q => absurd q (by decide), fun q => absurd q (by decide), fun q => absurd q (by decide), fun q => absurd q (by decide), fun q => absurd q (by decide), fun q => absurd q (by decide), fun q => absurd q (by decide), fun _ => B_X13_reckon_134_148 G M F _ (by rw [ha (by decide)]; exact S_ways_134 G hg hM _ (hn (by decide)) h), fun q => absurd q (by decide), fun q => absurd q (by decide), fun q => absurd q (by decide), fun q => absurd q (by decide), fun q => absurd q (by decide)⟩
  · refine C_X13_reckon_134 G M F _ a3 a4 ?_
    rw [show nI (mk 18) = 17 from by decide]
    have on : (eO (bCe B (tv t)) = -1 → F 0 M) ∧ (¬ eO (bCe B (tv t)) = -1 → F 1 M) := by
      have h' : F (if (bCe B (tv t)).isSome then 1 else 0) M := h
      cases h1 : bCe B (tv t) with
      | none => rw [h1] at h'; exact ⟨fun _ => h', fun q => absurd rfl q⟩
      | some c =>
        rw [h1] at h'
        have hc := (hg.2.2.2.2.1 _ c (hn (by decide)) h1).1
        have h49 := hg.c49
        exact ⟨fun q => absurd q (eNeg c (by omega)), fun _ => h'⟩
    exact ⟨fun q => absurd q (by decide), fun q => absurd q (by decide), fun q => absurd q (by decide), fun q => absurd q (by decide), fun q => absurd q (by decide), fun q => absurd q (by decide), fun q => absurd q (by decide), fun q => absurd q (by decide), fun _ => B_X13_reckon_134_155 G M F _ (by rw [ha (by decide), nI_clamp (show tv t < 2 ^ 31 by have := hn (by decide); have := hg.2.2.1; omega), hM.2.2.2.1 _ (hn (by decide))]; exact ⟨vp_in_nI (by have := hn (by decide); have := hg.2.2.1; omega) (by decide), on⟩), fun q => absurd q (by decide), fun q => absurd q (by decide), fun q => absurd q (by decide), fun q => absurd q (by decide)⟩
  · refine C_X13_reckon_134 G M F _ a3 a4 ?_
    rw [show nI (mk 19) = 18 from by decide]
    have fw : (eO (bWay B (tv t)) = -1 → F 0 M) ∧ (¬ eO (bWay B (tv t)) = -1 → F 1 M) := by
      have h' : F (if (bFirst B (tv t)).isSome then 1 else 0) M := h
      unfold bWay
      cases h1 : bFirst B (tv t) with
      | none => rw [h1] at h'; exact ⟨fun _ => h', fun q => absurd rfl q⟩
      | some c =>
        rw [h1] at h'
        obtain ⟨hc, u, hu, h6, -⟩ := bFirst_some h1
        have h49 := hg.c49
        show (eO (some (6 * c + (bAny B (tv t) c).getD 0)) = -1 → F 0 M) ∧ (¬ eO (some (6 * c + (bAny B (tv t) c).getD 0)) = -1 → F 1 M)
        rw [hu]
        exact ⟨fun q => absurd q (eNeg (6 * c + u) (by omega)), fun _ => h'⟩
    exact ⟨fun q => absurd q (by decide), fun q => absurd q (by decide), fun q => absurd q (by decide), fun q => absurd q (by decide), fun q => absurd q (by decide), fun q => absurd q (by decide), fun q => absurd q (by decide), fun q => absurd q (by decide), fun q => absurd q (by decide), fun _ => B_X13_reckon_134_171 G M F _ (by rw [ha (by decide)]; exact S_firstWay_134 G hg hM _ (hn (by decide)) fw), fun q => absurd q (by decide), fun q => absurd q (by decide), fun q => absurd q (by decide)⟩
theorem S_mun_134 {k l : Nat} (hk : k = 44 ∨ k = 20) {M : eM} (hl : l < 800) (hb : k = 20 → M 129 l = 0 ∨ M 129 l = 1) (F : Int32 → eM → Prop) (h : F (gUn k (M 129 l)) M) (a4 : Int32) : Cal G 100 40 (8, 0, 0) kX13_reckon [.ref (G.1 100), .ref (G.1 134), .int (nI (mk k)), .int (nI l), .int a4] M (eFI F) := by
  rcases hk with rfl | rfl
  · refine C_X13_reckon_134 G M F _ _ a4 ?_
    rw [show nI (mk 44) = 60 from by decide]
    exact ⟨fun q => absurd q (by decide), fun q => absurd q (by decide), fun q => absurd q (by decide), fun q => absurd q (by decide), fun q => absurd q (by decide), fun q => absurd q (by decide), fun q => absurd q (by decide), fun q => absurd q (by decide), fun q => absurd q (by decide), fun q => absurd q (by decide), fun q => absurd q (by decide), fun q => absurd q (by decide), fun _ => B_X13_reckon_134_187 G M F _ ⟨vp_in_nI hl (by decide), by rw [nI_clamp (show l < 2 ^ 31 by omega)]; exact h⟩⟩
  · refine C_X13_reckon_134 G M F _ _ a4 ?_
    rw [show nI (mk 20) = 19 from by decide]
    have h' : F (1 - M 129 l) M := by
      rcases hb rfl with z | z
      · rw [z] at h ⊢; exact h
      · rw [z] at h ⊢; exact h
    exact ⟨fun q => absurd q (by decide), fun q => absurd q (by decide), fun q => absurd q (by decide), fun q => absurd q (by decide), fun q => absurd q (by decide), fun q => absurd q (by decide), fun q => absurd q (by decide), fun q => absurd q (by decide), fun q => absurd q (by decide), fun q => absurd q (by decide), fun _ => B_X13_reckon_134_195 G M F _ ⟨vp_in_nI hl (by decide), by rw [nI_clamp (show l < 2 ^ 31 by omega)]; exact h'⟩, fun q => absurd q (by decide), fun q => absurd q (by decide)⟩
theorem S_mbi_134 {k l r : Nat} (hk : gKb k) {M : eM} (hl : l < 800) (hr : r < 800) (hb : k = 21 ∨ k = 22 → (M 129 l = 0 ∨ M 129 l = 1) ∧ (M 129 r = 0 ∨ M 129 r = 1)) (F : Int32 → eM → Prop) (h : F (gBi k (M 129 l) (M 129 r)) M) : Cal G 100 40 (8, 0, 0) kX13_reckon [.ref (G.1 100), .ref (G.1 134), .int (nI (mk k)), .int (nI l), .int (nI r)] M (eFI F) := by
  have go : Ev (eZ G 100 40 0 0 (eFI F)) G 100 40 (8, 0, 0) kX13_reckon 204 [(0, .ref (G.1 100)), (2, .int (nI (mk k))), (3, .int (nI l)), (4, .int (nI r))] [] M 0 0 := by
    refine B_X13_reckon_134_204 G M F _ _ _ ⟨vp_in_nI hl (by decide), vp_in_nI hr (by decide), ?_⟩
    rw [nI_clamp (show l < 2 ^ 31 by omega), nI_clamp (show r < 2 ^ 31 by omega)]
    exact S_joined hk _ _ _ hb h
  refine C_X13_reckon_134 G M F _ _ _ ?_
  rcases hk with rfl | rfl | rfl | rfl | rfl | rfl | rfl | rfl | rfl | rfl | rfl | rfl | rfl
  · exact ⟨fun _ => go, fun q => absurd q (by decide), fun q => absurd q (by decide), fun q => absurd q (by decide), fun q => absurd q (by decide), fun q => absurd q (by decide), fun q => absurd q (by decide), fun q => absurd q (by decide), fun q => absurd q (by decide), fun q => absurd q (by decide), fun q => absurd q (by decide), fun q => absurd q (by decide), fun q => absurd q (by decide)⟩
  · exact ⟨fun _ => go, fun q => absurd q (by decide), fun q => absurd q (by decide), fun q => absurd q (by decide), fun q => absurd q (by decide), fun q => absurd q (by decide), fun q => absurd q (by decide), fun q => absurd q (by decide), fun q => absurd q (by decide), fun q => absurd q (by decide), fun q => absurd q (by decide), fun q => absurd q (by decide), fun q => absurd q (by decide)⟩
  · exact ⟨fun _ => go, fun q => absurd q (by decide), fun q => absurd q (by decide), fun q => absurd q (by decide), fun q => absurd q (by decide), fun q => absurd q (by decide), fun q => absurd q (by decide), fun q => absurd q (by decide), fun q => absurd q (by decide), fun q => absurd q (by decide), fun q => absurd q (by decide), fun q => absurd q (by decide), fun q => absurd q (by decide)⟩
  · exact ⟨fun _ => go, fun q => absurd q (by decide), fun q => absurd q (by decide), fun q => absurd q (by decide), fun q => absurd q (by decide), fun q => absurd q (by decide), fun q => absurd q (by decide), fun q => absurd q (by decide), fun q => absurd q (by decide), fun q => absurd q (by decide), fun q => absurd q (by decide), fun q => absurd q (by decide), fun q => absurd q (by decide)⟩
  · exact ⟨fun _ => go, fun q => absurd q (by decide), fun q => absurd q (by decide), fun q => absurd q (by decide), fun q => absurd q (by decide), fun q => absurd q (by decide), fun q => absurd q (by decide), fun q => absurd q (by decide), fun q => absurd q (by decide), fun q => absurd q (by decide), fun q => absurd q (by decide), fun q => absurd q (by decide), fun q => absurd q (by decide)⟩
  · exact ⟨fun _ => go, fun q => absurd q (by decide), fun q => absurd q (by decide), fun q => absurd q (by decide), fun q => absurd q (by decide), fun q => absurd q (by decide), fun q => absurd q (by decide), fun q => absurd q (by decide), fun q => absurd q (by decide), fun q => absurd q (by decide), fun q => absurd q (by decide), fun q => absurd q (by decide), fun q => absurd q (by decide)⟩
  · exact ⟨fun _ => go, fun q => absurd q (by decide), fun q => absurd q (by decide), fun q => absurd q (by decide), fun q => absurd q (by decide), fun q => absurd q (by decide), fun q => absurd q (by decide), fun q => absurd q (by decide), fun q => absurd q (by decide), fun q => absurd q (by decide), fun q => absurd q (by decide), fun q => absurd q (by decide), fun q => absurd q (by decide)⟩
  · exact ⟨fun _ => go, fun q => absurd q (by decide), fun q => absurd q (by decide), fun q => absurd q (by decide), fun q => absurd q (by decide), fun q => absurd q (by decide), fun q => absurd q (by decide), fun q => absurd q (by decide), fun q => absurd q (by decide), fun q => absurd q (by decide), fun q => absurd q (by decide), fun q => absurd q (by decide), fun q => absurd q (by decide)⟩
  · exact ⟨fun _ => go, fun q => absurd q (by decide), fun q => absurd q (by decide), fun q => absurd q (by decide), fun q => absurd q (by decide), fun q => absurd q (by decide), fun q => absurd q (by decide), fun q => absurd q (by decide), fun q => absurd q (by decide), fun q => absurd q (by decide), fun q => absurd q (by decide), fun q => absurd q (by decide), fun q => absurd q (by decide)⟩
  · exact ⟨fun _ => go, fun q => absurd q (by decide), fun q => absurd q (by decide), fun q => absurd q (by decide), fun q => absurd q (by decide), fun q => absurd q (by decide), fun q => absurd q (by decide), fun q => absurd q (by decide), fun q => absurd q (by decide), fun q => absurd q (by decide), fun q => absurd q (by decide), fun q => absurd q (by decide), fun q => absurd q (by decide)⟩
  · exact ⟨fun _ => go, fun q => absurd q (by decide), fun q => absurd q (by decide), fun q => absurd q (by decide), fun q => absurd q (by decide), fun q => absurd q (by decide), fun q => absurd q (by decide), fun q => absurd q (by decide), fun q => absurd q (by decide), fun q => absurd q (by decide), fun q => absurd q (by decide), fun q => absurd q (by decide), fun q => absurd q (by decide)⟩
  · exact ⟨fun _ => go, fun q => absurd q (by decide), fun q => absurd q (by decide), fun q => absurd q (by decide), fun q => absurd q (by decide), fun q => absurd q (by decide), fun q => absurd q (by decide), fun q => absurd q (by decide), fun q => absurd q (by decide), fun q => absurd q (by decide), fun q => absurd q (by decide), fun q => absurd q (by decide), fun q => absurd q (by decide)⟩
  · exact ⟨fun _ => go, fun q => absurd q (by decide), fun q => absurd q (by decide), fun q => absurd q (by decide), fun q => absurd q (by decide), fun q => absurd q (by decide), fun q => absurd q (by decide), fun q => absurd q (by decide), fun q => absurd q (by decide), fun q => absurd q (by decide), fun q => absurd q (by decide), fun q => absurd q (by decide), fun q => absurd q (by decide)⟩
theorem Em_step_134 (F : Bool → eM → Prop) {M : eM} {k j e : Nat} (hk : k < 17) (hj : j < e) (he : e ≤ 800) (h112 : M 112 k = nI e) (v : Int32) (hv : ∀ F' : Int32 → eM → Prop, F' v M → Cal G 100 40 (8, 0, 0) kX13_reckon [.ref (G.1 100), .ref (G.1 134), .int (M 115 j), .int (M 116 j), .int (M 117 j)] M (eFI F')) (next : Ev (eZ G 100 40 0 0 (eFZ F)) G 100 40 (9, 0, 0) kX13_carryOut 10 [(0, .ref (G.1 100)), (1, .ref (G.1 134)), (2, .int (nI k)), (3, .int (nI (j + 1)))] [] (eU M 129 j v) 0 0) : Ev (eZ G 100 40 0 0 (eFZ F)) G 100 40 (9, 0, 0) kX13_carryOut 10 [(0, .ref (G.1 100)), (1, .ref (G.1 134)), (2, .int (nI k)), (3, .int (nI j))] [] M 0 0 := by
  have ek : (nI k).toNatClampNeg = k := nI_clamp (by omega)
  have ej : (nI j).toNatClampNeg = j := nI_clamp (by omega)
  refine B_X13_carryOut_134_10 G M F _ _ ?_
  rw [ek, ej, h112]
  refine ⟨vp_in_nI hk (by decide), fun q => absurd q (nI_ge hj (by omega)), fun _ => ⟨vp_in_nI (by omega) (by decide), vp_in_nI (by omega) (by decide), vp_in_nI (by omega) (by decide), hv _ ⟨vp_in_nI (by omega) (by decide), ?_⟩⟩⟩
  rw [← nI_succ]
  exact next
theorem Em_tree_134 (F : Bool → eM → Prop) {tv : Nat → Nat} {B : eBd} {r : Int32} (hg : bOk B) {k e : Nat} (hk : k < 17) (he : e ≤ 800) : ∀ (n : Nat) (ty : Bool) (b : Nat) (cd : List pSt) (M : eM), pTree n ty b cd → gNm (bN B) tv cd → b + cd.length ≤ e → mB 134 135 136 137 M B → M 134 4 = r → mNo M tv b cd → M 112 k = nI e → (∀ M', vFr M M' b → M' 129 (b + cd.length - 1) = gVal tv B r cd → Ev (eZ G 100 40 0 0 (eFZ F)) G 100 40 (9, 0, 0) kX13_carryOut 10 [(0, .ref (G.1 100)), (1, .ref (G.1 134)), (2, .int (nI k)), (3, .int (nI (b + cd.length)))] [] M' 0 0) → Ev (eZ G 100 40 0 0 (eFZ F)) G 100 40 (9, 0, 0) kX13_carryOut 10 [(0, .ref (G.1 100)), (1, .ref (G.1 134)), (2, .int (nI k)), (3, .int (nI b))] [] M 0 0
  | 0, _, _, _, _, h, _, _, _, _, _, _, _ => h.elim
  | n + 1, ty, b, cd, M, h, hn, hl, hM, hr, hN, h112, hF => by
    rcases h with ⟨kk, t, h1, rfl⟩ | ⟨c, kk, h1, h2, rfl⟩ | ⟨c1, c2, a, kk, h1, h2, h3, rfl⟩
    · have hl' : b + 1 ≤ e := hl
      obtain ⟨n1, n2, n3⟩ := hN 0 _ rfl
      refine Em_step_134 F hk (show b < e by omega) he h112 (gLf tv B r kk t) (fun F' h' => ?_) (hF _ (vFr.one M _ (Nat.le_refl b)) ?_)
      · have n1' : M 115 b = nI (mk kk) := n1
        have n2' : M 116 b = gLv tv (kk, t, 0, 0) := n2
        rw [n1', n2']
        refine S_mleaf_134 h1.kl hg hM hr (fun z => hn _ List.mem_cons_self z) F' h' _ _ (fun z => ?_)
        exact if_pos z
      · show (eU M 129 b (gLf tv B r kk t)) 129 b = _
        rw [eU_same, gTree_leaf h1.kl]
    · have hlen : (c ++ [((kk, 0, b + c.length - 1, 0) : pSt)]).length = c.length + 1 := by rw [List.length_append]; rfl
      rw [hlen] at hl hF
      have hpos := (show pTr ty b c from ⟨n, h2⟩).len
      refine Em_tree_134 F hg hk he n ty b c M h2 (fun s hs => hn s (List.mem_append_left _ hs)) (by omega) hM hr hN.left h112 (fun M1 f1 v1 => ?_)
      obtain ⟨n1, n2, n3⟩ := (hN.v f1).right 0 _ rfl
      have e112 : M1 112 k = nI e := by rw [f1.c (by decide)]; exact h112
      refine Em_step_134 F hk (show b + c.length < e by omega) he e112 (gUn kk (gVal tv B r c)) (fun F' h' => ?_) (hF _ (f1.trans (vFr.one M1 _ (by omega)) (Nat.le_refl b)) ?_)
      · have n1' : M1 115 (b + c.length) = nI (mk kk) := n1
        have n2' : M1 116 (b + c.length) = nI (b + c.length - 1) := by
          have : M1 116 (b + c.length) = gLv tv (kk, 0, b + c.length - 1, 0) := n2
          rw [this]
          exact if_neg (by have := h1.k; show ¬ (kk = 40 ∨ kk = 16 ∨ kk = 18 ∨ kk = 19); omega)
        rw [n1', n2']
        refine S_mun_134 h1.k (by omega) (fun z => ?_) F' ?_ _
        · rw [v1]
          rcases h1 with ⟨-, y⟩ | ⟨y, -⟩
          · omega
          · subst y; exact gTree_bool h2
        · rw [v1]; exact h'
      · rw [show b + (c.length + 1) - 1 = b + c.length by omega, eU_same, gTree_un h2 h1.k]
    · have hlen : (c1 ++ (c2 ++ [((kk, 0, b + c1.length - 1, b + c1.length + c2.length - 1) : pSt)])).length = c1.length + c2.length + 1 := by rw [List.length_append, List.length_append]; show c1.length + (c2.length + 1) = _; omega
      rw [hlen] at hl hF
      have hpos1 := (show pTr a b c1 from ⟨n, h2⟩).len
      have hpos2 := (show pTr a (b + c1.length) c2 from ⟨n, h3⟩).len
      refine Em_tree_134 F hg hk he n a b c1 M h2 (fun s hs => hn s (List.mem_append_left _ hs)) (by omega) hM hr hN.left h112 (fun M1 f1 v1 => ?_)
      have r1 : M1 134 4 = r := by rw [f1.c (by decide)]; exact hr
      have e112 : M1 112 k = nI e := by rw [f1.c (by decide)]; exact h112
      refine Em_tree_134 F hg hk he n a (b + c1.length) c2 M1 h3 (fun s hs => hn s (List.mem_append_right _ (List.mem_append_left _ hs))) (by omega) (hM.v f1 (by decide)) r1 (hN.v f1).right.left e112 (fun M2 f2 v2 => ?_)
      have g2 := f1.trans f2 (Nat.le_add_right _ _)
      obtain ⟨n1, n2, n3⟩ := (hN.v g2).right.right 0 _ rfl
      have e112' : M2 112 k = nI e := by rw [g2.c (by decide)]; exact h112
      have v1' : M2 129 (b + c1.length - 1) = gVal tv B r c1 := by rw [f2 129 _ (by omega)]; exact v1
      refine Em_step_134 F hk (show b + c1.length + c2.length < e by omega) he e112' (gBi kk (gVal tv B r c1) (gVal tv B r c2)) (fun F' h' => ?_) ?_
      · have n1' : M2 115 (b + c1.length + c2.length) = nI (mk kk) := n1
        have n2' : M2 116 (b + c1.length + c2.length) = nI (b + c1.length - 1) := by
          have : M2 116 (b + c1.length + c2.length) = gLv tv (kk, 0, b + c1.length - 1, b + c1.length + c2.length - 1) := n2
          rw [this]
          exact if_neg (by have := h1.kb; unfold gKb at this; show ¬ (kk = 40 ∨ kk = 16 ∨ kk = 18 ∨ kk = 19); omega)
        have n3' : M2 117 (b + c1.length + c2.length) = nI (b + c1.length + c2.length - 1) := n3
        rw [n1', n2', n3']
        refine S_mbi_134 h1.kb (by omega) (by omega) (fun z => ?_) F' ?_
        · rw [v1', v2]
          have ha : a = true := by
            rcases h1 with ⟨-, -, y⟩ | ⟨-, -, y⟩ | ⟨-, y, -⟩
            · omega
            · omega
            · exact y
          subst ha
          exact ⟨gTree_bool h2, gTree_bool h3⟩
        · rw [v1', v2]; exact h'
      · have hF' := hF _ (g2.trans (vFr.one M2 (gBi kk (gVal tv B r c1) (gVal tv B r c2)) (show b ≤ b + c1.length + c2.length by omega)) (Nat.le_refl b))
        rw [show b + (c1.length + c2.length + 1) - 1 = b + c1.length + c2.length by omega, eU_same, show b + (c1.length + c2.length + 1) = b + c1.length + c2.length + 1 by omega] at hF'
        exact hF' (gTree_bi h2 h3 h1.kb).symm
end MEval
