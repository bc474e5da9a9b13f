/-! ===== a game drawn ===== -/
theorem tsX_snoc : ∀ (xs : List (Nat × Nat × Nat)) (k : Nat) (x : Nat × Nat × Nat), tsX k (xs ++ [x]) = tsX k xs ++ tlX (k + xs.length) x
  | [], k, x => by show tlX k x ++ [] = [] ++ tlX (k + 0) x; rw [List.append_nil, List.nil_append]; rfl
  | y :: ys, k, x => by
    show tlX k y ++ tsX (k + 1) (ys ++ [x]) = (tlX k y ++ tsX (k + 1) ys) ++ tlX (k + (ys.length + 1)) x
    rw [tsX_snoc ys (k + 1) x, List.append_assoc, show k + 1 + ys.length = k + (ys.length + 1) by omega]
theorem osX_snoc : ∀ (os : List xO) (o : xO), osX (os ++ [o]) = osX os ++ ordX o
  | [], o => by show ordX o ++ [] = [] ++ ordX o; rw [List.append_nil, List.nil_append]
  | y :: ys, o => by
    show ordX y ++ osX (ys ++ [o]) = (ordX y ++ osX ys) ++ ordX o
    rw [osX_snoc ys o, List.append_assoc]
theorem gT_l {xs : List (Nat × Nat × Nat)} {x z : Nat × Nat × Nat} {j : Nat} (h : j < xs.length) : (xs ++ [x]).getD j z = xs.getD j z := by rw [List.getD_eq_getElem?_getD, List.getD_eq_getElem?_getD, List.getElem?_append_left h]
theorem gT_r {xs : List (Nat × Nat × Nat)} {x z : Nat × Nat × Nat} : (xs ++ [x]).getD xs.length z = x := by rw [List.getD_eq_getElem?_getD, List.getElem?_append_right (Nat.le_refl _), Nat.sub_self]; rfl
def yQk (G : eG) (tx : Nat) (Q : yH → Prop) : Prop := ∀ H H' v m g, Q H → H v = some (.inl (G.2.2.2 1, (m, .inl g))) → (∃ fs, H tx = some (.inr (14, fs))) → yKp [tx, v] H H' → Q H'
/-- the buffer of the text, the dice and the tiles, over what was there -/
def dB (G : eG) (H0 H : yH) (d tx va : Nat) (Q : yH → Prop) (K : Nat) (tk : Nat → Nat) (ar : Nat → Nat → Int32) (bs : List Nat) : Prop :=
  ∃ va' m', nD H d ∧ ySB G H tx va' m' bs ∧ m' ≤ 2200 ∧ (va' = va ∨ H0 va' = none) ∧ yKp [d, tx, va] H0 H ∧ Q H ∧ ∀ j, j < K → H (tk j) = some (.inl (G.2.2.2 0, (5, .inl (ar j)))) ∧ tk j ≠ va'
theorem dB.is {G : eG} {H0 H : yH} {d tx va : Nat} {Q : yH → Prop} {K : Nat} {tk : Nat → Nat} {ar : Nat → Nat → Int32} {bs : List Nat} (h : dB G H0 H d tx va Q K tk ar bs) : yIs H tx 14 := by
  obtain ⟨va', m', h1, h2, -⟩ := h
  exact yIs.of h2.1
theorem dB.d {G : eG} {H0 H : yH} {d tx va : Nat} {Q : yH → Prop} {K : Nat} {tk : Nat → Nat} {ar : Nat → Nat → Int32} {bs : List Nat} (h : dB G H0 H d tx va Q K tk ar bs) : nD H d := by
  obtain ⟨va', m', h1, -⟩ := h
  exact h1
theorem dB.q {G : eG} {H0 H : yH} {d tx va : Nat} {Q : yH → Prop} {K : Nat} {tk : Nat → Nat} {ar : Nat → Nat → Int32} {bs : List Nat} (h : dB G H0 H d tx va Q K tk ar bs) : Q H := by
  obtain ⟨va', m', h1, h2, h3, h4, h5, h6, -⟩ := h
  exact h6
theorem dB.t {G : eG} {H0 H : yH} {d tx va : Nat} {Q : yH → Prop} {K : Nat} {tk : Nat → Nat} {ar : Nat → Nat → Int32} {bs : List Nat} (h : dB G H0 H d tx va Q K tk ar bs) {j : Nat} (hj : j < K) : H (tk j) = some (.inl (G.2.2.2 0, (5, .inl (ar j)))) := by
  obtain ⟨va', m', h1, h2, h3, h4, h5, h6, h7⟩ := h
  exact (h7 j hj).1
section DB
variable {G : eG} {M : eM} {H0 H : yH} {d tx va : Nat} {Q : yH → Prop} {K : Nat} {tk : Nat → Nat} {ar : Nat → Nat → Int32} {bs : List Nat}
theorem dB.step {cs : List Nat} {va' m' v2 m2 : Nat} {H' : yH} (hQ : yQk G tx Q) (h1 : nD H d) (h2 : ySB G H tx va' m' bs) (h4 : va' = va ∨ H0 va' = none) (h5 : yKp [d, tx, va] H0 H) (h6 : Q H) (h7 : ∀ j, j < K → H (tk j) = some (.inl (G.2.2.2 0, (5, .inl (ar j)))) ∧ tk j ≠ va') (k1 : ySB G H' tx v2 m2 cs) (k2 : m2 ≤ 2200) (k3 : yKp [tx, va'] H H') (k4 : v2 = va' ∨ H v2 = none) : dB G H0 H' d tx va Q K tk ar cs := by
  obtain ⟨e1, g, e2, -⟩ := h2
  obtain ⟨s, es⟩ := h1
  have n1 : d ≠ tx := fun z => by rw [z, e1] at es; simp at es
  have n2 : d ≠ va' := fun z => by rw [z, e2] at es; simp at es
  refine ⟨v2, m2, ⟨s, k3 _ _ (by simp [n1, n2]) es⟩, k1, k2, ?_, fun b e n z => ?_, hQ H H' va' m' g h6 e2 ⟨_, e1⟩ k3, fun j hj => ?_⟩
  · rcases k4 with k | k
    · rw [k]; exact h4
    · by_cases hv : v2 = va
      · exact Or.inl hv
      · refine Or.inr ?_
        cases hz : H0 v2 with
        | none => rfl
        | some e =>
          have hn : v2 ∉ [d, tx, va] := by
            have a1 : v2 ≠ d := fun z => by rw [z, es] at k; cases k
            have a2 : v2 ≠ tx := fun z => by rw [z, e1] at k; cases k
            simp [a1, a2, hv]
          rw [h5 _ _ hn hz] at k; cases k
  · have b1 : b ≠ tx := fun y => n (by rw [y]; simp)
    have b2 : b ≠ va' := fun y => by
      rcases h4 with k | k
      · exact n (by rw [y, k]; simp)
      · rw [y, k] at z; cases z
    exact k3 b e (by simp [b1, b2]) (h5 b e n z)
  · obtain ⟨t1, t2⟩ := h7 j hj
    have b1 : tk j ≠ tx := fun y => by rw [y, e1] at t1; simp at t1
    refine ⟨k3 _ _ (by simp [b1, t2]) t1, fun y => ?_⟩
    rcases k4 with k | k
    · exact t2 (y.trans k)
    · rw [← y, t1] at k; cases k
theorem dB.app {t : Nat} {ts : List Nat} {F : Nat → eM → yH → Prop} (h : dB G H0 H d tx va Q K tk ar bs) (hQ : yQk G tx Q) (ht : yTx G H t ts) (hs : yAs ts) (hl : bs.length + ts.length ≤ 1100) (hF : ∀ H', dB G H0 H' d tx va Q K tk ar (bs ++ ts) → F tx M H') : yCal G (6, 1, 2200) kJ4_append_15ec4 [.ref tx, .ref t] M H (yFR F) := by
  obtain ⟨va', m', h1, h2, h3, h4, h5, h6, h7⟩ := h
  exact S_append h2 ht hs hl h3 (fun v2 m2 H' k1 k2 k3 k4 => hF H' (dB.step hQ h1 h2 h4 h5 h6 h7 k1 k2 k3 k4))
theorem dB.appI {n : Nat} {F : Nat → eM → yH → Prop} (h : dB G H0 H d tx va Q K tk ar bs) (hQ : yQk G tx Q) (hn : n < 1000000) (hl : bs.length + (dg n).length ≤ 1100) (hF : ∀ H', dB G H0 H' d tx va Q K tk ar (bs ++ dg n) → F tx M H') : yCal G (6, 1, 2200) kJ4_append_bf812 [.ref tx, .int (nI n)] M H (yFR F) := by
  obtain ⟨va', m', h1, h2, h3, h4, h5, h6, h7⟩ := h
  exact S_appendI h2 hn hl h3 (fun v2 m2 H' k1 k2 k3 k4 => hF H' (dB.step hQ h1 h2 h4 h5 h6 h7 k1 k2 k3 k4))
end DB
section GInit
variable {G : eG} {M : eM} {H : yH}
theorem S_ginit {q : Nat} {F : eM → yH → Prop} (hq : H q = some (.inr (10, [.int 0, .int 0, .null, .int 0, .null]))) (h : ∀ t o H', H t = none → H o = none → H' q = some (.inr (10, [.int 5, .int 5, .ref t, .int 0, .ref o])) → H' t = some (.inl (G.2.2.2 5, (0, .inr (.inr (.inr (.inr (fun _ => none))))))) → H' o = some (.inl (G.2.2.2 6, (0, .inr (.inr (.inr (.inr (fun _ => none))))))) → yKp [q] H H' → F M H') : yCal G (2, 2, 0) kX12_init [.ref q] M H (yFV F) := by
  refine C_X12_init G M H F q ⟨_, hq, Nat.le_of_ble_eq_true rfl, _, yU_same _ _ _, Nat.le_of_ble_eq_true rfl, 0, by decide, by decide, by decide, ⟨by decide, by decide⟩, fun t ht => ⟨_, (yLe.new ht _) _ _ (yU_same _ _ _), Nat.le_of_ble_eq_true rfl, 0, by decide, by decide, by decide, ⟨by decide, by decide⟩, fun o ho => ⟨_, (yLe.new ho _) _ _ (yU_same _ _ _), Nat.le_of_ble_eq_true rfl, ⟨by decide, by decide⟩, ?_⟩⟩⟩
  have htq : t ≠ q := fun z => by rw [z, yU_same] at ht; cases ht
  have hoq : o ≠ q := fun z => by rw [z, yU_same] at ho; cases ho
  have hot : o ≠ t := fun z => by rw [z, yU_ne _ _ htq, yU_same] at ho; cases ho
  have ht' : H t = none := by rw [yU_ne _ _ htq, yU_ne _ _ htq] at ht; exact ht
  have ho' : H o = none := by rw [yU_ne _ _ hoq, yU_ne _ _ hot, yU_ne _ _ hoq, yU_ne _ _ hoq] at ho; exact ho
  refine h t o _ ht' ho' (yU_same _ _ _) ?_ ?_ (fun b e n z => ?_)
  · rw [yU_ne _ _ htq, yU_ne _ _ hot.symm, yU_ne _ _ htq]; exact yU_same _ _ _
  · rw [yU_ne _ _ hoq]; exact yU_same _ _ _
  · have b1 : b ≠ q := fun y => n (by rw [y]; simp)
    have b2 : b ≠ t := fun y => by rw [y, ht'] at z; cases z
    have b3 : b ≠ o := fun y => by rw [y, ho'] at z; cases z
    rw [yU_ne _ _ b1, yU_ne _ _ b3, yU_ne _ _ b1, yU_ne _ _ b2, yU_ne _ _ b1, yU_ne _ _ b1]
    exact z
end GInit
