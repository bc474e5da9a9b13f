/-- an order's text is what the law's order says of itself: proved behind, in S_otext (its formulas take long to compile, so they stand last) -/
def zOtx : Prop := ∀ (G : eG) (M : eM) (H : yH) (a : Nat) (o : xO) (F : Nat → eM → yH → Prop), nO G H a o → oN o → (∀ q H', yLe H H' → yTx G H' q (ordX o) → F q M H') → yCal G (11, 194, 229200) kX14_text [.ref a] M H (yFR F)
/-! ===== a game drawn: its tiles, its orders ===== -/
def qT (G : eG) (g ta o0 n C R : Nat) (f : Nat → Option Nat) (H : yH) : Prop := H g = some (.inr (10, [.int (nI C), .int (nI R), .ref ta, .int 0, .ref o0])) ∧ H ta = some (.inl (G.2.2.2 5, (n, .inr (.inr (.inr (.inr f))))))
theorem qT.k {G : eG} {tx g ta o0 n C R : Nat} {f : Nat → Option Nat} : yQk G tx (qT G g ta o0 n C R f) := fun H H' v m g' h hv hx k => by
  obtain ⟨e1, e2⟩ := h
  obtain ⟨fs, hx⟩ := hx
  have n1 : g ≠ tx := fun z => by rw [z, hx] at e1; simp at e1
  have n2 : g ≠ v := fun z => by rw [z, hv] at e1; simp at e1
  have n3 : ta ≠ tx := fun z => by rw [z, hx] at e2; simp at e2
  have n4 : ta ≠ v := fun z => by rw [z, hv] at e2; simp at e2
  exact ⟨k _ _ (by simp [n1, n2]) e1, k _ _ (by simp [n3, n4]) e2⟩
def qO (G : eG) (g ta oa n no C R : Nat) (f fo : Nat → Option Nat) (os : List xO) (H : yH) : Prop := H g = some (.inr (10, [.int (nI C), .int (nI R), .ref ta, .int 0, .ref oa])) ∧ H ta = some (.inl (G.2.2.2 5, (n, .inr (.inr (.inr (.inr f)))))) ∧ H oa = some (.inl (G.2.2.2 6, (no, .inr (.inr (.inr (.inr fo)))))) ∧ ∀ (i : Nat) (o : xO), os[i]? = some o → ∃ a, fo i = some a ∧ nO G H a o ∧ ∃ x y s t, H a = some (.inr (12, [x, y, .ref s, t])) ∧ s ≠ oa
theorem qO.k {G : eG} {tx g ta oa n no C R : Nat} {f fo : Nat → Option Nat} {os : List xO} : yQk G tx (qO G g ta oa n no C R f fo os) := fun H H' v m g' h hv hx k => by
  obtain ⟨e1, e2, e3, e4⟩ := h
  obtain ⟨fs, hx⟩ := hx
  have n1 : g ≠ tx := fun z => by rw [z, hx] at e1; simp at e1
  have n2 : g ≠ v := fun z => by rw [z, hv] at e1; simp at e1
  have n3 : ta ≠ tx := fun z => by rw [z, hx] at e2; simp at e2
  have n4 : ta ≠ v := fun z => by rw [z, hv] at e2; simp at e2
  have n5 : oa ≠ tx := fun z => by rw [z, hx] at e3; simp at e3
  have n6 : oa ≠ v := fun z => by rw [z, hv] at e3; simp at e3
  refine ⟨k _ _ (by simp [n1, n2]) e1, k _ _ (by simp [n3, n4]) e2, k _ _ (by simp [n5, n6]) e3, fun i o ho => ?_⟩
  obtain ⟨a, a1, a2, x, y, s, t, a3, a4⟩ := e4 i o ho
  have m1 : a ≠ tx := fun z => by rw [z, hx] at a3; simp at a3
  have m2 : a ≠ v := fun z => by rw [z, hv] at a3; simp at a3
  refine ⟨a, a1, a2.kp k (fun b hb => ?_), x, y, s, t, k _ _ (by simp [m1, m2]) a3, a4⟩
  simp at hb
  rcases hb with rfl | rfl
  · exact ⟨(fun fs z => by rw [hx] at z; simp at z), (fun fs z => by rw [hx] at z; simp at z), (fun n f z => by rw [hx] at z; simp at z), (fun n f z => by rw [hx] at z; simp at z)⟩
  · exact ⟨(fun fs z => by rw [hv] at z; simp at z), (fun fs z => by rw [hv] at z; simp at z), (fun n f z => by rw [hv] at z; simp at z), (fun n f z => by rw [hv] at z; simp at z)⟩
theorem dB.le {G : eG} {H0 H H' : yH} {d tx va : Nat} {Q : yH → Prop} {K : Nat} {tk : Nat → Nat} {ar : Nat → Nat → Int32} {bs : List Nat} (h : dB G H0 H d tx va Q K tk ar bs) (hQ : yQk G tx Q) (hl : yLe H H') : dB G H0 H' d tx va Q K tk ar bs := by
  obtain ⟨va', m', h1, h2, h3, h4, h5, h6, h7⟩ := h
  have h2' := h2
  obtain ⟨e1, g, e2, -⟩ := h2'
  exact ⟨va', m', h1.le hl, h2.le hl, h3, h4, h5.trans (yKp.of hl _), hQ H H' va' m' g h6 e2 ⟨_, e1⟩ (yKp.of hl _), fun j hj => ⟨hl _ _ (h7 j hj).1, (h7 j hj).2⟩⟩
theorem nO.put {G : eG} {H : yH} {a oa n : Nat} {o : xO} {f : Nat → Option Nat} {e : va_E} (h : nO G H a o) (hoa : H oa = some (.inl (G.2.2.2 6, (n, .inr (.inr (.inr (.inr f))))))) {x y t : Value} {s : Nat} (ha : H a = some (.inr (12, [x, y, .ref s, t]))) (hs : s ≠ oa) : nO G (yU H oa e) a o := by
  obtain ⟨sa, t', h1, h2, h3, h4⟩ := h
  have hsa : sa = s := by
    rw [ha] at h1
    simp at h1
    exact h1.2.2.1.symm
  have nao : a ≠ oa := fun z => by rw [z, hoa] at ha; simp at ha
  have h11 : ∀ b ∈ [oa], ∀ fs, H b ≠ some (.inr (11, fs)) := fun b hb fs z => by
    rw [List.mem_singleton.mp hb, hoa] at z; simp at z
  have kp : yKp [oa] H (yU H oa e) := yKp.put _ _ _
  refine ⟨sa, t', by rw [yU_ne _ _ nao]; exact h1, fun q => ?_, h3, fun q => ?_⟩
  · obtain ⟨f', s0, s1, s2, g1, g2, g3, g4, g5, g6, g7⟩ := h2 q
    exact ⟨f', s0, s1, s2, by rw [yU_ne _ _ (fun z => hs (hsa.symm.trans z))]; exact g1, g2, g3, g4, g5.kp kp h11, g6.kp kp h11, g7.kp kp h11⟩
  · obtain ⟨b, g1, g2⟩ := h4 q
    exact ⟨b, g1, g2.kp kp h11⟩
/-- fresh, or among those that change -/
def nF (H0 : yH) (ex : List Nat) (q : Nat) : Prop := q ∉ ex → H0 q = none
theorem nF.of {H0 H : yH} {ex : List Nat} {q : Nat} (k : yKp ex H0 H) (hq : H q = none) : nF H0 ex q := fun hn => by
  cases h : H0 q with
  | none => rfl
  | some e => rw [k _ _ hn h] at hq; cases hq
theorem nF.ne {H0 : yH} {ex : List Nat} {q b : Nat} {e : va_E} (h : nF H0 ex q) (n : b ∉ ex) (z : H0 b = some e) : b ≠ q := fun y => by
  rw [y] at n z; rw [h n] at z; cases z
theorem dB.mod {G : eG} {H0 H H' : yH} {d tx va : Nat} {Q Q' : yH → Prop} {K : Nat} {tk : Nat → Nat} {ar : Nat → Nat → Int32} {bs : List Nat} (h : dB G H0 H d tx va Q K tk ar bs) {ex : List Nat} (k : yKp ex H H') (hd : nD H' d) (hx : ∀ b ∈ ex, nF H0 [d, tx, va] b) (htx : tx ∉ ex) (hva : ∀ v m g, H v = some (.inl (G.2.2.2 1, (m, .inl g))) → v ∉ ex) (hq : Q' H') (ht : ∀ j, j < K → tk j ∉ ex) : dB G H0 H' d tx va Q' K tk ar bs := by
  obtain ⟨va', m', h1, h2, h3, h4, h5, h6, h7⟩ := h
  have h2' := h2
  obtain ⟨e1, g, e2, -⟩ := h2'
  exact ⟨va', m', hd, h2.kp k htx (hva _ _ _ e2), h3, h4, fun b e n z => k b e (fun y => (hx b y).ne n z rfl) (h5 b e n z), hq, fun j hj => ⟨k _ _ (ht j hj) (h7 j hj).1, (h7 j hj).2⟩⟩
theorem dB.tk {G : eG} {H0 H : yH} {d tx va q k : Nat} {Q : yH → Prop} {tk : Nat → Nat} {ar : Nat → Nat → Int32} {A : Nat → Int32} {bs : List Nat} (h : dB G H0 H d tx va Q (k + 1) (fun j => if j = k then q else tk j) (fun j => if j = k then A else ar j) bs) : H q = some (.inl (G.2.2.2 0, (5, .inl A))) := by
  have t : H (if k = k then q else tk k) = some (.inl (G.2.2.2 0, (5, .inl (if k = k then A else ar k)))) := h.t (Nat.lt_succ_self k)
  rw [if_pos rfl, if_pos rfl] at t
  exact t
section Drawn
variable {G : eG} {M : eM} {H0 : yH} {d tx va : Nat}
/-- what is drawn -/
def dOk (brd : Bool) (C R : Nat) (xs : List (Nat × Nat × Nat)) (os : List xO) : Prop := (3 ≤ C ∧ C ≤ 7) ∧ (3 ≤ R ∧ R ≤ 7) ∧ (brd = false → C = 5 ∧ R = 5) ∧ (1 ≤ xs.length ∧ xs.length ≤ 12) ∧ (∀ x ∈ xs, num3 x) ∧ os.length ≤ 4 ∧ ∀ o ∈ os, oN o ∧ oM xs.length o
def aTs (xs : List (Nat × Nat × Nat)) (ar : Nat → Nat → Int32) : Prop := ∀ j, j < xs.length → ar j 0 = nI (xs.getD j (0, 0, 0)).1 ∧ ar j 1 = nI (xs.getD j (0, 0, 0)).2.1 ∧ ar j 2 = nI (xs.getD j (0, 0, 0)).2.2 ∧ ar j 3 = -1 ∧ ar j 4 = 0

set_option maxHeartbeats 4000000 in
theorem S_dord (zo : zOtx) {g ta oa n no C R : Nat} {f : Nat → Option Nat} {tk : Nat → Nat} {ar : Nat → Nat → Int32} {pre : List Nat} {F : Nat → eM → yH → Prop} (h1 : 1 ≤ n) (h16 : n ≤ 16) (hno : no ≤ 4) (hpre : pre.length ≤ 200) (hto : ta ≠ oa) (n0 : nF H0 [d, tx, va] oa) (h : ∀ (os : List xO) (fo : Nat → Option Nat) (H : yH), os.length = no → (∀ o ∈ os, oN o ∧ oM n o) → dB G H0 H d tx va (qO G g ta oa n no C R f fo os) n tk ar (pre ++ osX os) → F g M H) : ∀ i, i ≤ no → ∀ (os : List xO) (fo : Nat → Option Nat) (H : yH) (ca sl : Nat), os.length = i → (∀ o ∈ os, oN o ∧ oM n o) → dB G H0 H d tx va (qO G g ta oa n no C R f fo os) n tk ar (pre ++ osX os) → ca ≤ 130 + 217 * i → sl ≤ 248700 + 231487 * i → Yx (yX "drawn") (yZ G 1000 1180000 (yFR F)) G (eR (12, 1000, 1180000)) kL_drawn 285 [(0, .ref d), (1, .ref tx), (4, .ref g), (5, .int (nI n)), (7, .int (nI no)), (8, .int (nI i))] [] M H ca sl := by
  refine eDown (P := fun i => ∀ (os : List xO) (fo : Nat → Option Nat) (H : yH) (ca sl : Nat), os.length = i → (∀ o ∈ os, oN o ∧ oM n o) → dB G H0 H d tx va (qO G g ta oa n no C R f fo os) n tk ar (pre ++ osX os) → ca ≤ 130 + 217 * i → sl ≤ 248700 + 231487 * i → Yx (yX "drawn") (yZ G 1000 1180000 (yFR F)) G (eR (12, 1000, 1180000)) kL_drawn 285 [(0, .ref d), (1, .ref tx), (4, .ref g), (5, .int (nI n)), (7, .int (nI no)), (8, .int (nI i))] [] M H ca sl) ?_ ?_
  · intro os fo H ca sl hl ho hb hca hsl
    exact B_L_drawn_285 G ca sl M H F d tx g _ _ _ ⟨fun _ => ⟨⟨by omega, by omega⟩, h os fo H hl ho hb⟩, fun z => absurd (Int32.le_refl _) z⟩
  · intro i hi hn os fo H ca sl hl ho hb hca hsl
    have hq := hb.q
    obtain ⟨eg, et, eo, eos⟩ := hq
    refine B_L_drawn_285 G ca sl M H F d tx g _ _ _ ⟨fun z => absurd z (nI_ge hi (by omega)), fun _ => ⟨oa, yG.of eg rfl, ⟨by omega, by omega⟩, fun q hq0 => ⟨⟨by omega, by omega⟩, S_oinit (hb.d.le (yLe.new hq0 _)) h1 h16 (yU_same _ _ _) (fun H3 o n3 m3 p3 e3 d3 k3 => ?_)⟩⟩⟩
    obtain ⟨x, y, s, t, e3, hs3⟩ := e3
    obtain ⟨va', m', b1, b2, b3, b4, b5, b6, b7⟩ := hb
    have b2' := b2
    obtain ⟨c1, gb, c2, -⟩ := b2'
    obtain ⟨sd, ed⟩ := b1
    have kd : yKp [d] H H3 := fun b e nb z => by
      have hbq : b ≠ q := fun y => by rw [y, hq0] at z; cases z
      exact k3 b e (by simp at nb; simp [nb, hbq]) (by rw [yU_ne _ _ hbq]; exact z)
    have hdo : d ≠ oa := fun z => by rw [z, eo] at ed; simp at ed
    have hgd : g ≠ d := fun z => by rw [z, ed] at eg; simp at eg
    have hgo : g ≠ oa := fun z => by rw [z, eo] at eg; simp at eg
    have htd : ta ≠ d := fun z => by rw [z, ed] at et; simp at et
    have hod : oa ≠ d := fun z => hdo z.symm
    have hqo : q ≠ oa := fun z => by rw [z, eo] at hq0; cases hq0
    have hxd : tx ≠ d := fun z => by rw [z, ed] at c1; simp at c1
    have hxo : tx ≠ oa := fun z => by rw [z, eo] at c1; simp at c1
    have hvd : va' ≠ d := fun z => by rw [z, ed] at c2; simp at c2
    have hvo : va' ≠ oa := fun z => by rw [z, eo] at c2; simp at c2
    have o3 : H3 oa = some (.inl (G.2.2.2 6, (no, .inr (.inr (.inr (.inr fo)))))) := kd _ _ (by simp [hod]) eo
    have k5 : yKp [d, oa] H (yU H3 oa (.inl (G.2.2.2 6, (no, .inr (.inr (.inr (.inr (va_up fo i (some q))))))))) := fun b e nb z => by
      simp at nb
      rw [yU_ne _ _ nb.2]
      exact kd b e (by simp [nb.1]) z
    have sne : s ≠ oa := fun z => by rw [z, yU_ne _ _ hqo.symm, eo] at hs3; cases hs3
    have dq : dB G H0 (yU H3 oa (.inl (G.2.2.2 6, (no, .inr (.inr (.inr (.inr (va_up fo i (some q))))))))) d tx va (qO G g ta oa n no C R f (va_up fo i (some q)) (os ++ [o])) n tk ar (pre ++ osX os) := by
      refine ⟨va', m', ?_, b2.kp k5 (by simp [hxd, hxo]) (by simp [hvd, hvo]), b3, b4, fun b e nb z => ?_, ⟨k5 _ _ (by simp [hgd, hgo]) eg, k5 _ _ (by simp [htd, hto]) et, yU_same _ _ _, fun j o' hj => ?_⟩, fun j hj => ?_⟩
      · obtain ⟨s', e'⟩ := d3
        exact ⟨s', by rw [yU_ne _ _ hdo]; exact e'⟩
      · have hbo : b ≠ oa := n0.ne nb z
        have hbd : b ≠ d := fun y => nb (by rw [y]; simp)
        exact k5 b e (by simp [hbd, hbo]) (b5 b e nb z)
      · by_cases hji : j < os.length
        · rw [List.getElem?_append_left hji] at hj
          obtain ⟨a, a1, a2, x', y', s', t', a3, a4⟩ := eos j o' hj
          have had : a ≠ d := fun z => by rw [z, ed] at a3; simp at a3
          have hao : a ≠ oa := fun z => by rw [z, eo] at a3; simp at a3
          have a3' := kd _ _ (by simp [had]) a3
          refine ⟨a, (if_neg (by omega)).trans a1, (a2.kp kd (fun b hb => ?_)).put o3 a3' a4, x', y', s', t', by rw [yU_ne _ _ hao]; exact a3', a4⟩
          rw [List.mem_singleton.mp hb]
          exact ⟨(fun fs z => by rw [ed] at z; simp at z), (fun fs z => by rw [ed] at z; simp at z), (fun n f z => by rw [ed] at z; simp at z), (fun n f z => by rw [ed] at z; simp at z)⟩
        · have hlt := (List.getElem?_eq_some_iff.mp hj).1
          rw [List.length_append, List.length_singleton] at hlt
          have hjl : j = os.length := by omega
          rw [hjl, List.getElem?_append_right (Nat.le_refl _), Nat.sub_self] at hj
          have eo' : o = o' := by simpa using hj
          subst eo'
          have hq5 : yU H3 oa (.inl (G.2.2.2 6, (no, .inr (.inr (.inr (.inr (va_up fo i (some q)))))))) q = H3 q := yU_ne _ _ hqo
          refine ⟨q, if_pos (by omega), p3 _ (fun b e nb z y => ?_) hq5, x, y, s, t, by rw [hq5]; exact e3, sne⟩
          have hbo : b ≠ oa := fun y => by rw [y, yU_ne _ _ hqo.symm, eo] at z; cases z
          rw [yU_ne _ _ hbo]
          exact y
      · obtain ⟨t1, t2⟩ := b7 j hj
        have n1 : tk j ≠ d := fun z => by rw [z, ed] at t1; simp at t1
        have n2 : tk j ≠ oa := fun z => by rw [z, eo] at t1; simp at t1
        exact ⟨k5 _ _ (by simp [n1, n2]) t1, t2⟩
    have q5 := dq.q
    obtain ⟨a, a1, a2, -⟩ := q5.2.2.2 i o (by rw [← hl, List.getElem?_append_right (Nat.le_refl _), Nat.sub_self]; rfl)
    have haq : a = q := by
      have : va_up fo i (some q) i = some q := if_pos rfl
      rw [this] at a1; cases a1; rfl
    subst haq
    have ol := (osX_len (os := os) (fun o h => (ho o h).1)).1
    have xl := (ordX_len n3).1
    rw [nI_clamp (n := i) (by omega)]
    refine ⟨no, fo, _, o3, vp_in_nI hi (by omega), e3, oa, yG.of q5.1 rfl, a, ⟨no, _, q5.2.2.1, vp_in_nI hi (by omega), by rw [nI_clamp (by omega)]; exact if_pos rfl⟩, ⟨by omega, by omega⟩, a2.is, zo _ _ _ _ _ _ a2 n3 (fun r H7 l7 t7 => ⟨⟨by omega, by omega⟩, (dq.le qO.k l7).is, (dq.le qO.k l7).app qO.k t7 (as_ord o) (by simp only [List.length_append]; omega) (fun H8 b8 => ?_)⟩)⟩
    rw [← nI_succ]
    refine hn (os ++ [o]) (va_up fo i (some a)) H8 _ _ (by rw [List.length_append, List.length_singleton, hl]) (fun o' ho' => ?_) (by rw [osX_snoc, ← List.append_assoc]; exact b8) (by omega) (by omega)
    rcases List.mem_append.mp ho' with z | z
    · exact ho o' z
    · rw [List.mem_singleton.mp z]; exact ⟨n3, m3⟩

theorem bdX_len {C R : Nat} (hC : C < 10) (hR : R < 10) : (bdX C R).length ≤ 13 := by
  unfold bdX
  rw [dg_one hC, dg_one hR]
  exact Nat.le_of_ble_eq_true rfl

set_option maxHeartbeats 8000000 in
theorem S_dtile {g ta o0 n rg C R : Nat} {pre : List Nat} {F : Nat → eM → yH → Prop} (h1 : 1 ≤ n) (h12 : n ≤ 12) (hrg : 1 ≤ rg ∧ rg ≤ 3) (hpre : pre.length ≤ 14) (n0 : nF H0 [d, tx, va] ta) (h : ∀ (xs : List (Nat × Nat × Nat)) (f : Nat → Option Nat) (tk : Nat → Nat) (ar : Nat → Nat → Int32) (H : yH) (ca sl : Nat), xs.length = n → (∀ x ∈ xs, num3 x) → aTs xs ar → (∀ j, j < n → f j = some (tk j)) → (∀ i j, i < n → j < n → tk i = tk j → i = j) → dB G H0 H d tx va (qT G g ta o0 n C R f) n tk ar (pre ++ tsX 0 xs) → ca ≤ 9 + 10 * n → sl ≤ 11020 + 19805 * n → Yx (yX "drawn") (yZ G 1000 1180000 (yFR F)) G (eR (12, 1000, 1180000)) kL_drawn 108 [(0, .ref d), (1, .ref tx), (3, .int 4), (4, .ref g), (5, .int (nI n)), (6, .int (nI rg)), (7, .int (nI n))] [] M H ca sl) : ∀ k, k ≤ n → ∀ (xs : List (Nat × Nat × Nat)) (f : Nat → Option Nat) (tk : Nat → Nat) (ar : Nat → Nat → Int32) (H : yH) (ca sl : Nat), xs.length = k → (∀ x ∈ xs, num3 x) → aTs xs ar → (∀ j, j < k → f j = some (tk j)) → (∀ i j, i < k → j < k → tk i = tk j → i = j) → dB G H0 H d tx va (qT G g ta o0 n C R f) k tk ar (pre ++ tsX 0 xs) → ca ≤ 9 + 10 * k → sl ≤ 11020 + 19805 * k → Yx (yX "drawn") (yZ G 1000 1180000 (yFR F)) G (eR (12, 1000, 1180000)) kL_drawn 108 [(0, .ref d), (1, .ref tx), (3, .int 4), (4, .ref g), (5, .int (nI n)), (6, .int (nI rg)), (7, .int (nI k))] [] M H ca sl := by
  refine eDown (P := fun k => ∀ (xs : List (Nat × Nat × Nat)) (f : Nat → Option Nat) (tk : Nat → Nat) (ar : Nat → Nat → Int32) (H : yH) (ca sl : Nat), xs.length = k → (∀ x ∈ xs, num3 x) → aTs xs ar → (∀ j, j < k → f j = some (tk j)) → (∀ i j, i < k → j < k → tk i = tk j → i = j) → dB G H0 H d tx va (qT G g ta o0 n C R f) k tk ar (pre ++ tsX 0 xs) → ca ≤ 9 + 10 * k → sl ≤ 11020 + 19805 * k → Yx (yX "drawn") (yZ G 1000 1180000 (yFR F)) G (eR (12, 1000, 1180000)) kL_drawn 108 [(0, .ref d), (1, .ref tx), (3, .int 4), (4, .ref g), (5, .int (nI n)), (6, .int (nI rg)), (7, .int (nI k))] [] M H ca sl) h ?_
  intro k hk hn xs f tk ar H ca sl hl hx ha hf hi hb hca hsl
  have hqt := hb.q
  obtain ⟨eg, et⟩ := hqt
  have tsl := tsX_len (xs := xs) (k := 0) (by omega) hx
  refine B_L_drawn_108 G ca sl M H F d tx _ g _ _ _ ⟨fun z => absurd z (nI_ge hk (by omega)), fun _ => ⟨ta, yG.of eg rfl, 5, by decide, by decide, by decide, ⟨by omega, by omega⟩, fun q hq0 => ?_⟩⟩
  have d1 := hb.d
  have hqd : q ≠ d := d1.ne hq0
  have hdq : d ≠ q := hqd.symm
  have d2 := d1.le (yLe.new hq0 (.inl (G.2.2.2 0, (5, .inl (fun _ => 0)))))
  have qd : q ∉ [d] := by simp [hqd]
  have nq : nF H0 [d, tx, va] q := by
    obtain ⟨va', m', b1, b2, b3, b4, b5, -⟩ := hb
    exact nF.of b5 hq0
  have txs : ∃ fs, H tx = some (.inr (14, fs)) := hb.is
  obtain ⟨ftx, etx⟩ := txs
  have ed' := d1
  obtain ⟨sd, ed⟩ := ed'
  have hgd : g ≠ d := fun z => by rw [z, ed] at eg; simp at eg
  have hgt : g ≠ ta := fun z => by rw [z, et] at eg; simp at eg
  have htd : ta ≠ d := fun z => by rw [z, ed] at et; simp at et
  have hdt : d ≠ ta := fun z => htd z.symm
  have hxd : tx ≠ d := fun z => by rw [z, ed] at etx; simp at etx
  have hxt : tx ≠ ta := fun z => by rw [z, et] at etx; simp at etx
  have fq : ∀ {b : Nat} {e : va_E}, H b = some e → b ≠ q := fun z y => by rw [y, hq0] at z; cases z
  have htq := fq et
  have hgq := fq eg
  refine ⟨⟨by omega, by omega⟩, d2.is, S_next d2 (n := rg) (by omega) (by omega) (fun v0 H3 hv0 d3 k3 => ⟨⟨by omega, by omega⟩, d3.is, S_next d3 (n := 9) (by decide) (by decide) (fun w9 H4 hw9 d4 k4 => ⟨fun z9 => ?_, fun z9 => ?_⟩)⟩)⟩
  · have q4 : H4 q = some (.inl (G.2.2.2 0, (5, .inl (fun _ => 0)))) := k4 _ _ qd (k3 _ _ qd (yU_same _ _ _))
    rw [show nI v0 + 0 = nI (v0 + 0) from nI_add v0 0]
    have d5 : nD (yU H4 q (.inl (G.2.2.2 0, (5, .inl (upd (fun _ => 0) (0 : Int32).toNatClampNeg (nI (v0 + 0))))))) d := by
      obtain ⟨s, e⟩ := d4
      exact ⟨s, by rw [yU_ne _ _ hdq]; exact e⟩
    refine ⟨5, _, q4, vp_in_nI (n := 0) (by decide) (by decide), ⟨by omega, by omega⟩, d5.is, S_next d5 (n := rg) (by omega) (by omega) (fun v1 H6 hv1 d6 k6 => ?_)⟩
    have q6 := k6 _ _ qd (yU_same _ _ _)
    have d7 : nD (yU H6 q (.inl (G.2.2.2 0, (5, .inl (upd (upd (fun _ => 0) (0 : Int32).toNatClampNeg (nI (v0 + 0))) (1 : Int32).toNatClampNeg (nI v1)))))) d := by
      obtain ⟨s, e⟩ := d6
      exact ⟨s, by rw [yU_ne _ _ hdq]; exact e⟩
    refine ⟨5, _, q6, vp_in_nI (n := 1) (by decide) (by decide), ⟨by omega, by omega⟩, d7.is, S_next d7 (n := rg) (by omega) (by omega) (fun v2 H8 hv2 d8 k8 => ?_)⟩
    have q8 := k8 _ _ qd (yU_same _ _ _)
    have k08 : yKp [d, q] H H8 := fun b e nb z => by
      simp at nb
      have nd : b ∉ [d] := by simp [nb.1]
      exact k8 b e nd (by rw [yU_ne _ _ nb.2]; exact k6 b e nd (by rw [yU_ne _ _ nb.2]; exact k4 b e nd (k3 b e nd (by rw [yU_ne _ _ nb.2]; exact z))))
    have t8 := k08 _ _ (by simp [htd, htq]) et
    have g8 := k08 _ _ (by simp [hgd, hgq]) eg
    refine ⟨5, _, q8, vp_in_nI (n := 2) (by decide) (by decide), 5, _, yU_same _ _ _, vp_in_nI (n := 3) (by decide) (by decide), 5, _, yU_same _ _ _, vp_in_nI (n := 4) (by decide) (by decide), n, f, 5, _, (by rw [yU_ne _ _ htq, yU_ne _ _ htq, yU_ne _ _ htq]; exact t8), vp_in_nI hk (by omega), yU_same _ _ _, ?_⟩
    simp only [yU_yU, cl0, cl1, cl2, cl3, cl4]
    rw [nI_clamp (n := k) (by omega)]
    obtain ⟨A, hA⟩ : ∃ A : Nat → Int32, A = upd (upd (upd (upd (upd (fun _ => 0) 0 (nI (v0 + 0))) 1 (nI v1)) 2 (nI v2)) 3 (-1)) 4 0 := ⟨_, rfl⟩
    have A0 : A 0 = nI (v0 + 0) := by rw [hA, pk_un (by decide), pk_un (by decide), pk_un (by decide), pk_un (by decide), pk_us]
    have A1 : A 1 = nI v1 := by rw [hA, pk_un (by decide), pk_un (by decide), pk_un (by decide), pk_us]
    have A2 : A 2 = nI v2 := by rw [hA, pk_un (by decide), pk_un (by decide), pk_us]
    have A3 : A 3 = -1 := by rw [hA, pk_un (by decide), pk_us]
    have A4 : A 4 = 0 := by rw [hA, pk_us]
    rw [← hA]
    have bz : dB G H0 (yU (yU H8 q (.inl (G.2.2.2 0, (5, .inl A)))) ta (.inl (G.2.2.2 5, (n, .inr (.inr (.inr (.inr (va_up f k (some q))))))))) d tx va (qT G g ta o0 n C R (va_up f k (some q))) (k + 1) (fun j => if j = k then q else tk j) (fun j => if j = k then A else ar j) (pre ++ tsX 0 xs) := by
      have kk : yKp [d, q, ta] H (yU (yU H8 q (.inl (G.2.2.2 0, (5, .inl A)))) ta (.inl (G.2.2.2 5, (n, .inr (.inr (.inr (.inr (va_up f k (some q))))))))) := fun b e nb z => by
        simp at nb
        rw [yU_ne _ _ nb.2.2, yU_ne _ _ nb.2.1]
        exact k08 b e (by simp [nb.1, nb.2.1]) z
      have old := hb.mod (Q' := qT G g ta o0 n C R (va_up f k (some q))) kk (by
          obtain ⟨s, e⟩ := d8
          exact ⟨s, by rw [yU_ne _ _ hdt, yU_ne _ _ hdq]; exact e⟩) (fun b hb' => by
          simp at hb'
          rcases hb' with rfl | rfl | rfl
          · exact fun z => absurd List.mem_cons_self z
          · exact nq
          · exact n0) (by simp [hxd, fq etx, hxt]) (fun v m gg hv => by
          have x1 : v ≠ d := fun z => by rw [z, ed] at hv; simp at hv
          have x2 : v ≠ ta := fun z => by rw [z, et] at hv; simp at hv
          simp [x1, x2, fq hv]) ⟨by rw [yU_ne _ _ hgt, yU_ne _ _ hgq]; exact g8, yU_same _ _ _⟩ (fun j hj => by
          have ht := hb.t hj
          have x1 : tk j ≠ d := fun z => by rw [z, ed] at ht; simp at ht
          have x2 : tk j ≠ ta := fun z => by rw [z, et] at ht; simp at ht
          simp [x1, x2, fq ht])
      obtain ⟨va', m', y1, y2, y3, y4, y5, y6, y7⟩ := old
      have hvq : q ≠ va' := by
        obtain ⟨vb, mb, -, w2, -⟩ := hb
        obtain ⟨z1, gz, z2, -⟩ := w2
        obtain ⟨z3, gy, z4, -⟩ := y2
        intro z
        rw [← z, yU_ne _ _ htq.symm, yU_same] at z4
        have zz : H tx = some (.inr (14, [.ref vb, .int 0, .int 0, .int (nI (pre ++ tsX 0 xs).length)])) := z1
        have := kk _ _ (by simp [hxd, fq etx, hxt]) zz
        rw [this] at z3
        simp at z3
        exact fq z2 (z3.trans z.symm)
      refine ⟨va', m', y1, y2, y3, y4, y5, y6, fun j hj => ?_⟩
      by_cases hjk : j = k
      · simp only [hjk, ↓reduceIte]
        exact ⟨by rw [yU_ne _ _ htq.symm]; exact yU_same _ _ _, hvq⟩
      · simp only [hjk, ↓reduceIte]
        exact y7 j (by omega)
    have fin : ∀ (H' : yH) (ca' sl' : Nat), ca' ≤ 9 + 10 * (k + 1) → sl' ≤ 11020 + 19805 * (k + 1) → dB G H0 H' d tx va (qT G g ta o0 n C R (va_up f k (some q))) (k + 1) (fun j => if j = k then q else tk j) (fun j => if j = k then A else ar j) (pre ++ tsX 0 xs ++ [116, 105, 108, 101, 32, 116] ++ dg k ++ [32] ++ dg (v0 + 0) ++ [32] ++ dg v1 ++ [32] ++ dg v2 ++ [59]) → Yx (yX "drawn") (yZ G 1000 1180000 (yFR F)) G (eR (12, 1000, 1180000)) kL_drawn 108 [(0, .ref d), (1, .ref tx), (3, .int 4), (4, .ref g), (5, .int (nI n)), (6, .int (nI rg)), (7, .int (nI k + 1))] [] M H' ca' sl' := by
      intro H' ca' sl' hc hs b'
      rw [← nI_succ]
      refine hn (xs ++ [(v0 + 0, v1, v2)]) _ _ _ H' ca' sl' (by rw [List.length_append, List.length_singleton, hl]) (fun x hx' => ?_) (fun j hj => ?_) (fun j hj => ?_) (fun i j hi' hj' e => ?_) (by
        rw [tsX_snoc, Nat.zero_add, hl]
        have et2 : pre ++ (tsX 0 xs ++ tlX k (v0 + 0, v1, v2)) = pre ++ tsX 0 xs ++ [116, 105, 108, 101, 32, 116] ++ dg k ++ [32] ++ dg (v0 + 0) ++ [32] ++ dg v1 ++ [32] ++ dg v2 ++ [59] := by
          unfold tlX tnm
          simp only [List.append_assoc, List.cons_append, List.nil_append]
        rw [et2]
        exact b') hc hs
      · rcases List.mem_append.mp hx' with z | z
        · exact hx x z
        · rw [List.mem_singleton.mp z]; exact ⟨by show v0 + 0 < 10; omega, by show v1 < 10; omega, by show v2 < 10; omega⟩
      · by_cases hjk : j = k
        · show (if j = k then A else ar j) 0 = _ ∧ (if j = k then A else ar j) 1 = _ ∧ (if j = k then A else ar j) 2 = _ ∧ (if j = k then A else ar j) 3 = _ ∧ (if j = k then A else ar j) 4 = _
          rw [if_pos hjk, show j = xs.length by omega, gT_r]
          exact ⟨A0, A1, A2, A3, A4⟩
        · show (if j = k then A else ar j) 0 = _ ∧ (if j = k then A else ar j) 1 = _ ∧ (if j = k then A else ar j) 2 = _ ∧ (if j = k then A else ar j) 3 = _ ∧ (if j = k then A else ar j) 4 = _
          rw [List.length_append, List.length_singleton] at hj
          rw [if_neg hjk, gT_l (by omega)]
          exact ha j (by omega)
      · show va_up f k (some q) j = some (if j = k then q else tk j)
        by_cases hjk : j = k
        · rw [if_pos hjk]; exact if_pos hjk
        · rw [if_neg hjk]; exact (if_neg hjk).trans (hf j (by omega))
      · have e' : (if i = k then q else tk i) = (if j = k then q else tk j) := e
        by_cases x1 : i = k
        · by_cases x2 : j = k
          · omega
          · rw [if_pos x1, if_neg x2] at e'
            exact absurd e'.symm (fq (hb.t (by omega)))
        · by_cases x2 : j = k
          · rw [if_neg x1, if_pos x2] at e'
            exact absurd e' (fq (hb.t (by omega)))
          · rw [if_neg x1, if_neg x2] at e'
            exact hi i j (by omega) (by omega) e'
    have dk := dg6_len (n := k) (by omega)
    have dl0 := dg6_len (n := v0 + 0) (by omega)
    have dl1 := dg6_len (n := v1) (by omega)
    have dl2 := dg6_len (n := v2) (by omega)
    exact B_L_drawn_177 G _ _ M _ F d tx _ g _ _ _ ⟨⟨by omega, by omega⟩, bz.is, bz.app qT.k (U_lit (ix := 3) (bs := [116, 105, 108, 101, 32, 116]) (by decide) (by decide)) (yAs.lit (by decide)) (by simp only [List.length_append, List.length_cons, List.length_nil] <;> omega) (fun K21 b21 => ⟨⟨by omega, by omega⟩, b21.is, b21.appI qT.k (by omega) (by simp only [List.length_append, List.length_cons, List.length_nil] <;> omega) (fun K22 b22 => ⟨⟨by omega, by omega⟩, b22.is, b22.app qT.k (U_lit (ix := 4) (bs := [32]) (by decide) (by decide)) (yAs.lit (by decide)) (by simp only [List.length_append, List.length_cons, List.length_nil] <;> omega) (fun K23 b23 => ⟨ta, yG.of b23.q.1 rfl, q, ⟨n, _, b23.q.2, vp_in_nI hk (by omega), by rw [nI_clamp (by omega)]; exact if_pos rfl⟩, nI (v0 + 0), ⟨5, _, b23.tk, vp_in_nI (n := 0) (by decide) (by decide), by rw [cl0]; exact A0⟩, ⟨by omega, by omega⟩, b23.is, b23.appI qT.k (by omega) (by simp only [List.length_append, List.length_cons, List.length_nil] <;> omega) (fun K24 b24 => ⟨⟨by omega, by omega⟩, b24.is, b24.app qT.k (U_lit (ix := 4) (bs := [32]) (by decide) (by decide)) (yAs.lit (by decide)) (by simp only [List.length_append, List.length_cons, List.length_nil] <;> omega) (fun K25 b25 => ⟨ta, yG.of b25.q.1 rfl, q, ⟨n, _, b25.q.2, vp_in_nI hk (by omega), by rw [nI_clamp (by omega)]; exact if_pos rfl⟩, nI v1, ⟨5, _, b25.tk, vp_in_nI (n := 1) (by decide) (by decide), by rw [cl1]; exact A1⟩, ⟨by omega, by omega⟩, b25.is, b25.appI qT.k (by omega) (by simp only [List.length_append, List.length_cons, List.length_nil] <;> omega) (fun K26 b26 => ⟨⟨by omega, by omega⟩, b26.is, b26.app qT.k (U_lit (ix := 4) (bs := [32]) (by decide) (by decide)) (yAs.lit (by decide)) (by simp only [List.length_append, List.length_cons, List.length_nil] <;> omega) (fun K27 b27 => ⟨ta, yG.of b27.q.1 rfl, q, ⟨n, _, b27.q.2, vp_in_nI hk (by omega), by rw [nI_clamp (by omega)]; exact if_pos rfl⟩, nI v2, ⟨5, _, b27.tk, vp_in_nI (n := 2) (by decide) (by decide), by rw [cl2]; exact A2⟩, ⟨by omega, by omega⟩, b27.is, b27.appI qT.k (by omega) (by simp only [List.length_append, List.length_cons, List.length_nil] <;> omega) (fun K28 b28 => ⟨⟨by omega, by omega⟩, b28.is, b28.app qT.k (U_lit (ix := 5) (bs := [59]) (by decide) (by decide)) (yAs.lit (by decide)) (by simp only [List.length_append, List.length_cons, List.length_nil] <;> omega) (fun K29 b29 => fin _ _ _ (by omega) (by omega) b29)⟩)⟩)⟩)⟩)⟩)⟩)⟩)⟩)⟩
  · have q4 : H4 q = some (.inl (G.2.2.2 0, (5, .inl (fun _ => 0)))) := k4 _ _ qd (k3 _ _ qd (yU_same _ _ _))
    rw [show nI v0 + 7 = nI (v0 + 7) from nI_add v0 7]
    have d5 : nD (yU H4 q (.inl (G.2.2.2 0, (5, .inl (upd (fun _ => 0) (0 : Int32).toNatClampNeg (nI (v0 + 7))))))) d := by
      obtain ⟨s, e⟩ := d4
      exact ⟨s, by rw [yU_ne _ _ hdq]; exact e⟩
    refine ⟨5, _, q4, vp_in_nI (n := 0) (by decide) (by decide), ⟨by omega, by omega⟩, d5.is, S_next d5 (n := rg) (by omega) (by omega) (fun v1 H6 hv1 d6 k6 => ?_)⟩
    have q6 := k6 _ _ qd (yU_same _ _ _)
    have d7 : nD (yU H6 q (.inl (G.2.2.2 0, (5, .inl (upd (upd (fun _ => 0) (0 : Int32).toNatClampNeg (nI (v0 + 7))) (1 : Int32).toNatClampNeg (nI v1)))))) d := by
      obtain ⟨s, e⟩ := d6
      exact ⟨s, by rw [yU_ne _ _ hdq]; exact e⟩
    refine ⟨5, _, q6, vp_in_nI (n := 1) (by decide) (by decide), ⟨by omega, by omega⟩, d7.is, S_next d7 (n := rg) (by omega) (by omega) (fun v2 H8 hv2 d8 k8 => ?_)⟩
    have q8 := k8 _ _ qd (yU_same _ _ _)
    have k08 : yKp [d, q] H H8 := fun b e nb z => by
      simp at nb
      have nd : b ∉ [d] := by simp [nb.1]
      exact k8 b e nd (by rw [yU_ne _ _ nb.2]; exact k6 b e nd (by rw [yU_ne _ _ nb.2]; exact k4 b e nd (k3 b e nd (by rw [yU_ne _ _ nb.2]; exact z))))
    have t8 := k08 _ _ (by simp [htd, htq]) et
    have g8 := k08 _ _ (by simp [hgd, hgq]) eg
    refine ⟨5, _, q8, vp_in_nI (n := 2) (by decide) (by decide), 5, _, yU_same _ _ _, vp_in_nI (n := 3) (by decide) (by decide), 5, _, yU_same _ _ _, vp_in_nI (n := 4) (by decide) (by decide), n, f, 5, _, (by rw [yU_ne _ _ htq, yU_ne _ _ htq, yU_ne _ _ htq]; exact t8), vp_in_nI hk (by omega), yU_same _ _ _, ?_⟩
    simp only [yU_yU, cl0, cl1, cl2, cl3, cl4]
    rw [nI_clamp (n := k) (by omega)]
    obtain ⟨A, hA⟩ : ∃ A : Nat → Int32, A = upd (upd (upd (upd (upd (fun _ => 0) 0 (nI (v0 + 7))) 1 (nI v1)) 2 (nI v2)) 3 (-1)) 4 0 := ⟨_, rfl⟩
    have A0 : A 0 = nI (v0 + 7) := by rw [hA, pk_un (by decide), pk_un (by decide), pk_un (by decide), pk_un (by decide), pk_us]
    have A1 : A 1 = nI v1 := by rw [hA, pk_un (by decide), pk_un (by decide), pk_un (by decide), pk_us]
    have A2 : A 2 = nI v2 := by rw [hA, pk_un (by decide), pk_un (by decide), pk_us]
    have A3 : A 3 = -1 := by rw [hA, pk_un (by decide), pk_us]
    have A4 : A 4 = 0 := by rw [hA, pk_us]
    rw [← hA]
    have bz : dB G H0 (yU (yU H8 q (.inl (G.2.2.2 0, (5, .inl A)))) ta (.inl (G.2.2.2 5, (n, .inr (.inr (.inr (.inr (va_up f k (some q))))))))) d tx va (qT G g ta o0 n C R (va_up f k (some q))) (k + 1) (fun j => if j = k then q else tk j) (fun j => if j = k then A else ar j) (pre ++ tsX 0 xs) := by
      have kk : yKp [d, q, ta] H (yU (yU H8 q (.inl (G.2.2.2 0, (5, .inl A)))) ta (.inl (G.2.2.2 5, (n, .inr (.inr (.inr (.inr (va_up f k (some q))))))))) := fun b e nb z => by
        simp at nb
        rw [yU_ne _ _ nb.2.2, yU_ne _ _ nb.2.1]
        exact k08 b e (by simp [nb.1, nb.2.1]) z
      have old := hb.mod (Q' := qT G g ta o0 n C R (va_up f k (some q))) kk (by
          obtain ⟨s, e⟩ := d8
          exact ⟨s, by rw [yU_ne _ _ hdt, yU_ne _ _ hdq]; exact e⟩) (fun b hb' => by
          simp at hb'
          rcases hb' with rfl | rfl | rfl
          · exact fun z => absurd List.mem_cons_self z
          · exact nq
          · exact n0) (by simp [hxd, fq etx, hxt]) (fun v m gg hv => by
          have x1 : v ≠ d := fun z => by rw [z, ed] at hv; simp at hv
          have x2 : v ≠ ta := fun z => by rw [z, et] at hv; simp at hv
          simp [x1, x2, fq hv]) ⟨by rw [yU_ne _ _ hgt, yU_ne _ _ hgq]; exact g8, yU_same _ _ _⟩ (fun j hj => by
          have ht := hb.t hj
          have x1 : tk j ≠ d := fun z => by rw [z, ed] at ht; simp at ht
          have x2 : tk j ≠ ta := fun z => by rw [z, et] at ht; simp at ht
          simp [x1, x2, fq ht])
      obtain ⟨va', m', y1, y2, y3, y4, y5, y6, y7⟩ := old
      have hvq : q ≠ va' := by
        obtain ⟨vb, mb, -, w2, -⟩ := hb
        obtain ⟨z1, gz, z2, -⟩ := w2
        obtain ⟨z3, gy, z4, -⟩ := y2
        intro z
        rw [← z, yU_ne _ _ htq.symm, yU_same] at z4
        have zz : H tx = some (.inr (14, [.ref vb, .int 0, .int 0, .int (nI (pre ++ tsX 0 xs).length)])) := z1
        have := kk _ _ (by simp [hxd, fq etx, hxt]) zz
        rw [this] at z3
        simp at z3
        exact fq z2 (z3.trans z.symm)
      refine ⟨va', m', y1, y2, y3, y4, y5, y6, fun j hj => ?_⟩
      by_cases hjk : j = k
      · simp only [hjk, ↓reduceIte]
        exact ⟨by rw [yU_ne _ _ htq.symm]; exact yU_same _ _ _, hvq⟩
      · simp only [hjk, ↓reduceIte]
        exact y7 j (by omega)
    have fin : ∀ (H' : yH) (ca' sl' : Nat), ca' ≤ 9 + 10 * (k + 1) → sl' ≤ 11020 + 19805 * (k + 1) → dB G H0 H' d tx va (qT G g ta o0 n C R (va_up f k (some q))) (k + 1) (fun j => if j = k then q else tk j) (fun j => if j = k then A else ar j) (pre ++ tsX 0 xs ++ [116, 105, 108, 101, 32, 116] ++ dg k ++ [32] ++ dg (v0 + 7) ++ [32] ++ dg v1 ++ [32] ++ dg v2 ++ [59]) → Yx (yX "drawn") (yZ G 1000 1180000 (yFR F)) G (eR (12, 1000, 1180000)) kL_drawn 108 [(0, .ref d), (1, .ref tx), (3, .int 4), (4, .ref g), (5, .int (nI n)), (6, .int (nI rg)), (7, .int (nI k + 1))] [] M H' ca' sl' := by
      intro H' ca' sl' hc hs b'
      rw [← nI_succ]
      refine hn (xs ++ [(v0 + 7, v1, v2)]) _ _ _ H' ca' sl' (by rw [List.length_append, List.length_singleton, hl]) (fun x hx' => ?_) (fun j hj => ?_) (fun j hj => ?_) (fun i j hi' hj' e => ?_) (by
        rw [tsX_snoc, Nat.zero_add, hl]
        have et2 : pre ++ (tsX 0 xs ++ tlX k (v0 + 7, v1, v2)) = pre ++ tsX 0 xs ++ [116, 105, 108, 101, 32, 116] ++ dg k ++ [32] ++ dg (v0 + 7) ++ [32] ++ dg v1 ++ [32] ++ dg v2 ++ [59] := by
          unfold tlX tnm
          simp only [List.append_assoc, List.cons_append, List.nil_append]
        rw [et2]
        exact b') hc hs
      · rcases List.mem_append.mp hx' with z | z
        · exact hx x z
        · rw [List.mem_singleton.mp z]; exact ⟨by show v0 + 7 < 10; omega, by show v1 < 10; omega, by show v2 < 10; omega⟩
      · by_cases hjk : j = k
        · show (if j = k then A else ar j) 0 = _ ∧ (if j = k then A else ar j) 1 = _ ∧ (if j = k then A else ar j) 2 = _ ∧ (if j = k then A else ar j) 3 = _ ∧ (if j = k then A else ar j) 4 = _
          rw [if_pos hjk, show j = xs.length by omega, gT_r]
          exact ⟨A0, A1, A2, A3, A4⟩
        · show (if j = k then A else ar j) 0 = _ ∧ (if j = k then A else ar j) 1 = _ ∧ (if j = k then A else ar j) 2 = _ ∧ (if j = k then A else ar j) 3 = _ ∧ (if j = k then A else ar j) 4 = _
          rw [List.length_append, List.length_singleton] at hj
          rw [if_neg hjk, gT_l (by omega)]
          exact ha j (by omega)
      · show va_up f k (some q) j = some (if j = k then q else tk j)
        by_cases hjk : j = k
        · rw [if_pos hjk]; exact if_pos hjk
        · rw [if_neg hjk]; exact (if_neg hjk).trans (hf j (by omega))
      · have e' : (if i = k then q else tk i) = (if j = k then q else tk j) := e
        by_cases x1 : i = k
        · by_cases x2 : j = k
          · omega
          · rw [if_pos x1, if_neg x2] at e'
            exact absurd e'.symm (fq (hb.t (by omega)))
        · by_cases x2 : j = k
          · rw [if_neg x1, if_pos x2] at e'
            exact absurd e' (fq (hb.t (by omega)))
          · rw [if_neg x1, if_neg x2] at e'
            exact hi i j (by omega) (by omega) e'
    have dk := dg6_len (n := k) (by omega)
    have dl0 := dg6_len (n := v0 + 7) (by omega)
    have dl1 := dg6_len (n := v1) (by omega)
    have dl2 := dg6_len (n := v2) (by omega)
    exact B_L_drawn_177 G _ _ M _ F d tx _ g _ _ _ ⟨⟨by omega, by omega⟩, bz.is, bz.app qT.k (U_lit (ix := 3) (bs := [116, 105, 108, 101, 32, 116]) (by decide) (by decide)) (yAs.lit (by decide)) (by simp only [List.length_append, List.length_cons, List.length_nil] <;> omega) (fun K21 b21 => ⟨⟨by omega, by omega⟩, b21.is, b21.appI qT.k (by omega) (by simp only [List.length_append, List.length_cons, List.length_nil] <;> omega) (fun K22 b22 => ⟨⟨by omega, by omega⟩, b22.is, b22.app qT.k (U_lit (ix := 4) (bs := [32]) (by decide) (by decide)) (yAs.lit (by decide)) (by simp only [List.length_append, List.length_cons, List.length_nil] <;> omega) (fun K23 b23 => ⟨ta, yG.of b23.q.1 rfl, q, ⟨n, _, b23.q.2, vp_in_nI hk (by omega), by rw [nI_clamp (by omega)]; exact if_pos rfl⟩, nI (v0 + 7), ⟨5, _, b23.tk, vp_in_nI (n := 0) (by decide) (by decide), by rw [cl0]; exact A0⟩, ⟨by omega, by omega⟩, b23.is, b23.appI qT.k (by omega) (by simp only [List.length_append, List.length_cons, List.length_nil] <;> omega) (fun K24 b24 => ⟨⟨by omega, by omega⟩, b24.is, b24.app qT.k (U_lit (ix := 4) (bs := [32]) (by decide) (by decide)) (yAs.lit (by decide)) (by simp only [List.length_append, List.length_cons, List.length_nil] <;> omega) (fun K25 b25 => ⟨ta, yG.of b25.q.1 rfl, q, ⟨n, _, b25.q.2, vp_in_nI hk (by omega), by rw [nI_clamp (by omega)]; exact if_pos rfl⟩, nI v1, ⟨5, _, b25.tk, vp_in_nI (n := 1) (by decide) (by decide), by rw [cl1]; exact A1⟩, ⟨by omega, by omega⟩, b25.is, b25.appI qT.k (by omega) (by simp only [List.length_append, List.length_cons, List.length_nil] <;> omega) (fun K26 b26 => ⟨⟨by omega, by omega⟩, b26.is, b26.app qT.k (U_lit (ix := 4) (bs := [32]) (by decide) (by decide)) (yAs.lit (by decide)) (by simp only [List.length_append, List.length_cons, List.length_nil] <;> omega) (fun K27 b27 => ⟨ta, yG.of b27.q.1 rfl, q, ⟨n, _, b27.q.2, vp_in_nI hk (by omega), by rw [nI_clamp (by omega)]; exact if_pos rfl⟩, nI v2, ⟨5, _, b27.tk, vp_in_nI (n := 2) (by decide) (by decide), by rw [cl2]; exact A2⟩, ⟨by omega, by omega⟩, b27.is, b27.appI qT.k (by omega) (by simp only [List.length_append, List.length_cons, List.length_nil] <;> omega) (fun K28 b28 => ⟨⟨by omega, by omega⟩, b28.is, b28.app qT.k (U_lit (ix := 5) (bs := [59]) (by decide) (by decide)) (yAs.lit (by decide)) (by simp only [List.length_append, List.length_cons, List.length_nil] <;> omega) (fun K29 b29 => fin _ _ _ (by omega) (by omega) b29)⟩)⟩)⟩)⟩)⟩)⟩)⟩)⟩)⟩
end Drawn
