/-! ===== a game drawn, from the start ===== -/
def qG (g ta o0 C R : Nat) (H : yH) : Prop := H g = some (.inr (10, [.int (nI C), .int (nI R), .ref ta, .int 0, .ref o0]))
theorem qG.k {G : eG} {tx g ta o0 C R : Nat} : yQk G tx (qG g ta o0 C R) := fun H H' v m g' h hv hx k => by
  have e1 : H g = some (.inr (10, [.int (nI C), .int (nI R), .ref ta, .int 0, .ref o0])) := h
  obtain ⟨fs, hx⟩ := hx
  have n1 : g ≠ tx := fun z => by rw [z, hx] at e1; simp at e1
  have n2 : g ≠ v := fun z => by rw [z, hv] at e1; simp at e1
  exact k _ _ (by simp [n1, n2]) e1
section Drawn3
variable {G : eG} {M : eM} {H0 : yH} {d tx va : Nat}
theorem dB.g0 {H' : yH} {m g ta o0 C R : Nat} {tk : Nat → Nat} {ar : Nat → Nat → Int32} (hd : nD H0 d) (hs : ySB G H0 tx va m []) (hm : m ≤ 2200) (hg : H0 g = none) (k : yKp [d, g] H0 H') (hd' : nD H' d) (e : qG g ta o0 C R H') : dB G H0 H' d tx va (qG g ta o0 C R) 0 tk ar [] := by
  have hs' := hs
  obtain ⟨e1, gb, e2, -⟩ := hs'
  obtain ⟨s, es⟩ := hd
  have n1 : tx ≠ d := fun z => by rw [z, es] at e1; simp at e1
  have n2 : tx ≠ g := fun z => by rw [z, hg] at e1; cases e1
  have n3 : va ≠ d := fun z => by rw [z, es] at e2; simp at e2
  have n4 : va ≠ g := fun z => by rw [z, hg] at e2; cases e2
  refine ⟨va, m, hd', hs.kp k (by simp [n1, n2]) (by simp [n3, n4]), hm, Or.inl rfl, fun b e' n z => ?_, e, fun j hj => absurd hj (Nat.not_lt_zero _)⟩
  have b1 : b ≠ d := fun y => n (by rw [y]; simp)
  have b2 : b ≠ g := fun y => by rw [y, hg] at z; cases z
  exact k b e' (by simp [b1, b2]) z
set_option maxHeartbeats 4000000 in
theorem S_d74 (zo : zOtx) {g ta0 o0 C R : Nat} {brd : Bool} {tk0 : Nat → Nat} {ar0 : Nat → Nat → Int32} {pre : List Nat} {F : Nat → eM → yH → Prop} (hC : 3 ≤ C ∧ C ≤ 7) (hR : 3 ≤ R ∧ R ≤ 7) (hbd : brd = false → C = 5 ∧ R = 5) (hpre : pre.length ≤ 14) (ng : nF H0 [d, tx, va] g) (h : ∀ (xs : List (Nat × Nat × Nat)) (os : List xO) (ta oa : Nat) (tk : Nat → Nat) (va' m' : Nat) (H' : yH), dOk brd C R xs os → gAt G H' g ta oa tk (b0 C R xs.length (nuOf xs)) 0 → nOs G H' oa os → nD H' d → ySB G H' tx va' m' (pre ++ (tsX 0 xs ++ osX os)) → m' ≤ 2200 → yKp [d, tx, va] H0 H' → F g M H') {H : yH} {ca sl : Nat} (hb : dB G H0 H d tx va (qG g ta0 o0 C R) 0 tk0 ar0 pre) (hca : ca ≤ 8) (hsl : sl ≤ 11005) : Yx (yX "drawn") (yZ G 1000 1180000 (yFR F)) G (eR (12, 1000, 1180000)) kL_drawn 74 [(0, .ref d), (1, .ref tx), (2, .int 1), (3, .int 4), (4, .ref g)] [] M H ca sl := by
  have dh := hb.d
  refine B_L_drawn_74 G ca sl M H F d tx 1 4 g ⟨⟨by omega, by omega⟩, dh.is, ?_⟩
  rw [show (13 : Int32) - 1 = nI 12 by decide]
  refine S_next dh (n := 12) (by decide) (by decide) (fun v H2 hv d2 k2 => ⟨⟨by omega, by omega⟩, d2.is, S_next d2 (n := 3) (by decide) (by decide) (fun w H3 hw d3 k3 => ?_)⟩)
  rw [show (1 : Int32) + nI v = nI (1 + v) from nI_add 1 v, show (1 : Int32) + nI w = nI (1 + w) from nI_add 1 w]
  have eg : H g = some (.inr (10, [.int (nI C), .int (nI R), .ref ta0, .int 0, .ref o0])) := hb.q
  have hd' := dh
  obtain ⟨sd, ed⟩ := hd'
  have hgd : g ≠ d := fun z => by rw [z, ed] at eg; simp at eg
  have k03 := k2.trans k3
  have g3 := k03 _ _ (by simp [hgd]) eg
  refine ⟨1 + v, nI_pos (by omega), nI_clamp (by omega), by omega, ⟨by omega, by omega⟩, fun ta hta => ⟨_, (yLe.new hta _) _ _ g3, Nat.le_of_ble_eq_true rfl, ?_⟩⟩
  have htg : ta ≠ g := fun z => by rw [z, g3] at hta; cases hta
  have htd : ta ≠ d := d3.ne hta
  have nt : nF H0 [d, tx, va] ta := by
    obtain ⟨va', m', b1, b2, b3, b4, b5, -⟩ := hb
    refine nF.of (H := H) b5 ?_
    cases hz : H ta with
    | none => rfl
    | some e => rw [k03 _ _ (by simp [htd]) hz] at hta; cases hta
  have hHta : H ta = none := by
    cases hz : H ta with
    | none => rfl
    | some e => rw [k03 _ _ (by simp [htd]) hz] at hta; cases hta
  have txs : ∃ fs, H tx = some (.inr (14, fs)) := hb.is
  obtain ⟨ftx, etx⟩ := txs
  have hxd : tx ≠ d := fun z => by rw [z, ed] at etx; simp at etx
  have hxg : tx ≠ g := fun z => by rw [z, eg] at etx; simp at etx
  have hxt : tx ≠ ta := fun z => by rw [z, hHta] at etx; cases etx
  have kk : yKp [d, ta, g] H (yU (yU H3 ta (.inl (G.2.2.2 5, (1 + v, .inr (.inr (.inr (.inr (fun _ => none)))))))) g (.inr (10, [.int (nI C), .int (nI R), .ref ta, .int 0, .ref o0]))) := fun b e nb z => by
    simp at nb
    rw [yU_ne _ _ nb.2.2, yU_ne _ _ nb.2.1]
    exact k03 b e (by simp [nb.1]) z
  have hb2 := hb.mod (Q' := qT G g ta o0 (1 + v) C R (fun _ => none)) kk (by
      obtain ⟨s, e⟩ := d3
      exact ⟨s, by rw [yU_ne _ _ hgd.symm, yU_ne _ _ htd.symm]; exact e⟩) (fun b hb' => by
      simp at hb'
      rcases hb' with rfl | rfl | rfl
      · exact fun z => absurd List.mem_cons_self z
      · exact nt
      · exact ng) (by simp [hxd, hxt, hxg]) (fun u m gg hu => by
      have x1 : u ≠ d := fun z => by rw [z, ed] at hu; simp at hu
      have x2 : u ≠ ta := fun z => by rw [z, hHta] at hu; cases hu
      have x3 : u ≠ g := fun z => by rw [z, eg] at hu; simp at hu
      simp [x1, x2, x3]) ⟨yU_same _ _ _, by rw [yU_ne _ _ htg]; exact yU_same _ _ _⟩ (fun j hj => absurd hj (Nat.not_lt_zero _))
  refine S_dtile (n := 1 + v) (rg := 1 + w) (by omega) (by omega) ⟨by omega, by omega⟩ hpre nt (fun xs f tk ar H ca sl hl hx ha hf hi hbn hca hsl => ?_) 0 (Nat.zero_le _) [] (fun _ => none) tk0 ar0 _ _ _ rfl (fun x hx => absurd hx List.not_mem_nil) (fun j hj => absurd hj (Nat.not_lt_zero _)) (fun j hj => absurd hj (Nat.not_lt_zero _)) (fun i j hi => absurd hi (Nat.not_lt_zero _)) (by show dB G H0 _ d tx va _ 0 tk0 ar0 (pre ++ []); rw [List.append_nil]; exact hb2) (by omega) (by omega)
  -- the orders
  have dn := hbn.d
  refine B_L_drawn_108 G ca sl M H F d tx 4 g _ _ _ ⟨fun _ => ⟨fun _ => ⟨⟨by omega, by omega⟩, dn.is, ?_⟩, fun z => absurd z (nI_ne0 (by omega) (by omega))⟩, fun z => absurd (Int32.le_refl _) z⟩
  rw [show (4 : Int32) + 1 = nI 5 by decide]
  refine S_next dn (n := 5) (by decide) (by decide) (fun no H2 hno d2 k2 => B_L_drawn_272 G _ _ M H2 F d tx g _ _ ⟨no, nI_pos (by omega), nI_clamp (by omega), by omega, ⟨by omega, by omega⟩, fun oa hoa => ?_⟩)
  have hq := hbn.q
  obtain ⟨eg, et⟩ := hq
  have dn' := dn
  obtain ⟨sd, ed⟩ := dn'
  have hgd : g ≠ d := fun z => by rw [z, ed] at eg; simp at eg
  have htd : ta ≠ d := fun z => by rw [z, ed] at et; simp at et
  have htg : ta ≠ g := fun z => by rw [z, eg] at et; simp at et
  have g2 := k2 _ _ (by simp [hgd]) eg
  have t2 := k2 _ _ (by simp [htd]) et
  have hog : oa ≠ g := fun z => by rw [z, g2] at hoa; cases hoa
  have hot : oa ≠ ta := fun z => by rw [z, t2] at hoa; cases hoa
  have hod : oa ≠ d := d2.ne hoa
  have hHoa : H oa = none := by
    cases hz : H oa with
    | none => rfl
    | some e => rw [k2 _ _ (by simp [hod]) hz] at hoa; cases hoa
  have no' : nF H0 [d, tx, va] oa := by
    obtain ⟨va', m', b1, b2, b3, b4, b5, -⟩ := hbn
    exact nF.of b5 hHoa
  have txs : ∃ fs, H tx = some (.inr (14, fs)) := hbn.is
  obtain ⟨ftx, etx⟩ := txs
  have hxd : tx ≠ d := fun z => by rw [z, ed] at etx; simp at etx
  have hxg : tx ≠ g := fun z => by rw [z, eg] at etx; simp at etx
  have hxo : tx ≠ oa := fun z => by rw [z, hHoa] at etx; cases etx
  refine ⟨_, (yLe.new hoa _) _ _ g2, Nat.le_of_ble_eq_true rfl, ?_⟩
  have kk : yKp [d, oa, g] H (yU (yU H2 oa (.inl (G.2.2.2 6, (no, .inr (.inr (.inr (.inr (fun _ => none)))))))) g (.inr (10, [.int (nI C), .int (nI R), .ref ta, .int 0, .ref oa]))) := fun b e nb z => by
    simp at nb
    rw [yU_ne _ _ nb.2.2, yU_ne _ _ nb.2.1]
    exact k2 b e (by simp [nb.1]) z
  have hb3 := hbn.mod (Q' := qO G g ta oa (1 + v) no C R f (fun _ => none) []) kk (by
      obtain ⟨s, e⟩ := d2
      exact ⟨s, by rw [yU_ne _ _ hgd.symm, yU_ne _ _ hod.symm]; exact e⟩) (fun b hb' => by
      simp at hb'
      rcases hb' with rfl | rfl | rfl
      · exact fun z => absurd List.mem_cons_self z
      · exact no'
      · exact ng) (by simp [hxd, hxo, hxg]) (fun u m gg hu => by
      have x1 : u ≠ d := fun z => by rw [z, ed] at hu; simp at hu
      have x2 : u ≠ oa := fun z => by rw [z, hHoa] at hu; cases hu
      have x3 : u ≠ g := fun z => by rw [z, eg] at hu; simp at hu
      simp [x1, x2, x3]) ⟨yU_same _ _ _, by rw [yU_ne _ _ htg, yU_ne _ _ hot.symm]; exact t2, by rw [yU_ne _ _ hog]; exact yU_same _ _ _, fun i o ho => by cases ho⟩ (fun j hj => by
      have ht := hbn.t hj
      have x1 : tk j ≠ d := fun z => by rw [z, ed] at ht; simp at ht
      have x2 : tk j ≠ oa := fun z => by rw [z, hHoa] at ht; cases ht
      have x3 : tk j ≠ g := fun z => by rw [z, eg] at ht; simp at ht
      simp [x1, x2, x3])
  have tsl := tsX_len (xs := xs) (k := 0) (by omega) hx
  refine S_dord zo (n := 1 + v) (pre := pre ++ tsX 0 xs) (by omega) (by omega) (by omega) (by rw [List.length_append]; omega) hot.symm no' (fun os fo H' hlo ho hbo => ?_) 0 (Nat.zero_le _) [] (fun _ => none) _ _ _ rfl (fun o ho => absurd ho List.not_mem_nil) (by show dB G H0 _ d tx va _ (1 + v) tk ar (pre ++ tsX 0 xs ++ []); rw [List.append_nil]; exact hb3) (by omega) (by omega)
  have hq' := hbo.q
  obtain ⟨w1, w2, w3, w4⟩ := hq'
  obtain ⟨va', m', y1, y2, y3, y4, y5, y6, y7⟩ := hbo
  refine h xs os ta oa tk va' m' H' ⟨hC, hR, hbd, ⟨by omega, by omega⟩, hx, by omega, fun o ho' => by rw [hl]; exact ho o ho'⟩ ?_ ⟨fo, by rw [hlo]; exact w3, fun i o ho' => ?_⟩ y1 (by rw [← List.append_assoc]; exact y2) y3 y5
  · rw [hl]
    refine ⟨w1, ⟨f, w2, hf⟩, fun k hk => ?_, hi⟩
    have hk' : k < 1 + v := hk
    obtain ⟨a0, a1, a2, a3, a4⟩ := ha k (by omega)
    refine ⟨ar k, (y7 k hk').1, a0.trans (congrArg nI (nuOf_at xs (i := k) (e := 0) (by decide)).symm), a1.trans (congrArg nI (nuOf_at xs (i := k) (e := 1) (by decide)).symm), a2.trans (congrArg nI (nuOf_at xs (i := k) (e := 2) (by decide)).symm), a3, a4⟩
  · obtain ⟨a, a1, a2, -⟩ := w4 i o ho'
    exact ⟨a, a1, a2⟩
set_option maxHeartbeats 4000000 in
theorem S_drawn (zo : zOtx) {m : Nat} {F : Nat → eM → yH → Prop} (hd : nD H0 d) (hs : ySB G H0 tx va m []) (hm : m ≤ 2200) (h : ∀ (brd : Bool) (C R : Nat) (xs : List (Nat × Nat × Nat)) (os : List xO) (g ta oa : Nat) (tk : Nat → Nat) (va' m' : Nat) (H' : yH), dOk brd C R xs os → gAt G H' g ta oa tk (b0 C R xs.length (nuOf xs)) 0 → nOs G H' oa os → nD H' d → ySB G H' tx va' m' (gmX brd C R xs os) → m' ≤ 2200 → yKp [d, tx, va] H0 H' → F g M H') : yCal G (12, 1000, 1180000) kL_drawn [.ref d, .ref tx, .int 1, .int 4] M H0 (yFR F) := by
  refine C_L_drawn G M H0 F d tx ⟨⟨by decide, by decide⟩, fun g hg => ⟨⟨by decide, by decide⟩, S_ginit (yU_same _ _ _) (fun t o H2 ht ho g2 t2 o2 k2 => ?_)⟩⟩
  have hgd : g ≠ d := hd.ne hg
  have k02 : yKp [g] H0 H2 := fun b e n z => k2 b e n (by rw [yU_ne _ _ (fun y => n (by rw [y]; simp))]; exact z)
  have d2 : nD H2 d := hd.kp k02 (by simp [hgd.symm])
  have ng : nF H0 [d, tx, va] g := fun _ => hg
  refine ⟨⟨by decide, by decide⟩, d2.is, S_next d2 (n := 3) (by decide) (by decide) (fun v H3 hv d3 k3 => ?_)⟩
  have gd : g ∉ [d] := by simp [hgd]
  have k03 : yKp [d, g] H0 H3 := fun b e n z => by
    simp at n
    exact k3 b e (by simp [n.1]) (k02 b e (by simp [n.2]) z)
  refine ⟨fun z => ?_, fun z => ?_⟩
  · have hb := dB.g0 (tk := fun _ => 0) (ar := fun _ _ => 0) (C := 5) (R := 5) hd hs hm hg k03 d3 (k3 _ _ gd g2)
    exact S_d74 zo (brd := false) (pre := []) ⟨by decide, by decide⟩ ⟨by decide, by decide⟩ (fun _ => ⟨rfl, rfl⟩) (by decide) ng (fun xs os ta oa tk va' m' H' y1 y2 y3 y4 y5 y6 y7 => h false 5 5 xs os g ta oa tk va' m' H' y1 y2 y3 y4 y5 y6 y7) hb (by decide) (by decide)
  · refine ⟨⟨by decide, by decide⟩, d3.is, S_next d3 (n := 4) (by decide) (by decide) (fun c H4 hc d4 k4 => ⟨_, k4 _ _ gd (k3 _ _ gd g2), Nat.le_of_ble_eq_true rfl, ?_⟩)⟩
    rw [show (3 : Int32) + nI c = nI (3 + c) from nI_add 3 c]
    have d5 : nD (yU H4 g (.inr (10, [.int (nI (3 + c)), .int 5, .ref t, .int 0, .ref o]))) d := by
      obtain ⟨s, e⟩ := d4
      exact ⟨s, by rw [yU_ne _ _ hgd.symm]; exact e⟩
    refine ⟨⟨by decide, by decide⟩, d5.is, S_next d5 (n := 3) (by decide) (by decide) (fun r H6 hr d6 k6 => ⟨_, k6 _ _ gd (yU_same _ _ _), Nat.le_of_ble_eq_true rfl, ?_⟩)⟩
    rw [show (3 : Int32) + nI r = nI (3 + r) from nI_add 3 r]
    have d7 : nD (yU H6 g (.inr (10, [.int (nI (3 + c)), .int (nI (3 + r)), .ref t, .int 0, .ref o]))) d := by
      obtain ⟨s, e⟩ := d6
      exact ⟨s, by rw [yU_ne _ _ hgd.symm]; exact e⟩
    have k07 : yKp [d, g] H0 (yU H6 g (.inr (10, [.int (nI (3 + c)), .int (nI (3 + r)), .ref t, .int 0, .ref o]))) := fun b e n z => by
      have n' := n
      simp at n
      rw [yU_ne _ _ n.2]
      exact k6 b e (by simp [n.1]) (by rw [yU_ne _ _ n.2]; exact k4 b e (by simp [n.1]) (k03 b e n' z))
    have b1 := dB.g0 (tk := fun _ => 0) (ar := fun _ _ => 0) (ta := t) (o0 := o) (C := 3 + c) (R := 3 + r) hd hs hm hg k07 d7 (yU_same _ _ _)
    have dC := dg6_len (n := 3 + c) (by omega)
    have dR := dg6_len (n := 3 + r) (by omega)
    have bl := bdX_len (C := 3 + c) (R := 3 + r) (by omega) (by omega)
    refine ⟨⟨by decide, by decide⟩, b1.is, b1.app qG.k (U_lit (ix := 0) (bs := [98, 111, 97, 114, 100, 32]) (by decide) (by decide)) (yAs.lit (by decide)) (by simp only [List.length_append, List.length_cons, List.length_nil] <;> omega) (fun H8 b2 => ⟨_, yG.of b2.q rfl, ⟨by decide, by decide⟩, b2.is, b2.appI qG.k (by omega) (by simp only [List.length_append, List.length_cons, List.length_nil] <;> omega) (fun H9 b3 => ⟨⟨by decide, by decide⟩, b3.is, b3.app qG.k (U_lit (ix := 1) (bs := [32, 98, 121, 32]) (by decide) (by decide)) (yAs.lit (by decide)) (by simp only [List.length_append, List.length_cons, List.length_nil] <;> omega) (fun H10 b4 => ⟨_, yG.of b4.q rfl, ⟨by decide, by decide⟩, b4.is, b4.appI qG.k (by omega) (by simp only [List.length_append, List.length_cons, List.length_nil] <;> omega) (fun H11 b5 => ⟨⟨by decide, by decide⟩, b5.is, b5.app qG.k (U_lit (ix := 2) (bs := [59, 10]) (by decide) (by decide)) (yAs.lit (by decide)) (by simp only [List.length_append, List.length_cons, List.length_nil] <;> omega) (fun H12 b6 => ?_)⟩)⟩)⟩)⟩)⟩
    have e : [] ++ [98, 111, 97, 114, 100, 32] ++ dg (3 + c) ++ [32, 98, 121, 32] ++ dg (3 + r) ++ [59, 10] = bdX (3 + c) (3 + r) ++ [10] := by
      unfold bdX
      simp only [List.append_assoc, List.cons_append, List.nil_append]
    rw [e] at b6
    exact S_d74 zo (brd := true) (pre := bdX (3 + c) (3 + r) ++ [10]) ⟨by omega, by omega⟩ ⟨by omega, by omega⟩ (fun z => by cases z) (by rw [List.length_append, List.length_singleton]; omega) ng (fun xs os ta oa tk va' m' H' y1 y2 y3 y4 y5 y6 y7 => h true (3 + c) (3 + r) xs os g ta oa tk va' m' H' y1 y2 y3 y4 y5 y6 y7) b6 (by decide) (by decide)
end Drawn3
