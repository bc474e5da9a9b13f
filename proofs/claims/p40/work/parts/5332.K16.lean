/-! ===== an order told ===== -/
section OText
variable {G : eG} {M : eM} {H : yH}
set_option maxHeartbeats 4000000 in
set_option maxRecDepth 100000 in
theorem S_otext {a : Nat} {o : xO} {F : Nat → eM → yH → Prop} (ha : nO G H a o) (ho : oN o) (h : ∀ q H', yLe H H' → yTx G H' q (ordX o) → F q M H') : yCal G (11, 194, 229200) kX14_text [.ref a] M H (yFR F) := by
  obtain ⟨sa, t, hh, h2, h3, h4⟩ := ha
  have hn6 : o.1.2 < 1000000 := by have := ho.2.1; omega
  have dl := dg6_len hn6
  have y0 := (endX_len ho.2.2.2).1
  have y1 := (s1X_len ho.2.2.1.1).1
  have y2 := (s1X_len ho.2.2.1.2.1).1
  have y3 := (s1X_len ho.2.2.1.2.2).1
  have y4 := (t1X_len ho.2.2.2).1
  have hd3 : o.1.1 < 3 := ho.1
  have two : ∀ (H1 : yH) (e : Nat) (ca sl : Nat), yLe H H1 → yTx G H1 e (endX o) → ca ≤ 118 → sl ≤ 137924 → Yx (yX "text") (yZ G 194 229200 (yFR F)) G (eR (11, 194, 229200)) kX14_text 43 [(0, .ref a), (1, .ref e)] [] M H1 ca sl := by
    intro H1 e ca sl l1 te hca hsl
    have hh1 := l1 _ _ hh
    refine B_X14_text_43 G _ _ M H1 F a e ⟨_, yG.of hh1 rfl, fun z => ?_, fun z => ?_⟩
    · have h0 : o.1.1 = 0 := Nat.eq_zero_of_not_pos (fun y => nI_nle y (by omega) z)
      obtain ⟨f, s0, s1', s2, g1, g2, g3, g4, g5, g6, g7⟩ := h2 h0
      have e9 : ordX o = [] ++ [112, 117, 116, 32, 116] ++ dg o.1.2 ++ [32, 97, 116, 32] ++ s1X o.2.1.1 ++ [44] ++ s1X o.2.1.2.1 ++ [32, 116, 117, 114, 110, 101, 100, 32] ++ s1X o.2.1.2.2 ++ endX o := by unfold ordX tnm; rw [if_pos h0]; simp
      exact B_X14_text_90 G _ _ M H1 F a e ⟨⟨by omega, by omega⟩, fun q hq => ⟨⟨by omega, by omega⟩, U_init hq (fun H1x s1 => ⟨⟨by omega, by omega⟩, s1.is, U_app s1 (U_lit (ix := 26) (bs := [112, 117, 116, 32, 116]) (by decide) (by decide)) (yAs.lit (by decide)) (by simp only [List.length_append, List.length_cons, List.length_nil] <;> omega) (fun H2x s2 => ⟨_, yG.of (s2.le0 _ _ hh1) rfl, ⟨by omega, by omega⟩, s2.is, U_appI s2 hn6 (by simp only [List.length_append, List.length_cons, List.length_nil] <;> omega) (fun H3x s3 => ⟨⟨by omega, by omega⟩, s3.is, U_app s3 (U_lit (ix := 27) (bs := [32, 97, 116, 32]) (by decide) (by decide)) (yAs.lit (by decide)) (by simp only [List.length_append, List.length_cons, List.length_nil] <;> omega) (fun H4x s4 => ⟨_, yG.of (s4.le0 _ _ hh1) rfl, _, ⟨3, f, s4.le0 _ _ (l1 _ _ g1), vp_in_nI (n := 0) (by decide) (by decide), by rw [cl0]; exact g2⟩, ⟨by omega, by omega⟩, ((g5.le l1).le s4.le0).is, X_S1_1 ((g5.le l1).le s4.le0) ho.2.2.1.1 (fun r5 K5 l5q t5 => ⟨⟨by omega, by omega⟩, (s4.le l5q).is, U_app (s4.le l5q) t5 (as_s1 _) (by simp only [List.length_append, List.length_cons, List.length_nil] <;> omega) (fun H5x s5 => ⟨⟨by omega, by omega⟩, s5.is, U_app s5 (U_lit (ix := 28) (bs := [44]) (by decide) (by decide)) (yAs.lit (by decide)) (by simp only [List.length_append, List.length_cons, List.length_nil] <;> omega) (fun H6x s6 => ⟨_, yG.of (s6.le0 _ _ hh1) rfl, _, ⟨3, f, s6.le0 _ _ (l1 _ _ g1), vp_in_nI (n := 1) (by decide) (by decide), by rw [cl1]; exact g3⟩, ⟨by omega, by omega⟩, ((g6.le l1).le s6.le0).is, X_S1_1 ((g6.le l1).le s6.le0) ho.2.2.1.2.1 (fun r7 K7 l7q t7 => ⟨⟨by omega, by omega⟩, (s6.le l7q).is, U_app (s6.le l7q) t7 (as_s1 _) (by simp only [List.length_append, List.length_cons, List.length_nil] <;> omega) (fun H7x s7 => ⟨⟨by omega, by omega⟩, s7.is, U_app s7 (U_lit (ix := 29) (bs := [32, 116, 117, 114, 110, 101, 100, 32]) (by decide) (by decide)) (yAs.lit (by decide)) (by simp only [List.length_append, List.length_cons, List.length_nil] <;> omega) (fun H8x s8 => ⟨_, yG.of (s8.le0 _ _ hh1) rfl, _, ⟨3, f, s8.le0 _ _ (l1 _ _ g1), vp_in_nI (n := 2) (by decide) (by decide), by rw [cl2]; exact g4⟩, ⟨by omega, by omega⟩, ((g7.le l1).le s8.le0).is, X_S1_1 ((g7.le l1).le s8.le0) ho.2.2.1.2.2 (fun r9 K9 l9q t9 => ⟨⟨by omega, by omega⟩, (s8.le l9q).is, U_app (s8.le l9q) t9 (as_s1 _) (by simp only [List.length_append, List.length_cons, List.length_nil] <;> omega) (fun H9x s9 => ⟨⟨by omega, by omega⟩, s9.is, U_app s9 (te.le s9.le0) (as_end _) (by simp only [List.length_append, List.length_cons, List.length_nil] <;> omega) (fun H10x s10 => ⟨⟨by omega, by omega⟩, s10.is, U_str s10 (by simp only [List.length_append, List.length_cons, List.length_nil] <;> omega) (fun q H9 l9 t9 => ⟨⟨by omega, by omega⟩, h q H9 (l1.trans l9) (by rw [e9]; exact t9)⟩)⟩)⟩)⟩)⟩)⟩)⟩)⟩)⟩)⟩)⟩)⟩)⟩)⟩)⟩⟩
    · have hp : 0 < o.1.1 := Nat.pos_of_ne_zero (fun y => z (by rw [y]; exact Int32.le_refl _))
      refine B_X14_text_50 G _ _ M H1 F a e ⟨⟨by omega, by omega⟩, fun q hq => ⟨⟨by omega, by omega⟩, U_init hq (fun H1x s1 => ⟨_, yG.of (s1.le0 _ _ hh1) rfl, fun y => ?_, fun y => ?_⟩)⟩⟩
      · have h2 : o.1.1 = 2 := by
          have : o.1.1 ≠ 1 := fun e => y (by rw [e]; rfl)
          omega
        have e9 : ordX o = [] ++ [102, 105, 116, 32, 116] ++ dg o.1.2 ++ endX o := by unfold ordX tnm; rw [if_neg (by omega), if_neg (by omega)]; simp
        exact ⟨⟨by omega, by omega⟩, s1.is, U_app s1 (U_lit (ix := 25) (bs := [102, 105, 116, 32, 116]) (by decide) (by decide)) (yAs.lit (by decide)) (by simp only [List.length_append, List.length_cons, List.length_nil] <;> omega) (fun H2x s2 => ⟨_, yG.of (s2.le0 _ _ hh1) rfl, ⟨by omega, by omega⟩, s2.is, U_appI s2 hn6 (by simp only [List.length_append, List.length_cons, List.length_nil] <;> omega) (fun H3x s3 => ⟨⟨by omega, by omega⟩, s3.is, U_app s3 (te.le s3.le0) (as_end _) (by simp only [List.length_append, List.length_cons, List.length_nil] <;> omega) (fun H4x s4 => ⟨⟨by omega, by omega⟩, s4.is, U_str s4 (by simp only [List.length_append, List.length_cons, List.length_nil] <;> omega) (fun q H9 l9 t9 => ⟨⟨by omega, by omega⟩, h q H9 (l1.trans l9) (by rw [e9]; exact t9)⟩)⟩)⟩)⟩)⟩
      · have h1 : o.1.1 = 1 := nI_k (k := 1) (by omega) (by decide) y
        have e9 : ordX o = [] ++ [116, 97, 107, 101, 32, 116] ++ dg o.1.2 ++ endX o := by unfold ordX tnm; rw [if_neg (by omega), if_pos h1]; simp
        exact ⟨⟨by omega, by omega⟩, s1.is, U_app s1 (U_lit (ix := 24) (bs := [116, 97, 107, 101, 32, 116]) (by decide) (by decide)) (yAs.lit (by decide)) (by simp only [List.length_append, List.length_cons, List.length_nil] <;> omega) (fun H2x s2 => ⟨_, yG.of (s2.le0 _ _ hh1) rfl, ⟨by omega, by omega⟩, s2.is, U_appI s2 hn6 (by simp only [List.length_append, List.length_cons, List.length_nil] <;> omega) (fun H3x s3 => ⟨⟨by omega, by omega⟩, s3.is, U_app s3 (te.le s3.le0) (as_end _) (by simp only [List.length_append, List.length_cons, List.length_nil] <;> omega) (fun H4x s4 => ⟨⟨by omega, by omega⟩, s4.is, U_str s4 (by simp only [List.length_append, List.length_cons, List.length_nil] <;> omega) (fun q H9 l9 t9 => ⟨⟨by omega, by omega⟩, h q H9 (l1.trans l9) (by rw [e9]; exact t9)⟩)⟩)⟩)⟩)⟩
  refine C_X14_text G M H F a ?_
  cases htt : o.2.2.1 with
  | false =>
    refine Or.inl ⟨yG.of hh (by rw [h3 htt]; rfl), two H _ 0 0 (yLe.refl _) ?_ (by decide) (by decide)⟩
    have e : endX o = [59] := by unfold endX; rw [htt]; rfl
    rw [e]
    exact U_lit (ix := 6) (by decide) (by decide)
  | true =>
    obtain ⟨b, eb, hb1⟩ := h4 htt
    subst eb
    have e : endX o = [] ++ [32, 119, 104, 101, 110, 32] ++ t1X o.2.2.2 ++ [59] := by unfold endX; rw [htt]; simp
    refine Or.inr ⟨b, yG.of hh rfl, ⟨by decide, by decide⟩, fun q hq => ⟨⟨by decide, by decide⟩, U_init hq (fun H1x s1 => ⟨⟨by decide, by decide⟩, s1.is, U_app s1 (U_lit (ix := 7) (bs := [32, 119, 104, 101, 110, 32]) (by decide) (by decide)) (yAs.lit (by decide)) (by simp only [List.length_append, List.length_cons, List.length_nil] <;> omega) (fun H2x s2 => ⟨_, yG.of (s2.le0 _ _ hh) rfl, ⟨by decide, by decide⟩, (hb1.le s2.le0).is, X_T1_3 (hb1.le s2.le0) ho.2.2.2 (fun r0 K0 l0 t0 => ⟨⟨by decide, by decide⟩, (s2.le l0).is, U_app (s2.le l0) t0 (as_t1 _) (by simp only [List.length_append, List.length_cons, List.length_nil] <;> omega) (fun H3x s3 => ⟨⟨by decide, by decide⟩, s3.is, U_app s3 (U_lit (ix := 6) (bs := [59]) (by decide) (by decide)) (yAs.lit (by decide)) (by simp only [List.length_append, List.length_cons, List.length_nil] <;> omega) (fun H4x s4 => ⟨⟨by decide, by decide⟩, s4.is, U_str s4 (by simp only [List.length_append, List.length_cons, List.length_nil] <;> omega) (fun q H9 l9 t9 => two H9 q _ _ l9 (by rw [e]; exact t9) (by decide) (by decide))⟩)⟩)⟩)⟩)⟩)⟩⟩
end OText
