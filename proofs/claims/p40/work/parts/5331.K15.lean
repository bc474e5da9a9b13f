/-! ===== expressions told ===== -/
theorem nLf.is {H : yH} {a : Nat} {x : xLf} (h : nLf H a x) : yIs H a 11 := yIs.of h
theorem sgI_11 : vp_in (nI 11 - 11) 9 := by rw [show (nI 11 - 11 : Int32) = nI 0 from by decide]; exact vp_in_nI (by decide) (by decide)
theorem U_sg11 {G : eG} {H : yH} : yTx G H (G.1 (1500 + (nI 11 - 11).toNatClampNeg)) [43] := by rw [show (nI 11 - 11).toNatClampNeg = 0 from by decide]; exact U_sgn (by decide) (by decide)
theorem sgI_12 : vp_in (nI 12 - 11) 9 := by rw [show (nI 12 - 11 : Int32) = nI 1 from by decide]; exact vp_in_nI (by decide) (by decide)
theorem U_sg12 {G : eG} {H : yH} : yTx G H (G.1 (1500 + (nI 12 - 11).toNatClampNeg)) [45] := by rw [show (nI 12 - 11).toNatClampNeg = 1 from by decide]; exact U_sgn (by decide) (by decide)
theorem sgI_13 : vp_in (nI 13 - 11) 9 := by rw [show (nI 13 - 11 : Int32) = nI 2 from by decide]; exact vp_in_nI (by decide) (by decide)
theorem U_sg13 {G : eG} {H : yH} : yTx G H (G.1 (1500 + (nI 13 - 11).toNatClampNeg)) [42] := by rw [show (nI 13 - 11).toNatClampNeg = 2 from by decide]; exact U_sgn (by decide) (by decide)
theorem sgI_14 : vp_in (nI 14 - 11) 9 := by rw [show (nI 14 - 11 : Int32) = nI 3 from by decide]; exact vp_in_nI (by decide) (by decide)
theorem U_sg14 {G : eG} {H : yH} : yTx G H (G.1 (1500 + (nI 14 - 11).toNatClampNeg)) [47] := by rw [show (nI 14 - 11).toNatClampNeg = 3 from by decide]; exact U_sgn (by decide) (by decide)
theorem sgI_15 : vp_in (nI 15 - 11) 9 := by rw [show (nI 15 - 11 : Int32) = nI 4 from by decide]; exact vp_in_nI (by decide) (by decide)
theorem U_sg15 {G : eG} {H : yH} : yTx G H (G.1 (1500 + (nI 15 - 11).toNatClampNeg)) [60] := by rw [show (nI 15 - 11).toNatClampNeg = 4 from by decide]; exact U_sgn (by decide) (by decide)
theorem sgI_16 : vp_in (nI 16 - 11) 9 := by rw [show (nI 16 - 11 : Int32) = nI 5 from by decide]; exact vp_in_nI (by decide) (by decide)
theorem U_sg16 {G : eG} {H : yH} : yTx G H (G.1 (1500 + (nI 16 - 11).toNatClampNeg)) [62] := by rw [show (nI 16 - 11).toNatClampNeg = 5 from by decide]; exact U_sgn (by decide) (by decide)
theorem sgI_17 : vp_in (nI 17 - 11) 9 := by rw [show (nI 17 - 11 : Int32) = nI 6 from by decide]; exact vp_in_nI (by decide) (by decide)
theorem U_sg17 {G : eG} {H : yH} : yTx G H (G.1 (1500 + (nI 17 - 11).toNatClampNeg)) [61] := by rw [show (nI 17 - 11).toNatClampNeg = 6 from by decide]; exact U_sgn (by decide) (by decide)
theorem sgI_18 : vp_in (nI 18 - 11) 9 := by rw [show (nI 18 - 11 : Int32) = nI 7 from by decide]; exact vp_in_nI (by decide) (by decide)
theorem U_sg18 {G : eG} {H : yH} : yTx G H (G.1 (1500 + (nI 18 - 11).toNatClampNeg)) [60, 61] := by rw [show (nI 18 - 11).toNatClampNeg = 7 from by decide]; exact U_sgn (by decide) (by decide)
theorem sgI_19 : vp_in (nI 19 - 11) 9 := by rw [show (nI 19 - 11 : Int32) = nI 8 from by decide]; exact vp_in_nI (by decide) (by decide)
theorem U_sg19 {G : eG} {H : yH} : yTx G H (G.1 (1500 + (nI 19 - 11).toNatClampNeg)) [62, 61] := by rw [show (nI 19 - 11).toNatClampNeg = 8 from by decide]; exact U_sgn (by decide) (by decide)
theorem wdI_1 : vp_in (nI 1 - 1) 7 := by rw [show (nI 1 - 1 : Int32) = nI 0 from by decide]; exact vp_in_nI (by decide) (by decide)
theorem U_wd1 {G : eG} {H : yH} : yTx G H (G.1 (1400 + (nI 1 - 1).toNatClampNeg)) [114, 111, 117, 110, 100] := by rw [show (nI 1 - 1).toNatClampNeg = 0 from by decide]; exact U_wrd (by decide) (by decide)
theorem wdI_2 : vp_in (nI 2 - 1) 7 := by rw [show (nI 2 - 1 : Int32) = nI 1 from by decide]; exact vp_in_nI (by decide) (by decide)
theorem U_wd2 {G : eG} {H : yH} : yTx G H (G.1 (1400 + (nI 2 - 1).toNatClampNeg)) [112, 108, 97, 99, 101, 100] := by rw [show (nI 2 - 1).toNatClampNeg = 1 from by decide]; exact U_wrd (by decide) (by decide)
theorem wdI_3 : vp_in (nI 3 - 1) 7 := by rw [show (nI 3 - 1 : Int32) = nI 2 from by decide]; exact vp_in_nI (by decide) (by decide)
theorem U_wd3 {G : eG} {H : yH} : yTx G H (G.1 (1400 + (nI 3 - 1).toNatClampNeg)) [109, 97, 116, 99, 104, 101, 115] := by rw [show (nI 3 - 1).toNatClampNeg = 2 from by decide]; exact U_wrd (by decide) (by decide)
theorem wdI_4 : vp_in (nI 4 - 1) 7 := by rw [show (nI 4 - 1 : Int32) = nI 3 from by decide]; exact vp_in_nI (by decide) (by decide)
theorem U_wd4 {G : eG} {H : yH} : yTx G H (G.1 (1400 + (nI 4 - 1).toNatClampNeg)) [112, 111, 105, 110, 116, 115] := by rw [show (nI 4 - 1).toNatClampNeg = 3 from by decide]; exact U_wrd (by decide) (by decide)
theorem wdI_5 : vp_in (nI 5 - 1) 7 := by rw [show (nI 5 - 1 : Int32) = nI 4 from by decide]; exact vp_in_nI (by decide) (by decide)
theorem U_wd5 {G : eG} {H : yH} : yTx G H (G.1 (1400 + (nI 5 - 1).toNatClampNeg)) [114, 105, 110, 103, 115] := by rw [show (nI 5 - 1).toNatClampNeg = 4 from by decide]; exact U_wrd (by decide) (by decide)
theorem wdI_6 : vp_in (nI 6 - 1) 7 := by rw [show (nI 6 - 1 : Int32) = nI 5 from by decide]; exact vp_in_nI (by decide) (by decide)
theorem U_wd6 {G : eG} {H : yH} : yTx G H (G.1 (1400 + (nI 6 - 1).toNatClampNeg)) [102, 114, 101, 101] := by rw [show (nI 6 - 1).toNatClampNeg = 5 from by decide]; exact U_wrd (by decide) (by decide)
section XSpec
variable {G : eG} {M : eM} {H : yH}
set_option maxHeartbeats 4000000 in
set_option maxRecDepth 100000 in
theorem X_Lf_0 {a : Nat} {x : xLf} {F : Nat → eM → yH → Prop} (ha : nLf H a x) (hx : lfN x) (h : ∀ q H', yLe H H' → yTx G H' q (lfX x) → F q M H') : yCal G (7, 6, 5600) kX13_text [.ref a] M H (yFR F) := by
  have h8 := hx.1
  have h31 : x.1 < 2 ^ 31 := by omega
  have hh : H a = some (.inr (11, [.int (nI x.1), .int (nI x.2), .null, .null])) := ha
  refine C_X13_text_0 G M H F a ⟨_, yG.of hh rfl, fun q => absurd q (by rw [nI_toInt h31]; omega), fun q => ?_, fun q => ?_, fun q => ?_, fun q => ?_, fun q => ?_, fun q => ?_, fun q => ?_, fun q => ?_, fun q => ?_, fun q => ?_, fun q => ?_, fun q => ?_, fun q => ?_, fun q => ?_, fun q => ?_, fun q => ?_, fun q => ?_, fun q => ?_, fun q => ?_, fun q => ?_, fun q => ?_, fun q => ?_, fun q => ?_, fun q => ?_, fun q => ?_⟩
  · have hk := nI_k (k := 0) h31 (by decide) q
    have hn : x.2 < 1000000 := hx.2.1 hk
    have e9 : lfX x = [] ++ [] ++ dg x.2 := by unfold lfX; rw [if_pos hk]; simp
    have dl := dg6_len hn
    exact B_X13_text_0_120 G _ _ M H F a ⟨⟨by decide, by decide⟩, fun q hq => ⟨⟨by decide, by decide⟩, U_init hq (fun H1 s1 => ⟨⟨by decide, by decide⟩, s1.is, U_app s1 (U_lit (ix := 8) (bs := []) (by decide) (by decide)) (yAs.lit (by decide)) (by simp only [List.length_append, List.length_cons, List.length_nil] <;> omega) (fun H2 s2 => ⟨_, yG.of (s2.le0 _ _ hh) rfl, ⟨by decide, by decide⟩, s2.is, U_appI s2 hn (by simp only [List.length_append, List.length_cons, List.length_nil] <;> omega) (fun H3 s3 => ⟨⟨by decide, by decide⟩, s3.is, U_str s3 (by simp only [List.length_append, List.length_cons, List.length_nil] <;> omega) (fun q H9 l9 t9 => ⟨⟨by decide, by decide⟩, h q H9 l9 (by rw [e9]; exact t9)⟩)⟩)⟩)⟩)⟩⟩
  · have hk := nI_k (k := 1) h31 (by decide) q
    have e9 : lfX x = [114, 111, 117, 110, 100] := by unfold lfX; rw [if_neg (by omega), if_pos (by omega), hk]; rfl
    rw [hk] at hh
    exact B_X13_text_0_448 G _ _ M H F a ⟨nI 1, yG.of hh rfl, fun z => absurd z (by decide), fun _ => ⟨nI 1, yG.of hh rfl, wdI_1, ⟨by decide, by decide⟩, h _ H (yLe.refl _) (by rw [e9]; exact U_wd1)⟩⟩
  · have hk := nI_k (k := 2) h31 (by decide) q
    have e9 : lfX x = [112, 108, 97, 99, 101, 100] := by unfold lfX; rw [if_neg (by omega), if_pos (by omega), hk]; rfl
    rw [hk] at hh
    exact B_X13_text_0_448 G _ _ M H F a ⟨nI 2, yG.of hh rfl, fun z => absurd z (by decide), fun _ => ⟨nI 2, yG.of hh rfl, wdI_2, ⟨by decide, by decide⟩, h _ H (yLe.refl _) (by rw [e9]; exact U_wd2)⟩⟩
  · have hk := nI_k (k := 3) h31 (by decide) q
    have e9 : lfX x = [109, 97, 116, 99, 104, 101, 115] := by unfold lfX; rw [if_neg (by omega), if_pos (by omega), hk]; rfl
    rw [hk] at hh
    exact B_X13_text_0_448 G _ _ M H F a ⟨nI 3, yG.of hh rfl, fun z => absurd z (by decide), fun _ => ⟨nI 3, yG.of hh rfl, wdI_3, ⟨by decide, by decide⟩, h _ H (yLe.refl _) (by rw [e9]; exact U_wd3)⟩⟩
  · have hk := nI_k (k := 4) h31 (by decide) q
    have e9 : lfX x = [112, 111, 105, 110, 116, 115] := by unfold lfX; rw [if_neg (by omega), if_pos (by omega), hk]; rfl
    rw [hk] at hh
    exact B_X13_text_0_448 G _ _ M H F a ⟨nI 4, yG.of hh rfl, fun z => absurd z (by decide), fun _ => ⟨nI 4, yG.of hh rfl, wdI_4, ⟨by decide, by decide⟩, h _ H (yLe.refl _) (by rw [e9]; exact U_wd4)⟩⟩
  · have hk := nI_k (k := 5) h31 (by decide) q
    have e9 : lfX x = [114, 105, 110, 103, 115] := by unfold lfX; rw [if_neg (by omega), if_pos (by omega), hk]; rfl
    rw [hk] at hh
    exact B_X13_text_0_448 G _ _ M H F a ⟨nI 5, yG.of hh rfl, fun z => absurd z (by decide), fun _ => ⟨nI 5, yG.of hh rfl, wdI_5, ⟨by decide, by decide⟩, h _ H (yLe.refl _) (by rw [e9]; exact U_wd5)⟩⟩
  · have hk := nI_k (k := 6) h31 (by decide) q
    have e9 : lfX x = [102, 114, 101, 101] := by unfold lfX; rw [if_neg (by omega), if_pos (by omega), hk]; rfl
    rw [hk] at hh
    exact B_X13_text_0_448 G _ _ M H F a ⟨nI 6, yG.of hh rfl, fun z => absurd z (by decide), fun _ => ⟨nI 6, yG.of hh rfl, wdI_6, ⟨by decide, by decide⟩, h _ H (yLe.refl _) (by rw [e9]; exact U_wd6)⟩⟩
  · have hk := nI_k (k := 7) h31 (by decide) q
    have hn : x.2 < 16 := hx.2.2 hk
    have hn6 : x.2 < 1000000 := by omega
    have dl := dg6_len hn6
    have e9 : lfX x = [] ++ [119, 97, 121, 115, 32, 111, 102, 32, 116] ++ dg x.2 := by unfold lfX tnm; rw [if_neg (by omega), if_neg (by omega)]; simp
    exact B_X13_text_0_143 G _ _ M H F a ⟨⟨by decide, by decide⟩, fun q hq => ⟨⟨by decide, by decide⟩, U_init hq (fun H1 s1 => ⟨⟨by decide, by decide⟩, s1.is, U_app s1 (U_lit (ix := 9) (bs := [119, 97, 121, 115, 32, 111, 102, 32, 116]) (by decide) (by decide)) (yAs.lit (by decide)) (by simp only [List.length_append, List.length_cons, List.length_nil] <;> omega) (fun H2 s2 => ⟨_, yG.of (s2.le0 _ _ hh) rfl, ⟨by decide, by decide⟩, s2.is, U_appI s2 hn6 (by simp only [List.length_append, List.length_cons, List.length_nil] <;> omega) (fun H3 s3 => ⟨⟨by decide, by decide⟩, s3.is, U_str s3 (by simp only [List.length_append, List.length_cons, List.length_nil] <;> omega) (fun q H9 l9 t9 => ⟨⟨by decide, by decide⟩, h q H9 l9 (by rw [e9]; exact t9)⟩)⟩)⟩)⟩)⟩⟩
  · exact absurd (nI_k (k := 8) h31 (by decide) q) (by omega)
  · exact absurd (nI_k (k := 9) h31 (by decide) q) (by omega)
  · exact absurd (nI_k (k := 10) h31 (by decide) q) (by omega)
  · exact absurd (nI_k (k := 11) h31 (by decide) q) (by omega)
  · exact absurd (nI_k (k := 12) h31 (by decide) q) (by omega)
  · exact absurd (nI_k (k := 13) h31 (by decide) q) (by omega)
  · exact absurd (nI_k (k := 14) h31 (by decide) q) (by omega)
  · exact absurd (nI_k (k := 15) h31 (by decide) q) (by omega)
  · exact absurd (nI_k (k := 16) h31 (by decide) q) (by omega)
  · exact absurd (nI_k (k := 17) h31 (by decide) q) (by omega)
  · exact absurd (nI_k (k := 18) h31 (by decide) q) (by omega)
  · exact absurd (nI_k (k := 19) h31 (by decide) q) (by omega)
  · exact absurd (nI_k (k := 20) h31 (by decide) q) (by omega)
  · exact absurd (nI_k (k := 21) h31 (by decide) q) (by omega)
  · exact absurd (nI_k (k := 22) h31 (by decide) q) (by omega)
  · exact absurd (nI_k (k := 23) h31 (by decide) q) (by omega)
  · exact absurd (nI_k (k := 24) h31 (by decide) q) (by omega)
set_option maxHeartbeats 4000000 in
set_option maxRecDepth 100000 in
theorem X_Lf_1 {a : Nat} {x : xLf} {F : Nat → eM → yH → Prop} (ha : nLf H a x) (hx : lfN x) (h : ∀ q H', yLe H H' → yTx G H' q (lfX x) → F q M H') : yCal G (8, 21, 23400) kX13_text [.ref a] M H (yFR F) := by
  have h8 := hx.1
  have h31 : x.1 < 2 ^ 31 := by omega
  have hh : H a = some (.inr (11, [.int (nI x.1), .int (nI x.2), .null, .null])) := ha
  refine C_X13_text_1 G M H F a ⟨_, yG.of hh rfl, fun q => absurd q (by rw [nI_toInt h31]; omega), fun q => ?_, fun q => ?_, fun q => ?_, fun q => ?_, fun q => ?_, fun q => ?_, fun q => ?_, fun q => ?_, fun q => ?_, fun q => ?_, fun q => ?_, fun q => ?_, fun q => ?_, fun q => ?_, fun q => ?_, fun q => ?_, fun q => ?_, fun q => ?_, fun q => ?_, fun q => ?_, fun q => ?_, fun q => ?_, fun q => ?_, fun q => ?_, fun q => ?_⟩
  · have hk := nI_k (k := 0) h31 (by decide) q
    have hn : x.2 < 1000000 := hx.2.1 hk
    have e9 : lfX x = [] ++ [] ++ dg x.2 := by unfold lfX; rw [if_pos hk]; simp
    have dl := dg6_len hn
    exact B_X13_text_1_120 G _ _ M H F a ⟨⟨by decide, by decide⟩, fun q hq => ⟨⟨by decide, by decide⟩, U_init hq (fun H1 s1 => ⟨⟨by decide, by decide⟩, s1.is, U_app s1 (U_lit (ix := 8) (bs := []) (by decide) (by decide)) (yAs.lit (by decide)) (by simp only [List.length_append, List.length_cons, List.length_nil] <;> omega) (fun H2 s2 => ⟨_, yG.of (s2.le0 _ _ hh) rfl, ⟨by decide, by decide⟩, s2.is, U_appI s2 hn (by simp only [List.length_append, List.length_cons, List.length_nil] <;> omega) (fun H3 s3 => ⟨⟨by decide, by decide⟩, s3.is, U_str s3 (by simp only [List.length_append, List.length_cons, List.length_nil] <;> omega) (fun q H9 l9 t9 => ⟨⟨by decide, by decide⟩, h q H9 l9 (by rw [e9]; exact t9)⟩)⟩)⟩)⟩)⟩⟩
  · have hk := nI_k (k := 1) h31 (by decide) q
    have e9 : lfX x = [114, 111, 117, 110, 100] := by unfold lfX; rw [if_neg (by omega), if_pos (by omega), hk]; rfl
    rw [hk] at hh
    exact B_X13_text_1_448 G _ _ M H F a ⟨nI 1, yG.of hh rfl, fun z => absurd z (by decide), fun _ => ⟨nI 1, yG.of hh rfl, wdI_1, ⟨by decide, by decide⟩, h _ H (yLe.refl _) (by rw [e9]; exact U_wd1)⟩⟩
  · have hk := nI_k (k := 2) h31 (by decide) q
    have e9 : lfX x = [112, 108, 97, 99, 101, 100] := by unfold lfX; rw [if_neg (by omega), if_pos (by omega), hk]; rfl
    rw [hk] at hh
    exact B_X13_text_1_448 G _ _ M H F a ⟨nI 2, yG.of hh rfl, fun z => absurd z (by decide), fun _ => ⟨nI 2, yG.of hh rfl, wdI_2, ⟨by decide, by decide⟩, h _ H (yLe.refl _) (by rw [e9]; exact U_wd2)⟩⟩
  · have hk := nI_k (k := 3) h31 (by decide) q
    have e9 : lfX x = [109, 97, 116, 99, 104, 101, 115] := by unfold lfX; rw [if_neg (by omega), if_pos (by omega), hk]; rfl
    rw [hk] at hh
    exact B_X13_text_1_448 G _ _ M H F a ⟨nI 3, yG.of hh rfl, fun z => absurd z (by decide), fun _ => ⟨nI 3, yG.of hh rfl, wdI_3, ⟨by decide, by decide⟩, h _ H (yLe.refl _) (by rw [e9]; exact U_wd3)⟩⟩
  · have hk := nI_k (k := 4) h31 (by decide) q
    have e9 : lfX x = [112, 111, 105, 110, 116, 115] := by unfold lfX; rw [if_neg (by omega), if_pos (by omega), hk]; rfl
    rw [hk] at hh
    exact B_X13_text_1_448 G _ _ M H F a ⟨nI 4, yG.of hh rfl, fun z => absurd z (by decide), fun _ => ⟨nI 4, yG.of hh rfl, wdI_4, ⟨by decide, by decide⟩, h _ H (yLe.refl _) (by rw [e9]; exact U_wd4)⟩⟩
  · have hk := nI_k (k := 5) h31 (by decide) q
    have e9 : lfX x = [114, 105, 110, 103, 115] := by unfold lfX; rw [if_neg (by omega), if_pos (by omega), hk]; rfl
    rw [hk] at hh
    exact B_X13_text_1_448 G _ _ M H F a ⟨nI 5, yG.of hh rfl, fun z => absurd z (by decide), fun _ => ⟨nI 5, yG.of hh rfl, wdI_5, ⟨by decide, by decide⟩, h _ H (yLe.refl _) (by rw [e9]; exact U_wd5)⟩⟩
  · have hk := nI_k (k := 6) h31 (by decide) q
    have e9 : lfX x = [102, 114, 101, 101] := by unfold lfX; rw [if_neg (by omega), if_pos (by omega), hk]; rfl
    rw [hk] at hh
    exact B_X13_text_1_448 G _ _ M H F a ⟨nI 6, yG.of hh rfl, fun z => absurd z (by decide), fun _ => ⟨nI 6, yG.of hh rfl, wdI_6, ⟨by decide, by decide⟩, h _ H (yLe.refl _) (by rw [e9]; exact U_wd6)⟩⟩
  · have hk := nI_k (k := 7) h31 (by decide) q
    have hn : x.2 < 16 := hx.2.2 hk
    have hn6 : x.2 < 1000000 := by omega
    have dl := dg6_len hn6
    have e9 : lfX x = [] ++ [119, 97, 121, 115, 32, 111, 102, 32, 116] ++ dg x.2 := by unfold lfX tnm; rw [if_neg (by omega), if_neg (by omega)]; simp
    exact B_X13_text_1_143 G _ _ M H F a ⟨⟨by decide, by decide⟩, fun q hq => ⟨⟨by decide, by decide⟩, U_init hq (fun H1 s1 => ⟨⟨by decide, by decide⟩, s1.is, U_app s1 (U_lit (ix := 9) (bs := [119, 97, 121, 115, 32, 111, 102, 32, 116]) (by decide) (by decide)) (yAs.lit (by decide)) (by simp only [List.length_append, List.length_cons, List.length_nil] <;> omega) (fun H2 s2 => ⟨_, yG.of (s2.le0 _ _ hh) rfl, ⟨by decide, by decide⟩, s2.is, U_appI s2 hn6 (by simp only [List.length_append, List.length_cons, List.length_nil] <;> omega) (fun H3 s3 => ⟨⟨by decide, by decide⟩, s3.is, U_str s3 (by simp only [List.length_append, List.length_cons, List.length_nil] <;> omega) (fun q H9 l9 t9 => ⟨⟨by decide, by decide⟩, h q H9 l9 (by rw [e9]; exact t9)⟩)⟩)⟩)⟩)⟩⟩
  · exact absurd (nI_k (k := 8) h31 (by decide) q) (by omega)
  · exact absurd (nI_k (k := 9) h31 (by decide) q) (by omega)
  · exact absurd (nI_k (k := 10) h31 (by decide) q) (by omega)
  · exact absurd (nI_k (k := 11) h31 (by decide) q) (by omega)
  · exact absurd (nI_k (k := 12) h31 (by decide) q) (by omega)
  · exact absurd (nI_k (k := 13) h31 (by decide) q) (by omega)
  · exact absurd (nI_k (k := 14) h31 (by decide) q) (by omega)
  · exact absurd (nI_k (k := 15) h31 (by decide) q) (by omega)
  · exact absurd (nI_k (k := 16) h31 (by decide) q) (by omega)
  · exact absurd (nI_k (k := 17) h31 (by decide) q) (by omega)
  · exact absurd (nI_k (k := 18) h31 (by decide) q) (by omega)
  · exact absurd (nI_k (k := 19) h31 (by decide) q) (by omega)
  · exact absurd (nI_k (k := 20) h31 (by decide) q) (by omega)
  · exact absurd (nI_k (k := 21) h31 (by decide) q) (by omega)
  · exact absurd (nI_k (k := 22) h31 (by decide) q) (by omega)
  · exact absurd (nI_k (k := 23) h31 (by decide) q) (by omega)
  · exact absurd (nI_k (k := 24) h31 (by decide) q) (by omega)
set_option maxHeartbeats 4000000 in
set_option maxRecDepth 100000 in
theorem X_S1_1 {a : Nat} {x : xS1} {F : Nat → eM → yH → Prop} (ha : nS1 H a x) (hx : s1N x) (h : ∀ q H', yLe H H' → yTx G H' q (s1X x) → F q M H') : yCal G (8, 21, 23400) kX13_text [.ref a] M H (yFR F) := by
  have h15 := hx.1
  have h31 : x.1 < 2 ^ 31 := by omega
  have y1 := (lfX_len hx.2.2.1).1
  have y2 := (lfX_len hx.2.2.2).1
  by_cases h8 : x.1 < 8
  · have e : s1X x = lfX (x.1, x.2.1) := by unfold s1X; rw [if_pos h8]
    rw [e] at h
    exact X_Lf_1 (ha.1 h8) (hx.2.1 h8) h
  by_cases h9 : x.1 = 8
  · obtain ⟨p, hh, hp1⟩ := ha.2.1 h9
    rw [h9] at hh
    have e9 : s1X x = [] ++ [45] ++ lfX x.2.2.1 := by unfold s1X; rw [if_neg h8, if_pos h9]; simp
    refine C_X13_text_1 G M H F a ⟨_, yG.of hh rfl, fun q => absurd q (by decide), fun q => absurd q (by decide), fun q => absurd q (by decide), fun q => absurd q (by decide), fun q => absurd q (by decide), fun q => absurd q (by decide), fun q => absurd q (by decide), fun q => absurd q (by decide), fun q => absurd q (by decide), fun q => ?_, fun q => absurd q (by decide), fun q => absurd q (by decide), fun q => absurd q (by decide), fun q => absurd q (by decide), fun q => absurd q (by decide), fun q => absurd q (by decide), fun q => absurd q (by decide), fun q => absurd q (by decide), fun q => absurd q (by decide), fun q => absurd q (by decide), fun q => absurd q (by decide), fun q => absurd q (by decide), fun q => absurd q (by decide), fun q => absurd q (by decide), fun q => absurd q (by decide), fun q => absurd q (by decide)⟩
    exact B_X13_text_1_166 G _ _ M H F a ⟨⟨by decide, by decide⟩, fun q hq => ⟨⟨by decide, by decide⟩, U_init hq (fun H1 s1 => ⟨⟨by decide, by decide⟩, s1.is, U_app s1 (U_lit (ix := 10) (bs := [45]) (by decide) (by decide)) (yAs.lit (by decide)) (by simp only [List.length_append, List.length_cons, List.length_nil] <;> omega) (fun H2 s2 => ⟨_, yG.of (s2.le0 _ _ hh) rfl, ⟨by decide, by decide⟩, (hp1.le s2.le0).is, X_Lf_0 (hp1.le s2.le0) hx.2.2.1 (fun r3 K3 l3 t3 => ⟨⟨by decide, by decide⟩, (s2.le l3).is, U_app (s2.le l3) t3 (as_lf _) (by simp only [List.length_append, List.length_cons, List.length_nil] <;> omega) (fun H3 s3 => ⟨⟨by decide, by decide⟩, s3.is, U_str s3 (by simp only [List.length_append, List.length_cons, List.length_nil] <;> omega) (fun q H9 l9 t9 => ⟨⟨by decide, by decide⟩, h q H9 l9 (by rw [e9]; exact t9)⟩)⟩)⟩)⟩)⟩)⟩⟩
  obtain ⟨p, r0, hh, hp1, hp2⟩ := ha.2.2 (by omega)
  refine C_X13_text_1 G M H F a ⟨_, yG.of hh rfl, fun q => absurd q (by rw [nI_toInt h31]; omega), fun q => ?_, fun q => ?_, fun q => ?_, fun q => ?_, fun q => ?_, fun q => ?_, fun q => ?_, fun q => ?_, fun q => ?_, fun q => ?_, fun q => ?_, fun q => ?_, fun q => ?_, fun q => ?_, fun q => ?_, fun q => ?_, fun q => ?_, fun q => ?_, fun q => ?_, fun q => ?_, fun q => ?_, fun q => ?_, fun q => ?_, fun q => ?_, fun q => ?_⟩
  · exact absurd (nI_k (k := 0) h31 (by decide) q) (by omega)
  · exact absurd (nI_k (k := 1) h31 (by decide) q) (by omega)
  · exact absurd (nI_k (k := 2) h31 (by decide) q) (by omega)
  · exact absurd (nI_k (k := 3) h31 (by decide) q) (by omega)
  · exact absurd (nI_k (k := 4) h31 (by decide) q) (by omega)
  · exact absurd (nI_k (k := 5) h31 (by decide) q) (by omega)
  · exact absurd (nI_k (k := 6) h31 (by decide) q) (by omega)
  · exact absurd (nI_k (k := 7) h31 (by decide) q) (by omega)
  · exact absurd (nI_k (k := 8) h31 (by decide) q) (by omega)
  · have hk := nI_k (k := 9) h31 (by decide) q
    have e9 : s1X x = [] ++ [109, 105, 110, 40] ++ lfX x.2.2.1 ++ [44] ++ lfX x.2.2.2 ++ [41] := by unfold s1X; rw [if_neg h8, if_neg h9, if_pos hk]; simp
    exact B_X13_text_1_192 G _ _ M H F a ⟨⟨by decide, by decide⟩, fun q hq => ⟨⟨by decide, by decide⟩, U_init hq (fun H1 s1 => ⟨⟨by decide, by decide⟩, s1.is, U_app s1 (U_lit (ix := 11) (bs := [109, 105, 110, 40]) (by decide) (by decide)) (yAs.lit (by decide)) (by simp only [List.length_append, List.length_cons, List.length_nil] <;> omega) (fun H2 s2 => ⟨_, yG.of (s2.le0 _ _ hh) rfl, ⟨by decide, by decide⟩, (hp1.le s2.le0).is, X_Lf_0 (hp1.le s2.le0) hx.2.2.1 (fun r3 K3 l3 t3 => ⟨⟨by decide, by decide⟩, (s2.le l3).is, U_app (s2.le l3) t3 (as_lf _) (by simp only [List.length_append, List.length_cons, List.length_nil] <;> omega) (fun H3 s3 => ⟨⟨by decide, by decide⟩, s3.is, U_app s3 (U_lit (ix := 12) (bs := [44]) (by decide) (by decide)) (yAs.lit (by decide)) (by simp only [List.length_append, List.length_cons, List.length_nil] <;> omega) (fun H4 s4 => ⟨_, yG.of (s4.le0 _ _ hh) rfl, ⟨by decide, by decide⟩, (hp2.le s4.le0).is, X_Lf_0 (hp2.le s4.le0) hx.2.2.2 (fun r5 K5 l5 t5 => ⟨⟨by decide, by decide⟩, (s4.le l5).is, U_app (s4.le l5) t5 (as_lf _) (by simp only [List.length_append, List.length_cons, List.length_nil] <;> omega) (fun H5 s5 => ⟨⟨by decide, by decide⟩, s5.is, U_app s5 (U_lit (ix := 13) (bs := [41]) (by decide) (by decide)) (yAs.lit (by decide)) (by simp only [List.length_append, List.length_cons, List.length_nil] <;> omega) (fun H6 s6 => ⟨⟨by decide, by decide⟩, s6.is, U_str s6 (by simp only [List.length_append, List.length_cons, List.length_nil] <;> omega) (fun q H9 l9 t9 => ⟨⟨by decide, by decide⟩, h q H9 l9 (by rw [e9]; exact t9)⟩)⟩)⟩)⟩)⟩)⟩)⟩)⟩)⟩)⟩⟩
  · have hk := nI_k (k := 10) h31 (by decide) q
    have e9 : s1X x = [] ++ [109, 97, 120, 40] ++ lfX x.2.2.1 ++ [32, 44, 32] ++ lfX x.2.2.2 ++ [41] := by unfold s1X; rw [if_neg h8, if_neg h9, if_neg (by omega), if_pos hk]; simp
    exact B_X13_text_1_238 G _ _ M H F a ⟨⟨by decide, by decide⟩, fun q hq => ⟨⟨by decide, by decide⟩, U_init hq (fun H1 s1 => ⟨⟨by decide, by decide⟩, s1.is, U_app s1 (U_lit (ix := 14) (bs := [109, 97, 120, 40]) (by decide) (by decide)) (yAs.lit (by decide)) (by simp only [List.length_append, List.length_cons, List.length_nil] <;> omega) (fun H2 s2 => ⟨_, yG.of (s2.le0 _ _ hh) rfl, ⟨by decide, by decide⟩, (hp1.le s2.le0).is, X_Lf_0 (hp1.le s2.le0) hx.2.2.1 (fun r3 K3 l3 t3 => ⟨⟨by decide, by decide⟩, (s2.le l3).is, U_app (s2.le l3) t3 (as_lf _) (by simp only [List.length_append, List.length_cons, List.length_nil] <;> omega) (fun H3 s3 => ⟨⟨by decide, by decide⟩, s3.is, U_app s3 (U_lit (ix := 15) (bs := [32, 44, 32]) (by decide) (by decide)) (yAs.lit (by decide)) (by simp only [List.length_append, List.length_cons, List.length_nil] <;> omega) (fun H4 s4 => ⟨_, yG.of (s4.le0 _ _ hh) rfl, ⟨by decide, by decide⟩, (hp2.le s4.le0).is, X_Lf_0 (hp2.le s4.le0) hx.2.2.2 (fun r5 K5 l5 t5 => ⟨⟨by decide, by decide⟩, (s4.le l5).is, U_app (s4.le l5) t5 (as_lf _) (by simp only [List.length_append, List.length_cons, List.length_nil] <;> omega) (fun H5 s5 => ⟨⟨by decide, by decide⟩, s5.is, U_app s5 (U_lit (ix := 13) (bs := [41]) (by decide) (by decide)) (yAs.lit (by decide)) (by simp only [List.length_append, List.length_cons, List.length_nil] <;> omega) (fun H6 s6 => ⟨⟨by decide, by decide⟩, s6.is, U_str s6 (by simp only [List.length_append, List.length_cons, List.length_nil] <;> omega) (fun q H9 l9 t9 => ⟨⟨by decide, by decide⟩, h q H9 l9 (by rw [e9]; exact t9)⟩)⟩)⟩)⟩)⟩)⟩)⟩)⟩)⟩)⟩⟩
  · have hk := nI_k (k := 11) h31 (by decide) q
    have e9 : s1X x = [] ++ [40] ++ lfX x.2.2.1 ++ [43] ++ lfX x.2.2.2 ++ [41] := by unfold s1X; rw [if_neg h8, if_neg h9, if_neg (by omega), if_neg (by omega), hk]; simp [sgX]
    rw [hk] at hh
    exact B_X13_text_1_448 G _ _ M H F a ⟨nI 11, yG.of hh rfl, fun _ => ⟨nI 11, yG.of hh rfl, fun z => absurd z (by decide), fun _ => B_X13_text_1_479 G _ _ M H F a ⟨⟨by decide, by decide⟩, fun q hq => ⟨⟨by decide, by decide⟩, U_init hq (fun H1 s1 => ⟨⟨by decide, by decide⟩, s1.is, U_app s1 (U_lit (ix := 23) (bs := [40]) (by decide) (by decide)) (yAs.lit (by decide)) (by simp only [List.length_append, List.length_cons, List.length_nil] <;> omega) (fun H2 s2 => ⟨_, yG.of (s2.le0 _ _ hh) rfl, ⟨by decide, by decide⟩, (hp1.le s2.le0).is, X_Lf_0 (hp1.le s2.le0) hx.2.2.1 (fun r3 K3 l3 t3 => ⟨⟨by decide, by decide⟩, (s2.le l3).is, U_app (s2.le l3) t3 (as_lf _) (by simp only [List.length_append, List.length_cons, List.length_nil] <;> omega) (fun H3 s3 => ⟨_, yG.of (s3.le0 _ _ hh) rfl, sgI_11, ⟨by decide, by decide⟩, s3.is, U_app s3 (U_sg11) (yAs.lit (by decide)) (by simp only [List.length_append, List.length_cons, List.length_nil] <;> omega) (fun H4 s4 => ⟨_, yG.of (s4.le0 _ _ hh) rfl, ⟨by decide, by decide⟩, (hp2.le s4.le0).is, X_Lf_0 (hp2.le s4.le0) hx.2.2.2 (fun r5 K5 l5 t5 => ⟨⟨by decide, by decide⟩, (s4.le l5).is, U_app (s4.le l5) t5 (as_lf _) (by simp only [List.length_append, List.length_cons, List.length_nil] <;> omega) (fun H5 s5 => ⟨⟨by decide, by decide⟩, s5.is, U_app s5 (U_lit (ix := 13) (bs := [41]) (by decide) (by decide)) (yAs.lit (by decide)) (by simp only [List.length_append, List.length_cons, List.length_nil] <;> omega) (fun H6 s6 => ⟨⟨by decide, by decide⟩, s6.is, U_str s6 (by simp only [List.length_append, List.length_cons, List.length_nil] <;> omega) (fun q H9 l9 t9 => ⟨⟨by decide, by decide⟩, h q H9 l9 (by rw [e9]; exact t9)⟩)⟩)⟩)⟩)⟩)⟩)⟩)⟩)⟩)⟩⟩⟩, fun z => absurd (show (7 : Int32) ≤ nI 11 by decide) z⟩
  · have hk := nI_k (k := 12) h31 (by decide) q
    have e9 : s1X x = [] ++ [40] ++ lfX x.2.2.1 ++ [45] ++ lfX x.2.2.2 ++ [41] := by unfold s1X; rw [if_neg h8, if_neg h9, if_neg (by omega), if_neg (by omega), hk]; simp [sgX]
    rw [hk] at hh
    exact B_X13_text_1_448 G _ _ M H F a ⟨nI 12, yG.of hh rfl, fun _ => ⟨nI 12, yG.of hh rfl, fun z => absurd z (by decide), fun _ => B_X13_text_1_479 G _ _ M H F a ⟨⟨by decide, by decide⟩, fun q hq => ⟨⟨by decide, by decide⟩, U_init hq (fun H1 s1 => ⟨⟨by decide, by decide⟩, s1.is, U_app s1 (U_lit (ix := 23) (bs := [40]) (by decide) (by decide)) (yAs.lit (by decide)) (by simp only [List.length_append, List.length_cons, List.length_nil] <;> omega) (fun H2 s2 => ⟨_, yG.of (s2.le0 _ _ hh) rfl, ⟨by decide, by decide⟩, (hp1.le s2.le0).is, X_Lf_0 (hp1.le s2.le0) hx.2.2.1 (fun r3 K3 l3 t3 => ⟨⟨by decide, by decide⟩, (s2.le l3).is, U_app (s2.le l3) t3 (as_lf _) (by simp only [List.length_append, List.length_cons, List.length_nil] <;> omega) (fun H3 s3 => ⟨_, yG.of (s3.le0 _ _ hh) rfl, sgI_12, ⟨by decide, by decide⟩, s3.is, U_app s3 (U_sg12) (yAs.lit (by decide)) (by simp only [List.length_append, List.length_cons, List.length_nil] <;> omega) (fun H4 s4 => ⟨_, yG.of (s4.le0 _ _ hh) rfl, ⟨by decide, by decide⟩, (hp2.le s4.le0).is, X_Lf_0 (hp2.le s4.le0) hx.2.2.2 (fun r5 K5 l5 t5 => ⟨⟨by decide, by decide⟩, (s4.le l5).is, U_app (s4.le l5) t5 (as_lf _) (by simp only [List.length_append, List.length_cons, List.length_nil] <;> omega) (fun H5 s5 => ⟨⟨by decide, by decide⟩, s5.is, U_app s5 (U_lit (ix := 13) (bs := [41]) (by decide) (by decide)) (yAs.lit (by decide)) (by simp only [List.length_append, List.length_cons, List.length_nil] <;> omega) (fun H6 s6 => ⟨⟨by decide, by decide⟩, s6.is, U_str s6 (by simp only [List.length_append, List.length_cons, List.length_nil] <;> omega) (fun q H9 l9 t9 => ⟨⟨by decide, by decide⟩, h q H9 l9 (by rw [e9]; exact t9)⟩)⟩)⟩)⟩)⟩)⟩)⟩)⟩)⟩)⟩⟩⟩, fun z => absurd (show (7 : Int32) ≤ nI 12 by decide) z⟩
  · have hk := nI_k (k := 13) h31 (by decide) q
    have e9 : s1X x = [] ++ [40] ++ lfX x.2.2.1 ++ [42] ++ lfX x.2.2.2 ++ [41] := by unfold s1X; rw [if_neg h8, if_neg h9, if_neg (by omega), if_neg (by omega), hk]; simp [sgX]
    rw [hk] at hh
    exact B_X13_text_1_448 G _ _ M H F a ⟨nI 13, yG.of hh rfl, fun _ => ⟨nI 13, yG.of hh rfl, fun z => absurd z (by decide), fun _ => B_X13_text_1_479 G _ _ M H F a ⟨⟨by decide, by decide⟩, fun q hq => ⟨⟨by decide, by decide⟩, U_init hq (fun H1 s1 => ⟨⟨by decide, by decide⟩, s1.is, U_app s1 (U_lit (ix := 23) (bs := [40]) (by decide) (by decide)) (yAs.lit (by decide)) (by simp only [List.length_append, List.length_cons, List.length_nil] <;> omega) (fun H2 s2 => ⟨_, yG.of (s2.le0 _ _ hh) rfl, ⟨by decide, by decide⟩, (hp1.le s2.le0).is, X_Lf_0 (hp1.le s2.le0) hx.2.2.1 (fun r3 K3 l3 t3 => ⟨⟨by decide, by decide⟩, (s2.le l3).is, U_app (s2.le l3) t3 (as_lf _) (by simp only [List.length_append, List.length_cons, List.length_nil] <;> omega) (fun H3 s3 => ⟨_, yG.of (s3.le0 _ _ hh) rfl, sgI_13, ⟨by decide, by decide⟩, s3.is, U_app s3 (U_sg13) (yAs.lit (by decide)) (by simp only [List.length_append, List.length_cons, List.length_nil] <;> omega) (fun H4 s4 => ⟨_, yG.of (s4.le0 _ _ hh) rfl, ⟨by decide, by decide⟩, (hp2.le s4.le0).is, X_Lf_0 (hp2.le s4.le0) hx.2.2.2 (fun r5 K5 l5 t5 => ⟨⟨by decide, by decide⟩, (s4.le l5).is, U_app (s4.le l5) t5 (as_lf _) (by simp only [List.length_append, List.length_cons, List.length_nil] <;> omega) (fun H5 s5 => ⟨⟨by decide, by decide⟩, s5.is, U_app s5 (U_lit (ix := 13) (bs := [41]) (by decide) (by decide)) (yAs.lit (by decide)) (by simp only [List.length_append, List.length_cons, List.length_nil] <;> omega) (fun H6 s6 => ⟨⟨by decide, by decide⟩, s6.is, U_str s6 (by simp only [List.length_append, List.length_cons, List.length_nil] <;> omega) (fun q H9 l9 t9 => ⟨⟨by decide, by decide⟩, h q H9 l9 (by rw [e9]; exact t9)⟩)⟩)⟩)⟩)⟩)⟩)⟩)⟩)⟩)⟩⟩⟩, fun z => absurd (show (7 : Int32) ≤ nI 13 by decide) z⟩
  · have hk := nI_k (k := 14) h31 (by decide) q
    have e9 : s1X x = [] ++ [40] ++ lfX x.2.2.1 ++ [47] ++ lfX x.2.2.2 ++ [41] := by unfold s1X; rw [if_neg h8, if_neg h9, if_neg (by omega), if_neg (by omega), hk]; simp [sgX]
    rw [hk] at hh
    exact B_X13_text_1_448 G _ _ M H F a ⟨nI 14, yG.of hh rfl, fun _ => ⟨nI 14, yG.of hh rfl, fun z => absurd z (by decide), fun _ => B_X13_text_1_479 G _ _ M H F a ⟨⟨by decide, by decide⟩, fun q hq => ⟨⟨by decide, by decide⟩, U_init hq (fun H1 s1 => ⟨⟨by decide, by decide⟩, s1.is, U_app s1 (U_lit (ix := 23) (bs := [40]) (by decide) (by decide)) (yAs.lit (by decide)) (by simp only [List.length_append, List.length_cons, List.length_nil] <;> omega) (fun H2 s2 => ⟨_, yG.of (s2.le0 _ _ hh) rfl, ⟨by decide, by decide⟩, (hp1.le s2.le0).is, X_Lf_0 (hp1.le s2.le0) hx.2.2.1 (fun r3 K3 l3 t3 => ⟨⟨by decide, by decide⟩, (s2.le l3).is, U_app (s2.le l3) t3 (as_lf _) (by simp only [List.length_append, List.length_cons, List.length_nil] <;> omega) (fun H3 s3 => ⟨_, yG.of (s3.le0 _ _ hh) rfl, sgI_14, ⟨by decide, by decide⟩, s3.is, U_app s3 (U_sg14) (yAs.lit (by decide)) (by simp only [List.length_append, List.length_cons, List.length_nil] <;> omega) (fun H4 s4 => ⟨_, yG.of (s4.le0 _ _ hh) rfl, ⟨by decide, by decide⟩, (hp2.le s4.le0).is, X_Lf_0 (hp2.le s4.le0) hx.2.2.2 (fun r5 K5 l5 t5 => ⟨⟨by decide, by decide⟩, (s4.le l5).is, U_app (s4.le l5) t5 (as_lf _) (by simp only [List.length_append, List.length_cons, List.length_nil] <;> omega) (fun H5 s5 => ⟨⟨by decide, by decide⟩, s5.is, U_app s5 (U_lit (ix := 13) (bs := [41]) (by decide) (by decide)) (yAs.lit (by decide)) (by simp only [List.length_append, List.length_cons, List.length_nil] <;> omega) (fun H6 s6 => ⟨⟨by decide, by decide⟩, s6.is, U_str s6 (by simp only [List.length_append, List.length_cons, List.length_nil] <;> omega) (fun q H9 l9 t9 => ⟨⟨by decide, by decide⟩, h q H9 l9 (by rw [e9]; exact t9)⟩)⟩)⟩)⟩)⟩)⟩)⟩)⟩)⟩)⟩⟩⟩, fun z => absurd (show (7 : Int32) ≤ nI 14 by decide) z⟩
  · exact absurd (nI_k (k := 15) h31 (by decide) q) (by omega)
  · exact absurd (nI_k (k := 16) h31 (by decide) q) (by omega)
  · exact absurd (nI_k (k := 17) h31 (by decide) q) (by omega)
  · exact absurd (nI_k (k := 18) h31 (by decide) q) (by omega)
  · exact absurd (nI_k (k := 19) h31 (by decide) q) (by omega)
  · exact absurd (nI_k (k := 20) h31 (by decide) q) (by omega)
  · exact absurd (nI_k (k := 21) h31 (by decide) q) (by omega)
  · exact absurd (nI_k (k := 22) h31 (by decide) q) (by omega)
  · exact absurd (nI_k (k := 23) h31 (by decide) q) (by omega)
  · exact absurd (nI_k (k := 24) h31 (by decide) q) (by omega)
set_option maxHeartbeats 4000000 in
set_option maxRecDepth 100000 in
theorem X_Lf_2 {a : Nat} {x : xLf} {F : Nat → eM → yH → Prop} (ha : nLf H a x) (hx : lfN x) (h : ∀ q H', yLe H H' → yTx G H' q (lfX x) → F q M H') : yCal G (9, 51, 59000) kX13_text [.ref a] M H (yFR F) := by
  have h8 := hx.1
  have h31 : x.1 < 2 ^ 31 := by omega
  have hh : H a = some (.inr (11, [.int (nI x.1), .int (nI x.2), .null, .null])) := ha
  refine C_X13_text_2 G M H F a ⟨_, yG.of hh rfl, fun q => absurd q (by rw [nI_toInt h31]; omega), fun q => ?_, fun q => ?_, fun q => ?_, fun q => ?_, fun q => ?_, fun q => ?_, fun q => ?_, fun q => ?_, fun q => ?_, fun q => ?_, fun q => ?_, fun q => ?_, fun q => ?_, fun q => ?_, fun q => ?_, fun q => ?_, fun q => ?_, fun q => ?_, fun q => ?_, fun q => ?_, fun q => ?_, fun q => ?_, fun q => ?_, fun q => ?_, fun q => ?_⟩
  · have hk := nI_k (k := 0) h31 (by decide) q
    have hn : x.2 < 1000000 := hx.2.1 hk
    have e9 : lfX x = [] ++ [] ++ dg x.2 := by unfold lfX; rw [if_pos hk]; simp
    have dl := dg6_len hn
    exact B_X13_text_2_120 G _ _ M H F a ⟨⟨by decide, by decide⟩, fun q hq => ⟨⟨by decide, by decide⟩, U_init hq (fun H1 s1 => ⟨⟨by decide, by decide⟩, s1.is, U_app s1 (U_lit (ix := 8) (bs := []) (by decide) (by decide)) (yAs.lit (by decide)) (by simp only [List.length_append, List.length_cons, List.length_nil] <;> omega) (fun H2 s2 => ⟨_, yG.of (s2.le0 _ _ hh) rfl, ⟨by decide, by decide⟩, s2.is, U_appI s2 hn (by simp only [List.length_append, List.length_cons, List.length_nil] <;> omega) (fun H3 s3 => ⟨⟨by decide, by decide⟩, s3.is, U_str s3 (by simp only [List.length_append, List.length_cons, List.length_nil] <;> omega) (fun q H9 l9 t9 => ⟨⟨by decide, by decide⟩, h q H9 l9 (by rw [e9]; exact t9)⟩)⟩)⟩)⟩)⟩⟩
  · have hk := nI_k (k := 1) h31 (by decide) q
    have e9 : lfX x = [114, 111, 117, 110, 100] := by unfold lfX; rw [if_neg (by omega), if_pos (by omega), hk]; rfl
    rw [hk] at hh
    exact B_X13_text_2_448 G _ _ M H F a ⟨nI 1, yG.of hh rfl, fun z => absurd z (by decide), fun _ => ⟨nI 1, yG.of hh rfl, wdI_1, ⟨by decide, by decide⟩, h _ H (yLe.refl _) (by rw [e9]; exact U_wd1)⟩⟩
  · have hk := nI_k (k := 2) h31 (by decide) q
    have e9 : lfX x = [112, 108, 97, 99, 101, 100] := by unfold lfX; rw [if_neg (by omega), if_pos (by omega), hk]; rfl
    rw [hk] at hh
    exact B_X13_text_2_448 G _ _ M H F a ⟨nI 2, yG.of hh rfl, fun z => absurd z (by decide), fun _ => ⟨nI 2, yG.of hh rfl, wdI_2, ⟨by decide, by decide⟩, h _ H (yLe.refl _) (by rw [e9]; exact U_wd2)⟩⟩
  · have hk := nI_k (k := 3) h31 (by decide) q
    have e9 : lfX x = [109, 97, 116, 99, 104, 101, 115] := by unfold lfX; rw [if_neg (by omega), if_pos (by omega), hk]; rfl
    rw [hk] at hh
    exact B_X13_text_2_448 G _ _ M H F a ⟨nI 3, yG.of hh rfl, fun z => absurd z (by decide), fun _ => ⟨nI 3, yG.of hh rfl, wdI_3, ⟨by decide, by decide⟩, h _ H (yLe.refl _) (by rw [e9]; exact U_wd3)⟩⟩
  · have hk := nI_k (k := 4) h31 (by decide) q
    have e9 : lfX x = [112, 111, 105, 110, 116, 115] := by unfold lfX; rw [if_neg (by omega), if_pos (by omega), hk]; rfl
    rw [hk] at hh
    exact B_X13_text_2_448 G _ _ M H F a ⟨nI 4, yG.of hh rfl, fun z => absurd z (by decide), fun _ => ⟨nI 4, yG.of hh rfl, wdI_4, ⟨by decide, by decide⟩, h _ H (yLe.refl _) (by rw [e9]; exact U_wd4)⟩⟩
  · have hk := nI_k (k := 5) h31 (by decide) q
    have e9 : lfX x = [114, 105, 110, 103, 115] := by unfold lfX; rw [if_neg (by omega), if_pos (by omega), hk]; rfl
    rw [hk] at hh
    exact B_X13_text_2_448 G _ _ M H F a ⟨nI 5, yG.of hh rfl, fun z => absurd z (by decide), fun _ => ⟨nI 5, yG.of hh rfl, wdI_5, ⟨by decide, by decide⟩, h _ H (yLe.refl _) (by rw [e9]; exact U_wd5)⟩⟩
  · have hk := nI_k (k := 6) h31 (by decide) q
    have e9 : lfX x = [102, 114, 101, 101] := by unfold lfX; rw [if_neg (by omega), if_pos (by omega), hk]; rfl
    rw [hk] at hh
    exact B_X13_text_2_448 G _ _ M H F a ⟨nI 6, yG.of hh rfl, fun z => absurd z (by decide), fun _ => ⟨nI 6, yG.of hh rfl, wdI_6, ⟨by decide, by decide⟩, h _ H (yLe.refl _) (by rw [e9]; exact U_wd6)⟩⟩
  · have hk := nI_k (k := 7) h31 (by decide) q
    have hn : x.2 < 16 := hx.2.2 hk
    have hn6 : x.2 < 1000000 := by omega
    have dl := dg6_len hn6
    have e9 : lfX x = [] ++ [119, 97, 121, 115, 32, 111, 102, 32, 116] ++ dg x.2 := by unfold lfX tnm; rw [if_neg (by omega), if_neg (by omega)]; simp
    exact B_X13_text_2_143 G _ _ M H F a ⟨⟨by decide, by decide⟩, fun q hq => ⟨⟨by decide, by decide⟩, U_init hq (fun H1 s1 => ⟨⟨by decide, by decide⟩, s1.is, U_app s1 (U_lit (ix := 9) (bs := [119, 97, 121, 115, 32, 111, 102, 32, 116]) (by decide) (by decide)) (yAs.lit (by decide)) (by simp only [List.length_append, List.length_cons, List.length_nil] <;> omega) (fun H2 s2 => ⟨_, yG.of (s2.le0 _ _ hh) rfl, ⟨by decide, by decide⟩, s2.is, U_appI s2 hn6 (by simp only [List.length_append, List.length_cons, List.length_nil] <;> omega) (fun H3 s3 => ⟨⟨by decide, by decide⟩, s3.is, U_str s3 (by simp only [List.length_append, List.length_cons, List.length_nil] <;> omega) (fun q H9 l9 t9 => ⟨⟨by decide, by decide⟩, h q H9 l9 (by rw [e9]; exact t9)⟩)⟩)⟩)⟩)⟩⟩
  · exact absurd (nI_k (k := 8) h31 (by decide) q) (by omega)
  · exact absurd (nI_k (k := 9) h31 (by decide) q) (by omega)
  · exact absurd (nI_k (k := 10) h31 (by decide) q) (by omega)
  · exact absurd (nI_k (k := 11) h31 (by decide) q) (by omega)
  · exact absurd (nI_k (k := 12) h31 (by decide) q) (by omega)
  · exact absurd (nI_k (k := 13) h31 (by decide) q) (by omega)
  · exact absurd (nI_k (k := 14) h31 (by decide) q) (by omega)
  · exact absurd (nI_k (k := 15) h31 (by decide) q) (by omega)
  · exact absurd (nI_k (k := 16) h31 (by decide) q) (by omega)
  · exact absurd (nI_k (k := 17) h31 (by decide) q) (by omega)
  · exact absurd (nI_k (k := 18) h31 (by decide) q) (by omega)
  · exact absurd (nI_k (k := 19) h31 (by decide) q) (by omega)
  · exact absurd (nI_k (k := 20) h31 (by decide) q) (by omega)
  · exact absurd (nI_k (k := 21) h31 (by decide) q) (by omega)
  · exact absurd (nI_k (k := 22) h31 (by decide) q) (by omega)
  · exact absurd (nI_k (k := 23) h31 (by decide) q) (by omega)
  · exact absurd (nI_k (k := 24) h31 (by decide) q) (by omega)
set_option maxHeartbeats 4000000 in
set_option maxRecDepth 100000 in
theorem X_S1_2 {a : Nat} {x : xS1} {F : Nat → eM → yH → Prop} (ha : nS1 H a x) (hx : s1N x) (h : ∀ q H', yLe H H' → yTx G H' q (s1X x) → F q M H') : yCal G (9, 51, 59000) kX13_text [.ref a] M H (yFR F) := by
  have h15 := hx.1
  have h31 : x.1 < 2 ^ 31 := by omega
  have y1 := (lfX_len hx.2.2.1).1
  have y2 := (lfX_len hx.2.2.2).1
  by_cases h8 : x.1 < 8
  · have e : s1X x = lfX (x.1, x.2.1) := by unfold s1X; rw [if_pos h8]
    rw [e] at h
    exact X_Lf_2 (ha.1 h8) (hx.2.1 h8) h
  by_cases h9 : x.1 = 8
  · obtain ⟨p, hh, hp1⟩ := ha.2.1 h9
    rw [h9] at hh
    have e9 : s1X x = [] ++ [45] ++ lfX x.2.2.1 := by unfold s1X; rw [if_neg h8, if_pos h9]; simp
    refine C_X13_text_2 G M H F a ⟨_, yG.of hh rfl, fun q => absurd q (by decide), fun q => absurd q (by decide), fun q => absurd q (by decide), fun q => absurd q (by decide), fun q => absurd q (by decide), fun q => absurd q (by decide), fun q => absurd q (by decide), fun q => absurd q (by decide), fun q => absurd q (by decide), fun q => ?_, fun q => absurd q (by decide), fun q => absurd q (by decide), fun q => absurd q (by decide), fun q => absurd q (by decide), fun q => absurd q (by decide), fun q => absurd q (by decide), fun q => absurd q (by decide), fun q => absurd q (by decide), fun q => absurd q (by decide), fun q => absurd q (by decide), fun q => absurd q (by decide), fun q => absurd q (by decide), fun q => absurd q (by decide), fun q => absurd q (by decide), fun q => absurd q (by decide), fun q => absurd q (by decide)⟩
    exact B_X13_text_2_166 G _ _ M H F a ⟨⟨by decide, by decide⟩, fun q hq => ⟨⟨by decide, by decide⟩, U_init hq (fun H1 s1 => ⟨⟨by decide, by decide⟩, s1.is, U_app s1 (U_lit (ix := 10) (bs := [45]) (by decide) (by decide)) (yAs.lit (by decide)) (by simp only [List.length_append, List.length_cons, List.length_nil] <;> omega) (fun H2 s2 => ⟨_, yG.of (s2.le0 _ _ hh) rfl, ⟨by decide, by decide⟩, (hp1.le s2.le0).is, X_Lf_1 (hp1.le s2.le0) hx.2.2.1 (fun r3 K3 l3 t3 => ⟨⟨by decide, by decide⟩, (s2.le l3).is, U_app (s2.le l3) t3 (as_lf _) (by simp only [List.length_append, List.length_cons, List.length_nil] <;> omega) (fun H3 s3 => ⟨⟨by decide, by decide⟩, s3.is, U_str s3 (by simp only [List.length_append, List.length_cons, List.length_nil] <;> omega) (fun q H9 l9 t9 => ⟨⟨by decide, by decide⟩, h q H9 l9 (by rw [e9]; exact t9)⟩)⟩)⟩)⟩)⟩)⟩⟩
  obtain ⟨p, r0, hh, hp1, hp2⟩ := ha.2.2 (by omega)
  refine C_X13_text_2 G M H F a ⟨_, yG.of hh rfl, fun q => absurd q (by rw [nI_toInt h31]; omega), fun q => ?_, fun q => ?_, fun q => ?_, fun q => ?_, fun q => ?_, fun q => ?_, fun q => ?_, fun q => ?_, fun q => ?_, fun q => ?_, fun q => ?_, fun q => ?_, fun q => ?_, fun q => ?_, fun q => ?_, fun q => ?_, fun q => ?_, fun q => ?_, fun q => ?_, fun q => ?_, fun q => ?_, fun q => ?_, fun q => ?_, fun q => ?_, fun q => ?_⟩
  · exact absurd (nI_k (k := 0) h31 (by decide) q) (by omega)
  · exact absurd (nI_k (k := 1) h31 (by decide) q) (by omega)
  · exact absurd (nI_k (k := 2) h31 (by decide) q) (by omega)
  · exact absurd (nI_k (k := 3) h31 (by decide) q) (by omega)
  · exact absurd (nI_k (k := 4) h31 (by decide) q) (by omega)
  · exact absurd (nI_k (k := 5) h31 (by decide) q) (by omega)
  · exact absurd (nI_k (k := 6) h31 (by decide) q) (by omega)
  · exact absurd (nI_k (k := 7) h31 (by decide) q) (by omega)
  · exact absurd (nI_k (k := 8) h31 (by decide) q) (by omega)
  · have hk := nI_k (k := 9) h31 (by decide) q
    have e9 : s1X x = [] ++ [109, 105, 110, 40] ++ lfX x.2.2.1 ++ [44] ++ lfX x.2.2.2 ++ [41] := by unfold s1X; rw [if_neg h8, if_neg h9, if_pos hk]; simp
    exact B_X13_text_2_192 G _ _ M H F a ⟨⟨by decide, by decide⟩, fun q hq => ⟨⟨by decide, by decide⟩, U_init hq (fun H1 s1 => ⟨⟨by decide, by decide⟩, s1.is, U_app s1 (U_lit (ix := 11) (bs := [109, 105, 110, 40]) (by decide) (by decide)) (yAs.lit (by decide)) (by simp only [List.length_append, List.length_cons, List.length_nil] <;> omega) (fun H2 s2 => ⟨_, yG.of (s2.le0 _ _ hh) rfl, ⟨by decide, by decide⟩, (hp1.le s2.le0).is, X_Lf_1 (hp1.le s2.le0) hx.2.2.1 (fun r3 K3 l3 t3 => ⟨⟨by decide, by decide⟩, (s2.le l3).is, U_app (s2.le l3) t3 (as_lf _) (by simp only [List.length_append, List.length_cons, List.length_nil] <;> omega) (fun H3 s3 => ⟨⟨by decide, by decide⟩, s3.is, U_app s3 (U_lit (ix := 12) (bs := [44]) (by decide) (by decide)) (yAs.lit (by decide)) (by simp only [List.length_append, List.length_cons, List.length_nil] <;> omega) (fun H4 s4 => ⟨_, yG.of (s4.le0 _ _ hh) rfl, ⟨by decide, by decide⟩, (hp2.le s4.le0).is, X_Lf_1 (hp2.le s4.le0) hx.2.2.2 (fun r5 K5 l5 t5 => ⟨⟨by decide, by decide⟩, (s4.le l5).is, U_app (s4.le l5) t5 (as_lf _) (by simp only [List.length_append, List.length_cons, List.length_nil] <;> omega) (fun H5 s5 => ⟨⟨by decide, by decide⟩, s5.is, U_app s5 (U_lit (ix := 13) (bs := [41]) (by decide) (by decide)) (yAs.lit (by decide)) (by simp only [List.length_append, List.length_cons, List.length_nil] <;> omega) (fun H6 s6 => ⟨⟨by decide, by decide⟩, s6.is, U_str s6 (by simp only [List.length_append, List.length_cons, List.length_nil] <;> omega) (fun q H9 l9 t9 => ⟨⟨by decide, by decide⟩, h q H9 l9 (by rw [e9]; exact t9)⟩)⟩)⟩)⟩)⟩)⟩)⟩)⟩)⟩)⟩⟩
  · have hk := nI_k (k := 10) h31 (by decide) q
    have e9 : s1X x = [] ++ [109, 97, 120, 40] ++ lfX x.2.2.1 ++ [32, 44, 32] ++ lfX x.2.2.2 ++ [41] := by unfold s1X; rw [if_neg h8, if_neg h9, if_neg (by omega), if_pos hk]; simp
    exact B_X13_text_2_238 G _ _ M H F a ⟨⟨by decide, by decide⟩, fun q hq => ⟨⟨by decide, by decide⟩, U_init hq (fun H1 s1 => ⟨⟨by decide, by decide⟩, s1.is, U_app s1 (U_lit (ix := 14) (bs := [109, 97, 120, 40]) (by decide) (by decide)) (yAs.lit (by decide)) (by simp only [List.length_append, List.length_cons, List.length_nil] <;> omega) (fun H2 s2 => ⟨_, yG.of (s2.le0 _ _ hh) rfl, ⟨by decide, by decide⟩, (hp1.le s2.le0).is, X_Lf_1 (hp1.le s2.le0) hx.2.2.1 (fun r3 K3 l3 t3 => ⟨⟨by decide, by decide⟩, (s2.le l3).is, U_app (s2.le l3) t3 (as_lf _) (by simp only [List.length_append, List.length_cons, List.length_nil] <;> omega) (fun H3 s3 => ⟨⟨by decide, by decide⟩, s3.is, U_app s3 (U_lit (ix := 15) (bs := [32, 44, 32]) (by decide) (by decide)) (yAs.lit (by decide)) (by simp only [List.length_append, List.length_cons, List.length_nil] <;> omega) (fun H4 s4 => ⟨_, yG.of (s4.le0 _ _ hh) rfl, ⟨by decide, by decide⟩, (hp2.le s4.le0).is, X_Lf_1 (hp2.le s4.le0) hx.2.2.2 (fun r5 K5 l5 t5 => ⟨⟨by decide, by decide⟩, (s4.le l5).is, U_app (s4.le l5) t5 (as_lf _) (by simp only [List.length_append, List.length_cons, List.length_nil] <;> omega) (fun H5 s5 => ⟨⟨by decide, by decide⟩, s5.is, U_app s5 (U_lit (ix := 13) (bs := [41]) (by decide) (by decide)) (yAs.lit (by decide)) (by simp only [List.length_append, List.length_cons, List.length_nil] <;> omega) (fun H6 s6 => ⟨⟨by decide, by decide⟩, s6.is, U_str s6 (by simp only [List.length_append, List.length_cons, List.length_nil] <;> omega) (fun q H9 l9 t9 => ⟨⟨by decide, by decide⟩, h q H9 l9 (by rw [e9]; exact t9)⟩)⟩)⟩)⟩)⟩)⟩)⟩)⟩)⟩)⟩⟩
  · have hk := nI_k (k := 11) h31 (by decide) q
    have e9 : s1X x = [] ++ [40] ++ lfX x.2.2.1 ++ [43] ++ lfX x.2.2.2 ++ [41] := by unfold s1X; rw [if_neg h8, if_neg h9, if_neg (by omega), if_neg (by omega), hk]; simp [sgX]
    rw [hk] at hh
    exact B_X13_text_2_448 G _ _ M H F a ⟨nI 11, yG.of hh rfl, fun _ => ⟨nI 11, yG.of hh rfl, fun z => absurd z (by decide), fun _ => B_X13_text_2_479 G _ _ M H F a ⟨⟨by decide, by decide⟩, fun q hq => ⟨⟨by decide, by decide⟩, U_init hq (fun H1 s1 => ⟨⟨by decide, by decide⟩, s1.is, U_app s1 (U_lit (ix := 23) (bs := [40]) (by decide) (by decide)) (yAs.lit (by decide)) (by simp only [List.length_append, List.length_cons, List.length_nil] <;> omega) (fun H2 s2 => ⟨_, yG.of (s2.le0 _ _ hh) rfl, ⟨by decide, by decide⟩, (hp1.le s2.le0).is, X_Lf_1 (hp1.le s2.le0) hx.2.2.1 (fun r3 K3 l3 t3 => ⟨⟨by decide, by decide⟩, (s2.le l3).is, U_app (s2.le l3) t3 (as_lf _) (by simp only [List.length_append, List.length_cons, List.length_nil] <;> omega) (fun H3 s3 => ⟨_, yG.of (s3.le0 _ _ hh) rfl, sgI_11, ⟨by decide, by decide⟩, s3.is, U_app s3 (U_sg11) (yAs.lit (by decide)) (by simp only [List.length_append, List.length_cons, List.length_nil] <;> omega) (fun H4 s4 => ⟨_, yG.of (s4.le0 _ _ hh) rfl, ⟨by decide, by decide⟩, (hp2.le s4.le0).is, X_Lf_1 (hp2.le s4.le0) hx.2.2.2 (fun r5 K5 l5 t5 => ⟨⟨by decide, by decide⟩, (s4.le l5).is, U_app (s4.le l5) t5 (as_lf _) (by simp only [List.length_append, List.length_cons, List.length_nil] <;> omega) (fun H5 s5 => ⟨⟨by decide, by decide⟩, s5.is, U_app s5 (U_lit (ix := 13) (bs := [41]) (by decide) (by decide)) (yAs.lit (by decide)) (by simp only [List.length_append, List.length_cons, List.length_nil] <;> omega) (fun H6 s6 => ⟨⟨by decide, by decide⟩, s6.is, U_str s6 (by simp only [List.length_append, List.length_cons, List.length_nil] <;> omega) (fun q H9 l9 t9 => ⟨⟨by decide, by decide⟩, h q H9 l9 (by rw [e9]; exact t9)⟩)⟩)⟩)⟩)⟩)⟩)⟩)⟩)⟩)⟩⟩⟩, fun z => absurd (show (7 : Int32) ≤ nI 11 by decide) z⟩
  · have hk := nI_k (k := 12) h31 (by decide) q
    have e9 : s1X x = [] ++ [40] ++ lfX x.2.2.1 ++ [45] ++ lfX x.2.2.2 ++ [41] := by unfold s1X; rw [if_neg h8, if_neg h9, if_neg (by omega), if_neg (by omega), hk]; simp [sgX]
    rw [hk] at hh
    exact B_X13_text_2_448 G _ _ M H F a ⟨nI 12, yG.of hh rfl, fun _ => ⟨nI 12, yG.of hh rfl, fun z => absurd z (by decide), fun _ => B_X13_text_2_479 G _ _ M H F a ⟨⟨by decide, by decide⟩, fun q hq => ⟨⟨by decide, by decide⟩, U_init hq (fun H1 s1 => ⟨⟨by decide, by decide⟩, s1.is, U_app s1 (U_lit (ix := 23) (bs := [40]) (by decide) (by decide)) (yAs.lit (by decide)) (by simp only [List.length_append, List.length_cons, List.length_nil] <;> omega) (fun H2 s2 => ⟨_, yG.of (s2.le0 _ _ hh) rfl, ⟨by decide, by decide⟩, (hp1.le s2.le0).is, X_Lf_1 (hp1.le s2.le0) hx.2.2.1 (fun r3 K3 l3 t3 => ⟨⟨by decide, by decide⟩, (s2.le l3).is, U_app (s2.le l3) t3 (as_lf _) (by simp only [List.length_append, List.length_cons, List.length_nil] <;> omega) (fun H3 s3 => ⟨_, yG.of (s3.le0 _ _ hh) rfl, sgI_12, ⟨by decide, by decide⟩, s3.is, U_app s3 (U_sg12) (yAs.lit (by decide)) (by simp only [List.length_append, List.length_cons, List.length_nil] <;> omega) (fun H4 s4 => ⟨_, yG.of (s4.le0 _ _ hh) rfl, ⟨by decide, by decide⟩, (hp2.le s4.le0).is, X_Lf_1 (hp2.le s4.le0) hx.2.2.2 (fun r5 K5 l5 t5 => ⟨⟨by decide, by decide⟩, (s4.le l5).is, U_app (s4.le l5) t5 (as_lf _) (by simp only [List.length_append, List.length_cons, List.length_nil] <;> omega) (fun H5 s5 => ⟨⟨by decide, by decide⟩, s5.is, U_app s5 (U_lit (ix := 13) (bs := [41]) (by decide) (by decide)) (yAs.lit (by decide)) (by simp only [List.length_append, List.length_cons, List.length_nil] <;> omega) (fun H6 s6 => ⟨⟨by decide, by decide⟩, s6.is, U_str s6 (by simp only [List.length_append, List.length_cons, List.length_nil] <;> omega) (fun q H9 l9 t9 => ⟨⟨by decide, by decide⟩, h q H9 l9 (by rw [e9]; exact t9)⟩)⟩)⟩)⟩)⟩)⟩)⟩)⟩)⟩)⟩⟩⟩, fun z => absurd (show (7 : Int32) ≤ nI 12 by decide) z⟩
  · have hk := nI_k (k := 13) h31 (by decide) q
    have e9 : s1X x = [] ++ [40] ++ lfX x.2.2.1 ++ [42] ++ lfX x.2.2.2 ++ [41] := by unfold s1X; rw [if_neg h8, if_neg h9, if_neg (by omega), if_neg (by omega), hk]; simp [sgX]
    rw [hk] at hh
    exact B_X13_text_2_448 G _ _ M H F a ⟨nI 13, yG.of hh rfl, fun _ => ⟨nI 13, yG.of hh rfl, fun z => absurd z (by decide), fun _ => B_X13_text_2_479 G _ _ M H F a ⟨⟨by decide, by decide⟩, fun q hq => ⟨⟨by decide, by decide⟩, U_init hq (fun H1 s1 => ⟨⟨by decide, by decide⟩, s1.is, U_app s1 (U_lit (ix := 23) (bs := [40]) (by decide) (by decide)) (yAs.lit (by decide)) (by simp only [List.length_append, List.length_cons, List.length_nil] <;> omega) (fun H2 s2 => ⟨_, yG.of (s2.le0 _ _ hh) rfl, ⟨by decide, by decide⟩, (hp1.le s2.le0).is, X_Lf_1 (hp1.le s2.le0) hx.2.2.1 (fun r3 K3 l3 t3 => ⟨⟨by decide, by decide⟩, (s2.le l3).is, U_app (s2.le l3) t3 (as_lf _) (by simp only [List.length_append, List.length_cons, List.length_nil] <;> omega) (fun H3 s3 => ⟨_, yG.of (s3.le0 _ _ hh) rfl, sgI_13, ⟨by decide, by decide⟩, s3.is, U_app s3 (U_sg13) (yAs.lit (by decide)) (by simp only [List.length_append, List.length_cons, List.length_nil] <;> omega) (fun H4 s4 => ⟨_, yG.of (s4.le0 _ _ hh) rfl, ⟨by decide, by decide⟩, (hp2.le s4.le0).is, X_Lf_1 (hp2.le s4.le0) hx.2.2.2 (fun r5 K5 l5 t5 => ⟨⟨by decide, by decide⟩, (s4.le l5).is, U_app (s4.le l5) t5 (as_lf _) (by simp only [List.length_append, List.length_cons, List.length_nil] <;> omega) (fun H5 s5 => ⟨⟨by decide, by decide⟩, s5.is, U_app s5 (U_lit (ix := 13) (bs := [41]) (by decide) (by decide)) (yAs.lit (by decide)) (by simp only [List.length_append, List.length_cons, List.length_nil] <;> omega) (fun H6 s6 => ⟨⟨by decide, by decide⟩, s6.is, U_str s6 (by simp only [List.length_append, List.length_cons, List.length_nil] <;> omega) (fun q H9 l9 t9 => ⟨⟨by decide, by decide⟩, h q H9 l9 (by rw [e9]; exact t9)⟩)⟩)⟩)⟩)⟩)⟩)⟩)⟩)⟩)⟩⟩⟩, fun z => absurd (show (7 : Int32) ≤ nI 13 by decide) z⟩
  · have hk := nI_k (k := 14) h31 (by decide) q
    have e9 : s1X x = [] ++ [40] ++ lfX x.2.2.1 ++ [47] ++ lfX x.2.2.2 ++ [41] := by unfold s1X; rw [if_neg h8, if_neg h9, if_neg (by omega), if_neg (by omega), hk]; simp [sgX]
    rw [hk] at hh
    exact B_X13_text_2_448 G _ _ M H F a ⟨nI 14, yG.of hh rfl, fun _ => ⟨nI 14, yG.of hh rfl, fun z => absurd z (by decide), fun _ => B_X13_text_2_479 G _ _ M H F a ⟨⟨by decide, by decide⟩, fun q hq => ⟨⟨by decide, by decide⟩, U_init hq (fun H1 s1 => ⟨⟨by decide, by decide⟩, s1.is, U_app s1 (U_lit (ix := 23) (bs := [40]) (by decide) (by decide)) (yAs.lit (by decide)) (by simp only [List.length_append, List.length_cons, List.length_nil] <;> omega) (fun H2 s2 => ⟨_, yG.of (s2.le0 _ _ hh) rfl, ⟨by decide, by decide⟩, (hp1.le s2.le0).is, X_Lf_1 (hp1.le s2.le0) hx.2.2.1 (fun r3 K3 l3 t3 => ⟨⟨by decide, by decide⟩, (s2.le l3).is, U_app (s2.le l3) t3 (as_lf _) (by simp only [List.length_append, List.length_cons, List.length_nil] <;> omega) (fun H3 s3 => ⟨_, yG.of (s3.le0 _ _ hh) rfl, sgI_14, ⟨by decide, by decide⟩, s3.is, U_app s3 (U_sg14) (yAs.lit (by decide)) (by simp only [List.length_append, List.length_cons, List.length_nil] <;> omega) (fun H4 s4 => ⟨_, yG.of (s4.le0 _ _ hh) rfl, ⟨by decide, by decide⟩, (hp2.le s4.le0).is, X_Lf_1 (hp2.le s4.le0) hx.2.2.2 (fun r5 K5 l5 t5 => ⟨⟨by decide, by decide⟩, (s4.le l5).is, U_app (s4.le l5) t5 (as_lf _) (by simp only [List.length_append, List.length_cons, List.length_nil] <;> omega) (fun H5 s5 => ⟨⟨by decide, by decide⟩, s5.is, U_app s5 (U_lit (ix := 13) (bs := [41]) (by decide) (by decide)) (yAs.lit (by decide)) (by simp only [List.length_append, List.length_cons, List.length_nil] <;> omega) (fun H6 s6 => ⟨⟨by decide, by decide⟩, s6.is, U_str s6 (by simp only [List.length_append, List.length_cons, List.length_nil] <;> omega) (fun q H9 l9 t9 => ⟨⟨by decide, by decide⟩, h q H9 l9 (by rw [e9]; exact t9)⟩)⟩)⟩)⟩)⟩)⟩)⟩)⟩)⟩)⟩⟩⟩, fun z => absurd (show (7 : Int32) ≤ nI 14 by decide) z⟩
  · exact absurd (nI_k (k := 15) h31 (by decide) q) (by omega)
  · exact absurd (nI_k (k := 16) h31 (by decide) q) (by omega)
  · exact absurd (nI_k (k := 17) h31 (by decide) q) (by omega)
  · exact absurd (nI_k (k := 18) h31 (by decide) q) (by omega)
  · exact absurd (nI_k (k := 19) h31 (by decide) q) (by omega)
  · exact absurd (nI_k (k := 20) h31 (by decide) q) (by omega)
  · exact absurd (nI_k (k := 21) h31 (by decide) q) (by omega)
  · exact absurd (nI_k (k := 22) h31 (by decide) q) (by omega)
  · exact absurd (nI_k (k := 23) h31 (by decide) q) (by omega)
  · exact absurd (nI_k (k := 24) h31 (by decide) q) (by omega)
set_option maxHeartbeats 4000000 in
set_option maxRecDepth 100000 in
theorem X_T0_2 {a : Nat} {x : xT0} {F : Nat → eM → yH → Prop} (ha : nT0 H a x) (hx : t0N x) (h : ∀ q H', yLe H H' → yTx G H' q (t0X x) → F q M H') : yCal G (9, 51, 59000) kX13_text [.ref a] M H (yFR F) := by
  have h22 := hx.1
  have h31 : x.1 < 2 ^ 31 := by omega
  have y1 := (s1X_len hx.2.2.1).1
  have y2 := (lfX_len hx.2.2.2).1
  by_cases h20 : 20 ≤ x.1
  · have hh := ha.2 h20
    have hn : x.2.1 < 16 := hx.2.1 h20
    have hn6 : x.2.1 < 1000000 := by omega
    have dl := dg6_len hn6
    refine C_X13_text_2 G M H F a ⟨_, yG.of hh rfl, fun q => absurd q (by rw [nI_toInt h31]; omega), fun q => ?_, fun q => ?_, fun q => ?_, fun q => ?_, fun q => ?_, fun q => ?_, fun q => ?_, fun q => ?_, fun q => ?_, fun q => ?_, fun q => ?_, fun q => ?_, fun q => ?_, fun q => ?_, fun q => ?_, fun q => ?_, fun q => ?_, fun q => ?_, fun q => ?_, fun q => ?_, fun q => ?_, fun q => ?_, fun q => ?_, fun q => ?_, fun q => ?_⟩
    · exact absurd (nI_k (k := 0) h31 (by decide) q) (by omega)
    · exact absurd (nI_k (k := 1) h31 (by decide) q) (by omega)
    · exact absurd (nI_k (k := 2) h31 (by decide) q) (by omega)
    · exact absurd (nI_k (k := 3) h31 (by decide) q) (by omega)
    · exact absurd (nI_k (k := 4) h31 (by decide) q) (by omega)
    · exact absurd (nI_k (k := 5) h31 (by decide) q) (by omega)
    · exact absurd (nI_k (k := 6) h31 (by decide) q) (by omega)
    · exact absurd (nI_k (k := 7) h31 (by decide) q) (by omega)
    · exact absurd (nI_k (k := 8) h31 (by decide) q) (by omega)
    · exact absurd (nI_k (k := 9) h31 (by decide) q) (by omega)
    · exact absurd (nI_k (k := 10) h31 (by decide) q) (by omega)
    · exact absurd (nI_k (k := 11) h31 (by decide) q) (by omega)
    · exact absurd (nI_k (k := 12) h31 (by decide) q) (by omega)
    · exact absurd (nI_k (k := 13) h31 (by decide) q) (by omega)
    · exact absurd (nI_k (k := 14) h31 (by decide) q) (by omega)
    · exact absurd (nI_k (k := 15) h31 (by decide) q) (by omega)
    · exact absurd (nI_k (k := 16) h31 (by decide) q) (by omega)
    · exact absurd (nI_k (k := 17) h31 (by decide) q) (by omega)
    · exact absurd (nI_k (k := 18) h31 (by decide) q) (by omega)
    · exact absurd (nI_k (k := 19) h31 (by decide) q) (by omega)
    · have hk := nI_k (k := 20) h31 (by decide) q
      have e9 : t0X x = [] ++ [111, 110, 32, 116] ++ dg x.2.1 := by unfold t0X tnm; rw [if_neg (by omega), if_pos hk]; simp
      exact B_X13_text_2_284 G _ _ M H F a ⟨⟨by decide, by decide⟩, fun q hq => ⟨⟨by decide, by decide⟩, U_init hq (fun H1 s1 => ⟨⟨by decide, by decide⟩, s1.is, U_app s1 (U_lit (ix := 16) (bs := [111, 110, 32, 116]) (by decide) (by decide)) (yAs.lit (by decide)) (by simp only [List.length_append, List.length_cons, List.length_nil] <;> omega) (fun H2 s2 => ⟨_, yG.of (s2.le0 _ _ hh) rfl, ⟨by decide, by decide⟩, s2.is, U_appI s2 hn6 (by simp only [List.length_append, List.length_cons, List.length_nil] <;> omega) (fun H3 s3 => ⟨⟨by decide, by decide⟩, s3.is, U_str s3 (by simp only [List.length_append, List.length_cons, List.length_nil] <;> omega) (fun q H9 l9 t9 => ⟨⟨by decide, by decide⟩, h q H9 l9 (by rw [e9]; exact t9)⟩)⟩)⟩)⟩)⟩⟩
    · have hk := nI_k (k := 21) h31 (by decide) q
      have e9 : t0X x = [] ++ [102, 105, 116, 115, 32, 116] ++ dg x.2.1 := by unfold t0X tnm; rw [if_neg (by omega), if_neg (by omega)]; simp
      exact B_X13_text_2_307 G _ _ M H F a ⟨⟨by decide, by decide⟩, fun q hq => ⟨⟨by decide, by decide⟩, U_init hq (fun H1 s1 => ⟨⟨by decide, by decide⟩, s1.is, U_app s1 (U_lit (ix := 17) (bs := [102, 105, 116, 115, 32, 116]) (by decide) (by decide)) (yAs.lit (by decide)) (by simp only [List.length_append, List.length_cons, List.length_nil] <;> omega) (fun H2 s2 => ⟨_, yG.of (s2.le0 _ _ hh) rfl, ⟨by decide, by decide⟩, s2.is, U_appI s2 hn6 (by simp only [List.length_append, List.length_cons, List.length_nil] <;> omega) (fun H3 s3 => ⟨⟨by decide, by decide⟩, s3.is, U_str s3 (by simp only [List.length_append, List.length_cons, List.length_nil] <;> omega) (fun q H9 l9 t9 => ⟨⟨by decide, by decide⟩, h q H9 l9 (by rw [e9]; exact t9)⟩)⟩)⟩)⟩)⟩⟩
    · exact absurd (nI_k (k := 22) h31 (by decide) q) (by omega)
    · exact absurd (nI_k (k := 23) h31 (by decide) q) (by omega)
    · exact absurd (nI_k (k := 24) h31 (by decide) q) (by omega)
  obtain ⟨p, r0, hh, hp1, hp2⟩ := ha.1 (by omega)
  refine C_X13_text_2 G M H F a ⟨_, yG.of hh rfl, fun q => absurd q (by rw [nI_toInt h31]; omega), fun q => ?_, fun q => ?_, fun q => ?_, fun q => ?_, fun q => ?_, fun q => ?_, fun q => ?_, fun q => ?_, fun q => ?_, fun q => ?_, fun q => ?_, fun q => ?_, fun q => ?_, fun q => ?_, fun q => ?_, fun q => ?_, fun q => ?_, fun q => ?_, fun q => ?_, fun q => ?_, fun q => ?_, fun q => ?_, fun q => ?_, fun q => ?_, fun q => ?_⟩
  · exact absurd (nI_k (k := 0) h31 (by decide) q) (by omega)
  · exact absurd (nI_k (k := 1) h31 (by decide) q) (by omega)
  · exact absurd (nI_k (k := 2) h31 (by decide) q) (by omega)
  · exact absurd (nI_k (k := 3) h31 (by decide) q) (by omega)
  · exact absurd (nI_k (k := 4) h31 (by decide) q) (by omega)
  · exact absurd (nI_k (k := 5) h31 (by decide) q) (by omega)
  · exact absurd (nI_k (k := 6) h31 (by decide) q) (by omega)
  · exact absurd (nI_k (k := 7) h31 (by decide) q) (by omega)
  · exact absurd (nI_k (k := 8) h31 (by decide) q) (by omega)
  · exact absurd (nI_k (k := 9) h31 (by decide) q) (by omega)
  · exact absurd (nI_k (k := 10) h31 (by decide) q) (by omega)
  · exact absurd (nI_k (k := 11) h31 (by decide) q) (by omega)
  · exact absurd (nI_k (k := 12) h31 (by decide) q) (by omega)
  · exact absurd (nI_k (k := 13) h31 (by decide) q) (by omega)
  · exact absurd (nI_k (k := 14) h31 (by decide) q) (by omega)
  · have hk := nI_k (k := 15) h31 (by decide) q
    have e9 : t0X x = [] ++ s1X x.2.2.1 ++ [60] ++ lfX x.2.2.2 := by unfold t0X; rw [if_pos (by omega), hk]; simp [cmX]
    rw [hk] at hh
    exact B_X13_text_2_448 G _ _ M H F a ⟨nI 15, yG.of hh rfl, fun _ => ⟨nI 15, yG.of hh rfl, fun _ => B_X13_text_2_536 G _ _ M H F a ⟨⟨by decide, by decide⟩, fun q hq => ⟨⟨by decide, by decide⟩, U_init hq (fun H1 s1 => ⟨_, yG.of (s1.le0 _ _ hh) rfl, ⟨by decide, by decide⟩, (hp1.le s1.le0).is, X_S1_1 (hp1.le s1.le0) hx.2.2.1 (fun r2 K2 l2 t2 => ⟨⟨by decide, by decide⟩, (s1.le l2).is, U_app (s1.le l2) t2 (as_s1 _) (by simp only [List.length_append, List.length_cons, List.length_nil] <;> omega) (fun H2 s2 => ⟨_, yG.of (s2.le0 _ _ hh) rfl, sgI_15, ⟨by decide, by decide⟩, s2.is, U_app s2 (U_sg15) (yAs.lit (by decide)) (by simp only [List.length_append, List.length_cons, List.length_nil] <;> omega) (fun H3 s3 => ⟨_, yG.of (s3.le0 _ _ hh) rfl, ⟨by decide, by decide⟩, (hp2.le s3.le0).is, X_Lf_1 (hp2.le s3.le0) hx.2.2.2 (fun r4 K4 l4 t4 => ⟨⟨by decide, by decide⟩, (s3.le l4).is, U_app (s3.le l4) t4 (as_lf _) (by simp only [List.length_append, List.length_cons, List.length_nil] <;> omega) (fun H4 s4 => ⟨⟨by decide, by decide⟩, s4.is, U_str s4 (by simp only [List.length_append, List.length_cons, List.length_nil] <;> omega) (fun q H9 l9 t9 => ⟨⟨by decide, by decide⟩, h q H9 l9 (by rw [e9]; exact t9)⟩)⟩)⟩)⟩)⟩)⟩)⟩)⟩⟩, fun z => absurd (show (15 : Int32) ≤ nI 15 by decide) z⟩, fun z => absurd (show (7 : Int32) ≤ nI 15 by decide) z⟩
  · have hk := nI_k (k := 16) h31 (by decide) q
    have e9 : t0X x = [] ++ s1X x.2.2.1 ++ [62] ++ lfX x.2.2.2 := by unfold t0X; rw [if_pos (by omega), hk]; simp [cmX]
    rw [hk] at hh
    exact B_X13_text_2_448 G _ _ M H F a ⟨nI 16, yG.of hh rfl, fun _ => ⟨nI 16, yG.of hh rfl, fun _ => B_X13_text_2_536 G _ _ M H F a ⟨⟨by decide, by decide⟩, fun q hq => ⟨⟨by decide, by decide⟩, U_init hq (fun H1 s1 => ⟨_, yG.of (s1.le0 _ _ hh) rfl, ⟨by decide, by decide⟩, (hp1.le s1.le0).is, X_S1_1 (hp1.le s1.le0) hx.2.2.1 (fun r2 K2 l2 t2 => ⟨⟨by decide, by decide⟩, (s1.le l2).is, U_app (s1.le l2) t2 (as_s1 _) (by simp only [List.length_append, List.length_cons, List.length_nil] <;> omega) (fun H2 s2 => ⟨_, yG.of (s2.le0 _ _ hh) rfl, sgI_16, ⟨by decide, by decide⟩, s2.is, U_app s2 (U_sg16) (yAs.lit (by decide)) (by simp only [List.length_append, List.length_cons, List.length_nil] <;> omega) (fun H3 s3 => ⟨_, yG.of (s3.le0 _ _ hh) rfl, ⟨by decide, by decide⟩, (hp2.le s3.le0).is, X_Lf_1 (hp2.le s3.le0) hx.2.2.2 (fun r4 K4 l4 t4 => ⟨⟨by decide, by decide⟩, (s3.le l4).is, U_app (s3.le l4) t4 (as_lf _) (by simp only [List.length_append, List.length_cons, List.length_nil] <;> omega) (fun H4 s4 => ⟨⟨by decide, by decide⟩, s4.is, U_str s4 (by simp only [List.length_append, List.length_cons, List.length_nil] <;> omega) (fun q H9 l9 t9 => ⟨⟨by decide, by decide⟩, h q H9 l9 (by rw [e9]; exact t9)⟩)⟩)⟩)⟩)⟩)⟩)⟩)⟩⟩, fun z => absurd (show (15 : Int32) ≤ nI 16 by decide) z⟩, fun z => absurd (show (7 : Int32) ≤ nI 16 by decide) z⟩
  · have hk := nI_k (k := 17) h31 (by decide) q
    have e9 : t0X x = [] ++ s1X x.2.2.1 ++ [61] ++ lfX x.2.2.2 := by unfold t0X; rw [if_pos (by omega), hk]; simp [cmX]
    rw [hk] at hh
    exact B_X13_text_2_448 G _ _ M H F a ⟨nI 17, yG.of hh rfl, fun _ => ⟨nI 17, yG.of hh rfl, fun _ => B_X13_text_2_536 G _ _ M H F a ⟨⟨by decide, by decide⟩, fun q hq => ⟨⟨by decide, by decide⟩, U_init hq (fun H1 s1 => ⟨_, yG.of (s1.le0 _ _ hh) rfl, ⟨by decide, by decide⟩, (hp1.le s1.le0).is, X_S1_1 (hp1.le s1.le0) hx.2.2.1 (fun r2 K2 l2 t2 => ⟨⟨by decide, by decide⟩, (s1.le l2).is, U_app (s1.le l2) t2 (as_s1 _) (by simp only [List.length_append, List.length_cons, List.length_nil] <;> omega) (fun H2 s2 => ⟨_, yG.of (s2.le0 _ _ hh) rfl, sgI_17, ⟨by decide, by decide⟩, s2.is, U_app s2 (U_sg17) (yAs.lit (by decide)) (by simp only [List.length_append, List.length_cons, List.length_nil] <;> omega) (fun H3 s3 => ⟨_, yG.of (s3.le0 _ _ hh) rfl, ⟨by decide, by decide⟩, (hp2.le s3.le0).is, X_Lf_1 (hp2.le s3.le0) hx.2.2.2 (fun r4 K4 l4 t4 => ⟨⟨by decide, by decide⟩, (s3.le l4).is, U_app (s3.le l4) t4 (as_lf _) (by simp only [List.length_append, List.length_cons, List.length_nil] <;> omega) (fun H4 s4 => ⟨⟨by decide, by decide⟩, s4.is, U_str s4 (by simp only [List.length_append, List.length_cons, List.length_nil] <;> omega) (fun q H9 l9 t9 => ⟨⟨by decide, by decide⟩, h q H9 l9 (by rw [e9]; exact t9)⟩)⟩)⟩)⟩)⟩)⟩)⟩)⟩⟩, fun z => absurd (show (15 : Int32) ≤ nI 17 by decide) z⟩, fun z => absurd (show (7 : Int32) ≤ nI 17 by decide) z⟩
  · have hk := nI_k (k := 18) h31 (by decide) q
    have e9 : t0X x = [] ++ s1X x.2.2.1 ++ [60, 61] ++ lfX x.2.2.2 := by unfold t0X; rw [if_pos (by omega), hk]; simp [cmX]
    rw [hk] at hh
    exact B_X13_text_2_448 G _ _ M H F a ⟨nI 18, yG.of hh rfl, fun _ => ⟨nI 18, yG.of hh rfl, fun _ => B_X13_text_2_536 G _ _ M H F a ⟨⟨by decide, by decide⟩, fun q hq => ⟨⟨by decide, by decide⟩, U_init hq (fun H1 s1 => ⟨_, yG.of (s1.le0 _ _ hh) rfl, ⟨by decide, by decide⟩, (hp1.le s1.le0).is, X_S1_1 (hp1.le s1.le0) hx.2.2.1 (fun r2 K2 l2 t2 => ⟨⟨by decide, by decide⟩, (s1.le l2).is, U_app (s1.le l2) t2 (as_s1 _) (by simp only [List.length_append, List.length_cons, List.length_nil] <;> omega) (fun H2 s2 => ⟨_, yG.of (s2.le0 _ _ hh) rfl, sgI_18, ⟨by decide, by decide⟩, s2.is, U_app s2 (U_sg18) (yAs.lit (by decide)) (by simp only [List.length_append, List.length_cons, List.length_nil] <;> omega) (fun H3 s3 => ⟨_, yG.of (s3.le0 _ _ hh) rfl, ⟨by decide, by decide⟩, (hp2.le s3.le0).is, X_Lf_1 (hp2.le s3.le0) hx.2.2.2 (fun r4 K4 l4 t4 => ⟨⟨by decide, by decide⟩, (s3.le l4).is, U_app (s3.le l4) t4 (as_lf _) (by simp only [List.length_append, List.length_cons, List.length_nil] <;> omega) (fun H4 s4 => ⟨⟨by decide, by decide⟩, s4.is, U_str s4 (by simp only [List.length_append, List.length_cons, List.length_nil] <;> omega) (fun q H9 l9 t9 => ⟨⟨by decide, by decide⟩, h q H9 l9 (by rw [e9]; exact t9)⟩)⟩)⟩)⟩)⟩)⟩)⟩)⟩⟩, fun z => absurd (show (15 : Int32) ≤ nI 18 by decide) z⟩, fun z => absurd (show (7 : Int32) ≤ nI 18 by decide) z⟩
  · have hk := nI_k (k := 19) h31 (by decide) q
    have e9 : t0X x = [] ++ s1X x.2.2.1 ++ [62, 61] ++ lfX x.2.2.2 := by unfold t0X; rw [if_pos (by omega), hk]; simp [cmX]
    rw [hk] at hh
    exact B_X13_text_2_448 G _ _ M H F a ⟨nI 19, yG.of hh rfl, fun _ => ⟨nI 19, yG.of hh rfl, fun _ => B_X13_text_2_536 G _ _ M H F a ⟨⟨by decide, by decide⟩, fun q hq => ⟨⟨by decide, by decide⟩, U_init hq (fun H1 s1 => ⟨_, yG.of (s1.le0 _ _ hh) rfl, ⟨by decide, by decide⟩, (hp1.le s1.le0).is, X_S1_1 (hp1.le s1.le0) hx.2.2.1 (fun r2 K2 l2 t2 => ⟨⟨by decide, by decide⟩, (s1.le l2).is, U_app (s1.le l2) t2 (as_s1 _) (by simp only [List.length_append, List.length_cons, List.length_nil] <;> omega) (fun H2 s2 => ⟨_, yG.of (s2.le0 _ _ hh) rfl, sgI_19, ⟨by decide, by decide⟩, s2.is, U_app s2 (U_sg19) (yAs.lit (by decide)) (by simp only [List.length_append, List.length_cons, List.length_nil] <;> omega) (fun H3 s3 => ⟨_, yG.of (s3.le0 _ _ hh) rfl, ⟨by decide, by decide⟩, (hp2.le s3.le0).is, X_Lf_1 (hp2.le s3.le0) hx.2.2.2 (fun r4 K4 l4 t4 => ⟨⟨by decide, by decide⟩, (s3.le l4).is, U_app (s3.le l4) t4 (as_lf _) (by simp only [List.length_append, List.length_cons, List.length_nil] <;> omega) (fun H4 s4 => ⟨⟨by decide, by decide⟩, s4.is, U_str s4 (by simp only [List.length_append, List.length_cons, List.length_nil] <;> omega) (fun q H9 l9 t9 => ⟨⟨by decide, by decide⟩, h q H9 l9 (by rw [e9]; exact t9)⟩)⟩)⟩)⟩)⟩)⟩)⟩)⟩⟩, fun z => absurd (show (15 : Int32) ≤ nI 19 by decide) z⟩, fun z => absurd (show (7 : Int32) ≤ nI 19 by decide) z⟩
  · exact absurd (nI_k (k := 20) h31 (by decide) q) (by omega)
  · exact absurd (nI_k (k := 21) h31 (by decide) q) (by omega)
  · exact absurd (nI_k (k := 22) h31 (by decide) q) (by omega)
  · exact absurd (nI_k (k := 23) h31 (by decide) q) (by omega)
  · exact absurd (nI_k (k := 24) h31 (by decide) q) (by omega)
set_option maxHeartbeats 4000000 in
set_option maxRecDepth 100000 in
theorem X_T0_3 {a : Nat} {x : xT0} {F : Nat → eM → yH → Prop} (ha : nT0 H a x) (hx : t0N x) (h : ∀ q H', yLe H H' → yTx G H' q (t0X x) → F q M H') : yCal G (10, 111, 130200) kX13_text [.ref a] M H (yFR F) := by
  have h22 := hx.1
  have h31 : x.1 < 2 ^ 31 := by omega
  have y1 := (s1X_len hx.2.2.1).1
  have y2 := (lfX_len hx.2.2.2).1
  by_cases h20 : 20 ≤ x.1
  · have hh := ha.2 h20
    have hn : x.2.1 < 16 := hx.2.1 h20
    have hn6 : x.2.1 < 1000000 := by omega
    have dl := dg6_len hn6
    refine C_X13_text_3 G M H F a ⟨_, yG.of hh rfl, fun q => absurd q (by rw [nI_toInt h31]; omega), fun q => ?_, fun q => ?_, fun q => ?_, fun q => ?_, fun q => ?_, fun q => ?_, fun q => ?_, fun q => ?_, fun q => ?_, fun q => ?_, fun q => ?_, fun q => ?_, fun q => ?_, fun q => ?_, fun q => ?_, fun q => ?_, fun q => ?_, fun q => ?_, fun q => ?_, fun q => ?_, fun q => ?_, fun q => ?_, fun q => ?_, fun q => ?_, fun q => ?_⟩
    · exact absurd (nI_k (k := 0) h31 (by decide) q) (by omega)
    · exact absurd (nI_k (k := 1) h31 (by decide) q) (by omega)
    · exact absurd (nI_k (k := 2) h31 (by decide) q) (by omega)
    · exact absurd (nI_k (k := 3) h31 (by decide) q) (by omega)
    · exact absurd (nI_k (k := 4) h31 (by decide) q) (by omega)
    · exact absurd (nI_k (k := 5) h31 (by decide) q) (by omega)
    · exact absurd (nI_k (k := 6) h31 (by decide) q) (by omega)
    · exact absurd (nI_k (k := 7) h31 (by decide) q) (by omega)
    · exact absurd (nI_k (k := 8) h31 (by decide) q) (by omega)
    · exact absurd (nI_k (k := 9) h31 (by decide) q) (by omega)
    · exact absurd (nI_k (k := 10) h31 (by decide) q) (by omega)
    · exact absurd (nI_k (k := 11) h31 (by decide) q) (by omega)
    · exact absurd (nI_k (k := 12) h31 (by decide) q) (by omega)
    · exact absurd (nI_k (k := 13) h31 (by decide) q) (by omega)
    · exact absurd (nI_k (k := 14) h31 (by decide) q) (by omega)
    · exact absurd (nI_k (k := 15) h31 (by decide) q) (by omega)
    · exact absurd (nI_k (k := 16) h31 (by decide) q) (by omega)
    · exact absurd (nI_k (k := 17) h31 (by decide) q) (by omega)
    · exact absurd (nI_k (k := 18) h31 (by decide) q) (by omega)
    · exact absurd (nI_k (k := 19) h31 (by decide) q) (by omega)
    · have hk := nI_k (k := 20) h31 (by decide) q
      have e9 : t0X x = [] ++ [111, 110, 32, 116] ++ dg x.2.1 := by unfold t0X tnm; rw [if_neg (by omega), if_pos hk]; simp
      exact B_X13_text_3_284 G _ _ M H F a ⟨⟨by decide, by decide⟩, fun q hq => ⟨⟨by decide, by decide⟩, U_init hq (fun H1 s1 => ⟨⟨by decide, by decide⟩, s1.is, U_app s1 (U_lit (ix := 16) (bs := [111, 110, 32, 116]) (by decide) (by decide)) (yAs.lit (by decide)) (by simp only [List.length_append, List.length_cons, List.length_nil] <;> omega) (fun H2 s2 => ⟨_, yG.of (s2.le0 _ _ hh) rfl, ⟨by decide, by decide⟩, s2.is, U_appI s2 hn6 (by simp only [List.length_append, List.length_cons, List.length_nil] <;> omega) (fun H3 s3 => ⟨⟨by decide, by decide⟩, s3.is, U_str s3 (by simp only [List.length_append, List.length_cons, List.length_nil] <;> omega) (fun q H9 l9 t9 => ⟨⟨by decide, by decide⟩, h q H9 l9 (by rw [e9]; exact t9)⟩)⟩)⟩)⟩)⟩⟩
    · have hk := nI_k (k := 21) h31 (by decide) q
      have e9 : t0X x = [] ++ [102, 105, 116, 115, 32, 116] ++ dg x.2.1 := by unfold t0X tnm; rw [if_neg (by omega), if_neg (by omega)]; simp
      exact B_X13_text_3_307 G _ _ M H F a ⟨⟨by decide, by decide⟩, fun q hq => ⟨⟨by decide, by decide⟩, U_init hq (fun H1 s1 => ⟨⟨by decide, by decide⟩, s1.is, U_app s1 (U_lit (ix := 17) (bs := [102, 105, 116, 115, 32, 116]) (by decide) (by decide)) (yAs.lit (by decide)) (by simp only [List.length_append, List.length_cons, List.length_nil] <;> omega) (fun H2 s2 => ⟨_, yG.of (s2.le0 _ _ hh) rfl, ⟨by decide, by decide⟩, s2.is, U_appI s2 hn6 (by simp only [List.length_append, List.length_cons, List.length_nil] <;> omega) (fun H3 s3 => ⟨⟨by decide, by decide⟩, s3.is, U_str s3 (by simp only [List.length_append, List.length_cons, List.length_nil] <;> omega) (fun q H9 l9 t9 => ⟨⟨by decide, by decide⟩, h q H9 l9 (by rw [e9]; exact t9)⟩)⟩)⟩)⟩)⟩⟩
    · exact absurd (nI_k (k := 22) h31 (by decide) q) (by omega)
    · exact absurd (nI_k (k := 23) h31 (by decide) q) (by omega)
    · exact absurd (nI_k (k := 24) h31 (by decide) q) (by omega)
  obtain ⟨p, r0, hh, hp1, hp2⟩ := ha.1 (by omega)
  refine C_X13_text_3 G M H F a ⟨_, yG.of hh rfl, fun q => absurd q (by rw [nI_toInt h31]; omega), fun q => ?_, fun q => ?_, fun q => ?_, fun q => ?_, fun q => ?_, fun q => ?_, fun q => ?_, fun q => ?_, fun q => ?_, fun q => ?_, fun q => ?_, fun q => ?_, fun q => ?_, fun q => ?_, fun q => ?_, fun q => ?_, fun q => ?_, fun q => ?_, fun q => ?_, fun q => ?_, fun q => ?_, fun q => ?_, fun q => ?_, fun q => ?_, fun q => ?_⟩
  · exact absurd (nI_k (k := 0) h31 (by decide) q) (by omega)
  · exact absurd (nI_k (k := 1) h31 (by decide) q) (by omega)
  · exact absurd (nI_k (k := 2) h31 (by decide) q) (by omega)
  · exact absurd (nI_k (k := 3) h31 (by decide) q) (by omega)
  · exact absurd (nI_k (k := 4) h31 (by decide) q) (by omega)
  · exact absurd (nI_k (k := 5) h31 (by decide) q) (by omega)
  · exact absurd (nI_k (k := 6) h31 (by decide) q) (by omega)
  · exact absurd (nI_k (k := 7) h31 (by decide) q) (by omega)
  · exact absurd (nI_k (k := 8) h31 (by decide) q) (by omega)
  · exact absurd (nI_k (k := 9) h31 (by decide) q) (by omega)
  · exact absurd (nI_k (k := 10) h31 (by decide) q) (by omega)
  · exact absurd (nI_k (k := 11) h31 (by decide) q) (by omega)
  · exact absurd (nI_k (k := 12) h31 (by decide) q) (by omega)
  · exact absurd (nI_k (k := 13) h31 (by decide) q) (by omega)
  · exact absurd (nI_k (k := 14) h31 (by decide) q) (by omega)
  · have hk := nI_k (k := 15) h31 (by decide) q
    have e9 : t0X x = [] ++ s1X x.2.2.1 ++ [60] ++ lfX x.2.2.2 := by unfold t0X; rw [if_pos (by omega), hk]; simp [cmX]
    rw [hk] at hh
    exact B_X13_text_3_448 G _ _ M H F a ⟨nI 15, yG.of hh rfl, fun _ => ⟨nI 15, yG.of hh rfl, fun _ => B_X13_text_3_536 G _ _ M H F a ⟨⟨by decide, by decide⟩, fun q hq => ⟨⟨by decide, by decide⟩, U_init hq (fun H1 s1 => ⟨_, yG.of (s1.le0 _ _ hh) rfl, ⟨by decide, by decide⟩, (hp1.le s1.le0).is, X_S1_2 (hp1.le s1.le0) hx.2.2.1 (fun r2 K2 l2 t2 => ⟨⟨by decide, by decide⟩, (s1.le l2).is, U_app (s1.le l2) t2 (as_s1 _) (by simp only [List.length_append, List.length_cons, List.length_nil] <;> omega) (fun H2 s2 => ⟨_, yG.of (s2.le0 _ _ hh) rfl, sgI_15, ⟨by decide, by decide⟩, s2.is, U_app s2 (U_sg15) (yAs.lit (by decide)) (by simp only [List.length_append, List.length_cons, List.length_nil] <;> omega) (fun H3 s3 => ⟨_, yG.of (s3.le0 _ _ hh) rfl, ⟨by decide, by decide⟩, (hp2.le s3.le0).is, X_Lf_2 (hp2.le s3.le0) hx.2.2.2 (fun r4 K4 l4 t4 => ⟨⟨by decide, by decide⟩, (s3.le l4).is, U_app (s3.le l4) t4 (as_lf _) (by simp only [List.length_append, List.length_cons, List.length_nil] <;> omega) (fun H4 s4 => ⟨⟨by decide, by decide⟩, s4.is, U_str s4 (by simp only [List.length_append, List.length_cons, List.length_nil] <;> omega) (fun q H9 l9 t9 => ⟨⟨by decide, by decide⟩, h q H9 l9 (by rw [e9]; exact t9)⟩)⟩)⟩)⟩)⟩)⟩)⟩)⟩⟩, fun z => absurd (show (15 : Int32) ≤ nI 15 by decide) z⟩, fun z => absurd (show (7 : Int32) ≤ nI 15 by decide) z⟩
  · have hk := nI_k (k := 16) h31 (by decide) q
    have e9 : t0X x = [] ++ s1X x.2.2.1 ++ [62] ++ lfX x.2.2.2 := by unfold t0X; rw [if_pos (by omega), hk]; simp [cmX]
    rw [hk] at hh
    exact B_X13_text_3_448 G _ _ M H F a ⟨nI 16, yG.of hh rfl, fun _ => ⟨nI 16, yG.of hh rfl, fun _ => B_X13_text_3_536 G _ _ M H F a ⟨⟨by decide, by decide⟩, fun q hq => ⟨⟨by decide, by decide⟩, U_init hq (fun H1 s1 => ⟨_, yG.of (s1.le0 _ _ hh) rfl, ⟨by decide, by decide⟩, (hp1.le s1.le0).is, X_S1_2 (hp1.le s1.le0) hx.2.2.1 (fun r2 K2 l2 t2 => ⟨⟨by decide, by decide⟩, (s1.le l2).is, U_app (s1.le l2) t2 (as_s1 _) (by simp only [List.length_append, List.length_cons, List.length_nil] <;> omega) (fun H2 s2 => ⟨_, yG.of (s2.le0 _ _ hh) rfl, sgI_16, ⟨by decide, by decide⟩, s2.is, U_app s2 (U_sg16) (yAs.lit (by decide)) (by simp only [List.length_append, List.length_cons, List.length_nil] <;> omega) (fun H3 s3 => ⟨_, yG.of (s3.le0 _ _ hh) rfl, ⟨by decide, by decide⟩, (hp2.le s3.le0).is, X_Lf_2 (hp2.le s3.le0) hx.2.2.2 (fun r4 K4 l4 t4 => ⟨⟨by decide, by decide⟩, (s3.le l4).is, U_app (s3.le l4) t4 (as_lf _) (by simp only [List.length_append, List.length_cons, List.length_nil] <;> omega) (fun H4 s4 => ⟨⟨by decide, by decide⟩, s4.is, U_str s4 (by simp only [List.length_append, List.length_cons, List.length_nil] <;> omega) (fun q H9 l9 t9 => ⟨⟨by decide, by decide⟩, h q H9 l9 (by rw [e9]; exact t9)⟩)⟩)⟩)⟩)⟩)⟩)⟩)⟩⟩, fun z => absurd (show (15 : Int32) ≤ nI 16 by decide) z⟩, fun z => absurd (show (7 : Int32) ≤ nI 16 by decide) z⟩
  · have hk := nI_k (k := 17) h31 (by decide) q
    have e9 : t0X x = [] ++ s1X x.2.2.1 ++ [61] ++ lfX x.2.2.2 := by unfold t0X; rw [if_pos (by omega), hk]; simp [cmX]
    rw [hk] at hh
    exact B_X13_text_3_448 G _ _ M H F a ⟨nI 17, yG.of hh rfl, fun _ => ⟨nI 17, yG.of hh rfl, fun _ => B_X13_text_3_536 G _ _ M H F a ⟨⟨by decide, by decide⟩, fun q hq => ⟨⟨by decide, by decide⟩, U_init hq (fun H1 s1 => ⟨_, yG.of (s1.le0 _ _ hh) rfl, ⟨by decide, by decide⟩, (hp1.le s1.le0).is, X_S1_2 (hp1.le s1.le0) hx.2.2.1 (fun r2 K2 l2 t2 => ⟨⟨by decide, by decide⟩, (s1.le l2).is, U_app (s1.le l2) t2 (as_s1 _) (by simp only [List.length_append, List.length_cons, List.length_nil] <;> omega) (fun H2 s2 => ⟨_, yG.of (s2.le0 _ _ hh) rfl, sgI_17, ⟨by decide, by decide⟩, s2.is, U_app s2 (U_sg17) (yAs.lit (by decide)) (by simp only [List.length_append, List.length_cons, List.length_nil] <;> omega) (fun H3 s3 => ⟨_, yG.of (s3.le0 _ _ hh) rfl, ⟨by decide, by decide⟩, (hp2.le s3.le0).is, X_Lf_2 (hp2.le s3.le0) hx.2.2.2 (fun r4 K4 l4 t4 => ⟨⟨by decide, by decide⟩, (s3.le l4).is, U_app (s3.le l4) t4 (as_lf _) (by simp only [List.length_append, List.length_cons, List.length_nil] <;> omega) (fun H4 s4 => ⟨⟨by decide, by decide⟩, s4.is, U_str s4 (by simp only [List.length_append, List.length_cons, List.length_nil] <;> omega) (fun q H9 l9 t9 => ⟨⟨by decide, by decide⟩, h q H9 l9 (by rw [e9]; exact t9)⟩)⟩)⟩)⟩)⟩)⟩)⟩)⟩⟩, fun z => absurd (show (15 : Int32) ≤ nI 17 by decide) z⟩, fun z => absurd (show (7 : Int32) ≤ nI 17 by decide) z⟩
  · have hk := nI_k (k := 18) h31 (by decide) q
    have e9 : t0X x = [] ++ s1X x.2.2.1 ++ [60, 61] ++ lfX x.2.2.2 := by unfold t0X; rw [if_pos (by omega), hk]; simp [cmX]
    rw [hk] at hh
    exact B_X13_text_3_448 G _ _ M H F a ⟨nI 18, yG.of hh rfl, fun _ => ⟨nI 18, yG.of hh rfl, fun _ => B_X13_text_3_536 G _ _ M H F a ⟨⟨by decide, by decide⟩, fun q hq => ⟨⟨by decide, by decide⟩, U_init hq (fun H1 s1 => ⟨_, yG.of (s1.le0 _ _ hh) rfl, ⟨by decide, by decide⟩, (hp1.le s1.le0).is, X_S1_2 (hp1.le s1.le0) hx.2.2.1 (fun r2 K2 l2 t2 => ⟨⟨by decide, by decide⟩, (s1.le l2).is, U_app (s1.le l2) t2 (as_s1 _) (by simp only [List.length_append, List.length_cons, List.length_nil] <;> omega) (fun H2 s2 => ⟨_, yG.of (s2.le0 _ _ hh) rfl, sgI_18, ⟨by decide, by decide⟩, s2.is, U_app s2 (U_sg18) (yAs.lit (by decide)) (by simp only [List.length_append, List.length_cons, List.length_nil] <;> omega) (fun H3 s3 => ⟨_, yG.of (s3.le0 _ _ hh) rfl, ⟨by decide, by decide⟩, (hp2.le s3.le0).is, X_Lf_2 (hp2.le s3.le0) hx.2.2.2 (fun r4 K4 l4 t4 => ⟨⟨by decide, by decide⟩, (s3.le l4).is, U_app (s3.le l4) t4 (as_lf _) (by simp only [List.length_append, List.length_cons, List.length_nil] <;> omega) (fun H4 s4 => ⟨⟨by decide, by decide⟩, s4.is, U_str s4 (by simp only [List.length_append, List.length_cons, List.length_nil] <;> omega) (fun q H9 l9 t9 => ⟨⟨by decide, by decide⟩, h q H9 l9 (by rw [e9]; exact t9)⟩)⟩)⟩)⟩)⟩)⟩)⟩)⟩⟩, fun z => absurd (show (15 : Int32) ≤ nI 18 by decide) z⟩, fun z => absurd (show (7 : Int32) ≤ nI 18 by decide) z⟩
  · have hk := nI_k (k := 19) h31 (by decide) q
    have e9 : t0X x = [] ++ s1X x.2.2.1 ++ [62, 61] ++ lfX x.2.2.2 := by unfold t0X; rw [if_pos (by omega), hk]; simp [cmX]
    rw [hk] at hh
    exact B_X13_text_3_448 G _ _ M H F a ⟨nI 19, yG.of hh rfl, fun _ => ⟨nI 19, yG.of hh rfl, fun _ => B_X13_text_3_536 G _ _ M H F a ⟨⟨by decide, by decide⟩, fun q hq => ⟨⟨by decide, by decide⟩, U_init hq (fun H1 s1 => ⟨_, yG.of (s1.le0 _ _ hh) rfl, ⟨by decide, by decide⟩, (hp1.le s1.le0).is, X_S1_2 (hp1.le s1.le0) hx.2.2.1 (fun r2 K2 l2 t2 => ⟨⟨by decide, by decide⟩, (s1.le l2).is, U_app (s1.le l2) t2 (as_s1 _) (by simp only [List.length_append, List.length_cons, List.length_nil] <;> omega) (fun H2 s2 => ⟨_, yG.of (s2.le0 _ _ hh) rfl, sgI_19, ⟨by decide, by decide⟩, s2.is, U_app s2 (U_sg19) (yAs.lit (by decide)) (by simp only [List.length_append, List.length_cons, List.length_nil] <;> omega) (fun H3 s3 => ⟨_, yG.of (s3.le0 _ _ hh) rfl, ⟨by decide, by decide⟩, (hp2.le s3.le0).is, X_Lf_2 (hp2.le s3.le0) hx.2.2.2 (fun r4 K4 l4 t4 => ⟨⟨by decide, by decide⟩, (s3.le l4).is, U_app (s3.le l4) t4 (as_lf _) (by simp only [List.length_append, List.length_cons, List.length_nil] <;> omega) (fun H4 s4 => ⟨⟨by decide, by decide⟩, s4.is, U_str s4 (by simp only [List.length_append, List.length_cons, List.length_nil] <;> omega) (fun q H9 l9 t9 => ⟨⟨by decide, by decide⟩, h q H9 l9 (by rw [e9]; exact t9)⟩)⟩)⟩)⟩)⟩)⟩)⟩)⟩⟩, fun z => absurd (show (15 : Int32) ≤ nI 19 by decide) z⟩, fun z => absurd (show (7 : Int32) ≤ nI 19 by decide) z⟩
  · exact absurd (nI_k (k := 20) h31 (by decide) q) (by omega)
  · exact absurd (nI_k (k := 21) h31 (by decide) q) (by omega)
  · exact absurd (nI_k (k := 22) h31 (by decide) q) (by omega)
  · exact absurd (nI_k (k := 23) h31 (by decide) q) (by omega)
  · exact absurd (nI_k (k := 24) h31 (by decide) q) (by omega)
set_option maxHeartbeats 4000000 in
set_option maxRecDepth 100000 in
theorem X_T1_3 {a : Nat} {x : xT1} {F : Nat → eM → yH → Prop} (ha : nT1 H a x) (hx : t1N x) (h : ∀ q H', yLe H H' → yTx G H' q (t1X x) → F q M H') : yCal G (10, 111, 130200) kX13_text [.ref a] M H (yFR F) := by
  have h25 := hx.1
  have h31 : x.1 < 2 ^ 31 := by omega
  have y1 := (t0X_len hx.2.2.1).1
  have y2 := (t0X_len hx.2.2.2).1
  by_cases h22 : x.1 < 22
  · have e : t1X x = t0X x.2.1 := by unfold t1X; rw [if_pos h22]
    rw [e] at h
    exact X_T0_3 (ha.1 h22).2 hx.2.1 h
  by_cases h23 : x.1 = 22
  · obtain ⟨p, hh, hp1⟩ := ha.2.1 h23
    rw [h23] at hh
    have e9 : t1X x = [] ++ [110, 111, 116, 32] ++ t0X x.2.2.1 := by unfold t1X; rw [if_neg h22, if_pos h23]; simp
    refine C_X13_text_3 G M H F a ⟨_, yG.of hh rfl, fun q => absurd q (by decide), fun q => absurd q (by decide), fun q => absurd q (by decide), fun q => absurd q (by decide), fun q => absurd q (by decide), fun q => absurd q (by decide), fun q => absurd q (by decide), fun q => absurd q (by decide), fun q => absurd q (by decide), fun q => absurd q (by decide), fun q => absurd q (by decide), fun q => absurd q (by decide), fun q => absurd q (by decide), fun q => absurd q (by decide), fun q => absurd q (by decide), fun q => absurd q (by decide), fun q => absurd q (by decide), fun q => absurd q (by decide), fun q => absurd q (by decide), fun q => absurd q (by decide), fun q => absurd q (by decide), fun q => absurd q (by decide), fun q => absurd q (by decide), fun q => ?_, fun q => absurd q (by decide), fun q => absurd q (by decide)⟩
    exact B_X13_text_3_330 G _ _ M H F a ⟨⟨by decide, by decide⟩, fun q hq => ⟨⟨by decide, by decide⟩, U_init hq (fun H1 s1 => ⟨⟨by decide, by decide⟩, s1.is, U_app s1 (U_lit (ix := 18) (bs := [110, 111, 116, 32]) (by decide) (by decide)) (yAs.lit (by decide)) (by simp only [List.length_append, List.length_cons, List.length_nil] <;> omega) (fun H2 s2 => ⟨_, yG.of (s2.le0 _ _ hh) rfl, ⟨by decide, by decide⟩, (hp1.le s2.le0).is, X_T0_2 (hp1.le s2.le0) hx.2.2.1 (fun r3 K3 l3 t3 => ⟨⟨by decide, by decide⟩, (s2.le l3).is, U_app (s2.le l3) t3 (as_t0 _) (by simp only [List.length_append, List.length_cons, List.length_nil] <;> omega) (fun H3 s3 => ⟨⟨by decide, by decide⟩, s3.is, U_str s3 (by simp only [List.length_append, List.length_cons, List.length_nil] <;> omega) (fun q H9 l9 t9 => ⟨⟨by decide, by decide⟩, h q H9 l9 (by rw [e9]; exact t9)⟩)⟩)⟩)⟩)⟩)⟩⟩
  obtain ⟨p, r0, hh, hp1, hp2⟩ := ha.2.2 (by omega)
  refine C_X13_text_3 G M H F a ⟨_, yG.of hh rfl, fun q => absurd q (by rw [nI_toInt h31]; omega), fun q => ?_, fun q => ?_, fun q => ?_, fun q => ?_, fun q => ?_, fun q => ?_, fun q => ?_, fun q => ?_, fun q => ?_, fun q => ?_, fun q => ?_, fun q => ?_, fun q => ?_, fun q => ?_, fun q => ?_, fun q => ?_, fun q => ?_, fun q => ?_, fun q => ?_, fun q => ?_, fun q => ?_, fun q => ?_, fun q => ?_, fun q => ?_, fun q => ?_⟩
  · exact absurd (nI_k (k := 0) h31 (by decide) q) (by omega)
  · exact absurd (nI_k (k := 1) h31 (by decide) q) (by omega)
  · exact absurd (nI_k (k := 2) h31 (by decide) q) (by omega)
  · exact absurd (nI_k (k := 3) h31 (by decide) q) (by omega)
  · exact absurd (nI_k (k := 4) h31 (by decide) q) (by omega)
  · exact absurd (nI_k (k := 5) h31 (by decide) q) (by omega)
  · exact absurd (nI_k (k := 6) h31 (by decide) q) (by omega)
  · exact absurd (nI_k (k := 7) h31 (by decide) q) (by omega)
  · exact absurd (nI_k (k := 8) h31 (by decide) q) (by omega)
  · exact absurd (nI_k (k := 9) h31 (by decide) q) (by omega)
  · exact absurd (nI_k (k := 10) h31 (by decide) q) (by omega)
  · exact absurd (nI_k (k := 11) h31 (by decide) q) (by omega)
  · exact absurd (nI_k (k := 12) h31 (by decide) q) (by omega)
  · exact absurd (nI_k (k := 13) h31 (by decide) q) (by omega)
  · exact absurd (nI_k (k := 14) h31 (by decide) q) (by omega)
  · exact absurd (nI_k (k := 15) h31 (by decide) q) (by omega)
  · exact absurd (nI_k (k := 16) h31 (by decide) q) (by omega)
  · exact absurd (nI_k (k := 17) h31 (by decide) q) (by omega)
  · exact absurd (nI_k (k := 18) h31 (by decide) q) (by omega)
  · exact absurd (nI_k (k := 19) h31 (by decide) q) (by omega)
  · exact absurd (nI_k (k := 20) h31 (by decide) q) (by omega)
  · exact absurd (nI_k (k := 21) h31 (by decide) q) (by omega)
  · exact absurd (nI_k (k := 22) h31 (by decide) q) (by omega)
  · have hk := nI_k (k := 23) h31 (by decide) q
    have e9 : t1X x = [] ++ [91] ++ t0X x.2.2.1 ++ [32, 97, 110, 100, 32] ++ t0X x.2.2.2 ++ [93] := by unfold t1X; rw [if_neg h22, if_neg h23, if_pos hk]; simp
    exact B_X13_text_3_356 G _ _ M H F a ⟨⟨by decide, by decide⟩, fun q hq => ⟨⟨by decide, by decide⟩, U_init hq (fun H1 s1 => ⟨⟨by decide, by decide⟩, s1.is, U_app s1 (U_lit (ix := 19) (bs := [91]) (by decide) (by decide)) (yAs.lit (by decide)) (by simp only [List.length_append, List.length_cons, List.length_nil] <;> omega) (fun H2 s2 => ⟨_, yG.of (s2.le0 _ _ hh) rfl, ⟨by decide, by decide⟩, (hp1.le s2.le0).is, X_T0_2 (hp1.le s2.le0) hx.2.2.1 (fun r3 K3 l3 t3 => ⟨⟨by decide, by decide⟩, (s2.le l3).is, U_app (s2.le l3) t3 (as_t0 _) (by simp only [List.length_append, List.length_cons, List.length_nil] <;> omega) (fun H3 s3 => ⟨⟨by decide, by decide⟩, s3.is, U_app s3 (U_lit (ix := 20) (bs := [32, 97, 110, 100, 32]) (by decide) (by decide)) (yAs.lit (by decide)) (by simp only [List.length_append, List.length_cons, List.length_nil] <;> omega) (fun H4 s4 => ⟨_, yG.of (s4.le0 _ _ hh) rfl, ⟨by decide, by decide⟩, (hp2.le s4.le0).is, X_T0_2 (hp2.le s4.le0) hx.2.2.2 (fun r5 K5 l5 t5 => ⟨⟨by decide, by decide⟩, (s4.le l5).is, U_app (s4.le l5) t5 (as_t0 _) (by simp only [List.length_append, List.length_cons, List.length_nil] <;> omega) (fun H5 s5 => ⟨⟨by decide, by decide⟩, s5.is, U_app s5 (U_lit (ix := 21) (bs := [93]) (by decide) (by decide)) (yAs.lit (by decide)) (by simp only [List.length_append, List.length_cons, List.length_nil] <;> omega) (fun H6 s6 => ⟨⟨by decide, by decide⟩, s6.is, U_str s6 (by simp only [List.length_append, List.length_cons, List.length_nil] <;> omega) (fun q H9 l9 t9 => ⟨⟨by decide, by decide⟩, h q H9 l9 (by rw [e9]; exact t9)⟩)⟩)⟩)⟩)⟩)⟩)⟩)⟩)⟩)⟩⟩
  · have hk := nI_k (k := 24) h31 (by decide) q
    have e9 : t1X x = [] ++ [91] ++ t0X x.2.2.1 ++ [32, 111, 114, 32] ++ t0X x.2.2.2 ++ [93] := by unfold t1X; rw [if_neg h22, if_neg h23, if_neg (by omega)]; simp
    exact B_X13_text_3_402 G _ _ M H F a ⟨⟨by decide, by decide⟩, fun q hq => ⟨⟨by decide, by decide⟩, U_init hq (fun H1 s1 => ⟨⟨by decide, by decide⟩, s1.is, U_app s1 (U_lit (ix := 19) (bs := [91]) (by decide) (by decide)) (yAs.lit (by decide)) (by simp only [List.length_append, List.length_cons, List.length_nil] <;> omega) (fun H2 s2 => ⟨_, yG.of (s2.le0 _ _ hh) rfl, ⟨by decide, by decide⟩, (hp1.le s2.le0).is, X_T0_2 (hp1.le s2.le0) hx.2.2.1 (fun r3 K3 l3 t3 => ⟨⟨by decide, by decide⟩, (s2.le l3).is, U_app (s2.le l3) t3 (as_t0 _) (by simp only [List.length_append, List.length_cons, List.length_nil] <;> omega) (fun H3 s3 => ⟨⟨by decide, by decide⟩, s3.is, U_app s3 (U_lit (ix := 22) (bs := [32, 111, 114, 32]) (by decide) (by decide)) (yAs.lit (by decide)) (by simp only [List.length_append, List.length_cons, List.length_nil] <;> omega) (fun H4 s4 => ⟨_, yG.of (s4.le0 _ _ hh) rfl, ⟨by decide, by decide⟩, (hp2.le s4.le0).is, X_T0_2 (hp2.le s4.le0) hx.2.2.2 (fun r5 K5 l5 t5 => ⟨⟨by decide, by decide⟩, (s4.le l5).is, U_app (s4.le l5) t5 (as_t0 _) (by simp only [List.length_append, List.length_cons, List.length_nil] <;> omega) (fun H5 s5 => ⟨⟨by decide, by decide⟩, s5.is, U_app s5 (U_lit (ix := 21) (bs := [93]) (by decide) (by decide)) (yAs.lit (by decide)) (by simp only [List.length_append, List.length_cons, List.length_nil] <;> omega) (fun H6 s6 => ⟨⟨by decide, by decide⟩, s6.is, U_str s6 (by simp only [List.length_append, List.length_cons, List.length_nil] <;> omega) (fun q H9 l9 t9 => ⟨⟨by decide, by decide⟩, h q H9 l9 (by rw [e9]; exact t9)⟩)⟩)⟩)⟩)⟩)⟩)⟩)⟩)⟩)⟩⟩
end XSpec
