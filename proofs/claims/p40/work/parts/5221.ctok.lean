/-! ===== the class cuts its tape ===== -/
def cTape (M : eM) (bt : Nat → Nat) (sz : Nat) : Prop := M 1 1 = nI sz ∧ sz ≤ 2000 ∧ ∀ j, j < sz → M 2 j = sb (bt j) ∧ bt j < 256
theorem cTape.of {M M' : eM} {bt : Nat → Nat} {sz : Nat} (h : cTape M bt sz) (h1 : M' 1 = M 1) (h2 : M' 2 = M 2) : cTape M' bt sz := by
  unfold cTape at h ⊢
  rw [h1, h2]
  exact h
section CTok
variable {G : eG} {M : eM} {bt : Nat → Nat} {sz : Nat}
theorem T_byteAt (hT : cTape M bt sz) (F : Int32 → eM → Prop) {a : Nat} (ha : a ≤ 2000) (h1 : a < sz → F (sb (bt a)) M) (h0 : sz ≤ a → F 0 M) : Cal G 0 68 (1, 0, 0) kX8_byteAt [.ref (G.1 1), .int (nI a)] M (eFI F) := by
  obtain ⟨t1, t2, t3⟩ := hT
  refine C_X8_byteAt G M F (nI a) ⟨fun q => absurd q (nI_pos (by omega)), fun _ => ⟨fun q => h0 ?_, fun q => ⟨vp_in_nI ?_ (by decide), ?_⟩⟩⟩
  · rw [t1] at q
    exact (nI_leI (by omega) (by omega)).mp q
  · rw [t1] at q
    have : ¬ sz ≤ a := fun z => q (nI_le z (by omega))
    omega
  · rw [t1] at q
    have h2 : a < sz := Nat.not_le.mp fun z => q (nI_le z (by omega))
    rw [nI_clamp (by omega), (t3 a h2).1]
    exact h1 h2
theorem T_isLetter (hT : cTape M bt sz) (F : Bool → eM → Prop) {a : Nat} (ha : a < sz) (h : F (tL (bt a)) M) : Cal G 0 68 (2, 0, 0) kX8_isLetter [.ref (G.1 1), .int (nI a)] M (eFZ F) := by
  have h2 := hT.2.1
  have hb := (hT.2.2 a ha).2
  obtain ⟨-, q1, q2, -, -⟩ := sb_all (bt a) hb
  unfold tL at h
  refine C_X8_isLetter G M F (nI a) (T_byteAt hT _ (by omega) (fun _ => ⟨fun q => ?_, fun q => ⟨fun z => ?_, fun z => ?_⟩⟩) (fun q => absurd ha (by omega)))
  · have := q1.mp q
    by_cases h3 : bt a < 97
    · rw [decide_eq_false (show ¬ 97 ≤ bt a by omega), Bool.false_and] at h; exact h
    · rw [decide_eq_false (show ¬ bt a ≤ 122 by omega), Bool.and_false] at h; exact h
  · have := q2.mp z
    rw [decide_eq_false (show ¬ bt a ≤ 122 by omega), Bool.and_false] at h
    exact h
  · have n1 : ¬ (bt a < 97 ∨ 128 ≤ bt a) := fun y => q (q1.mpr y)
    have n2 : ¬ (122 < bt a ∧ bt a < 128) := fun y => z (q2.mpr y)
    rw [decide_eq_true (show 97 ≤ bt a by omega), decide_eq_true (show bt a ≤ 122 by omega)] at h
    exact h
theorem T_isDigit (hT : cTape M bt sz) (F : Bool → eM → Prop) {a : Nat} (ha : a < sz) (h : F (tD (bt a)) M) : Cal G 0 68 (2, 0, 0) kX8_isDigit [.ref (G.1 1), .int (nI a)] M (eFZ F) := by
  have h2 := hT.2.1
  have hb := (hT.2.2 a ha).2
  obtain ⟨-, -, -, q1, q2⟩ := sb_all (bt a) hb
  unfold tD at h
  refine C_X8_isDigit G M F (nI a) (T_byteAt hT _ (by omega) (fun _ => ⟨fun q => ?_, fun q => ⟨fun z => ?_, fun z => ?_⟩⟩) (fun q => absurd ha (by omega)))
  · have := q1.mp q
    by_cases h3 : bt a < 48
    · rw [decide_eq_false (show ¬ 48 ≤ bt a by omega), Bool.false_and] at h; exact h
    · rw [decide_eq_false (show ¬ bt a ≤ 57 by omega), Bool.and_false] at h; exact h
  · have := q2.mp z
    rw [decide_eq_false (show ¬ bt a ≤ 57 by omega), Bool.and_false] at h
    exact h
  · have n1 : ¬ (bt a < 48 ∨ 128 ≤ bt a) := fun y => q (q1.mpr y)
    have n2 : ¬ (57 < bt a ∧ bt a < 128) := fun y => z (q2.mpr y)
    rw [decide_eq_true (show 48 ≤ bt a by omega), decide_eq_true (show bt a ≤ 57 by omega)] at h
    exact h
theorem T_blanks (hT : cTape M bt sz) (F : Int32 → eM → Prop) {a : Nat} (ha : a ≤ sz) (h : F (nI (tEnd bt sz tB a)) M) : Cal G 0 68 (2, 0, 0) kX8_behindBlanks [.ref (G.1 1), .int (nI a)] M (eFI F) := by
  have h2 := hT.2.1
  have h1 := hT.1
  refine C_X8_behindBlanks G M F (nI a) ?_
  refine eDown (P := fun i => F (nI (tEnd bt sz tB i)) M → Ev (eZ G 0 68 0 0 (eFI F)) G 0 68 (2, 0, 0) kX8_behindBlanks 2 [(0, .ref (G.1 1)), (2, .int (nI i))] [] M 0 0) (N := sz) ?_ ?_ a ha h
  · intro h
    rw [tEnd_off (Nat.le_refl _)] at h
    exact B_X8_behindBlanks_2 G M F _ ⟨fun _ => h, fun q => absurd (by rw [h1]; exact Int32.le_refl _) q⟩
  · intro i hi hn h
    obtain ⟨⟨q1, q2, -⟩, -⟩ := sb_all (bt i) (hT.2.2 i hi).2
    have go : tB (bt i) = true → Ev (eZ G 0 68 0 0 (eFI F)) G 0 68 (2, 0, 0) kX8_behindBlanks 30 [(0, .ref (G.1 1)), (2, .int (nI i))] [] M 0 0 := by
      intro hb
      rw [tEnd_yes hi hb] at h
      refine B_X8_behindBlanks_30 G M F _ ?_
      rw [← nI_succ]
      exact hn h
    refine B_X8_behindBlanks_2 G M F _ ⟨fun q => absurd q (by rw [h1]; exact nI_ge hi (by omega)), fun _ => ?_⟩
    refine T_byteAt hT _ (by omega) (fun _ => ⟨fun q => go ?_, fun q => ?_⟩) (fun q => absurd hi (by omega))
    · rw [q1.mp q]; rfl
    · refine T_byteAt hT _ (by omega) (fun _ => ⟨fun z => ?_, fun z => go ?_⟩) (fun q => absurd hi (by omega))
      · have hb : tB (bt i) = false := by
          unfold tB
          rw [Bool.or_eq_false_iff]
          exact ⟨beq_false_of_ne (fun y => q (q1.mpr y)), beq_false_of_ne (fun y => z (q2.mpr y))⟩
        rw [tEnd_no hb] at h
        exact h
      · rw [q2.mp z]; rfl
theorem T_word (hT : cTape M bt sz) (F : Int32 → eM → Prop) {a : Nat} (ha : a ≤ sz) (h : F (nI (tEnd bt sz tLD a)) M) : Cal G 0 68 (3, 0, 0) kX8_behindWord [.ref (G.1 1), .int (nI a)] M (eFI F) := by
  have h2 := hT.2.1
  have h1 := hT.1
  refine C_X8_behindWord G M F (nI a) ?_
  refine eDown (P := fun i => F (nI (tEnd bt sz tLD i)) M → Ev (eZ G 0 68 0 0 (eFI F)) G 0 68 (3, 0, 0) kX8_behindWord 2 [(0, .ref (G.1 1)), (2, .int (nI i))] [] M 0 0) (N := sz) ?_ ?_ a ha h
  · intro h
    rw [tEnd_off (Nat.le_refl _)] at h
    exact B_X8_behindWord_2 G M F _ ⟨fun _ => h, fun q => absurd (by rw [h1]; exact Int32.le_refl _) q⟩
  · intro i hi hn h
    have go : tLD (bt i) = true → Ev (eZ G 0 68 0 0 (eFI F)) G 0 68 (3, 0, 0) kX8_behindWord 26 [(0, .ref (G.1 1)), (2, .int (nI i))] [] M 0 0 := by
      intro hb
      rw [tEnd_yes hi hb] at h
      refine B_X8_behindWord_26 G M F _ ?_
      rw [← nI_succ]
      exact hn h
    refine B_X8_behindWord_2 G M F _ ⟨fun q => absurd q (by rw [h1]; exact nI_ge hi (by omega)), fun _ => ?_⟩
    refine T_isLetter hT _ hi ⟨fun q => go (tLD_L q), fun q => ?_⟩
    refine T_isDigit hT _ hi ⟨fun z => ?_, fun z => go ?_⟩
    · rw [tEnd_no (show tLD (bt i) = false by unfold tLD; rw [q, z]; rfl)] at h
      exact h
    · unfold tLD; rw [q, z]; rfl
theorem T_digits (hT : cTape M bt sz) (F : Int32 → eM → Prop) {a : Nat} (ha : a ≤ sz) (h : F (nI (tEnd bt sz tD a)) M) : Cal G 0 68 (3, 0, 0) kX8_behindDigits [.ref (G.1 1), .int (nI a)] M (eFI F) := by
  have h2 := hT.2.1
  have h1 := hT.1
  refine C_X8_behindDigits G M F (nI a) ?_
  refine eDown (P := fun i => F (nI (tEnd bt sz tD i)) M → Ev (eZ G 0 68 0 0 (eFI F)) G 0 68 (3, 0, 0) kX8_behindDigits 2 [(0, .ref (G.1 1)), (2, .int (nI i))] [] M 0 0) (N := sz) ?_ ?_ a ha h
  · intro h
    rw [tEnd_off (Nat.le_refl _)] at h
    exact B_X8_behindDigits_2 G M F _ ⟨fun _ => h, fun q => absurd (by rw [h1]; exact Int32.le_refl _) q⟩
  · intro i hi hn h
    refine B_X8_behindDigits_2 G M F _ ⟨fun q => absurd q (by rw [h1]; exact nI_ge hi (by omega)), fun _ => ?_⟩
    refine T_isDigit hT _ hi ⟨fun z => ?_, fun z => ?_⟩
    · rw [tEnd_no z] at h
      exact h
    · rw [tEnd_yes hi z] at h
      rw [← nI_succ]
      exact hn h
theorem T_stop (hT : cTape M bt sz) (F : Int32 → eM → Prop) {a : Nat} (ha : a < sz) (h : F (nI (tStop bt sz a)) M) : Cal G 0 68 (4, 0, 0) kX9_endOfToken [.ref (G.1 3), .int (nI a)] M (eFI F) := by
  have h2 := hT.2.1
  obtain ⟨⟨-, -, q60, q62, q61⟩, -⟩ := sb_all (bt a) (hT.2.2 a ha).2
  unfold tStop at h
  refine C_X9_endOfToken G M F (nI a) (T_isLetter hT _ ha ⟨fun hl => ?_, fun hl => ?_⟩)
  · rw [if_neg (by rw [hl]; decide)] at h
    refine T_isDigit hT _ ha ⟨fun hd => ?_, fun hd => ?_⟩
    · rw [if_neg (by rw [hd]; decide)] at h
      have one : ¬ ((bt a = 60 ∨ bt a = 62) ∧ (a + 1 < sz ∧ bt (a + 1) = 61)) → Ev (eZ G 0 68 0 0 (eFI F)) G 0 68 (4, 0, 0) kX9_endOfToken 80 [(1, .int (nI a))] [] M 0 0 := by
        intro hn
        rw [if_neg hn, nI_succ] at h
        exact B_X9_endOfToken_80 G M F _ ⟨fun _ => h, fun q => absurd rfl q⟩
      have two : (bt a = 60 ∨ bt a = 62) → Ev (eZ G 0 68 0 0 (eFI F)) G 0 68 (4, 0, 0) kX9_endOfToken 61 [(0, .ref (G.1 3)), (1, .int (nI a))] [] M 0 0 := by
        intro hs
        refine B_X9_endOfToken_61 G M F _ ?_
        rw [← nI_succ]
        refine T_byteAt hT _ (by omega) (fun h1 => ?_) (fun h1 => ⟨fun _ => one (fun z => absurd z.2.1 (by omega)), fun q => absurd q (by decide)⟩)
        obtain ⟨⟨-, -, -, -, r61⟩, -⟩ := sb_all (bt (a + 1)) (hT.2.2 (a + 1) h1).2
        refine ⟨fun q => one (fun z => q (r61.mpr z.2.2)), fun q => ⟨fun z => absurd z (by decide), fun _ => ?_⟩⟩
        rw [if_pos ⟨hs, h1, r61.mp q⟩] at h
        rw [eL2, nI_add]
        exact h
      refine T_byteAt hT _ (by omega) (fun _ => ⟨fun q => two (Or.inl (q60.mp q)), fun q => ⟨fun z => one (fun y => ?_), fun z => two (Or.inr (q62.mp z))⟩⟩) (fun q => absurd ha (by omega))
      rcases y.1 with y | y
      · exact q (q60.mpr y)
      · exact z (q62.mpr y)
    · rw [if_pos hd] at h
      exact T_digits hT _ (by omega) h
  · rw [if_pos hl] at h
    exact T_word hT _ (by omega) h
theorem T_says (hT : cTape M bt sz) (F : Bool → eM → Prop) {a n k : Nat} (hk : k < 44) (ha : a + n ≤ sz) (h : F (tSays bt a n k) M) : Cal G 0 68 (6, 0, 0) kX8_says [.ref (G.1 1), .ref (G.1 (1100 + k)), .int (nI a), .int (nI (a + n))] M (eFZ F) := by
  have h2 := hT.2.1
  have hk' : k < eKtx.length := hk
  have h7 := eKtx_len k hk
  unfold tSays at h
  have e1 : nI (a + n) - nI a = nI n := by rw [nI_sub (Nat.le_add_right a n), Nat.add_sub_cancel_left]
  refine C_X8_says G hk' M F _ _ ?_
  rw [e1]
  refine ⟨fun q => ?_, fun q => ?_⟩
  · have hl : (eKtx.getD k []).length = n := (nI_eq (by omega) (by omega)).mp q
    rw [decide_eq_true hl, Bool.true_and] at h
    have key : ∀ i, i ≤ n → (∀ j, j < i → decide (eKc k j ≠ nI (bt (a + j))) = false) → Ev (eZ G 0 68 0 0 (eFZ F)) G 0 68 (6, 0, 0) kX8_says 15 [(0, .ref (G.1 1)), (1, .ref (G.1 (1100 + k))), (2, .int (nI a)), (4, .int (nI i))] [] M 0 0 := by
      refine eDown (P := fun i => (∀ j, j < i → decide (eKc k j ≠ nI (bt (a + j))) = false) → Ev (eZ G 0 68 0 0 (eFZ F)) G 0 68 (6, 0, 0) kX8_says 15 [(0, .ref (G.1 1)), (1, .ref (G.1 (1100 + k))), (2, .int (nI a)), (4, .int (nI i))] [] M 0 0) ?_ ?_
      · intro hj
        rw [zFf_none hj] at h
        refine B_X8_says_15 G hk' M F _ _ ⟨fun _ => h, fun z => absurd ?_ z⟩
        unfold eKl
        rw [hl]
        exact Int32.le_refl _
      · intro i hi hn hj
        have hb := (hT.2.2 (a + i) (by omega)).2
        refine B_X8_says_15 G hk' M F _ _ ⟨fun z => absurd z ?_, fun _ => ⟨vp_in_nI (by rw [hl]; exact hi) (by omega), ?_⟩⟩
        · unfold eKl
          rw [hl]
          exact nI_ge hi (by omega)
        · rw [nI_add, nI_clamp (show i < 2 ^ 31 by omega)]
          refine T_byteAt hT _ (by omega) (fun _ => ⟨fun z => ?_, fun z => ?_⟩) (fun q => by omega)
          · rw [← nI_succ]
            refine hn (fun j hji => ?_)
            by_cases hq : j = i
            · subst hq
              exact decide_eq_false (fun y => y ((eKc_sb hk (by omega) hb).mp z))
            · exact hj j (by omega)
          · have y1 : decide (eKc k i ≠ nI (bt (a + i))) = true := decide_eq_true (fun y => z ((eKc_sb hk (by omega) hb).mpr y))
            rw [zFf_some hi y1 hj] at h
            exact h
    exact key 0 (Nat.zero_le _) (fun j hj => absurd hj (by omega))
  · rw [decide_eq_false (fun z => q (by unfold eKl; rw [z]))] at h
    exact h
theorem T_written (hT : cTape M bt sz) (F : Int32 → eM → Prop) {a n o : Nat} (ha : a + n ≤ sz) (h : F (nI (tTxt bt a n o)) M) : Cal G 0 68 (7, 0, 0) kX9_kindWritten [.ref (G.1 3), .int (nI a), .int (nI (a + n)), eV G 1 (nI o)] M (eFK G F) := by
  refine C_X9_kindWritten G M F _ _ _ ?_
  unfold tTxt at h
  have key : ∀ i, i ≤ 44 → (∀ j, j < i → tSays bt a n j = false) → Ev (eZ G 0 68 0 0 (eFK G F)) G 0 68 (7, 0, 0) kX9_kindWritten 13 [(0, .ref (G.1 3)), (1, .int (nI a)), (2, .int (nI (a + n))), (3, eV G 1 (nI o)), (4, .ref (G.1 1300)), (5, .int 44), (6, .int (nI i))] [] M 0 0 := by
    refine eDown (P := fun i => (∀ j, j < i → tSays bt a n j = false) → Ev (eZ G 0 68 0 0 (eFK G F)) G 0 68 (7, 0, 0) kX9_kindWritten 13 [(0, .ref (G.1 3)), (1, .int (nI a)), (2, .int (nI (a + n))), (3, eV G 1 (nI o)), (4, .ref (G.1 1300)), (5, .int 44), (6, .int (nI i))] [] M 0 0) ?_ ?_
    · intro hj
      rw [zFf_none hj] at h
      exact B_X9_kindWritten_13 G M F _ _ _ _ _ ⟨fun _ => h, fun z => absurd (Int32.le_refl 44) z⟩
    · intro i hi hn hj
      have e1 : nI i + 1 = nI (i + 1) := (nI_succ i).symm
      refine B_X9_kindWritten_13 G M F _ _ _ _ _ ⟨fun z => absurd z (nI_ge hi (by decide)), fun _ => ⟨vp_in_nI hi (by decide), ?_⟩⟩
      rw [e1, nI_clamp (show i + 1 < 2 ^ 31 by omega), Nat.add_sub_cancel]
      refine ⟨⟨nI_le (a := 1) (by omega) (by omega), nI_le (b := 44) (by omega) (by decide)⟩, ?_⟩
      refine T_says hT _ hi ha ⟨fun z => hn (fun j hji => ?_), fun z => ?_⟩
      · by_cases hq : j = i
        · subst hq; exact z
        · exact hj j (by omega)
      · rw [zFf_some hi z hj] at h
        exact h
  exact key 0 (Nat.zero_le _) (fun j hj => absurd hj (by omega))
theorem T_kind (hT : cTape M bt sz) (F : Int32 → eM → Prop) {a : Nat} (ha : a < sz) (h : F (nI (tKind bt sz a)) M) : Cal G 0 68 (8, 0, 0) kX9_kindBetween [.ref (G.1 3), .int (nI a), .int (nI (tStop bt sz a))] M (eFK G F) := by
  have h2 := hT.2.1
  have hs := tStop_in (bt := bt) ha
  obtain ⟨n, hn⟩ : ∃ n, tStop bt sz a = a + n := ⟨tStop bt sz a - a, by omega⟩
  unfold tKind at h
  rw [hn, Nat.add_sub_cancel_left] at h
  rw [hn]
  have e1 : nI (a + n) - nI a = nI n := by rw [nI_sub (Nat.le_add_right a n), Nat.add_sub_cancel_left]
  refine C_X9_kindBetween G M F _ _ (T_isLetter hT _ ha ⟨fun hl => ?_, fun hl => ?_⟩)
  · rw [if_neg (by rw [hl]; decide)] at h
    refine T_isDigit hT _ ha ⟨fun hd => ?_, fun hd => ?_⟩
    · rw [if_neg (by rw [hd]; decide)] at h
      exact T_written hT _ (o := 43) (by omega) h
    · rw [if_pos hd] at h
      rw [e1]
      refine ⟨fun q => ?_, fun q => ?_⟩
      · rw [if_pos ((nI_leI (b := 6) (by omega) (by decide)).mp q)] at h
        exact h
      · rw [if_neg (fun z => q (nI_le (b := 6) z (by decide)))] at h
        exact h
  · rw [if_pos hl] at h
    rw [e1]
    refine ⟨fun q => ?_, fun q => ?_⟩
    · rw [if_pos ((nI_leI (b := 10) (by omega) (by decide)).mp q)] at h
      exact T_written hT _ (o := 41) (by omega) h
    · rw [if_neg (fun z => q (nI_le (b := 10) z (by decide)))] at h
      exact h
theorem T_number (hT : cTape M bt sz) (F : Int32 → eM → Prop) {a n : Nat} (ha : a + n ≤ sz) (hd : ∀ j, j < n → tD (bt (a + j)) = true) (h : F (nI (tVal bt a n)) M) : Cal G 0 68 (2, 0, 0) kX9_numberBetween [.ref (G.1 3), .int (nI a), .int (nI (a + n))] M (eFI F) := by
  have h2 := hT.2.1
  refine C_X9_numberBetween G M F _ _ ?_
  refine eDown (P := fun i => Ev (eZ G 0 68 0 0 (eFI F)) G 0 68 (2, 0, 0) kX9_numberBetween 5 [(0, .ref (G.1 3)), (2, .int (nI (a + n))), (3, .int (nI (tVal bt a i))), (4, .int (nI (a + i)))] [] M 0 0) (N := n) ?_ ?_ 0 (Nat.zero_le _)
  · exact B_X9_numberBetween_5 G M F _ _ _ ⟨fun _ => h, fun q => absurd (Int32.le_refl _) q⟩
  · intro i hi hn
    refine B_X9_numberBetween_5 G M F _ _ _ ⟨fun q => absurd q (nI_ge (show a + i < a + n by omega) (by omega)), fun _ => ?_⟩
    refine T_byteAt hT _ (by omega) (fun _ => ?_) (fun q => by omega)
    have h3 := hd i hi
    unfold tD at h3
    rw [Bool.and_eq_true] at h3
    have h4 := of_decide_eq_true h3.1
    have h5 := of_decide_eq_true h3.2
    have e1 : sb (bt (a + i)) - 48 = nI (bt (a + i) - 48) := by
      unfold sb
      rw [if_pos (by omega)]
      exact nI_sub h4
    have e2 : nI (tVal bt a i) * 10 + nI (bt (a + i) - 48) = nI (tVal bt a (i + 1)) := by
      rw [eL10, nI_mul, nI_add]
      rfl
    rw [e1, e2, ← nI_succ]
    exact hn
/-- tokens from 0 to below k -/
def cTks (M : eM) (bt : Nat → Nat) (sz k : Nat) : Prop := ∀ j, j < k → M 4 j = nI (tTk bt sz j) ∧ M 5 j = nI (tAt bt sz j) ∧ M 6 j = nI (tStop bt sz (tAt bt sz j)) ∧ (tTk bt sz j = 40 → M 7 j = nI (tVal bt (tAt bt sz j) (tStop bt sz (tAt bt sz j) - tAt bt sz j)))
/-- a token is added: what the four rows hold then -/
theorem T_add (F : eM → Prop) {k : Nat} (hk : k < 401) (h3 : M 3 5 = nI k) {x y z v : Nat} (hx : 1 ≤ x ∧ x ≤ 43) (hv : x = 40 → ∀ (M1 : eM) (F' : Int32 → eM → Prop), M1 1 = M 1 → M1 2 = M 2 → F' (nI v) M1 → Cal G 0 68 (2, 0, 0) kX9_numberBetween [.ref (G.1 3), .int (nI y), .int (nI z)] M1 (eFI F')) (h : ∀ M', (∀ c j, ¬ (c = 3 ∧ j = 5) → ¬ ((c = 4 ∨ c = 5 ∨ c = 6 ∨ c = 7) ∧ j = k) → M' c j = M c j) → M' 3 5 = nI (k + 1) → M' 4 k = nI x → M' 5 k = nI y → M' 6 k = nI z → (x = 40 → M' 7 k = nI v) → F M') : Cal G 0 68 (3, 0, 0) kX9_add [.ref (G.1 3), eV G 1 (nI x), .int (nI y), .int (nI z)] M (eFV F) := by
  have e0 : ∀ v, (eU M 4 k v) 3 5 = nI k := fun v => by rw [eU_cell _ _ _ _ (by decide)]; exact h3
  have e1 : ∀ v w, (eU (eU M 4 k v) 5 k w) 3 5 = nI k := fun v w => by rw [eU_cell _ _ _ _ (by decide)]; exact e0 v
  have e2 : ∀ v w u, (eU (eU (eU M 4 k v) 5 k w) 6 k u) 3 5 = nI k := fun v w u => by rw [eU_cell _ _ _ _ (by decide)]; exact e1 v w
  have e3 : ∀ v w u t, (eU (eU (eU (eU M 4 k v) 5 k w) 6 k u) 7 k t) 3 5 = nI k := fun v w u t => by rw [eU_cell _ _ _ _ (by decide)]; exact e2 v w u
  have ek : (nI k).toNatClampNeg = k := nI_clamp (by omega)
  have done : ∀ t, (x = 40 → t = nI v) → F (eU (eU (eU (eU (eU M 4 k (nI x)) 5 k (nI y)) 6 k (nI z)) 7 k t) 3 5 (nI k + 1)) := by
    intro t ht
    refine h _ (fun c j n1 n2 => ?_) ?_ ?_ ?_ ?_ (fun hq => ?_)
    · show (if c = 3 ∧ j = 5 then _ else (if c = 7 ∧ j = k then _ else (if c = 6 ∧ j = k then _ else (if c = 5 ∧ j = k then _ else (if c = 4 ∧ j = k then _ else M c j))))) = M c j
      rw [if_neg n1, if_neg (by omega), if_neg (by omega), if_neg (by omega), if_neg (by omega)]
    · rw [eU_same]; exact (nI_succ k).symm
    · rw [eU_cell _ _ _ _ (by decide), eU_cell _ _ _ _ (by decide), eU_cell _ _ _ _ (by decide), eU_cell _ _ _ _ (by decide), eU_same]
    · rw [eU_cell _ _ _ _ (by decide), eU_cell _ _ _ _ (by decide), eU_cell _ _ _ _ (by decide), eU_same]
    · rw [eU_cell _ _ _ _ (by decide), eU_cell _ _ _ _ (by decide), eU_same]
    · rw [eU_cell _ _ _ _ (by decide), eU_same]; exact ht hq
  refine C_X9_add G M F _ _ _ ?_
  rw [h3, ek, e0, ek, e1, ek, e2, ek]
  refine ⟨fun q => absurd q (nI_ge (b := 401) hk (by decide)), fun _ => ⟨vp_in_nI hk (by decide), vp_in_nI hk (by decide), vp_in_nI hk (by decide), fun q => ⟨vp_in_nI hk (by decide), ?_⟩, fun q => ?_⟩⟩
  · rw [e3]
    exact done 0 (fun hq => absurd (by rw [hq]; rfl) q)
  · have hx40 : x = 40 := by
      rw [eKn1_nI hx.1 (by omega), show eKn1 40 = nI 40 from eKn1_nI (k := 40) (by decide) (by decide)] at q
      exact (nI_eq (by omega) (by decide)).mp q
    refine hv hx40 _ _ ?_ ?_ ⟨vp_in_nI hk (by decide), ?_⟩
    · rw [eU_other _ _ _ (by decide), eU_other _ _ _ (by decide), eU_other _ _ _ (by decide)]
    · rw [eU_other _ _ _ (by decide), eU_other _ _ _ (by decide), eU_other _ _ _ (by decide)]
    · rw [e3]
      exact done (nI v) (fun _ => rfl)
/-- the tape cut: the tokens up to the last, which is the end or a wrong one -/
def cToks (M : eM) (bt : Nat → Nat) (sz : Nat) : Prop := M 3 5 = nI (tT bt sz + 1) ∧ cTks M bt sz (tT bt sz) ∧ M 4 (tT bt sz) = nI (tTk bt sz (tT bt sz)) ∧ M 5 (tT bt sz) = nI (tAt bt sz (tT bt sz))
def cTokF (M M' : eM) : Prop := ∀ c j, ¬ (c = 3 ∧ j = 5) → ¬ (c = 4 ∨ c = 5 ∨ c = 6 ∨ c = 7) → M' c j = M c j
theorem T_cut (hT : cTape M bt sz) (F : eM → Prop) (h : ∀ M', cTokF M M' → cToks M' bt sz → F M') : Cal G 0 68 (9, 0, 0) kX9_cutTape [.ref (G.1 3)] M (eFV F) := by
  have h2 := hT.2.1
  have tape : ∀ M', cTokF M M' → cTape M' bt sz := fun M' hf => hT.of (funext fun j => hf 1 j (by omega) (by omega)) (funext fun j => hf 2 j (by omega) (by omega))
  have last : ∀ M1, cTokF M M1 → ∀ k, k ≤ 400 → (∀ j, j < k → tLast bt sz j = false) → tLast bt sz k = true → M1 3 5 = nI k → cTks M1 bt sz k → Ev (eZ G 0 68 0 0 (eFV F)) G 0 68 (9, 0, 0) kX9_cutTape 82 [(0, .ref (G.1 3)), (1, .int (nI (tAt bt sz k)))] [] M1 0 0 := by
    intro M1 hf k hk hj hl h3 hks
    have hTk := tT_eq hk hl hj
    have hle := tAt_le bt sz k hj
    have fin : ∀ M2, (∀ c j, ¬ (c = 3 ∧ j = 5) → ¬ ((c = 4 ∨ c = 5 ∨ c = 6 ∨ c = 7) ∧ j = k) → M2 c j = M1 c j) → M2 3 5 = nI (k + 1) → M2 4 k = nI (tTk bt sz k) → M2 5 k = nI (tAt bt sz k) → F M2 := by
      intro M2 f2 n3 n4 n5
      refine h M2 (fun c j c1 c2 => ?_) ?_
      · rw [f2 c j c1 (fun z => c2 z.1)]
        exact hf c j c1 c2
      · unfold cToks
        rw [hTk]
        refine ⟨n3, fun j hjk => ?_, n4, n5⟩
        rw [f2 4 j (by omega) (by omega), f2 5 j (by omega) (by omega), f2 6 j (by omega) (by omega), f2 7 j (by omega) (by omega)]
        exact hks j hjk
    refine B_X9_cutTape_82 G M1 F _ ?_
    rw [(tape M1 hf).1]
    refine ⟨fun q => ?_, fun q => ?_⟩
    · have hq := (nI_leI (by omega) (by omega)).mp q
      have ek : tTk bt sz k = 42 := by unfold tTk; rw [if_pos hq]
      refine T_add F (k := k) (v := 0) (x := 42) (by omega) h3 (by decide) (fun z => absurd z (by decide)) (fun M2 f2 n3 n4 n5 _ _ => fin M2 f2 n3 (by rw [ek]; exact n4) n5)
    · have hq : ¬ sz ≤ tAt bt sz k := fun z => q (nI_le z (by omega))
      have ek : tTk bt sz k = 43 := by
        rcases tLast_t hl with z | z
        · unfold tTk at z
          rw [if_neg hq] at z
          by_cases h4 : 400 ≤ k
          · rw [if_pos h4] at z; cases z
          · rw [if_neg h4] at z
            exact absurd z (tKind_in (by omega)).2.2
        · exact z
      refine T_add F (k := k) (v := 0) (x := 43) (by omega) h3 (by decide) (fun z => absurd z (by decide)) (fun M2 f2 n3 n4 n5 _ _ => fin M2 f2 n3 (by rw [ek]; exact n4) n5)
  have key : ∀ k, k ≤ 400 → ∀ M1, cTokF M M1 → (∀ j, j < k → tLast bt sz j = false) → M1 3 5 = nI k → cTks M1 bt sz k → Ev (eZ G 0 68 0 0 (eFV F)) G 0 68 (9, 0, 0) kX9_cutTape 16 [(0, .ref (G.1 3)), (1, .int (nI (tAt bt sz k))), (2, .int (nI k))] [] M1 0 0 := by
    refine eDown (P := fun k => ∀ M1, cTokF M M1 → (∀ j, j < k → tLast bt sz j = false) → M1 3 5 = nI k → cTks M1 bt sz k → Ev (eZ G 0 68 0 0 (eFV F)) G 0 68 (9, 0, 0) kX9_cutTape 16 [(0, .ref (G.1 3)), (1, .int (nI (tAt bt sz k))), (2, .int (nI k))] [] M1 0 0) ?_ ?_
    · intro M1 hf hj h3 hks
      exact B_X9_cutTape_16 G M1 F _ _ ⟨fun _ => last M1 hf 400 (Nat.le_refl _) hj (tLast_400 bt sz) h3 hks, fun q => absurd (Int32.le_refl 400) q⟩
    · intro k hk hn M1 hf hj h3 hks
      have hle := tAt_le bt sz k hj
      have hT1 := tape M1 hf
      refine B_X9_cutTape_16 G M1 F _ _ ⟨fun q => absurd q (nI_ge hk (by decide)), fun _ => ?_⟩
      rw [hT1.1]
      refine ⟨fun q => ?_, fun q => ?_⟩
      · have hq := (nI_leI (by omega) (by omega)).mp q
        refine last M1 hf k (by omega) hj ?_ h3 hks
        unfold tLast tTk
        rw [if_pos hq]
        rfl
      · have hq : tAt bt sz k < sz := Nat.not_le.mp fun z => q (nI_le z (by omega))
        have hki := tKind_in (bt := bt) hq
        have hsi := tStop_in (bt := bt) hq
        have ek : tTk bt sz k = tKind bt sz (tAt bt sz k) := by
          unfold tTk
          rw [if_neg (by omega), if_neg (by omega)]
        refine T_stop hT1 _ hq (T_kind hT1 _ hq ⟨fun z => ?_, fun z => ?_⟩)
        · rw [eKn1_nI hki.1 (by omega), show eKn1 43 = nI 43 from eKn1_nI (k := 43) (by decide) (by decide)] at z
          have hne : tTk bt sz k ≠ 43 := fun y => z (by rw [← ek, y])
          have hl : tLast bt sz k = false := by
            unfold tLast
            rw [Bool.or_eq_false_iff]
            exact ⟨beq_false_of_ne (by rw [ek]; exact hki.2.2), beq_false_of_ne hne⟩
          refine T_add _ (k := k) (by omega) h3 (v := tVal bt (tAt bt sz k) (tStop bt sz (tAt bt sz k) - tAt bt sz k)) ⟨hki.1, hki.2.1⟩ (fun h40 M2 F' g1 g2 hF' => ?_) (fun M2 f2 n3 n4 n5 n6 n7 => ?_)
          · obtain ⟨d1, d2, d3⟩ := tNum hq h40
            obtain ⟨n, hn'⟩ : ∃ n, tStop bt sz (tAt bt sz k) = tAt bt sz k + n := ⟨tStop bt sz (tAt bt sz k) - tAt bt sz k, by omega⟩
            rw [hn', Nat.add_sub_cancel_left] at hF'
            rw [hn']
            exact T_number (hT1.of g1 g2) _ (by omega) (fun j hjn => d2 _ (by omega) (by omega)) hF'
          · have hf2 : cTokF M M2 := fun c j c1 c2 => by
              rw [f2 c j c1 (fun z => c2 z.1)]
              exact hf c j c1 c2
            refine T_blanks (tape M2 hf2) _ hsi.2 ?_
            rw [← nI_succ]
            refine hn M2 hf2 (fun j hjk => ?_) n3 (fun j hjk => ?_)
            · by_cases hq2 : j = k
              · subst hq2; exact hl
              · exact hj j (by omega)
            · by_cases hq2 : j = k
              · subst hq2
                rw [ek]
                exact ⟨n4, n5, n6, n7⟩
              · rw [f2 4 j (by omega) (by omega), f2 5 j (by omega) (by omega), f2 6 j (by omega) (by omega), f2 7 j (by omega) (by omega)]
                exact hks j (by omega)
        · rw [eKn1_nI hki.1 (by omega), show eKn1 43 = nI 43 from eKn1_nI (k := 43) (by decide) (by decide)] at z
          have h43 : tKind bt sz (tAt bt sz k) = 43 := (nI_eq (by omega) (by decide)).mp z
          refine last M1 hf k (by omega) hj ?_ h3 hks
          unfold tLast
          rw [ek, h43]
          rfl
  have f0 : cTokF M (eU M 3 5 0) := fun c j c1 _ => if_neg c1
  refine C_X9_cutTape G M F (T_blanks (tape _ f0) _ (Nat.zero_le _) ?_)
  exact key 0 (by decide) _ f0 (fun j hj => absurd hj (by omega)) (eU_same _ _ _ _) (fun j hj => absurd hj (by omega))
end CTok
