/-! ===== the model cuts its tape ===== -/
theorem zFf_cut {p : Nat → Bool} {m : Nat} : ∀ {n : Nat}, m ≤ n → (∀ k, m ≤ k → k < n → p k = false) → zFf p n = zFf p m
  | 0, h, _ => by rw [show m = 0 by omega]
  | n + 1, h, h0 => by
    by_cases hq : m = n + 1
    · rw [hq]
    · rw [zFf, h0 n (by omega) (by omega), zFf_cut (n := n) (by omega) (fun k k1 k2 => h0 k k1 (by omega))]
      cases zFf p m <;> rfl
def tSym (b : Nat) : Nat := if b = 40 then 25 else if b = 41 then 26 else if b = 91 then 27 else if b = 93 then 28 else if b = 59 then 29 else if b = 44 then 30 else if b = 43 then 31 else if b = 45 then 32 else if b = 42 then 33 else if b = 47 then 34 else if b = 60 then 35 else if b = 62 then 36 else if b = 61 then 37 else 43
def tS1 (b k : Nat) : Bool := decide ((eKtx.getD k []).length = 1) && !decide (eKc k 0 ≠ nI b)
def tS2 (b c k : Nat) : Bool := decide ((eKtx.getD k []).length = 2) && (!decide (eKc k 0 ≠ nI b) && !decide (eKc k 1 ≠ nI c))
theorem tS1_all : ∀ b, b < 256 → (match zFf (tS1 b) 44 with
  | none => 43
  | some k => k + 1) = tSym b := by decide +kernel
theorem tS2_lt : zFf (tS2 60 61) 44 = some 37 := by decide +kernel
theorem tS2_gt : zFf (tS2 62 61) 44 = some 38 := by decide +kernel
theorem tSays_1 {bt : Nat → Nat} {a k : Nat} : tSays bt a 1 k = tS1 (bt a) k := by
  unfold tSays tS1
  rw [zFf_isNone_succ]
  rfl
theorem tSays_2 {bt : Nat → Nat} {a k : Nat} : tSays bt a 2 k = tS2 (bt a) (bt (a + 1)) k := by
  unfold tSays tS2
  rw [zFf_isNone_succ, zFf_isNone_succ]
  rfl
theorem tTxt_1 {bt : Nat → Nat} {a : Nat} (h : bt a < 256) : tTxt bt a 1 43 = tSym (bt a) := by
  rw [← tS1_all _ h]
  unfold tTxt
  rw [zFf_ext (fun k _ => tSays_1)]
  rfl
theorem tTxt_lt {bt : Nat → Nat} {a : Nat} (h : bt a = 60) (h1 : bt (a + 1) = 61) : tTxt bt a 2 43 = 38 := by
  unfold tTxt
  rw [zFf_ext (q := tS2 60 61) (fun k _ => by rw [tSays_2, h, h1]), tS2_lt]
theorem tTxt_gt {bt : Nat → Nat} {a : Nat} (h : bt a = 62) (h1 : bt (a + 1) = 61) : tTxt bt a 2 43 = 39 := by
  unfold tTxt
  rw [zFf_ext (q := tS2 62 61) (fun k _ => by rw [tSays_2, h, h1]), tS2_gt]
theorem tSym_out : ∀ b, b < 256 → (b < 40 ∨ 93 < b) → mk (tSym b) = 32 := by decide +kernel
theorem tSym_cmp : ∀ b, b < 256 → ((mk (tSym b) = 44 ↔ b = 60) ∧ (mk (tSym b) = 45 ↔ b = 62)) := by decide +kernel
theorem eWK : ∀ k, k < 24 → eWtx.getD k [] = eKtx.getD k [] := by decide +kernel
theorem eK24 : ∀ k, k < 44 → 24 ≤ k → (eKtx.getD k []).length = 0 ∨ eKc k 0 < 97 := by decide +kernel
theorem tSays_24 {bt : Nat → Nat} {a n k : Nat} (hl : tL (bt a) = true) (hb : bt a < 256) (hn : 1 ≤ n) (h1 : 24 ≤ k) (h2 : k < 44) : tSays bt a n k = false := by
  cases h : tSays bt a n k with
  | false => rfl
  | true =>
    unfold tSays at h
    rw [Bool.and_eq_true] at h
    have h3 := of_decide_eq_true h.1
    have h4 := zFf_none' (Option.isNone_iff_eq_none.mp h.2) 0 (by omega)
    have h5 : eKc k 0 = nI (bt a) := Decidable.byContradiction fun z => absurd h4 (by rw [Nat.add_zero, decide_eq_true z]; decide)
    rcases eK24 k h2 h1 with z | z
    · omega
    · rw [h5] at z
      unfold tL at hl
      rw [Bool.and_eq_true] at hl
      exact absurd z (nI_nlt (a := bt a) (b := 97) (of_decide_eq_true hl.1) (by omega))
def mTape (M : eM) (bt : Nat → Nat) (sz : Nat) : Prop := M 100 2 = nI sz ∧ sz ≤ 2000 ∧ ∀ j, j < sz → M 101 j = nI (bt j) ∧ bt j < 256
theorem mTape.of {M M' : eM} {bt : Nat → Nat} {sz : Nat} (h : mTape M bt sz) (h1 : M' 100 = M 100) (h2 : M' 101 = M 101) : mTape M' bt sz := by
  unfold mTape at h ⊢
  rw [h1, h2]
  exact h
section MTok2
variable {G : eG} {M : eM} {bt : Nat → Nat} {sz : Nat}
theorem U_byteAt (hT : mTape M bt sz) (F : Int32 → eM → Prop) {a : Nat} (ha : a ≤ 2000) (h1 : a < sz → F (nI (bt a)) M) (h0 : sz ≤ a → F (-1) M) : Cal G 100 40 (1, 0, 0) kX13_byteAt [.ref (G.1 100), .int (nI a)] M (eFI F) := by
  obtain ⟨t1, t2, t3⟩ := hT
  refine C_X13_byteAt G M F (nI a) ⟨fun q => h0 ?_, fun q => ⟨vp_in_nI ?_ (by decide), ?_⟩⟩
  · rw [t1] at q
    exact (nI_leI (by omega) (by omega)).mp q
  · rw [t1] at q
    have : ¬ sz ≤ a := fun z => q (nI_le z (by omega))
    omega
  · rw [t1] at q
    have h2 : a < sz := Nat.not_le.mp fun z => q (nI_le z (by omega))
    rw [nI_clamp (by omega), (t3 a h2).1]
    exact h1 h2
theorem tL_nI {b : Nat} (hb : b < 256) : decide (97 ≤ nI b ∧ nI b ≤ 122) = tL b := by
  unfold tL
  rw [← Bool.decide_and]
  exact decide_eq_decide.mpr ⟨fun z => ⟨(nI_leI (a := 97) (by decide) (by omega)).mp z.1, (nI_leI (b := 122) (by omega) (by decide)).mp z.2⟩, fun z => ⟨nI_le (a := 97) z.1 (by omega), nI_le (b := 122) z.2 (by decide)⟩⟩
theorem tD_nI {b : Nat} (hb : b < 256) : decide (48 ≤ nI b ∧ nI b ≤ 57) = tD b := by
  unfold tD
  rw [← Bool.decide_and]
  exact decide_eq_decide.mpr ⟨fun z => ⟨(nI_leI (a := 48) (by decide) (by omega)).mp z.1, (nI_leI (b := 57) (by omega) (by decide)).mp z.2⟩, fun z => ⟨nI_le (a := 48) z.1 (by omega), nI_le (b := 57) z.2 (by decide)⟩⟩
theorem U_isLetter (F : Bool → eM → Prop) {b : Nat} (hb : b < 256) (h : F (tL b) M) : Cal G 100 40 (2, 0, 0) kX13_isLetter [.int (nI b)] M (eFZ F) := by
  rw [← tL_nI hb] at h
  exact C_X13_isLetter G M F _ (S_isIn G M _ _ _ _ h)
theorem U_isDigit (F : Bool → eM → Prop) {b : Nat} (hb : b < 256) (h : F (tD b) M) : Cal G 100 40 (2, 0, 0) kX13_isDigit [.int (nI b)] M (eFZ F) := by
  rw [← tD_nI hb] at h
  exact C_X13_isDigit G M F _ (S_isIn G M _ _ _ _ h)
theorem U_letterAt (hT : mTape M bt sz) (F : Bool → eM → Prop) {a : Nat} (ha : a ≤ 2000) (h1 : a < sz → F (tL (bt a)) M) (h0 : sz ≤ a → F false M) : Cal G 100 40 (1, 0, 0) kX13_byteAt [.ref (G.1 100), .int (nI a)] M (eFI (fun (r1 : Int32) (M1 : eM) => Cal G 100 40 (2, 0, 0) kX13_isLetter [.int r1] M1 (eFZ F))) :=
  U_byteAt hT _ ha (fun z => U_isLetter F (hT.2.2 a z).2 (h1 z)) (fun z => C_X13_isLetter G M F _ (S_isIn G M _ _ _ _ (by rw [show decide ((97 : Int32) ≤ -1 ∧ (-1 : Int32) ≤ 122) = false by decide]; exact h0 z)))
theorem U_digitAt (hT : mTape M bt sz) (F : Bool → eM → Prop) {a : Nat} (ha : a ≤ 2000) (h1 : a < sz → F (tD (bt a)) M) (h0 : sz ≤ a → F false M) : Cal G 100 40 (1, 0, 0) kX13_byteAt [.ref (G.1 100), .int (nI a)] M (eFI (fun (r1 : Int32) (M1 : eM) => Cal G 100 40 (2, 0, 0) kX13_isDigit [.int r1] M1 (eFZ F))) :=
  U_byteAt hT _ ha (fun z => U_isDigit F (hT.2.2 a z).2 (h1 z)) (fun z => C_X13_isDigit G M F _ (S_isIn G M _ _ _ _ (by rw [show decide ((48 : Int32) ≤ -1 ∧ (-1 : Int32) ≤ 57) = false by decide]; exact h0 z)))
theorem U_skip (hT : mTape M bt sz) (F : Int32 → eM → Prop) {a : Nat} (ha : a ≤ sz) (h : F (nI (tEnd bt sz tB a)) M) : Cal G 100 40 (2, 0, 0) kX13_skip [.ref (G.1 100), .int (nI a)] M (eFI F) := by
  have h2 := hT.2.1
  refine C_X13_skip G M F (nI a) ?_
  refine eDown (P := fun i => F (nI (tEnd bt sz tB i)) M → Ev (eZ G 100 40 0 0 (eFI F)) G 100 40 (2, 0, 0) kX13_skip 2 [(0, .ref (G.1 100)), (2, .int (nI i))] [] M 0 0) (N := sz) ?_ ?_ a ha h
  · intro h
    rw [tEnd_off (Nat.le_refl _)] at h
    refine B_X13_skip_2 G M F _ (U_byteAt hT _ h2 (fun q => absurd q (Nat.lt_irrefl _)) (fun _ => ⟨fun q => absurd q (by decide), fun _ => ?_⟩))
    exact U_byteAt hT _ h2 (fun q => absurd q (Nat.lt_irrefl _)) (fun _ => ⟨fun _ => h, fun q => absurd q (by decide)⟩)
  · intro i hi hn h
    have hb := (hT.2.2 i hi).2
    have go : tB (bt i) = true → Ev (eZ G 100 40 0 0 (eFI F)) G 100 40 (2, 0, 0) kX13_skip 22 [(0, .ref (G.1 100)), (2, .int (nI i))] [] M 0 0 := by
      intro hb
      rw [tEnd_yes hi hb] at h
      refine B_X13_skip_22 G M F _ ?_
      rw [← nI_succ]
      exact hn h
    refine B_X13_skip_2 G M F _ (U_byteAt hT _ (by omega) (fun _ => ⟨fun q => go ?_, fun q => ?_⟩) (fun q => absurd hi (by omega)))
    · rw [(nI_eq (b := 32) (by omega) (by decide)).mp q]; rfl
    · refine U_byteAt hT _ (by omega) (fun _ => ⟨fun z => ?_, fun z => go ?_⟩) (fun q => absurd hi (by omega))
      · have hb : tB (bt i) = false := by
          unfold tB
          rw [Bool.or_eq_false_iff]
          exact ⟨beq_false_of_ne (fun y => q (by rw [y]; rfl)), beq_false_of_ne (fun y => z (by rw [y]; rfl))⟩
        rw [tEnd_no hb] at h
        exact h
      · rw [(nI_eq (b := 10) (by omega) (by decide)).mp z]; rfl
theorem U_isWord (hT : mTape M bt sz) (F : Bool → eM → Prop) {a n k : Nat} (hk : k < 24) (ha : a + n ≤ sz) (h : F (tSays bt a n k) M) : Cal G 100 40 (6, 0, 0) kX13_isWord [.ref (G.1 100), .int (nI a), .int (nI n), .ref (G.1 (1400 + k))] M (eFZ F) := by
  have h2 := hT.2.1
  have hk' : k < eWtx.length := hk
  have h7 := eKtx_len k (by omega)
  have hw := eWK k hk
  have hc : ∀ i, eWc k i = eKc k i := fun i => by unfold eWc eKc; rw [hw]
  unfold tSays at h
  refine C_X13_isWord G hk' M F _ _ ?_
  have el : eWl k = nI (eKtx.getD k []).length := by unfold eWl; rw [hw]
  rw [el]
  refine ⟨fun q => ?_, fun q => ?_⟩
  · have hl : (eKtx.getD k []).length = n := (nI_eq (by omega) (by omega)).mp q
    rw [decide_eq_true hl, Bool.true_and] at h
    have key : ∀ i, i ≤ n → (∀ j, j < i → decide (eKc k j ≠ nI (bt (a + j))) = false) → Ev (eZ G 100 40 0 0 (eFZ F)) G 100 40 (6, 0, 0) kX13_isWord 13 [(0, .ref (G.1 100)), (1, .int (nI a)), (2, .int (nI n)), (3, .ref (G.1 (1400 + k))), (4, .int (nI i))] [] M 0 0 := by
      refine eDown (P := fun i => (∀ j, j < i → decide (eKc k j ≠ nI (bt (a + j))) = false) → Ev (eZ G 100 40 0 0 (eFZ F)) G 100 40 (6, 0, 0) kX13_isWord 13 [(0, .ref (G.1 100)), (1, .int (nI a)), (2, .int (nI n)), (3, .ref (G.1 (1400 + k))), (4, .int (nI i))] [] M 0 0) ?_ ?_
      · intro hj
        rw [zFf_none hj] at h
        exact B_X13_isWord_13 G hk' M F _ _ _ ⟨fun _ => h, fun z => absurd (Int32.le_refl _) z⟩
      · intro i hi hn hj
        refine B_X13_isWord_13 G hk' M F _ _ _ ⟨fun z => absurd z (nI_ge hi (by omega)), fun _ => ⟨vp_in_nI (by rw [hw, hl]; exact hi) (by rw [hw]; omega), ?_⟩⟩
        rw [nI_add, nI_clamp (show i < 2 ^ 31 by omega), nI_clamp (show a + i < 2 ^ 31 by omega), hc, (hT.2.2 (a + i) (by omega)).1]
        refine ⟨vp_in_nI (by omega) (by decide), fun z => ?_, fun z => ?_⟩
        · rw [← nI_succ]
          refine hn (fun j hji => ?_)
          by_cases hq : j = i
          · subst hq
            exact decide_eq_false (fun y => y z)
          · exact hj j (by omega)
        · rw [zFf_some hi (decide_eq_true z) hj] at h
          exact h
    exact key 0 (Nat.zero_le _) (fun j hj => absurd hj (by omega))
  · rw [decide_eq_false (fun z => q (by rw [z]))] at h
    exact h
theorem U_keyword (hT : mTape M bt sz) (F : Int32 → eM → Prop) {a n : Nat} (hn1 : 1 ≤ n) (ha : a + n ≤ sz) (hl : tL (bt a) = true) (h : F (nI (mk (if n ≤ 10 then tTxt bt a n 41 else 43))) M) : Cal G 100 40 (7, 0, 0) kX13_keyword [.ref (G.1 100), .int (nI a), .int (nI n)] M (eFI F) := by
  have h2 := hT.2.1
  have hb := (hT.2.2 a (by omega)).2
  have hcut : zFf (tSays bt a n) 44 = zFf (tSays bt a n) 24 := zFf_cut (by decide) (fun k k1 k2 => tSays_24 hl hb hn1 k1 k2)
  refine C_X13_keyword G M F _ _ ?_
  have key : ∀ i, i ≤ 24 → (∀ j, j < i → tSays bt a n j = false) → Ev (eZ G 100 40 0 0 (eFI F)) G 100 40 (7, 0, 0) kX13_keyword 2 [(0, .ref (G.1 100)), (1, .int (nI a)), (2, .int (nI n)), (3, .int (nI i))] [] M 0 0 := by
    refine eDown (P := fun i => (∀ j, j < i → tSays bt a n j = false) → Ev (eZ G 100 40 0 0 (eFI F)) G 100 40 (7, 0, 0) kX13_keyword 2 [(0, .ref (G.1 100)), (1, .int (nI a)), (2, .int (nI n)), (3, .int (nI i))] [] M 0 0) ?_ ?_
    · intro hj
      have e1 : tTxt bt a n 41 = 41 := by
        unfold tTxt
        rw [hcut, zFf_none hj]
      refine B_X13_keyword_2 G M F _ _ _ ⟨fun _ => ⟨fun z => ?_, fun z => ?_⟩, fun q => absurd (Int32.le_refl 24) q⟩
      · rw [if_pos ((nI_leI (b := 10) (by omega) (by decide)).mp z), e1] at h
        exact h
      · rw [if_neg (fun y => z (nI_le (b := 10) y (by decide)))] at h
        exact h
    · intro i hi hn hj
      refine B_X13_keyword_2 G M F _ _ _ ⟨fun z => absurd z (nI_ge hi (by decide)), fun _ => ⟨vp_in_nI hi (by decide), ?_⟩⟩
      rw [nI_clamp (show i < 2 ^ 31 by omega)]
      refine U_isWord hT _ hi ha ⟨fun z => ?_, fun z => ?_⟩
      · rw [← nI_succ]
        refine hn (fun j hji => ?_)
        by_cases hq : j = i
        · subst hq; exact z
        · exact hj j (by omega)
      · have e1 : tTxt bt a n 41 = i + 1 := by
          unfold tTxt
          rw [hcut, zFf_some hi z hj]
        have e2 : n ≤ 10 := by
          unfold tSays at z
          rw [Bool.and_eq_true] at z
          have := of_decide_eq_true z.1
          have := eKtx_len i (by omega)
          omega
        have e3 : mk (i + 1) = i := (by decide : ∀ i, i < 24 → mk (i + 1) = i) i hi
        rw [if_pos e2, e1, e3] at h
        exact h
  exact key 0 (Nat.zero_le _) (fun j hj => absurd hj (by omega))
theorem U_symbol (F : Int32 → eM → Prop) {b : Nat} (hb : b < 256) (h : F (nI (mk (tSym b))) M) : Cal G 100 40 (1, 0, 0) kX13_symbol [.int (nI b)] M (eFI F) := by
  have key : ∀ v : Int32, v = nI (mk (tSym b)) → F v M := fun v hv => by rw [hv]; exact h
  refine C_X13_symbol G M F _ ⟨fun q => ?_, fun q => ?_, fun q => ?_, fun q => ?_, fun q => ?_, fun q => ?_, fun q => ?_, fun q => ?_, fun q => ?_, fun q => ?_, fun q => ?_, fun q => ?_, fun q => ?_, fun q => ?_, fun q => ?_, fun q => ?_, fun q => ?_, fun q => ?_, fun q => ?_, fun q => ?_, fun q => ?_, fun q => ?_, fun q => ?_, fun q => ?_, fun q => ?_, fun q => ?_, fun q => ?_, fun q => ?_, fun q => ?_, fun q => ?_, fun q => ?_, fun q => ?_, fun q => ?_, fun q => ?_, fun q => ?_, fun q => ?_, fun q => ?_, fun q => ?_, fun q => ?_, fun q => ?_, fun q => ?_, fun q => ?_, fun q => ?_, fun q => ?_, fun q => ?_, fun q => ?_, fun q => ?_, fun q => ?_, fun q => ?_, fun q => ?_, fun q => ?_, fun q => ?_, fun q => ?_, fun q => ?_, fun q => ?_⟩
  · refine key _ ?_
    rw [nI_toInt (by omega)] at q
    rw [tSym_out b hb (by omega)]
    rfl
  · exact key _ (by rw [show b = 40 from (nI_eq (b := 40) (by omega) (by decide)).mp q]; rfl)
  · exact key _ (by rw [show b = 41 from (nI_eq (b := 41) (by omega) (by decide)).mp q]; rfl)
  · exact key _ (by rw [show b = 42 from (nI_eq (b := 42) (by omega) (by decide)).mp q]; rfl)
  · exact key _ (by rw [show b = 43 from (nI_eq (b := 43) (by omega) (by decide)).mp q]; rfl)
  · exact key _ (by rw [show b = 44 from (nI_eq (b := 44) (by omega) (by decide)).mp q]; rfl)
  · exact key _ (by rw [show b = 45 from (nI_eq (b := 45) (by omega) (by decide)).mp q]; rfl)
  · exact key _ (by rw [show b = 46 from (nI_eq (b := 46) (by omega) (by decide)).mp q]; rfl)
  · exact key _ (by rw [show b = 47 from (nI_eq (b := 47) (by omega) (by decide)).mp q]; rfl)
  · exact key _ (by rw [show b = 48 from (nI_eq (b := 48) (by omega) (by decide)).mp q]; rfl)
  · exact key _ (by rw [show b = 49 from (nI_eq (b := 49) (by omega) (by decide)).mp q]; rfl)
  · exact key _ (by rw [show b = 50 from (nI_eq (b := 50) (by omega) (by decide)).mp q]; rfl)
  · exact key _ (by rw [show b = 51 from (nI_eq (b := 51) (by omega) (by decide)).mp q]; rfl)
  · exact key _ (by rw [show b = 52 from (nI_eq (b := 52) (by omega) (by decide)).mp q]; rfl)
  · exact key _ (by rw [show b = 53 from (nI_eq (b := 53) (by omega) (by decide)).mp q]; rfl)
  · exact key _ (by rw [show b = 54 from (nI_eq (b := 54) (by omega) (by decide)).mp q]; rfl)
  · exact key _ (by rw [show b = 55 from (nI_eq (b := 55) (by omega) (by decide)).mp q]; rfl)
  · exact key _ (by rw [show b = 56 from (nI_eq (b := 56) (by omega) (by decide)).mp q]; rfl)
  · exact key _ (by rw [show b = 57 from (nI_eq (b := 57) (by omega) (by decide)).mp q]; rfl)
  · exact key _ (by rw [show b = 58 from (nI_eq (b := 58) (by omega) (by decide)).mp q]; rfl)
  · exact key _ (by rw [show b = 59 from (nI_eq (b := 59) (by omega) (by decide)).mp q]; rfl)
  · exact key _ (by rw [show b = 60 from (nI_eq (b := 60) (by omega) (by decide)).mp q]; rfl)
  · exact key _ (by rw [show b = 61 from (nI_eq (b := 61) (by omega) (by decide)).mp q]; rfl)
  · exact key _ (by rw [show b = 62 from (nI_eq (b := 62) (by omega) (by decide)).mp q]; rfl)
  · exact key _ (by rw [show b = 63 from (nI_eq (b := 63) (by omega) (by decide)).mp q]; rfl)
  · exact key _ (by rw [show b = 64 from (nI_eq (b := 64) (by omega) (by decide)).mp q]; rfl)
  · exact key _ (by rw [show b = 65 from (nI_eq (b := 65) (by omega) (by decide)).mp q]; rfl)
  · exact key _ (by rw [show b = 66 from (nI_eq (b := 66) (by omega) (by decide)).mp q]; rfl)
  · exact key _ (by rw [show b = 67 from (nI_eq (b := 67) (by omega) (by decide)).mp q]; rfl)
  · exact key _ (by rw [show b = 68 from (nI_eq (b := 68) (by omega) (by decide)).mp q]; rfl)
  · exact key _ (by rw [show b = 69 from (nI_eq (b := 69) (by omega) (by decide)).mp q]; rfl)
  · exact key _ (by rw [show b = 70 from (nI_eq (b := 70) (by omega) (by decide)).mp q]; rfl)
  · exact key _ (by rw [show b = 71 from (nI_eq (b := 71) (by omega) (by decide)).mp q]; rfl)
  · exact key _ (by rw [show b = 72 from (nI_eq (b := 72) (by omega) (by decide)).mp q]; rfl)
  · exact key _ (by rw [show b = 73 from (nI_eq (b := 73) (by omega) (by decide)).mp q]; rfl)
  · exact key _ (by rw [show b = 74 from (nI_eq (b := 74) (by omega) (by decide)).mp q]; rfl)
  · exact key _ (by rw [show b = 75 from (nI_eq (b := 75) (by omega) (by decide)).mp q]; rfl)
  · exact key _ (by rw [show b = 76 from (nI_eq (b := 76) (by omega) (by decide)).mp q]; rfl)
  · exact key _ (by rw [show b = 77 from (nI_eq (b := 77) (by omega) (by decide)).mp q]; rfl)
  · exact key _ (by rw [show b = 78 from (nI_eq (b := 78) (by omega) (by decide)).mp q]; rfl)
  · exact key _ (by rw [show b = 79 from (nI_eq (b := 79) (by omega) (by decide)).mp q]; rfl)
  · exact key _ (by rw [show b = 80 from (nI_eq (b := 80) (by omega) (by decide)).mp q]; rfl)
  · exact key _ (by rw [show b = 81 from (nI_eq (b := 81) (by omega) (by decide)).mp q]; rfl)
  · exact key _ (by rw [show b = 82 from (nI_eq (b := 82) (by omega) (by decide)).mp q]; rfl)
  · exact key _ (by rw [show b = 83 from (nI_eq (b := 83) (by omega) (by decide)).mp q]; rfl)
  · exact key _ (by rw [show b = 84 from (nI_eq (b := 84) (by omega) (by decide)).mp q]; rfl)
  · exact key _ (by rw [show b = 85 from (nI_eq (b := 85) (by omega) (by decide)).mp q]; rfl)
  · exact key _ (by rw [show b = 86 from (nI_eq (b := 86) (by omega) (by decide)).mp q]; rfl)
  · exact key _ (by rw [show b = 87 from (nI_eq (b := 87) (by omega) (by decide)).mp q]; rfl)
  · exact key _ (by rw [show b = 88 from (nI_eq (b := 88) (by omega) (by decide)).mp q]; rfl)
  · exact key _ (by rw [show b = 89 from (nI_eq (b := 89) (by omega) (by decide)).mp q]; rfl)
  · exact key _ (by rw [show b = 90 from (nI_eq (b := 90) (by omega) (by decide)).mp q]; rfl)
  · exact key _ (by rw [show b = 91 from (nI_eq (b := 91) (by omega) (by decide)).mp q]; rfl)
  · exact key _ (by rw [show b = 92 from (nI_eq (b := 92) (by omega) (by decide)).mp q]; rfl)
  · exact key _ (by rw [show b = 93 from (nI_eq (b := 93) (by omega) (by decide)).mp q]; rfl)
/-- the memory behind one token read at k -/
def mTk1 (M M' : eM) (k kd a n v : Nat) : Prop := (∀ c j, ¬ ((c = 102 ∨ c = 103 ∨ c = 104 ∨ c = 105) ∧ j = k) → M' c j = M c j) ∧ M' 102 k = nI (mk kd) ∧ M' 104 k = nI a ∧ M' 105 k = nI n ∧ (kd = 40 → M' 103 k = nI v)
theorem U_end239 (F : Int32 → eM → Prop) {k a e : Nat} {M0 : eM} (hk : k ≤ 400) (hae : a ≤ e) {kd v : Nat} (hf : ∀ c j, ¬ ((c = 102 ∨ c = 103 ∨ c = 104 ∨ c = 105) ∧ j = k) → M c j = M0 c j) (h2 : M 102 k = nI (mk kd)) (h4 : M 104 k = nI a) (h3 : kd = 40 → M 103 k = nI v) (h : ∀ M', mTk1 M0 M' k kd a (e - a) v → F (nI e) M') : Ev (eZ G 100 40 0 0 (eFI F)) G 100 40 (8, 0, 0) kX13_read 239 [(0, .ref (G.1 100)), (1, .int (nI a)), (2, .int (nI k)), (4, .int (nI e))] [] M 0 0 := by
  refine B_X13_read_239 G M F _ _ _ ⟨vp_in_nI (by omega) (by decide), ?_⟩
  rw [nI_clamp (show k < 2 ^ 31 by omega), nI_sub hae]
  refine h _ ⟨fun c j n1 => ?_, ?_, ?_, eU_same _ _ _ _, fun z => ?_⟩
  · rw [show eU M 105 k (nI (e - a)) c j = M c j from if_neg (by omega)]
    exact hf c j n1
  · rw [eU_cell _ _ _ _ (by decide)]; exact h2
  · rw [eU_cell _ _ _ _ (by decide)]; exact h4
  · rw [eU_cell _ _ _ _ (by decide)]; exact h3 z
theorem U_read (hT : mTape M bt sz) (F : Int32 → eM → Prop) {a k : Nat} (ha : a < sz) (hk : k ≤ 400) (h : ∀ M', mTk1 M M' k (tKind bt sz a) a (tStop bt sz a - a) (tVal bt a (tStop bt sz a - a)) → F (nI (tStop bt sz a)) M') : Cal G 100 40 (8, 0, 0) kX13_read [.ref (G.1 100), .int (nI a), .int (nI k)] M (eFI F) := by
  have h2 := hT.2.1
  obtain ⟨hb1, hb⟩ := hT.2.2 a ha
  have hst := tStop_in (bt := bt) ha
  have ek : (nI k).toNatClampNeg = k := nI_clamp (by omega)
  have ea : (nI a).toNatClampNeg = a := nI_clamp (by omega)
  have hf0 : ∀ c j, ¬ ((c = 102 ∨ c = 103 ∨ c = 104 ∨ c = 105) ∧ j = k) → (eU M 104 k (nI a)) c j = M c j := fun c j n1 => if_neg (by omega)
  have hT0 : mTape (eU M 104 k (nI a)) bt sz := hT.of (eU_other _ _ _ (by decide)) (eU_other _ _ _ (by decide))
  refine C_X13_read G M F _ _ ⟨vp_in_nI (by omega) (by decide), vp_in_nI (by omega) (by decide), ?_⟩
  rw [ek, ea, hb1]
  refine U_isLetter _ hb ⟨fun hl => ?_, fun hl => ?_⟩
  · refine U_isDigit _ hb ⟨fun hd => ?_, fun hd => ?_⟩
    · -- a symbol
      have eS : tStop bt sz a = if (bt a = 60 ∨ bt a = 62) ∧ (a + 1 < sz ∧ bt (a + 1) = 61) then a + 2 else a + 1 := by
        unfold tStop
        rw [if_neg (by rw [hl]; decide), if_neg (by rw [hd]; decide)]
      have eK : tKind bt sz a = tTxt bt a (tStop bt sz a - a) 43 := by
        unfold tKind
        rw [if_neg (by rw [hl]; decide), if_neg (by rw [hd]; decide)]
      obtain ⟨c1, c2⟩ := tSym_cmp (bt a) hb
      have hm := mk_lt (tSym (bt a)) ((by decide +kernel : ∀ b, b < 256 → tSym b < 45) _ hb)
      have one : ¬ ((bt a = 60 ∨ bt a = 62) ∧ (a + 1 < sz ∧ bt (a + 1) = 61)) → Ev (eZ G 100 40 0 0 (eFI F)) G 100 40 (8, 0, 0) kX13_read 239 [(0, .ref (G.1 100)), (1, .int (nI a)), (2, .int (nI k)), (4, .int (nI a + 1))] [] (eU (eU M 104 k (nI a)) 102 k (nI (mk (tSym (bt a))))) 0 0 := by
        intro hn
        rw [if_neg hn] at eS
        have eK1 : tKind bt sz a = tSym (bt a) := by rw [eK, eS, Nat.add_sub_cancel_left, tTxt_1 hb]
        rw [eK1, eS] at h
        rw [← nI_succ]
        refine U_end239 F hk (Nat.le_add_right a 1) (fun c j n1 => ?_) (eU_same _ _ _ _) ?_ (fun z => ?_) h
        · rw [show eU (eU M 104 k (nI a)) 102 k _ c j = (eU M 104 k (nI a)) c j from if_neg (by omega)]
          exact hf0 c j n1
        · rw [eU_cell _ _ _ _ (by decide), eU_same]
        · exact absurd z ((by decide +kernel : ∀ b, b < 256 → tSym b ≠ 40) _ hb)
      have two : (bt a = 60 ∨ bt a = 62) → Ev (eZ G 100 40 0 0 (eFI F)) G 100 40 (8, 0, 0) kX13_read 201 [(0, .ref (G.1 100)), (1, .int (nI a)), (2, .int (nI k)), (4, .int (nI a + 1))] [] (eU (eU M 104 k (nI a)) 102 k (nI (mk (tSym (bt a))))) 0 0 := by
        intro hs
        have hT1 : mTape (eU (eU M 104 k (nI a)) 102 k (nI (mk (tSym (bt a))))) bt sz := hT0.of (eU_other _ _ _ (by decide)) (eU_other _ _ _ (by decide))
        refine B_X13_read_201 G _ F _ _ _ ?_
        have fin : ∀ (kd v0 : Nat), (a + 1 < sz ∧ bt (a + 1) = 61) → mk kd = v0 → kd = tTxt bt a 2 43 → kd ≠ 40 → Ev (eZ G 100 40 0 0 (eFI F)) G 100 40 (8, 0, 0) kX13_read 239 [(0, .ref (G.1 100)), (1, .int (nI a)), (2, .int (nI k)), (4, .int (nI a + 1 + 1))] [] (eU (eU (eU M 104 k (nI a)) 102 k (nI (mk (tSym (bt a))))) 102 k (nI v0)) 0 0 := by
          intro kd v0 hn hv hkd h40
          rw [if_pos ⟨hs, hn⟩] at eS
          have eK1 : tKind bt sz a = kd := by rw [eK, eS, show a + 2 - a = 2 by omega, hkd]
          rw [eK1, eS] at h
          rw [← nI_succ, ← nI_succ]
          refine U_end239 F hk (Nat.le_add_right a 2) (fun c j n1 => ?_) ?_ ?_ (fun z => absurd z h40) h
          · rw [show eU (eU (eU M 104 k (nI a)) 102 k _) 102 k _ c j = (eU (eU M 104 k (nI a)) 102 k _) c j from if_neg (by omega), show eU (eU M 104 k (nI a)) 102 k _ c j = (eU M 104 k (nI a)) c j from if_neg (by omega)]
            exact hf0 c j n1
          · rw [eU_same, hv]
          · rw [eU_cell _ _ _ _ (by decide), eU_cell _ _ _ _ (by decide), eU_same]
        have at1 : (eU (eU M 104 k (nI a)) 102 k (nI (mk (tSym (bt a))))) 102 k = nI (mk (tSym (bt a))) := eU_same _ _ _ _
        rw [← nI_succ] at one ⊢
        refine U_byteAt hT1 _ (by omega) (fun z1 => ⟨fun q => ?_, fun q => ?_⟩) (fun z1 => ⟨fun _ => one (fun z => absurd z.2.1 (by omega)), fun q => absurd q (by decide)⟩)
        · exact one (fun z => q (by rw [z.2.2]; rfl))
        · have h61 : bt (a + 1) = 61 := (nI_eq (b := 61) (by have := (hT.2.2 (a + 1) z1).2; omega) (by decide)).mp q
          rw [ek, at1]
          refine ⟨vp_in_nI (by omega) (by decide), fun z => ⟨vp_in_nI (by omega) (by decide), ?_⟩, fun z => ⟨vp_in_nI (by omega) (by decide), ?_⟩⟩
          · have h62 : bt a = 62 := by
              rcases hs with y | y
              · exact absurd (by rw [c1.mpr y]; rfl) z
              · exact y
            have := fin 39 48 ⟨z1, h61⟩ rfl (tTxt_gt h62 h61).symm (by decide)
            rw [← nI_succ] at this
            exact this
          · have h60 : bt a = 60 := c1.mp ((nI_eq (b := 44) (by omega) (by decide)).mp z)
            have := fin 38 47 ⟨z1, h61⟩ rfl (tTxt_lt h60 h61).symm (by decide)
            rw [← nI_succ] at this
            exact this
      refine U_symbol _ hb ?_
      rw [eU_same]
      refine ⟨vp_in_nI (by omega) (by decide), vp_in_nI (by omega) (by decide), fun q => two (Or.inl (c1.mp ((nI_eq (b := 44) (by omega) (by decide)).mp q))), fun q => ⟨vp_in_nI (by omega) (by decide), fun q2 => one (fun z => ?_), fun q2 => two (Or.inr (c2.mp ((nI_eq (b := 45) (by omega) (by decide)).mp q2)))⟩⟩
      rcases z.1 with y | y
      · exact q (by rw [c1.mpr y]; rfl)
      · exact q2 (by rw [c2.mpr y]; rfl)
    · -- a number
      have hS : tStop bt sz a = tEnd bt sz tD a := by
        unfold tStop
        rw [if_neg (by rw [hl]; decide), if_pos hd]
      have hK : tKind bt sz a = if tStop bt sz a - a ≤ 6 then 40 else 43 := by
        unfold tKind
        rw [if_neg (by rw [hl]; decide), if_pos hd]
      have dg : ∀ i, tD (bt i) = true → 48 ≤ bt i ∧ bt i ≤ 57 := fun i z => by
        unfold tD at z
        rw [Bool.and_eq_true] at z
        exact ⟨of_decide_eq_true z.1, of_decide_eq_true z.2⟩
      have key : ∀ e, e ≤ sz → a + 1 ≤ e → tEnd bt sz tD e = tStop bt sz a → Ev (eZ G 100 40 0 0 (eFI F)) G 100 40 (8, 0, 0) kX13_read 87 [(0, .ref (G.1 100)), (1, .int (nI a)), (2, .int (nI k)), (4, .int (nI e)), (5, .int (nI (tVal bt a (if e - a ≤ 7 then e - a else 7))))] [] (eU M 104 k (nI a)) 0 0 := by
        have stop : ∀ e, e ≤ sz → a + 1 ≤ e → e = tStop bt sz a → vp_in (nI k) 402 ∧ ((((nI e - nI a) ≤ 6) → vp_in (nI k) 402 ∧ (Ev (eZ G 100 40 0 0 (eFI F)) G 100 40 (8, 0, 0) kX13_read 239 [(0, .ref (G.1 100)), (1, .int (nI a)), (2, .int (nI k)), (4, .int (nI e))] [] (eU (eU (eU M 104 k (nI a)) 103 k (nI (tVal bt a (if e - a ≤ 7 then e - a else 7)))) 102 k 31) 0 0)) ∧ ((¬ (nI e - nI a) ≤ 6) → vp_in (nI k) 402 ∧ (Ev (eZ G 100 40 0 0 (eFI F)) G 100 40 (8, 0, 0) kX13_read 239 [(0, .ref (G.1 100)), (1, .int (nI a)), (2, .int (nI k)), (4, .int (nI e))] [] (eU (eU (eU M 104 k (nI a)) 103 k (nI (tVal bt a (if e - a ≤ 7 then e - a else 7)))) 102 k 32) 0 0))) := by
          intro e he h1 heq
          rw [← heq] at h hK
          have hff : ∀ v w, ∀ c j, ¬ ((c = 102 ∨ c = 103 ∨ c = 104 ∨ c = 105) ∧ j = k) → (eU (eU (eU M 104 k (nI a)) 103 k v) 102 k w) c j = M c j := fun v w c j n1 => by
            rw [show (eU (eU (eU M 104 k (nI a)) 103 k v) 102 k w) c j = (eU (eU M 104 k (nI a)) 103 k v) c j from if_neg (by omega), show (eU (eU M 104 k (nI a)) 103 k v) c j = (eU M 104 k (nI a)) c j from if_neg (by omega)]
            exact hf0 c j n1
          rw [nI_sub (show a ≤ e by omega)]
          refine ⟨vp_in_nI (by omega) (by decide), fun q => ⟨vp_in_nI (by omega) (by decide), ?_⟩, fun q => ⟨vp_in_nI (by omega) (by decide), ?_⟩⟩
          · have q6 := (nI_leI (b := 6) (by omega) (by decide)).mp q
            rw [if_pos q6] at hK
            rw [hK] at h
            refine U_end239 F hk (by omega) (hff _ _) (by rw [eU_same]; rfl) ?_ (fun _ => ?_) h
            · rw [eU_cell _ _ _ _ (by decide), eU_cell _ _ _ _ (by decide), eU_same]
            · rw [eU_cell _ _ _ _ (by decide), eU_same, if_pos (by omega)]
          · have q6 : ¬ e - a ≤ 6 := fun z => q (nI_le (b := 6) z (by decide))
            rw [if_neg q6] at hK
            rw [hK] at h
            refine U_end239 F hk (by omega) (hff _ _) (by rw [eU_same]; rfl) ?_ (fun z => absurd z (by decide)) h
            rw [eU_cell _ _ _ _ (by decide), eU_cell _ _ _ _ (by decide), eU_same]
        refine eDown (P := fun e => a + 1 ≤ e → tEnd bt sz tD e = tStop bt sz a → Ev (eZ G 100 40 0 0 (eFI F)) G 100 40 (8, 0, 0) kX13_read 87 [(0, .ref (G.1 100)), (1, .int (nI a)), (2, .int (nI k)), (4, .int (nI e)), (5, .int (nI (tVal bt a (if e - a ≤ 7 then e - a else 7))))] [] (eU M 104 k (nI a)) 0 0) ?_ ?_
        · intro h1 heq
          rw [tEnd_off (Nat.le_refl _)] at heq
          refine B_X13_read_87 G _ F _ _ _ _ (U_digitAt hT0 _ h2 (fun q => absurd q (Nat.lt_irrefl _)) (fun _ => ⟨fun _ => ?_, fun q => absurd q (by decide)⟩))
          rw [ek]
          exact stop sz (Nat.le_refl _) h1 heq
        · intro e he hn h1 heq
          refine B_X13_read_87 G _ F _ _ _ _ (U_digitAt hT0 _ (by omega) (fun _ => ⟨fun q => ?_, fun q => ?_⟩) (fun q => absurd he (by omega)))
          · rw [tEnd_no q] at heq
            rw [ek]
            exact stop e (by omega) h1 heq
          · have hd' := dg e q
            have hn' := hn (by omega) (by rw [← tEnd_yes he q]; exact heq)
            rw [nI_succ] at hn'
            rw [nI_sub (show a ≤ e by omega)]
            refine ⟨fun q7 => ?_, fun q7 => ?_⟩
            · have q8 := (nI_leI (a := 7) (by decide) (by omega)).mp q7
              have e1 : (if e + 1 - a ≤ 7 then e + 1 - a else 7) = (if e - a ≤ 7 then e - a else 7) := by
                rw [if_neg (by omega)]
                by_cases hq : e - a ≤ 7
                · rw [if_pos hq]; omega
                · rw [if_neg hq]
              rw [e1] at hn'
              exact hn'
            · have q8 : ¬ 7 ≤ e - a := fun z => q7 (nI_le (a := 7) z (by omega))
              refine U_byteAt hT0 _ (by omega) (fun _ => ?_) (fun z => absurd he (by omega))
              rw [if_pos (by omega)] at hn' ⊢
              have e1 : e + 1 - a = (e - a) + 1 := by omega
              have e2 : ((10 * nI (tVal bt a (e - a))) + nI (bt e)) - 48 = nI (tVal bt a (e + 1 - a)) := by
                rw [e1, tVal, show a + (e - a) = e by omega, eL10, nI_mul, nI_add, show (48 : Int32) = nI 48 from rfl, nI_sub (by omega)]
                congr 1
                omega
              rw [e2]
              exact hn'
      have e1 : nI (bt a) - 48 = nI (tVal bt a 1) := by
        have := dg a hd
        rw [show (48 : Int32) = nI 48 from rfl, nI_sub (by omega)]
        congr 1
        show bt a - 48 = 0 * 10 + (bt a - 48)
        omega
      have hk1 := key (a + 1) (by omega) (Nat.le_refl _) (by rw [← tEnd_yes ha hd]; exact hS.symm)
      rw [if_pos (by omega), Nat.add_sub_cancel_left, nI_succ] at hk1
      rw [e1]
      exact hk1
  · -- a word
    have hS : tStop bt sz a = tEnd bt sz tLD a := by
      unfold tStop
      rw [if_pos hl]
    have hK : tKind bt sz a = if tStop bt sz a - a ≤ 10 then tTxt bt a (tStop bt sz a - a) 41 else 43 := by
      unfold tKind
      rw [if_pos hl]
    have stop : ∀ e, e ≤ sz → a + 1 ≤ e → e = tStop bt sz a → Cal G 100 40 (7, 0, 0) kX13_keyword [.ref (G.1 100), .int (nI a), .int (nI e - nI a)] (eU M 104 k (nI a)) (eFI (fun (r5 : Int32) (M5 : eM) => vp_in (nI k) 402 ∧ (Ev (eZ G 100 40 0 0 (eFI F)) G 100 40 (8, 0, 0) kX13_read 239 [(0, .ref (G.1 100)), (1, .int (nI a)), (2, .int (nI k)), (4, .int (nI e))] [] (eU M5 102 k r5) 0 0))) := by
      intro e he h1 heq
      rw [← heq] at h hK
      rw [nI_sub (show a ≤ e by omega)]
      refine U_keyword hT0 _ (show 1 ≤ e - a by omega) (by omega) hl ⟨vp_in_nI (by omega) (by decide), ?_⟩
      rw [← hK]
      refine U_end239 F hk (by omega) (fun c j n1 => ?_) (eU_same _ _ _ _) ?_ (fun z => ?_) h
      · rw [show eU (eU M 104 k (nI a)) 102 k _ c j = (eU M 104 k (nI a)) c j from if_neg (by omega)]
        exact hf0 c j n1
      · rw [eU_cell _ _ _ _ (by decide), eU_same]
      · obtain ⟨d1, -⟩ := tNum ha z
        exfalso
        unfold tL at hl
        unfold tD at d1
        rw [Bool.and_eq_true] at hl d1
        have := of_decide_eq_true hl.1
        have := of_decide_eq_true d1.2
        omega
    have key : ∀ e, e ≤ sz → a + 1 ≤ e → tEnd bt sz tLD e = tStop bt sz a → Ev (eZ G 100 40 0 0 (eFI F)) G 100 40 (8, 0, 0) kX13_read 26 [(0, .ref (G.1 100)), (1, .int (nI a)), (2, .int (nI k)), (4, .int (nI e))] [] (eU M 104 k (nI a)) 0 0 := by
      refine eDown (P := fun e => a + 1 ≤ e → tEnd bt sz tLD e = tStop bt sz a → Ev (eZ G 100 40 0 0 (eFI F)) G 100 40 (8, 0, 0) kX13_read 26 [(0, .ref (G.1 100)), (1, .int (nI a)), (2, .int (nI k)), (4, .int (nI e))] [] (eU M 104 k (nI a)) 0 0) ?_ ?_
      · intro h1 heq
        rw [tEnd_off (Nat.le_refl _)] at heq
        refine B_X13_read_26 G _ F _ _ _ (U_letterAt hT0 _ h2 (fun q => absurd q (Nat.lt_irrefl _)) (fun _ => ⟨fun q => absurd q (by decide), fun _ => ?_⟩))
        refine U_digitAt hT0 _ h2 (fun q => absurd q (Nat.lt_irrefl _)) (fun _ => ⟨fun _ => ?_, fun q => absurd q (by decide)⟩)
        rw [ek]
        exact stop sz (Nat.le_refl _) h1 heq
      · intro e he hn h1 heq
        have go : tLD (bt e) = true → Ev (eZ G 100 40 0 0 (eFI F)) G 100 40 (8, 0, 0) kX13_read 50 [(0, .ref (G.1 100)), (1, .int (nI a)), (2, .int (nI k)), (4, .int (nI e))] [] (eU M 104 k (nI a)) 0 0 := by
          intro hq
          refine B_X13_read_50 G _ F _ _ _ ?_
          rw [← nI_succ]
          exact hn (by omega) (by rw [← tEnd_yes he hq]; exact heq)
        refine B_X13_read_26 G _ F _ _ _ (U_letterAt hT0 _ (by omega) (fun _ => ⟨fun q => go (tLD_L q), fun q => ?_⟩) (fun q => absurd he (by omega)))
        refine U_digitAt hT0 _ (by omega) (fun _ => ⟨fun z => ?_, fun z => go ?_⟩) (fun q => absurd he (by omega))
        · rw [tEnd_no (show tLD (bt e) = false by unfold tLD; rw [q, z]; rfl)] at heq
          rw [ek]
          exact stop e (by omega) h1 heq
        · unfold tLD; rw [z, Bool.or_true]
    have hk1 := key (a + 1) (by omega) (Nat.le_refl _) (by rw [← tEnd_yes ha (tLD_L hl)]; exact hS.symm)
    rw [nI_succ] at hk1
    exact hk1
/-- tokens from 0 to below k -/
def mTks (M : eM) (bt : Nat → Nat) (sz k : Nat) : Prop := ∀ j, j < k → M 102 j = nI (mk (tTk bt sz j)) ∧ M 104 j = nI (tAt bt sz j) ∧ M 105 j = nI (tStop bt sz (tAt bt sz j) - tAt bt sz j) ∧ (tTk bt sz j = 40 → M 103 j = nI (tVal bt (tAt bt sz j) (tStop bt sz (tAt bt sz j) - tAt bt sz j)))
def mToks (M : eM) (bt : Nat → Nat) (sz : Nat) : Prop := mTks M bt sz (tT bt sz) ∧ M 102 (tT bt sz) = nI (mk (tTk bt sz (tT bt sz))) ∧ M 104 (tT bt sz) = nI (tAt bt sz (tT bt sz))
def mTokF (M M' : eM) : Prop := ∀ c, ¬ (c = 102 ∨ c = 103 ∨ c = 104 ∨ c = 105) → M' c = M c
theorem U_readAll (hT : mTape M bt sz) (F : eM → Prop) (h : ∀ M', mTokF M M' → mToks M' bt sz → F M') : Cal G 100 40 (9, 0, 0) kX13_readAll [.ref (G.1 100)] M (eFV F) := by
  have h2 := hT.2.1
  have tape : ∀ M', mTokF M M' → mTape M' bt sz := fun M' hf => hT.of (hf 100 (by decide)) (hf 101 (by decide))
  have fin : ∀ M1, mTokF M M1 → ∀ k, k ≤ 401 → (∀ M', (∀ c j, ¬ ((c = 102 ∨ c = 104) ∧ j = k) → M' c j = M1 c j) → M' 102 k = 33 → M' 104 k = nI sz → mToks M' bt sz) → Ev (eZ G 100 40 0 0 (eFV F)) G 100 40 (9, 0, 0) kX13_readAll 65 [(0, .ref (G.1 100)), (2, .int (nI k))] [] M1 0 0 := by
    intro M1 hf k hk hto
    refine B_X13_readAll_65 G M1 F _ ⟨vp_in_nI (by omega) (by decide), vp_in_nI (by omega) (by decide), ?_⟩
    rw [nI_clamp (show k < 2 ^ 31 by omega), eU_cell _ _ _ _ (show 100 ≠ 102 by decide), (tape M1 hf).1]
    refine h _ (fun c hc => ?_) (hto _ (fun c j n1 => ?_) ?_ (eU_same _ _ _ _))
    · rw [eU_other _ _ _ (by omega), eU_other _ _ _ (by omega)]
      exact hf c hc
    · show (if c = 104 ∧ j = k then _ else (if c = 102 ∧ j = k then _ else M1 c j)) = M1 c j
      rw [if_neg (by omega), if_neg (by omega)]
    · rw [eU_cell _ _ _ _ (by decide), eU_same]
  have keep : ∀ (M1 M2 : eM) (k : Nat), (∀ c j, ¬ ((c = 102 ∨ c = 103 ∨ c = 104 ∨ c = 105) ∧ j = k) → M2 c j = M1 c j) → mTks M1 bt sz k → mTks M2 bt sz k := by
    intro M1 M2 k hf hks j hj
    rw [hf 102 j (by omega), hf 103 j (by omega), hf 104 j (by omega), hf 105 j (by omega)]
    exact hks j hj
  have frame : ∀ (M1 M2 : eM) (k : Nat), (∀ c j, ¬ ((c = 102 ∨ c = 103 ∨ c = 104 ∨ c = 105) ∧ j = k) → M2 c j = M1 c j) → mTokF M M1 → mTokF M M2 := by
    intro M1 M2 k hf h1 c hc
    rw [← h1 c hc]
    exact funext fun j => hf c j (fun z => hc z.1)
  -- behind a wrong token
  have bad : ∀ M1, mTokF M M1 → ∀ k, k ≤ 400 → (∀ j, j < k → tLast bt sz j = false) → tTk bt sz k = 43 → mTks M1 bt sz k → M1 102 k = 32 → M1 104 k = nI (tAt bt sz k) → ∀ x : Int32, Ev (eZ G 100 40 0 0 (eFV F)) G 100 40 (9, 0, 0) kX13_readAll 8 [(0, .ref (G.1 100)), (1, .int x), (2, .int (nI (k + 1)))] [] M1 0 0 := by
    intro M1 hf k hk hj h43 hks hb1 hb2 x
    have hl : tLast bt sz k = true := by unfold tLast; rw [h43]; rfl
    have hTk := tT_eq hk hl hj
    have fin2 := fin M1 hf (k + 1) (by omega) (fun M' f' _ _ => by
      unfold mToks
      rw [hTk, h43]
      refine ⟨fun j hjk => ?_, by rw [f' 102 k (by omega)]; exact hb1, by rw [f' 104 k (by omega)]; exact hb2⟩
      rw [f' 102 j (by omega), f' 103 j (by omega), f' 104 j (by omega), f' 105 j (by omega)]
      exact hks j hjk)
    refine B_X13_readAll_8 G M1 F _ _ ⟨fun _ => fin2, fun _ => ⟨fun z => absurd z (nI_ne0 (by omega) (by omega)), fun _ => ?_⟩⟩
    rw [nI_pred, nI_clamp (show k < 2 ^ 31 by omega)]
    exact ⟨vp_in_nI (by omega) (by decide), fun _ => fin2, fun z => absurd hb1 z⟩
  have key : ∀ k, k ≤ 400 → ∀ M1, mTokF M M1 → (∀ j, j < k → tLast bt sz j = false) → mTks M1 bt sz k → Ev (eZ G 100 40 0 0 (eFV F)) G 100 40 (9, 0, 0) kX13_readAll 8 [(0, .ref (G.1 100)), (1, .int (nI (tAt bt sz k))), (2, .int (nI k))] [] M1 0 0 := by
    have step : ∀ k, k ≤ 400 → (k < 400 → ∀ M1, mTokF M M1 → (∀ j, j < k + 1 → tLast bt sz j = false) → mTks M1 bt sz (k + 1) → Ev (eZ G 100 40 0 0 (eFV F)) G 100 40 (9, 0, 0) kX13_readAll 8 [(0, .ref (G.1 100)), (1, .int (nI (tAt bt sz (k + 1)))), (2, .int (nI (k + 1)))] [] M1 0 0) → ∀ M1, mTokF M M1 → (∀ j, j < k → tLast bt sz j = false) → mTks M1 bt sz k → Ev (eZ G 100 40 0 0 (eFV F)) G 100 40 (9, 0, 0) kX13_readAll 8 [(0, .ref (G.1 100)), (1, .int (nI (tAt bt sz k))), (2, .int (nI k))] [] M1 0 0 := by
      intro k hk hn M1 hf hj hks
      have hle := tAt_le bt sz k hj
      have hT1 := tape M1 hf
      have on : tAt bt sz k < sz → Ev (eZ G 100 40 0 0 (eFV F)) G 100 40 (9, 0, 0) kX13_readAll 33 [(0, .ref (G.1 100)), (1, .int (nI (tAt bt sz k))), (2, .int (nI k))] [] M1 0 0 := by
        intro hq
        have hki := tKind_in (bt := bt) hq
        have hsi := tStop_in (bt := bt) hq
        refine B_X13_readAll_33 G M1 F _ _ (U_read hT1 _ hq hk (fun M2 t2 => ?_))
        obtain ⟨g1, g2, g3, g4, g5⟩ := t2
        have hf2 := frame M1 M2 k g1 hf
        have hks2 := keep M1 M2 k g1 hks
        refine U_skip (tape M2 hf2) _ hsi.2 ⟨fun q => ?_, fun q => ?_⟩
        · have hk4 : k < 400 := by
            refine Decidable.byContradiction fun z => q ?_
            rw [show k = 400 by omega]
            rfl
          have ek : tTk bt sz k = tKind bt sz (tAt bt sz k) := by
            unfold tTk
            rw [if_neg (by omega), if_neg (by omega)]
          refine B_X13_readAll_59 G M2 F _ _ ?_
          rw [← nI_succ]
          by_cases h43 : tKind bt sz (tAt bt sz k) = 43
          · exact bad M2 hf2 k hk hj (by rw [ek]; exact h43) hks2 (by rw [g2, h43]; rfl) g3 _
          · have hl : tLast bt sz k = false := by
              unfold tLast
              rw [Bool.or_eq_false_iff, ek]
              exact ⟨beq_false_of_ne hki.2.2, beq_false_of_ne h43⟩
            refine hn hk4 M2 hf2 (fun j hjk => ?_) (fun j hjk => ?_)
            · by_cases hq2 : j = k
              · subst hq2; exact hl
              · exact hj j (by omega)
            · by_cases hq2 : j = k
              · subst hq2
                rw [ek]
                exact ⟨g2, g3, g4, g5⟩
              · exact hks2 j (by omega)
        · have hk4 : k = 400 := (nI_eq (b := 400) (by omega) (by decide)).mp q
          have h43 : tTk bt sz k = 43 := by
            unfold tTk
            rw [if_neg (by omega), if_pos (by omega)]
          refine ⟨vp_in_nI (by omega) (by decide), B_X13_readAll_59 G _ F _ _ ?_⟩
          rw [← nI_succ, nI_clamp (show k < 2 ^ 31 by omega)]
          have g6 : ∀ c j, ¬ ((c = 102 ∨ c = 103 ∨ c = 104 ∨ c = 105) ∧ j = k) → (eU M2 102 k 32) c j = M2 c j := fun c j n1 => if_neg (by omega)
          refine bad _ (frame M2 _ k g6 hf2) k hk hj h43 (keep M2 _ k g6 hks2) (eU_same _ _ _ _) ?_ _
          rw [eU_cell _ _ _ _ (by decide)]
          exact g3
      refine B_X13_readAll_8 G M1 F _ _ ?_
      rw [hT1.1]
      refine ⟨fun q => ?_, fun q => ?_⟩
      · have hq := (nI_leI (by omega) (by omega)).mp q
        have ek : tTk bt sz k = 42 := by unfold tTk; rw [if_pos hq]
        have hl : tLast bt sz k = true := by unfold tLast; rw [ek]; rfl
        have hTk := tT_eq hk hl hj
        refine fin M1 hf k (by omega) (fun M' f' w1 w2 => ?_)
        unfold mToks
        rw [hTk, ek]
        refine ⟨keep M1 M' k (fun c j n1 => f' c j (by omega)) hks, w1, ?_⟩
        rw [w2, show tAt bt sz k = sz by omega]
      · have hq : tAt bt sz k < sz := Nat.not_le.mp fun z => q (nI_le z (by omega))
        refine ⟨fun _ => on hq, fun z => ?_⟩
        have hk1 : 1 ≤ k := by
          refine Decidable.byContradiction fun y => z ?_
          rw [show k = 0 by omega]
          rfl
        obtain ⟨k', rfl⟩ : ∃ k', k = k' + 1 := ⟨k - 1, by omega⟩
        rw [nI_pred, nI_clamp (show k' < 2 ^ 31 by omega), (hks k' (by omega)).1]
        refine ⟨vp_in_nI (by omega) (by decide), fun y => ?_, fun _ => on hq⟩
        exfalso
        have h1 := tTk_in bt sz k'
        have h43 := (nI_eq (b := 32) (by have := mk_lt (tTk bt sz k') (by omega); omega) (by decide)).mp y
        exact (tLast_f (hj k' (by omega))).2 (mk_inj (a := tTk bt sz k') (b := 43) (by omega) (by decide) h43)
    refine eDown (P := fun k => ∀ M1, mTokF M M1 → (∀ j, j < k → tLast bt sz j = false) → mTks M1 bt sz k → Ev (eZ G 100 40 0 0 (eFV F)) G 100 40 (9, 0, 0) kX13_readAll 8 [(0, .ref (G.1 100)), (1, .int (nI (tAt bt sz k))), (2, .int (nI k))] [] M1 0 0) ?_ ?_
    · exact step 400 (Nat.le_refl _) (fun z => absurd z (Nat.lt_irrefl _))
    · exact fun k hk hn => step k (by omega) (fun _ => hn)
  refine C_X13_readAll G M F (U_skip hT _ (Nat.zero_le _) ?_)
  exact key 0 (by decide) M (fun _ _ => rfl) (fun j hj => absurd hj (by omega)) (fun j hj => absurd hj (by omega))
end MTok2
