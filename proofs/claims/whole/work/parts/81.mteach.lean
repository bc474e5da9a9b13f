/-! ===== the model is taught ===== -/
section MTeach
variable {G : eG} {bt : Nat → Nat} {sz : Nat}
theorem Z_sbegin {M : eM} (F : eM → Prop) (h : ∀ M', (∀ c, c ≠ 130 → c ≠ 131 → c ≠ 132 → M' c = M c) → (∀ j, j ≠ 3 → j ≠ 4 → M' 130 j = M 130 j) → (∀ j, j < 49 → M' 131 j = -1) → (∀ j, j < 16 → M' 132 j = -1) → M' 130 3 = 0 → M' 130 4 = 0 → F M') : Cal G 100 40 (1, 0, 0) kX11_begin [.ref (G.1 130)] M (eFV F) := by
  refine C_X11_begin_130 G M F ?_
  have tiles : ∀ M0 : eM, (∀ c, c ≠ 131 → M0 c = M c) → (∀ j, j < 49 → M0 131 j = -1) → ∀ i, i ≤ 16 → ∀ M1 : eM, (∀ c, c ≠ 132 → M1 c = M0 c) → (∀ j, j < i → M1 132 j = -1) → Ev (eZ G 100 40 0 0 (eFV F)) G 100 40 (1, 0, 0) kX11_begin 23 [(0, .ref (G.1 130)), (1, .int (nI i))] [] M1 0 0 := by
    intro M0 f0 g0
    refine eDown (P := fun i => ∀ M1 : eM, (∀ c, c ≠ 132 → M1 c = M0 c) → (∀ j, j < i → M1 132 j = -1) → Ev (eZ G 100 40 0 0 (eFV F)) G 100 40 (1, 0, 0) kX11_begin 23 [(0, .ref (G.1 130)), (1, .int (nI i))] [] M1 0 0) ?_ ?_
    · intro M1 f1 g1
      refine B_X11_begin_130_23 G M1 F _ ⟨fun _ => h _ (fun c c1 c2 c3 => ?_) (fun j j1 j2 => ?_) (fun j hj => ?_) (fun j hj => ?_) ?_ ?_, fun q => absurd (Int32.le_refl 16) q⟩
      · rw [eU_other _ _ _ c1, eU_other _ _ _ c1, f1 c c3, f0 c c2]
      · rw [eU_place _ _ _ _ j2, eU_place _ _ _ _ j1, f1 130 (by decide), f0 130 (by decide)]
      · rw [eU_cell _ _ _ _ (by decide), eU_cell _ _ _ _ (by decide), f1 131 (by decide)]; exact g0 j hj
      · rw [eU_cell _ _ _ _ (by decide), eU_cell _ _ _ _ (by decide)]; exact g1 j hj
      · rw [eU_place _ _ _ _ (by decide), eU_same]
      · rw [eU_same]
    · intro i hi hn M1 f1 g1
      refine B_X11_begin_130_23 G M1 F _ ⟨fun q => absurd q (nI_ge (b := 16) hi (by decide)), fun _ => ⟨vp_in_nI hi (by decide), ?_⟩⟩
      rw [nI_clamp (show i < 2 ^ 31 by omega), ← nI_succ]
      refine hn _ (fun c hc => by rw [eU_other _ _ _ hc]; exact f1 c hc) (fun j hj => ?_)
      by_cases hq : j = i
      · rw [hq, eU_same]
      · rw [eU_place _ _ _ _ hq]; exact g1 j (by omega)
  have cells : ∀ i, i ≤ 49 → ∀ M1 : eM, (∀ c, c ≠ 131 → M1 c = M c) → (∀ j, j < i → M1 131 j = -1) → Ev (eZ G 100 40 0 0 (eFV F)) G 100 40 (1, 0, 0) kX11_begin 2 [(0, .ref (G.1 130)), (1, .int (nI i))] [] M1 0 0 := by
    refine eDown (P := fun i => ∀ M1 : eM, (∀ c, c ≠ 131 → M1 c = M c) → (∀ j, j < i → M1 131 j = -1) → Ev (eZ G 100 40 0 0 (eFV F)) G 100 40 (1, 0, 0) kX11_begin 2 [(0, .ref (G.1 130)), (1, .int (nI i))] [] M1 0 0) ?_ ?_
    · intro M1 f1 g1
      exact B_X11_begin_130_2 G M1 F _ ⟨fun _ => tiles M1 f1 g1 0 (Nat.zero_le _) M1 (fun _ _ => rfl) (fun j hj => absurd hj (Nat.not_lt_zero _)), fun q => absurd (Int32.le_refl 49) q⟩
    · intro i hi hn M1 f1 g1
      refine B_X11_begin_130_2 G M1 F _ ⟨fun q => absurd q (nI_ge (b := 49) hi (by decide)), fun _ => ⟨vp_in_nI hi (by decide), ?_⟩⟩
      rw [nI_clamp (show i < 2 ^ 31 by omega), ← nI_succ]
      refine hn _ (fun c hc => by rw [eU_other _ _ _ hc]; exact f1 c hc) (fun j hj => ?_)
      by_cases hq : j = i
      · rw [hq, eU_same]
      · rw [eU_place _ _ _ _ hq]; exact g1 j (by omega)
  exact cells 0 (Nat.zero_le _) M (fun _ _ => rfl) (fun j hj => absurd hj (Nat.not_lt_zero _))
theorem Z_cp_119 {M : eM} (F : eM → Prop) (h : ∀ M', (∀ c, c ≠ 108 → M' c = M c) → (∀ j, j < 51 → M' 108 j = M 119 j) → F M') : Cal G 100 40 (1, 0, 0) kX12_copy [.ref (G.1 119), .ref (G.1 108)] M (eFV F) := by
  refine C_X12_copy_119_108 G M F ⟨by decide, ?_⟩
  exact h (eCp M 119 108 0 0 51) (fun c hc => eCp_other _ _ _ _ _ _ hc) (fun j hj => eCp_in _ _ _ _ _ hj)
theorem Z_cp_120 {M : eM} (F : eM → Prop) (h : ∀ M', (∀ c, c ≠ 109 → M' c = M c) → (∀ j, j < 17 → M' 109 j = M 120 j) → F M') : Cal G 100 40 (1, 0, 0) kX12_copy [.ref (G.1 120), .ref (G.1 109)] M (eFV F) := by
  refine C_X12_copy_120_109 G M F ⟨by decide, ?_⟩
  exact h (eCp M 120 109 0 0 17) (fun c hc => eCp_other _ _ _ _ _ _ hc) (fun j hj => eCp_in _ _ _ _ _ hj)
theorem Z_cp_121 {M : eM} (F : eM → Prop) (h : ∀ M', (∀ c, c ≠ 110 → M' c = M c) → (∀ j, j < 17 → M' 110 j = M 121 j) → F M') : Cal G 100 40 (1, 0, 0) kX12_copy [.ref (G.1 121), .ref (G.1 110)] M (eFV F) := by
  refine C_X12_copy_121_110 G M F ⟨by decide, ?_⟩
  exact h (eCp M 121 110 0 0 17) (fun c hc => eCp_other _ _ _ _ _ _ hc) (fun j hj => eCp_in _ _ _ _ _ hj)
theorem Z_cp_122 {M : eM} (F : eM → Prop) (h : ∀ M', (∀ c, c ≠ 111 → M' c = M c) → (∀ j, j < 17 → M' 111 j = M 122 j) → F M') : Cal G 100 40 (1, 0, 0) kX12_copy [.ref (G.1 122), .ref (G.1 111)] M (eFV F) := by
  refine C_X12_copy_122_111 G M F ⟨by decide, ?_⟩
  exact h (eCp M 122 111 0 0 17) (fun c hc => eCp_other _ _ _ _ _ _ hc) (fun j hj => eCp_in _ _ _ _ _ hj)
theorem Z_cp_123 {M : eM} (F : eM → Prop) (h : ∀ M', (∀ c, c ≠ 112 → M' c = M c) → (∀ j, j < 17 → M' 112 j = M 123 j) → F M') : Cal G 100 40 (1, 0, 0) kX12_copy [.ref (G.1 123), .ref (G.1 112)] M (eFV F) := by
  refine C_X12_copy_123_112 G M F ⟨by decide, ?_⟩
  exact h (eCp M 123 112 0 0 17) (fun c hc => eCp_other _ _ _ _ _ _ hc) (fun j hj => eCp_in _ _ _ _ _ hj)
theorem Z_cp_124 {M : eM} (F : eM → Prop) (h : ∀ M', (∀ c, c ≠ 113 → M' c = M c) → (∀ j, j < 51 → M' 113 j = M 124 j) → F M') : Cal G 100 40 (1, 0, 0) kX12_copy [.ref (G.1 124), .ref (G.1 113)] M (eFV F) := by
  refine C_X12_copy_124_113 G M F ⟨by decide, ?_⟩
  exact h (eCp M 124 113 0 0 51) (fun c hc => eCp_other _ _ _ _ _ _ hc) (fun j hj => eCp_in _ _ _ _ _ hj)
theorem Z_cp_125 {M : eM} (F : eM → Prop) (h : ∀ M', (∀ c, c ≠ 114 → M' c = M c) → (∀ j, j < 17 → M' 114 j = M 125 j) → F M') : Cal G 100 40 (1, 0, 0) kX12_copy [.ref (G.1 125), .ref (G.1 114)] M (eFV F) := by
  refine C_X12_copy_125_114 G M F ⟨by decide, ?_⟩
  exact h (eCp M 125 114 0 0 17) (fun c hc => eCp_other _ _ _ _ _ _ hc) (fun j hj => eCp_in _ _ _ _ _ hj)
theorem Z_cp_126 {M : eM} (F : eM → Prop) (h : ∀ M', (∀ c, c ≠ 115 → M' c = M c) → (∀ j, j < 800 → M' 115 j = M 126 j) → F M') : Cal G 100 40 (1, 0, 0) kX12_copy [.ref (G.1 126), .ref (G.1 115)] M (eFV F) := by
  refine C_X12_copy_126_115 G M F ⟨by decide, ?_⟩
  exact h (eCp M 126 115 0 0 800) (fun c hc => eCp_other _ _ _ _ _ _ hc) (fun j hj => eCp_in _ _ _ _ _ hj)
theorem Z_cp_127 {M : eM} (F : eM → Prop) (h : ∀ M', (∀ c, c ≠ 116 → M' c = M c) → (∀ j, j < 800 → M' 116 j = M 127 j) → F M') : Cal G 100 40 (1, 0, 0) kX12_copy [.ref (G.1 127), .ref (G.1 116)] M (eFV F) := by
  refine C_X12_copy_127_116 G M F ⟨by decide, ?_⟩
  exact h (eCp M 127 116 0 0 800) (fun c hc => eCp_other _ _ _ _ _ _ hc) (fun j hj => eCp_in _ _ _ _ _ hj)
theorem Z_cp_128 {M : eM} (F : eM → Prop) (h : ∀ M', (∀ c, c ≠ 117 → M' c = M c) → (∀ j, j < 800 → M' 117 j = M 128 j) → F M') : Cal G 100 40 (1, 0, 0) kX12_copy [.ref (G.1 128), .ref (G.1 117)] M (eFV F) := by
  refine C_X12_copy_128_117 G M F ⟨by decide, ?_⟩
  exact h (eCp M 128 117 0 0 800) (fun c hc => eCp_other _ _ _ _ _ _ hc) (fun j hj => eCp_in _ _ _ _ _ hj)
theorem Z_cp_131 {M : eM} (F : eM → Prop) (h : ∀ M', (∀ c, c ≠ 135 → M' c = M c) → (∀ j, j < 49 → M' 135 j = M 131 j) → F M') : Cal G 100 40 (1, 0, 0) kX12_copy [.ref (G.1 131), .ref (G.1 135)] M (eFV F) := by
  refine C_X12_copy_131_135 G M F ⟨by decide, ?_⟩
  exact h (eCp M 131 135 0 0 49) (fun c hc => eCp_other _ _ _ _ _ _ hc) (fun j hj => eCp_in _ _ _ _ _ hj)
theorem Z_cp_132 {M : eM} (F : eM → Prop) (h : ∀ M', (∀ c, c ≠ 136 → M' c = M c) → (∀ j, j < 16 → M' 136 j = M 132 j) → F M') : Cal G 100 40 (1, 0, 0) kX12_copy [.ref (G.1 132), .ref (G.1 136)] M (eFV F) := by
  refine C_X12_copy_132_136 G M F ⟨by decide, ?_⟩
  exact h (eCp M 132 136 0 0 16) (fun c hc => eCp_other _ _ _ _ _ _ hc) (fun j hj => eCp_in _ _ _ _ _ hj)
theorem Z_cp_133 {M : eM} (F : eM → Prop) (h : ∀ M', (∀ c, c ≠ 137 → M' c = M c) → (∀ j, j < 16 → M' 137 j = M 133 j) → F M') : Cal G 100 40 (1, 0, 0) kX12_copy [.ref (G.1 133), .ref (G.1 137)] M (eFV F) := by
  refine C_X12_copy_133_137 G M F ⟨by decide, ?_⟩
  exact h (eCp M 133 137 0 0 16) (fun c hc => eCp_other _ _ _ _ _ _ hc) (fun j hj => eCp_in _ _ _ _ _ hj)
theorem Z_become {M : eM} (F : eM → Prop) (h : ∀ M', (∀ c, c < 107 ∨ 117 < c → M' c = M c) → (M' 107 0 = M 118 0 ∧ M' 107 1 = M 118 1 ∧ M' 107 2 = M 118 2 ∧ M' 107 4 = M 118 4 ∧ M' 107 11 = M 118 11) → (∀ j, j < 51 → M' 108 j = M 119 j) → (∀ j, j < 17 → M' 109 j = M 120 j) → (∀ j, j < 17 → M' 110 j = M 121 j) → (∀ j, j < 17 → M' 111 j = M 122 j) → (∀ j, j < 17 → M' 112 j = M 123 j) → (∀ j, j < 51 → M' 113 j = M 124 j) → (∀ j, j < 17 → M' 114 j = M 125 j) → (∀ j, j < 800 → M' 115 j = M 126 j) → (∀ j, j < 800 → M' 116 j = M 127 j) → (∀ j, j < 800 → M' 117 j = M 128 j) → F M') : Cal G 100 40 (2, 0, 0) kX12_become [.ref (G.1 107), .ref (G.1 118)] M (eFV F) := by
  refine C_X12_become G M F ?_
  simp only [eU_cell _ _ _ _ (show (118 : Nat) ≠ 107 by decide)]
  obtain ⟨M0, hM0⟩ : ∃ M0, M0 = eU (eU (eU (eU (eU M 107 0 (M 118 0)) 107 1 (M 118 1)) 107 2 (M 118 2)) 107 4 (M 118 4)) 107 11 (M 118 11) := ⟨_, rfl⟩
  rw [← hM0]
  have f0 : ∀ c, c ≠ 107 → M0 c = M c := fun c hc => by rw [hM0, eU_other _ _ _ hc, eU_other _ _ _ hc, eU_other _ _ _ hc, eU_other _ _ _ hc, eU_other _ _ _ hc]
  have g0 : M0 107 0 = M 118 0 ∧ M0 107 1 = M 118 1 ∧ M0 107 2 = M 118 2 ∧ M0 107 4 = M 118 4 ∧ M0 107 11 = M 118 11 := by
    rw [hM0]
    refine ⟨?_, ?_, ?_, ?_, ?_⟩
    · rw [eU_place _ _ _ _ (by decide), eU_place _ _ _ _ (by decide), eU_place _ _ _ _ (by decide), eU_place _ _ _ _ (by decide), eU_same]
    · rw [eU_place _ _ _ _ (by decide), eU_place _ _ _ _ (by decide), eU_place _ _ _ _ (by decide), eU_same]
    · rw [eU_place _ _ _ _ (by decide), eU_place _ _ _ _ (by decide), eU_same]
    · rw [eU_place _ _ _ _ (by decide), eU_same]
    · rw [eU_same]
  refine Z_cp_119 _ (fun M1 f1 g1 => Z_cp_120 _ (fun M2 f2 g2 => Z_cp_121 _ (fun M3 f3 g3 => Z_cp_122 _ (fun M4 f4 g4 => Z_cp_123 _ (fun M5 f5 g5 => Z_cp_124 _ (fun M6 f6 g6 => Z_cp_125 _ (fun M7 f7 g7 => Z_cp_126 _ (fun M8 f8 g8 => Z_cp_127 _ (fun M9 f9 g9 => Z_cp_128 _ (fun M10 f10 g10 => ?_))))))))))
  refine h M10 (fun c hc => ?_) ?_ (fun j hj => ?_) (fun j hj => ?_) (fun j hj => ?_) (fun j hj => ?_) (fun j hj => ?_) (fun j hj => ?_) (fun j hj => ?_) (fun j hj => ?_) (fun j hj => ?_) (fun j hj => ?_)
  · rw [f10 c (by omega), f9 c (by omega), f8 c (by omega), f7 c (by omega), f6 c (by omega), f5 c (by omega), f4 c (by omega), f3 c (by omega), f2 c (by omega), f1 c (by omega), f0 c (by omega)]
  · rw [f10 107 (by decide), f9 107 (by decide), f8 107 (by decide), f7 107 (by decide), f6 107 (by decide), f5 107 (by decide), f4 107 (by decide), f3 107 (by decide), f2 107 (by decide), f1 107 (by decide)]; exact g0
  · rw [f10 108 (by decide), f9 108 (by decide), f8 108 (by decide), f7 108 (by decide), f6 108 (by decide), f5 108 (by decide), f4 108 (by decide), f3 108 (by decide), f2 108 (by decide), g1 j hj, f0 119 (by decide)]
  · rw [f10 109 (by decide), f9 109 (by decide), f8 109 (by decide), f7 109 (by decide), f6 109 (by decide), f5 109 (by decide), f4 109 (by decide), f3 109 (by decide), g2 j hj, f1 120 (by decide), f0 120 (by decide)]
  · rw [f10 110 (by decide), f9 110 (by decide), f8 110 (by decide), f7 110 (by decide), f6 110 (by decide), f5 110 (by decide), f4 110 (by decide), g3 j hj, f2 121 (by decide), f1 121 (by decide), f0 121 (by decide)]
  · rw [f10 111 (by decide), f9 111 (by decide), f8 111 (by decide), f7 111 (by decide), f6 111 (by decide), f5 111 (by decide), g4 j hj, f3 122 (by decide), f2 122 (by decide), f1 122 (by decide), f0 122 (by decide)]
  · rw [f10 112 (by decide), f9 112 (by decide), f8 112 (by decide), f7 112 (by decide), f6 112 (by decide), g5 j hj, f4 123 (by decide), f3 123 (by decide), f2 123 (by decide), f1 123 (by decide), f0 123 (by decide)]
  · rw [f10 113 (by decide), f9 113 (by decide), f8 113 (by decide), f7 113 (by decide), g6 j hj, f5 124 (by decide), f4 124 (by decide), f3 124 (by decide), f2 124 (by decide), f1 124 (by decide), f0 124 (by decide)]
  · rw [f10 114 (by decide), f9 114 (by decide), f8 114 (by decide), g7 j hj, f6 125 (by decide), f5 125 (by decide), f4 125 (by decide), f3 125 (by decide), f2 125 (by decide), f1 125 (by decide), f0 125 (by decide)]
  · rw [f10 115 (by decide), f9 115 (by decide), g8 j hj, f7 126 (by decide), f6 126 (by decide), f5 126 (by decide), f4 126 (by decide), f3 126 (by decide), f2 126 (by decide), f1 126 (by decide), f0 126 (by decide)]
  · rw [f10 116 (by decide), g9 j hj, f8 127 (by decide), f7 127 (by decide), f6 127 (by decide), f5 127 (by decide), f4 127 (by decide), f3 127 (by decide), f2 127 (by decide), f1 127 (by decide), f0 127 (by decide)]
  · rw [g10 j hj, f9 128 (by decide), f8 128 (by decide), f7 128 (by decide), f6 128 (by decide), f5 128 (by decide), f4 128 (by decide), f3 128 (by decide), f2 128 (by decide), f1 128 (by decide), f0 128 (by decide)]
theorem mB_b0 {M : eM} {wd r n : Nat} {nu : Nat → Nat} (h0 : M 107 0 = nI wd) (h1 : M 107 1 = nI r) (h2 : M 107 2 = nI n) (h108 : ∀ i, i < 3 * n → M 108 i = nI (nu i)) (h131 : ∀ c, c < wd * r → M 131 c = -1) (h132 : ∀ i, i < n → M 132 i = -1) (h3 : M 130 3 = 0) : mB 130 131 132 133 M (b0 wd r n nu) :=
  ⟨⟨h0, h1, h2⟩, h108, h131, h132, fun i c _ hc => (by cases hc), h3⟩
theorem gLv_eq {s : pSt} (h40 : s.1 = 40 → tTk bt sz s.2.1 = 40) (hn : s.1 = 16 ∨ s.1 = 18 ∨ s.1 = 19 → tTk bt sz s.2.1 = 41) : gLv (tV bt sz) s = gLeft bt sz s := by
  unfold gLv gLeft tV
  by_cases q : s.1 = 40
  · rw [if_pos (Or.inl q), if_pos q, if_pos (h40 q)]
  · rw [if_neg q]
    by_cases q2 : s.1 = 16 ∨ s.1 = 18 ∨ s.1 = 19
    · have := hn q2
      rw [if_pos (by omega), if_pos q2, if_neg (by omega)]
    · rw [if_neg (by omega), if_neg q2]
theorem U_teach {M : eM} (hsz : sz ≤ 2000) (h2 : M 100 2 = nI sz) (hb : ∀ j, bt j < 256) (h101 : ∀ i, i < 2000 → M 101 i = nI (bt i)) (F : Int32 → eM → Prop)
    (hbad : (tEr bt sz).1 ≠ 0 → ∀ M', (∀ c, c = 101 ∨ (107 ≤ c ∧ c ≤ 117) ∨ 129 ≤ c → M' c = M c) → M' 100 2 = 0 → M' 100 3 = nI (tAt bt sz (tEr bt sz).2) → M' 100 0 = 0 → F (nI (tEr bt sz).1) M')
    (hok : (tEr bt sz).1 = 0 → ∀ M', M' 101 = M 101 → M' 100 2 = 0 → M' 100 3 = -1 → M' 100 0 = 0 → mPg M' (tV bt sz) (tOs bt sz) → mB 130 131 132 133 M' (tB0 bt sz) → M' 130 4 = 0 → F 0 M') : Cal G 100 40 (104, 0, 0) kX13_teach [.ref (G.1 100)] M (eFI F) := by
  have ht := tTk_pTk bt sz
  have h400 := ht.1
  refine C_X13_teach G M F (C_X12_begin G _ _ ?_)
  obtain ⟨M1, hM1⟩ : ∃ M1, M1 = eU (eU (eU (eU (eU (eU (eU (eU (eU (eU M 100 0 0) 100 8 0) 100 9 0) 100 10 0) 100 12 0) 118 0 5) 118 1 5) 118 2 0) 118 4 0) 118 11 0 := ⟨_, rfl⟩
  rw [← hM1]
  have f1 : ∀ c, c ≠ 100 → c ≠ 118 → M1 c = M c := fun c c1 c2 => by rw [hM1, eU_other _ _ _ c2, eU_other _ _ _ c2, eU_other _ _ _ c2, eU_other _ _ _ c2, eU_other _ _ _ c2, eU_other _ _ _ c1, eU_other _ _ _ c1, eU_other _ _ _ c1, eU_other _ _ _ c1, eU_other _ _ _ c1]
  have e100 : M1 100 = (eU (eU (eU (eU (eU M 100 0 0) 100 8 0) 100 9 0) 100 10 0) 100 12 0) 100 := by rw [hM1, eU_other _ _ _ (by decide), eU_other _ _ _ (by decide), eU_other _ _ _ (by decide), eU_other _ _ _ (by decide), eU_other _ _ _ (by decide)]
  have g100 : M1 100 0 = 0 ∧ M1 100 2 = nI sz ∧ M1 100 8 = 0 ∧ M1 100 9 = 0 ∧ M1 100 10 = 0 ∧ M1 100 12 = 0 := by
    rw [e100]
    refine ⟨?_, ?_, ?_, ?_, ?_, ?_⟩
    · rw [eU_place _ _ _ _ (by decide), eU_place _ _ _ _ (by decide), eU_place _ _ _ _ (by decide), eU_place _ _ _ _ (by decide), eU_same]
    · rw [eU_place _ _ _ _ (by decide), eU_place _ _ _ _ (by decide), eU_place _ _ _ _ (by decide), eU_place _ _ _ _ (by decide), eU_place _ _ _ _ (by decide)]; exact h2
    · rw [eU_place _ _ _ _ (by decide), eU_place _ _ _ _ (by decide), eU_place _ _ _ _ (by decide), eU_same]
    · rw [eU_place _ _ _ _ (by decide), eU_place _ _ _ _ (by decide), eU_same]
    · rw [eU_place _ _ _ _ (by decide), eU_same]
    · rw [eU_same]
  have g118 : M1 118 0 = 5 ∧ M1 118 1 = 5 ∧ M1 118 2 = 0 ∧ M1 118 4 = 0 ∧ M1 118 11 = 0 := by
    rw [hM1]
    refine ⟨?_, ?_, ?_, ?_, ?_⟩
    · rw [eU_place _ _ _ _ (by decide), eU_place _ _ _ _ (by decide), eU_place _ _ _ _ (by decide), eU_place _ _ _ _ (by decide), eU_same]
    · rw [eU_place _ _ _ _ (by decide), eU_place _ _ _ _ (by decide), eU_place _ _ _ _ (by decide), eU_same]
    · rw [eU_place _ _ _ _ (by decide), eU_place _ _ _ _ (by decide), eU_same]
    · rw [eU_place _ _ _ _ (by decide), eU_same]
    · rw [eU_same]
  have tp1 : mTape M1 bt sz := ⟨g100.2.1, hsz, fun j hj => ⟨by rw [f1 101 (by decide) (by decide)]; exact h101 j (by omega), hb j⟩⟩
  refine U_readAll tp1 _ (fun M2 f2 k2 => ?_)
  have f2' : ∀ c, c < 102 ∨ 105 < c → M2 c = M1 c := fun c hc => f2 c (by omega)
  have ts2 : mTS M2 bt sz := ⟨hsz, k2, fun i hi => by rw [f2' 101 (by decide), f1 101 (by decide) (by decide)]; exact h101 i hi⟩
  obtain ⟨x, hx⟩ := pGame_tot ht
  have e2 : M2 100 = M1 100 := f2' 100 (by decide)
  have e2' : M2 118 = M1 118 := f2' 118 (by decide)
  refine O_game ts2 (by rw [e2]; exact g100.2.2.1) (by rw [e2]; exact g100.2.2.2.1) (by rw [e2]; exact g100.2.2.2.2.1) (by rw [e2]; exact g100.2.2.2.2.2) (by rw [e2']; exact g118.1) (by rw [e2']; exact g118.2.1) (by rw [e2']; exact g118.2.2.1) (by rw [e2']; exact g118.2.2.2.1) (by rw [e2']; exact g118.2.2.2.2) hx _ ?_
  -- what the game leaves
  have left : ∀ M3, hFr M2 M3 0 0 0 → (∀ c, c = 101 ∨ (107 ≤ c ∧ c ≤ 117) ∨ 129 ≤ c → M3 c = M c) ∧ M3 100 0 = 0 ∧ (∀ t, t ≤ tT bt sz → M3 104 t = nI (tAt bt sz t)) := by
    intro M3 f3
    refine ⟨fun c hc => ?_, ?_, fun t htt => ?_⟩
    · rw [show M3 c = M2 c from funext fun j => f3.at (by omega) (by omega) (by omega) (by omega) (by omega) (by omega) (by omega), f2' c (by omega), f1 c (by omega) (by omega)]
    · rw [f3.at (by omega) (by omega) (by omega) (by omega) (by omega) (by omega) (by omega), e2]; exact g100.1
    · rw [f3.at (by omega) (by omega) (by omega) (by omega) (by omega) (by omega) (by omega)]; exact ts2.pos t htt
  match x, hx with
  | .inl e, hx =>
    have he := pGame_bad ht hx
    have hE := tEr_bad hx
    rw [hE] at hbad
    intro M3 f3 w3
    obtain ⟨a1, a2, a3⟩ := left M3 f3
    obtain ⟨w8, w9, w10, w11⟩ := w3
    have b10 : (eU M3 100 2 0) 100 10 = 1 := by rw [eU_place _ _ _ _ (by decide)]; exact w10
    have b11 : (eU M3 100 2 0) 100 11 = nI e := by rw [eU_place _ _ _ _ (by decide)]; exact w11
    rw [b10, b11, nI_clamp (show e < 2 ^ 31 by omega), eU_cell _ _ _ _ (show (104 : Nat) ≠ 100 by decide), a3 e he]
    have c10 : (eU (eU M3 100 2 0) 100 3 (nI (tAt bt sz e))) 100 10 = 1 := by rw [eU_place _ _ _ _ (by decide)]; exact b10
    rw [c10]
    refine ⟨fun _ => ⟨vp_in_nI (by omega) (by decide), fun q => absurd q (by decide), fun _ => ?_⟩, fun q => absurd q (by decide)⟩
    refine hbad (Nat.succ_ne_zero _) _ (fun c hc => ?_) ?_ (eU_same _ _ _ _) ?_
    · rw [eU_other _ _ _ (by omega), eU_other _ _ _ (by omega)]; exact a1 c hc
    · rw [eU_place _ _ _ _ (by decide), eU_same]
    · rw [eU_place _ _ _ _ (by decide), eU_place _ _ _ _ (by decide)]; exact a2
  | .inr os, hx =>
    obtain ⟨hE, hO⟩ := tEr_good hx
    obtain ⟨l1, l2, l3, l4, l5⟩ := L_game hx
    intro M3 f3 hlp
    obtain ⟨a1, a2, a3⟩ := left M3 f3
    obtain ⟨⟨⟨r0, r8, r9, ⟨r10, r11, r5⟩, r12, r118⟩, p4, pts⟩, ⟨q1, q2, q3⟩, q4, q5, q6, q7, q8⟩ := hlp
    have htk := tScan_tok bt sz (tT bt sz)
    rw [hE] at hbad hok
    rw [hO] at hok
    have b10 : (eU M3 100 2 0) 100 10 = M3 100 10 := by rw [eU_place _ _ _ _ (by decide)]
    have b11 : (eU M3 100 2 0) 100 11 = M3 100 11 := by rw [eU_place _ _ _ _ (by decide)]
    have c10 : ∀ v, (eU (eU M3 100 2 0) 100 3 v) 100 10 = M3 100 10 := fun v => by rw [eU_place _ _ _ _ (by decide)]; exact b10
    rw [b10, b11, c10, c10, r10]
    by_cases h0 : (sEr (tScan bt sz (tT bt sz))).1 = 0
    · rw [h0]
      have hgm := tOut_gm (bt := bt) (sz := sz) (by rw [hE]; exact h0)
      rw [hO] at hgm
      have hlen : os.length ≤ 16 := hgm.1.1
      obtain ⟨s1, s2, s3, s4⟩ := tScan_ok (q := tT bt sz) h0
      obtain ⟨i1, -⟩ := tScan_in bt sz (tT bt sz)
      have hnn := q6 h0
      refine ⟨fun q => absurd rfl q, fun _ => ⟨fun _ => Z_become _ (fun M4 f4 h4 k108 k109 k110 k111 k112 k113 k114 k115 k116 k117 => Z_sbegin _ (fun M5 f5 g5 n131 n132 n3 n4 => ?_)), fun q => absurd rfl q⟩⟩
      have x0 : ∀ c, c ≠ 100 → (eU (eU M3 100 2 0) 100 3 (-1)) c = M3 c := fun c hc => by rw [eU_other _ _ _ hc, eU_other _ _ _ hc]
      have y0 : ∀ c, 107 ≤ c → c ≤ 117 → M5 c = M4 c := fun c c1 c2 => f5 c (by omega) (by omega) (by omega)
      have e100' : M5 100 = (eU (eU M3 100 2 0) 100 3 (-1)) 100 := by rw [f5 100 (by decide) (by decide) (by decide), f4 100 (by decide)]
      rw [x0 118 (by decide)] at h4
      rw [x0 119 (by decide)] at k108
      rw [x0 120 (by decide)] at k109
      rw [x0 121 (by decide)] at k110
      rw [x0 122 (by decide)] at k111
      rw [x0 123 (by decide)] at k112
      rw [x0 124 (by decide)] at k113
      rw [x0 125 (by decide)] at k114
      rw [x0 126 (by decide)] at k115
      rw [x0 127 (by decide)] at k116
      rw [x0 128 (by decide)] at k117
      refine hok h0 M5 ?_ ?_ ?_ ?_ ⟨?_, fun i o ho => ?_, fun i s hs => ?_⟩ ?_ n4
      · rw [f5 101 (by decide) (by decide) (by decide), f4 101 (by decide), x0 101 (by decide)]; exact a1 101 (Or.inl rfl)
      · rw [e100', eU_place _ _ _ _ (by decide), eU_same]
      · rw [e100', eU_same]
      · rw [e100', eU_place _ _ _ _ (by decide), eU_place _ _ _ _ (by decide)]; exact a2
      · rw [y0 107 (by decide) (by decide), h4.2.2.2.1, p4, ← q1, show min 16 os.length = os.length by omega]
      · have hi : i < os.length := by
          rcases Nat.lt_or_ge i os.length with h1 | h1
          · exact h1
          · rw [List.getElem?_eq_none h1] at ho; cases ho
        obtain ⟨o1, o2, o3, o4, o5, o6⟩ := q5 i o ho (by omega)
        unfold mPo
        rw [y0 109 (by decide) (by decide), y0 110 (by decide) (by decide), y0 111 (by decide) (by decide), y0 112 (by decide) (by decide), y0 113 (by decide) (by decide), y0 114 (by decide) (by decide), k109 i (by omega), k110 i (by omega), k111 i (by omega), k112 i (by omega), k114 i (by omega), k113 (3 * i) (by omega), k113 (3 * i + 1) (by omega), k113 (3 * i + 2) (by omega)]
        refine ⟨o1, ?_, o3, o4, o5, o6⟩
        rw [o2]
        obtain ⟨⟨p, q, y1, y2, y3⟩, -, -⟩ := l5 o (List.mem_of_getElem? ho)
        obtain ⟨-, -, ⟨-, k4', -⟩, -, k7', -⟩ := y3
        unfold tV
        rw [k4', if_neg (by omega)]
      · have hi : i < (osCode os).length := by
          rcases Nat.lt_or_ge i (osCode os).length with h1 | h1
          · exact h1
          · rw [List.getElem?_eq_none h1] at hs; cases hs
        obtain ⟨o1, o2, o3⟩ := q4 i s hs
        rw [Nat.zero_add] at o1 o2 o3 ⊢
        rw [y0 115 (by decide) (by decide), y0 116 (by decide) (by decide), y0 117 (by decide) (by decide), k115 i (by omega), k116 i (by omega), k117 i (by omega)]
        refine ⟨o1, ?_, o3⟩
        rw [o2]
        obtain ⟨o, ho, hso⟩ := osCode_mem (List.mem_of_getElem? hs)
        obtain ⟨⟨p, q, y1, y2, y3⟩, -, -⟩ := l5 o ho
        obtain ⟨-, -, -, -, -, k8', -⟩ := y3
        obtain ⟨z1, z2, -⟩ := k8' s hso
        exact (gLv_eq (fun h => (z1 h).2.2) (fun h => (z2 h).2.2)).symm
      · unfold tB0
        refine mB_b0 ?_ ?_ ?_ (fun i hi => ?_) (fun c hc => ?_) (fun i hi => ?_) n3
        · rw [y0 107 (by decide) (by decide), h4.1, q7]
        · rw [y0 107 (by decide) (by decide), h4.2.1, q8]
        · rw [y0 107 (by decide) (by decide), h4.2.2.1, r0.2.1.1]
        · rw [y0 108 (by decide) (by decide), k108 i (by omega)]
          exact hnn.2 i hi
        · have h49 : sCol (tScan bt sz (tT bt sz)) * sRow (tScan bt sz (tT bt sz)) ≤ 49 := Nat.mul_le_mul s1.2 s2.2
          exact n131 c (by omega)
        · exact n132 i (by omega)
    · have z0 : ¬ nI (sEr (tScan bt sz (tT bt sz))).1 = 0 := nI_ne0 (by omega) (by omega)
      rw [r11 h0, nI_clamp (show (sEr (tScan bt sz (tT bt sz))).2 < 2 ^ 31 by omega), eU_cell _ _ _ _ (show (104 : Nat) ≠ 100 by decide), a3 _ htk]
      refine ⟨fun _ => ⟨vp_in_nI (by omega) (by decide), fun q => absurd q z0, fun _ => ?_⟩, fun q => absurd q z0⟩
      refine hbad h0 _ (fun c hc => ?_) ?_ (eU_same _ _ _ _) ?_
      · rw [eU_other _ _ _ (by omega), eU_other _ _ _ (by omega)]; exact a1 c hc
      · rw [eU_place _ _ _ _ (by decide), eU_same]
      · rw [eU_place _ _ _ _ (by decide), eU_place _ _ _ _ (by decide)]; exact a2
end MTeach
