/-! ===== the model reads tiles, lines, the game ===== -/
section MLines
variable {G : eG} {bt : Nat → Nat} {sz : Nat} {nt : Nat} {nk : Nat → Nat}
theorem O_numberIn {M : eM} {p b d : Nat} {er : Nat × Nat} (hM : mRd (tTk bt sz) (tT bt sz) (tW bt sz) nt nk (tNb bt sz) M p b d er) (hp : p ≤ tT bt sz) (F : Int32 → eM → Prop) (lo hi : Nat) (hlo : lo < 100) (hhi : hi < 100) (hv : tTk bt sz p = 40 → tNv bt sz p < 2 ^ 31) (h1 : tTk bt sz p = 40 → ∀ M', mFr M M' b → mRd (tTk bt sz) (tT bt sz) (tW bt sz) nt nk (tNb bt sz) M' (p + 1) b d (sErr (decide (tNv bt sz p < lo ∨ hi < tNv bt sz p)) 5 p er) → F (nI (tNv bt sz p)) M') (h0 : tTk bt sz p ≠ 40 → ∀ M' r, mFr M M' b → mBad M' p b d → F r M') : Cal G 100 40 (3, 0, 0) kX13_numberIn [.ref (G.1 100), .int (nI lo), .int (nI hi)] M (eFI F) := by
  have ht := tTk_pTk bt sz
  have h400 := ht.1
  have e8 : M 100 8 = nI p := hM.2.1
  refine C_X13_numberIn G M F _ _ ⟨by rw [e8]; exact vp_in_nI (by omega) (by decide), ?_⟩
  refine S_is ht hM hp _ 40 31 (by decide) rfl (fun h40 => ⟨cTF, fun _ => ?_⟩) (fun h40 => ⟨fun _ => ?_, cFT⟩)
  · have hv' := hv h40
    have e3 : M 103 (M 100 8).toNatClampNeg = nI (tNv bt sz p) := by rw [e8, nI_clamp (show p < 2 ^ 31 by omega)]; exact hM.1.2.2.2.2.2 p hp h40
    rw [e3]
    have go : ∀ (er' : Nat × Nat) (M1 : eM), mFr M M1 b → mRd (tTk bt sz) (tT bt sz) (tW bt sz) nt nk (tNb bt sz) M1 p b d er' → er' = sErr (decide (tNv bt sz p < lo ∨ hi < tNv bt sz p)) 5 p er → Cal G 100 40 (2, 0, 0) kX13_take [.ref (G.1 100), .int 31] M1 (eFV (fun (M4 : eM) => F (nI (tNv bt sz p)) M4)) := by
      intro er' M1 f1 r1 he
      refine S_take ht r1 hp _ 40 31 (by decide) rfl (fun _ M2 f2 r2 => ?_) (fun z => absurd h40 z)
      rw [he] at r2
      exact h1 h40 M2 (f1.trans f2 (Nat.le_refl _)) r2
    refine S_isIn G M _ _ _ _ ⟨fun q => ?_, fun q => ?_⟩
    · have q' := of_decide_eq_true q
      have n1 : ¬ (tNv bt sz p < lo ∨ hi < tNv bt sz p) := fun z => by
        rcases z with z | z
        · exact absurd q'.1 (nI_ge z (by omega))
        · exact absurd q'.2 (nI_ge z hv')
      exact go er M (mFr.refl _ _) hM (by rw [decide_eq_false n1, sErr_f])
    · have q' := of_decide_eq_false q
      have n1 : tNv bt sz p < lo ∨ hi < tNv bt sz p := by
        refine Decidable.byContradiction fun z => q' ⟨nI_le (by omega) hv', nI_le (by omega) (by omega)⟩
      refine S_mark hM _ 5 (by decide) (fun M1 f1 r1 => go _ M1 f1 r1 ?_)
      rw [decide_eq_true n1]
      unfold sErr
      by_cases h0' : er.1 = 0
      · rw [if_pos h0', if_pos ⟨h0', rfl⟩]
      · rw [if_neg h0', if_neg (fun z => h0' z.1)]
  · exact S_take ht hM hp _ 40 31 (by decide) rfl (fun z => absurd z h40) (fun _ M1 f1 b1 => h0 h40 M1 _ f1 b1)
theorem W_numberIn {M : eM} {e : Nat} (hM : mWrong M e) (he : e ≤ 400) (F : Int32 → eM → Prop) (a1 a2 : Int32) (h : ∀ r, F r M) : Cal G 100 40 (3, 0, 0) kX13_numberIn [.ref (G.1 100), .int a1, .int a2] M (eFI F) :=
  C_X13_numberIn G M F _ _ ⟨by rw [hM.1]; exact vp_in_nI (by omega) (by decide), W_is hM.ne _ _ ⟨fun _ => W_take hM.ne _ _ (h _), cFT⟩⟩
theorem tNv_lt {p : Nat} (hp : p ≤ tT bt sz) (h40 : tTk bt sz p = 40) : tNv bt sz p < 2 ^ 31 := by
  have ht := tTk_pTk bt sz
  have hjT : p < tT bt sz := ht.lt hp (by omega) (by omega)
  have hok := tTk_ok ((tT_is bt sz).2.2 p hjT)
  obtain ⟨d1, d2, d3⟩ := tNum hok.1 (by rw [← hok.2.2]; exact h40)
  have hst := tStop_in (bt := bt) hok.1
  have hval : ∀ n, n ≤ tStop bt sz (tAt bt sz p) - tAt bt sz p → tVal bt (tAt bt sz p) n < 10 ^ n := by
    intro n
    induction n with
    | zero => intro _; exact Nat.one_pos
    | succ n ih =>
      intro hn
      have h1 := ih (by omega)
      have h2 := d2 (tAt bt sz p + n) (by omega) (by omega)
      unfold tD at h2
      rw [Bool.and_eq_true] at h2
      have h3 := of_decide_eq_true h2.2
      rw [tVal, Nat.pow_succ]
      omega
  have h1 := hval _ (Nat.le_refl _)
  have h2 : 10 ^ (tStop bt sz (tAt bt sz p) - tAt bt sz p) ≤ 10 ^ 6 := Nat.pow_le_pow_right (by decide) d3
  unfold tNv
  omega
/-- the rest of a tile's line behind a wrong token -/
theorem O_tileBad {M0 : eM} {e b k nt : Nat} (he : e ≤ 400) (hn : nt ≤ 16) (F : eM → Prop) (hF : ∀ M', hFr M0 M' b k nt → mWrong M' e → F M') : ∀ i, i ≤ 3 → ∀ M, mWrong M e → hFr M0 M b k nt → Ev (eZ G 100 40 0 0 (eFV F)) G 100 40 (4, 0, 0) kX13_tile 88 [(0, .ref (G.1 100)), (1, .int (nI nt)), (2, .int (nI i))] [] M 0 0 := by
  refine eDown (P := fun i => ∀ M, mWrong M e → hFr M0 M b k nt → Ev (eZ G 100 40 0 0 (eFV F)) G 100 40 (4, 0, 0) kX13_tile 88 [(0, .ref (G.1 100)), (1, .int (nI nt)), (2, .int (nI i))] [] M 0 0) ?_ ?_
  · intro M w f
    refine B_X13_tile_88 G M F _ _ ⟨fun _ => hF _ (f.trans (hFr.one (c := 118) (j := 2) (by omega)) (Nat.le_refl b) (Nat.le_refl k) (Nat.le_refl nt)) (w.eU (by decide)), fun q => absurd (Int32.le_refl 3) q⟩
  · intro i hi hstep M w f
    refine B_X13_tile_88 G M F _ _ ⟨fun q => absurd q (nI_ge (b := 3) hi (by decide)), fun _ => W_numberIn w he _ _ _ (fun r => ?_)⟩
    have e1 : (3 * nI nt) + nI i = nI (3 * nt + i) := by rw [eL3, nI_mul, nI_add]
    rw [e1, nI_clamp (show 3 * nt + i < 2 ^ 31 by omega), ← nI_succ]
    exact ⟨vp_in_nI (by omega) (by decide), hstep _ (w.eU (by decide)) (f.trans (hFr.one (c := 119) (j := 3 * nt + i) (by omega)) (Nat.le_refl b) (Nat.le_refl k) (Nat.le_refl nt))⟩
theorem O_tile {M M1 : eM} {p b : Nat} (hM : mLn M bt sz p b) (hp : p < tT bt sz) (h3 : tTk bt sz p = 3) (r1 : mRd (tTk bt sz) (tT bt sz) (tW bt sz) (sNt (tScan bt sz p)) (sNk (tScan bt sz p)) (tNb bt sz) M1 (p + 1) b 0 (sEr (tScan bt sz p))) (f1 : mFr M M1 b) {x : Nat ⊕ Nat} (hx : pTile (tTk bt sz) p = some x) (F : eM → Prop)
    (hF : match (generalizing := false) x with
      | .inl e => ∀ M', hFr M M' b (min 16 (sNo (tScan bt sz p))) (sNt (tScan bt sz p)) → mWrong M' e → F M'
      | .inr q => ∀ M', hFr M M' b (min 16 (sNo (tScan bt sz p))) (sNt (tScan bt sz p)) → mLn M' bt sz q b → ((sEr (tScan bt sz q)).1 = 0 → sNn (tScan bt sz p) = 3 * sNt (tScan bt sz p) → sNn (tScan bt sz q) = 3 * sNt (tScan bt sz q) ∧ ((∀ i, i < 3 * sNt (tScan bt sz p) → M 119 i = nI (sNu (tScan bt sz p) i)) → ∀ i, i < 3 * sNt (tScan bt sz q) → M' 119 i = nI (sNu (tScan bt sz q) i))) → sNo (tScan bt sz q) = sNo (tScan bt sz p) → sCol (tScan bt sz q) = sCol (tScan bt sz p) → sRow (tScan bt sz q) = sRow (tScan bt sz p) → M' 118 0 = M 118 0 → M' 118 1 = M 118 1 → F M') : Cal G 100 40 (4, 0, 0) kX13_tile [.ref (G.1 100)] M1 (eFV F) := by
  have ht := tTk_pTk bt sz
  have h400 := ht.1
  obtain ⟨m1, m2, m3⟩ := hM
  obtain ⟨s1, s2, s3, s4, s5, s6⟩ := tScan_in bt sz p
  have eS1 : tScan bt sz (p + 1) = ((3, (tScan bt sz p).1.2), (tScan bt sz p).2) := by
    show sStep (tTk bt sz) (tW bt sz) (tNv bt sz) (tScan bt sz p) p = _
    unfold sStep
    rw [if_pos (Or.inr h3), h3]
  obtain ⟨S, hS⟩ : ∃ S, S = tScan bt sz p := ⟨_, rfl⟩
  rw [← hS] at m1 m2 s1 s2 s3 s4 s6 eS1 r1 hF
  have s1' : sNt S ≤ 16 := s1
  obtain ⟨kk, hkk⟩ : ∃ k, k = min 16 (sNo S) := ⟨_, rfl⟩
  rw [← hkk] at m2 hF
  have e2 : M1 118 2 = nI (sNt S) := r1.1.2.1.1
  have ex1 : (if (M1 118 2) < 16 then (M1 118 2) else 16) = nI (sNt S) := by rw [e2]; exact eMin' s1'
  -- behind the name: the three numbers
  have f1h := f1.h kk (sNt S)
  unfold pTile at hx
  refine C_X13_tile G M1 F ?_
  rw [ex1]
  by_cases h41 : tTk bt sz (p + 1) = 41
  rotate_left
  · rcases gEat_on hx with ⟨z, -⟩ | ⟨-, hxe⟩
    · exact absurd z h41
    subst hxe
    refine S_is ht r1 (by omega) _ 41 30 (by decide) rfl (fun z => absurd z h41) (fun _ => ⟨fun _ => ?_, cFT⟩)
    refine B_X13_tile_35 G M1 F _ (S_is ht r1 (by omega) _ 41 30 (by decide) rfl (fun z => absurd z h41) (fun _ => ⟨fun _ => ?_, cFT⟩))
    refine B_X13_tile_55 G M1 F _ (S_is ht r1 (by omega) _ 41 30 (by decide) rfl (fun z => absurd z h41) (fun _ => ⟨fun _ => ?_, cFT⟩))
    refine B_X13_tile_80 G M1 F _ (S_take ht r1 (by omega) _ 41 30 (by decide) rfl (fun z => absurd z h41) (fun _ M2 f2 b2 => ?_))
    exact O_tileBad (k := kk) (by omega) s1' F hF 0 (by decide) M2 b2.wrong (f1h.trans (f2.h kk (sNt S)) (Nat.le_refl b) (Nat.le_refl kk) (Nat.le_refl _))
  have hp1 := ht.lt (show p + 1 ≤ tT bt sz by omega) (by omega) (by omega)
  have eS2 : tScan bt sz (p + 2) = ((3, (if sNt S < 16 then sNt S + 1 else sNt S), sNo S, sNn S, sSd S), (if sNt S < 16 then zU (sNk S) (sNt S) (p + 1) else sNk S), sNu S, S.2.2.2.1, sErr (decide (16 ≤ sNt S)) 4 (p + 1) (sErr (sKn (tW bt sz) S (p + 1)).isSome 2 (p + 1) (sEr S))) := by
    show sStep (tTk bt sz) (tW bt sz) (tNv bt sz) (tScan bt sz (p + 1)) (p + 1) = _
    rw [eS1]
    unfold sStep
    rw [if_neg (by omega), if_neg (by omega), if_pos h41]
    unfold sName
    rw [if_pos rfl]
    rfl
  -- after the marks
  have named : ∀ M2, mFr M1 M2 b → mRd (tTk bt sz) (tT bt sz) (tW bt sz) (sNt S) (sNk S) (tNb bt sz) M2 (p + 1) b 0 (sEr (tScan bt sz (p + 2))) → Ev (eZ G 100 40 0 0 (eFV F)) G 100 40 (4, 0, 0) kX13_tile 55 [(0, .ref (G.1 100)), (1, .int (nI (sNt S)))] [] M2 0 0 := by
    intro M2 f2 r2
    have on : ∀ M3, (∀ c j, ¬ (c = 106 ∧ sNt S ≤ j) → M3 c j = M2 c j) → (sNt S < 16 → M3 106 (sNt S) = nI (p + 1)) → Ev (eZ G 100 40 0 0 (eFV F)) G 100 40 (4, 0, 0) kX13_tile 80 [(0, .ref (G.1 100)), (1, .int (nI (sNt S)))] [] M3 0 0 := by
      intro M3 k3 w3
      have r3 : mRd (tTk bt sz) (tT bt sz) (tW bt sz) (sNt S) (sNk S) (tNb bt sz) M3 (p + 1) b 0 (sEr (tScan bt sz (p + 2))) := by
        obtain ⟨⟨h1, h2, h3, h4, h5, h6⟩, z2, z3, z4, z5, z6⟩ := r2
        refine ⟨⟨fun j hj => ?_, ⟨?_, h2.2⟩, fun i hi => ⟨?_, (h3 i hi).2⟩, fun j hj hkj => ⟨?_, ?_, (h4 j hj hkj).2.2⟩, fun i hi => ?_, fun j hj hkj => ?_⟩, ?_, ?_, ⟨?_, ?_, z4.2.2⟩, ?_, ?_⟩
        · rw [k3 _ _ (by omega)]; exact h1 j hj
        · rw [k3 _ _ (by omega)]; exact h2.1
        · rw [k3 _ _ (by omega)]; exact (h3 i hi).1
        · rw [k3 _ _ (by omega)]; exact (h4 j hj hkj).1
        · rw [k3 _ _ (by omega)]; exact (h4 j hj hkj).2.1
        · rw [k3 _ _ (by omega)]; exact h5 i hi
        · rw [k3 _ _ (by omega)]; exact h6 j hj hkj
        · rw [k3 _ _ (by omega)]; exact z2
        · rw [k3 _ _ (by omega)]; exact z3
        · rw [k3 _ _ (by omega)]; exact z4.1
        · rw [k3 _ _ (by omega)]; exact z4.2.1
        · rw [k3 _ _ (by omega)]; exact z5
        · rw [k3 _ _ (by omega)]; exact z6
      have g3 : hFr M M3 b kk (sNt S) := f1h.trans (b1 := b) (k1 := kk) (nt1 := sNt S) ((f2.h kk (sNt S)).trans (b1 := b) (k1 := kk) (nt1 := sNt S) (fun c j => by
        by_cases hq : c = 106 ∧ sNt S ≤ j
        · exact Or.inr (Or.inr (Or.inl hq))
        · exact Or.inl (k3 c j hq)) (Nat.le_refl _) (Nat.le_refl _) (Nat.le_refl _)) (Nat.le_refl _) (Nat.le_refl _) (Nat.le_refl _)
      refine B_X13_tile_80 G M3 F _ (S_take ht r3 (by omega) _ 41 30 (by decide) rfl (fun _ M4 f4 r4 => ?_) (fun z => absurd h41 z))
      have g4 := g3.trans (f4.h kk (sNt S)) (Nat.le_refl b) (Nat.le_refl kk) (Nat.le_refl _)
      rcases gEat_on hx with ⟨-, hx⟩ | ⟨z, -⟩
      rotate_left
      · exact absurd h41 z
      -- the numbers, one after the other
      have scanN : ∀ i, i ≤ 3 → (∀ i', i' < i → tTk bt sz (p + 2 + i') = 40) → sL (tScan bt sz (p + 2 + i)) = 3 ∧ sNt (tScan bt sz (p + 2 + i)) = sNt (tScan bt sz (p + 2)) ∧ sNo (tScan bt sz (p + 2 + i)) = sNo S ∧ sNk (tScan bt sz (p + 2 + i)) = sNk (tScan bt sz (p + 2)) ∧ (tScan bt sz (p + 2 + i)).2.2.2.1 = S.2.2.2.1 ∧ (sNn S + 3 ≤ 48 → sNn (tScan bt sz (p + 2 + i)) = sNn S + i ∧ (∀ j, j < sNn S → sNu (tScan bt sz (p + 2 + i)) j = sNu S j) ∧ (∀ i', i' < i → sNu (tScan bt sz (p + 2 + i)) (sNn S + i') = tNv bt sz (p + 2 + i'))) := by
        intro i
        induction i with
        | zero =>
          intro _ _
          rw [Nat.add_zero, eS2]
          exact ⟨rfl, rfl, rfl, rfl, rfl, fun _ => ⟨rfl, fun _ _ => rfl, fun i' hi' => absurd hi' (Nat.not_lt_zero _)⟩⟩
        | succ i ih =>
          intro hi hall
          obtain ⟨a1, a2, a3, a4, a5, a6⟩ := ih (by omega) (fun i' hi' => hall i' (by omega))
          have h40 := hall i (by omega)
          have e : tScan bt sz (p + 2 + (i + 1)) = sNum (tNv bt sz (p + 2 + i)) (tScan bt sz (p + 2 + i)) (p + 2 + i) := by
            show sStep (tTk bt sz) (tW bt sz) (tNv bt sz) (tScan bt sz (p + 2 + i)) (p + 2 + i) = _
            unfold sStep
            rw [if_neg (by omega), if_neg (by omega), if_neg (by omega), if_pos h40]
          generalize tScan bt sz (p + 2 + i) = Si at a1 a2 a3 a4 a5 a6 e
          rw [e]
          unfold sNum
          rw [if_neg (by omega), if_pos a1]
          refine ⟨a1, a2, a3, a4, a5, fun h48 => ?_⟩
          obtain ⟨b1, b2, b3⟩ := a6 h48
          have hn48 : sNn Si < 48 := by omega
          refine ⟨?_, fun j hj => ?_, fun i' hi' => ?_⟩
          · show (if sNn Si < 48 then sNn Si + 1 else sNn Si) = sNn S + (i + 1)
            rw [if_pos hn48]; omega
          · show (if sNn Si < 48 then zU (sNu Si) (sNn Si) (tNv bt sz (p + 2 + i)) else sNu Si) j = sNu S j
            rw [if_pos hn48, zU_ne _ _ (by omega)]; exact b2 j hj
          · show (if sNn Si < 48 then zU (sNu Si) (sNn Si) (tNv bt sz (p + 2 + i)) else sNu Si) (sNn S + i') = _
            rw [if_pos hn48]
            by_cases hq : i' = i
            · rw [hq, ← b1, zU_same]
            · rw [zU_ne _ _ (by omega)]; exact b3 i' (by omega)
      have scanE : ∀ i, i < 3 → (∀ i', i' ≤ i → tTk bt sz (p + 2 + i') = 40) → sEr (tScan bt sz (p + 2 + (i + 1))) = sErr (decide (tNv bt sz (p + 2 + i) < 0 ∨ 9 < tNv bt sz (p + 2 + i))) 5 (p + 2 + i) (sEr (tScan bt sz (p + 2 + i))) := by
        intro i hi hall
        obtain ⟨a1, -⟩ := scanN i (by omega) (fun i' hi' => hall i' (by omega))
        have h40 := hall i (Nat.le_refl _)
        show sEr (sStep (tTk bt sz) (tW bt sz) (tNv bt sz) (tScan bt sz (p + 2 + i)) (p + 2 + i)) = _
        unfold sStep
        rw [if_neg (by omega), if_neg (by omega), if_neg (by omega), if_pos h40]
        unfold sNum
        rw [if_neg (by omega), if_pos a1]
        show sErr (decide (9 < tNv bt sz (p + 2 + i))) 5 (p + 2 + i) (sEr (tScan bt sz (p + 2 + i))) = _
        rw [show decide (9 < tNv bt sz (p + 2 + i)) = decide (tNv bt sz (p + 2 + i) < 0 ∨ 9 < tNv bt sz (p + 2 + i)) from decide_eq_decide.mpr (by omega)]
      -- what has been read, and where it goes on
      have loop : ∀ i, i ≤ 3 → (∀ i', i' < i → tTk bt sz (p + 2 + i') = 40) → ∀ M5, hFr M M5 b kk (sNt S) → mRd (tTk bt sz) (tT bt sz) (tW bt sz) (sNt S) (sNk S) (tNb bt sz) M5 (p + 2 + i) b 0 (sEr (tScan bt sz (p + 2 + i))) → (∀ i', i' < i → M5 119 (3 * sNt S + i') = nI (tNv bt sz (p + 2 + i'))) → (sNt S < 16 → M5 106 (sNt S) = nI (p + 1)) → M5 118 0 = M 118 0 → M5 118 1 = M 118 1 → M5 118 4 = M 118 4 → Ev (eZ G 100 40 0 0 (eFV F)) G 100 40 (4, 0, 0) kX13_tile 88 [(0, .ref (G.1 100)), (1, .int (nI (sNt S))), (2, .int (nI i))] [] M5 0 0 := by
        refine eDown (P := fun i => (∀ i', i' < i → tTk bt sz (p + 2 + i') = 40) → ∀ M5, hFr M M5 b kk (sNt S) → mRd (tTk bt sz) (tT bt sz) (tW bt sz) (sNt S) (sNk S) (tNb bt sz) M5 (p + 2 + i) b 0 (sEr (tScan bt sz (p + 2 + i))) → (∀ i', i' < i → M5 119 (3 * sNt S + i') = nI (tNv bt sz (p + 2 + i'))) → (sNt S < 16 → M5 106 (sNt S) = nI (p + 1)) → M5 118 0 = M 118 0 → M5 118 1 = M 118 1 → M5 118 4 = M 118 4 → Ev (eZ G 100 40 0 0 (eFV F)) G 100 40 (4, 0, 0) kX13_tile 88 [(0, .ref (G.1 100)), (1, .int (nI (sNt S))), (2, .int (nI i))] [] M5 0 0) ?_ ?_
        · intro hall M5 f5 r5 n5 w5 c0 c1 c4
          have t2 := hall 0 (by decide)
          have t3 := hall 1 (by decide)
          have t4 := hall 2 (by decide)
          rw [Nat.add_zero] at t2
          have hxq : x = .inr (p + 5) := by
            rcases gEat_on hx with ⟨-, hx⟩ | ⟨z, -⟩
            rotate_left
            · exact absurd t2 z
            rcases gEat_on hx with ⟨-, hx⟩ | ⟨z, -⟩
            rotate_left
            · exact absurd t3 z
            rcases gEat_on hx with ⟨-, hx⟩ | ⟨z, -⟩
            rotate_left
            · exact absurd t4 z
            cases hx
            rfl
          subst hxq
          obtain ⟨a1, a2, a3, a4, a5, a6⟩ := scanN 3 (Nat.le_refl 3) hall
          have eq5 : p + 2 + 3 = p + 5 := by omega
          rw [eq5] at a1 a2 a3 a4 a5 a6 r5
          have hNt : sNt (tScan bt sz (p + 5)) = min 16 (sNt S + 1) := by
            rw [a2, eS2]
            show (if sNt S < 16 then sNt S + 1 else sNt S) = _
            split <;> omega
          have hNk : sNk (tScan bt sz (p + 5)) = (if sNt S < 16 then zU (sNk S) (sNt S) (p + 1) else sNk S) := by rw [a4, eS2]
          refine B_X13_tile_88 G M5 F _ _ ⟨fun _ => ?_, fun q => absurd (Int32.le_refl 3) q⟩
          rw [eMinS s1']
          have g6 : hFr M (eU M5 118 2 (nI (min 16 (sNt S + 1)))) b kk (sNt S) := f5.trans (hFr.one (c := 118) (j := 2) (by omega)) (Nat.le_refl b) (Nat.le_refl kk) (Nat.le_refl _)
          have mt := m3.fr g6
          refine hF _ g6 ⟨?_, ?_, mt⟩ (fun her hnn => ?_) a3 ?_ ?_ ?_ ?_
          · obtain ⟨⟨h1, h2, h3', h4, h5, h6⟩, z2, z3, z4, z5, z6⟩ := r5
            refine ⟨mt.sta (by rw [eU_same, hNt]) (by rw [hNt]; omega) (fun i hi => ?_), ?_, ?_, ⟨?_, ?_, z4.2.2⟩, ?_, ?_⟩
            · rw [hNt] at hi
              rw [hNk, eU_cell _ _ _ _ (by decide)]
              by_cases h16 : sNt S < 16
              · rw [if_pos h16]
                by_cases hq : i = sNt S
                · rw [hq, zU_same]
                  exact ⟨w5 h16, by omega, h41⟩
                · rw [zU_ne _ _ hq]
                  exact h3' i (by omega)
              · rw [if_neg h16]
                exact h3' i (by omega)
            · rw [eU_cell _ _ _ _ (by decide)]; exact z2
            · rw [eU_cell _ _ _ _ (by decide)]; exact z3
            · rw [eU_cell _ _ _ _ (by decide)]; exact z4.1
            · rw [eU_cell _ _ _ _ (by decide)]; exact z4.2.1
            · rw [eU_cell _ _ _ _ (by decide)]; exact z5
            · rw [eU_place _ _ _ _ (by decide)]; exact z6
          · rw [eU_place _ _ _ _ (by decide), c4, m2, a3, hkk]
          · have her2 : (sEr (tScan bt sz (p + 2))).1 = 0 := sScan_er0 her (by omega)
            have h16 : sNt S < 16 := by
              refine Decidable.byContradiction fun z => ?_
              rw [eS2] at her2
              have her2' : (sErr (decide (16 ≤ sNt S)) 4 (p + 1) (sErr (sKn (tW bt sz) S (p + 1)).isSome 2 (p + 1) (sEr S))).1 = 0 := her2
              rw [decide_eq_true (show 16 ≤ sNt S by omega)] at her2'
              by_cases h0 : (sErr (sKn (tW bt sz) S (p + 1)).isSome 2 (p + 1) (sEr S)).1 = 0
              · rw [sErr_t h0] at her2'; exact absurd her2' (Nat.succ_ne_zero _)
              · rw [sErr_keep h0] at her2'; exact h0 her2'
            obtain ⟨b1, b2, b3⟩ := a6 (by omega)
            refine ⟨by rw [b1, hNt]; omega, fun hold i hi => ?_⟩
            rw [hNt] at hi
            rw [eU_cell _ _ _ _ (by decide)]
            by_cases hq : i < 3 * sNt S
            · rw [b2 i (by omega), f5.at (by omega) (by omega) (by omega) (by omega) (by omega) (by omega) (by omega)]
              exact hold i hq
            · obtain ⟨i', rfl⟩ : ∃ i', i = 3 * sNt S + i' := ⟨i - 3 * sNt S, by omega⟩
              rw [n5 i' (by omega), ← hnn, b3 i' (by omega)]
          · rw [show sCol (tScan bt sz (p + 5)) = (tScan bt sz (p + 5)).2.2.2.1.1 from rfl, a5]
          · rw [show sRow (tScan bt sz (p + 5)) = (tScan bt sz (p + 5)).2.2.2.1.2 from rfl, a5]
          · rw [eU_place _ _ _ _ (by decide)]; exact c0
          · rw [eU_place _ _ _ _ (by decide)]; exact c1
        · intro i hi hstep hall M5 f5 r5 n5 w5 c0 c1 c4
          have e1 : (3 * nI (sNt S)) + nI i = nI (3 * sNt S + i) := by rw [eL3, nI_mul, nI_add]
          have hpi : p + 2 + i ≤ tT bt sz := by
            by_cases h0 : i = 0
            · subst h0; omega
            · have h1 := hall (i - 1) (by omega)
              by_cases hi1 : i = 1
              · subst hi1
                have := ht.lt (show p + 2 ≤ tT bt sz by omega) (by rw [show p + 2 = p + 2 + (1 - 1) by omega, h1]; decide) (by rw [show p + 2 = p + 2 + (1 - 1) by omega, h1]; decide)
                omega
              · have hi2 : i = 2 := by omega
                subst hi2
                have h0 := hall 0 (by omega)
                have := ht.lt (show p + 2 ≤ tT bt sz by omega) (by rw [show p + 2 = p + 2 + 0 by omega, h0]; decide) (by rw [show p + 2 = p + 2 + 0 by omega, h0]; decide)
                have := ht.lt (show p + 3 ≤ tT bt sz by omega) (by rw [show p + 3 = p + 2 + (2 - 1) by omega, h1]; decide) (by rw [show p + 3 = p + 2 + (2 - 1) by omega, h1]; decide)
                omega
          refine B_X13_tile_88 G M5 F _ _ ⟨fun q => absurd q (nI_ge (b := 3) hi (by decide)), fun _ => ?_⟩
          refine O_numberIn r5 hpi _ 0 9 (by decide) (by decide) (fun z => tNv_lt hpi z) (fun h40 M6 f6 r6 => ?_) (fun h40 M6 r f6 b6 => ?_)
          · have hall' : ∀ i', i' < i + 1 → tTk bt sz (p + 2 + i') = 40 := fun i' hi' => by
              by_cases hq : i' = i
              · subst hq; exact h40
              · exact hall i' (by omega)
            rw [e1, nI_clamp (show 3 * sNt S + i < 2 ^ 31 by omega), ← nI_succ]
            refine ⟨vp_in_nI (by omega) (by decide), hstep hall' _ ?_ ?_ (fun i' hi' => ?_) (fun h16 => ?_) ?_ ?_ ?_⟩
            · exact (f5.trans (f6.h kk (sNt S)) (Nat.le_refl b) (Nat.le_refl kk) (Nat.le_refl _)).trans (hFr.one (c := 119) (j := 3 * sNt S + i) (by omega)) (Nat.le_refl b) (Nat.le_refl kk) (Nat.le_refl _)
            · rw [scanE i hi (fun i' hi' => hall' i' (by omega))]
              exact r6.row (by decide)
            · by_cases hq : i' = i
              · subst hq; rw [eU_same]
              · rw [eU_place _ _ _ _ (by omega), f6.row (by decide) (by omega) (by decide)]
                exact n5 i' (by omega)
            · rw [eU_cell _ _ _ _ (by decide), f6.row (by decide) (by omega) (by decide)]; exact w5 h16
            · rw [eU_cell _ _ _ _ (by decide), f6.row (by decide) (by omega) (by decide)]; exact c0
            · rw [eU_cell _ _ _ _ (by decide), f6.row (by decide) (by omega) (by decide)]; exact c1
            · rw [eU_cell _ _ _ _ (by decide), f6.row (by decide) (by omega) (by decide)]; exact c4
          · have hxe : x = .inl (p + 2 + i) := by
              by_cases h0 : i = 0
              · subst h0
                rcases gEat_on hx with ⟨z, -⟩ | ⟨-, z⟩
                · exact absurd z h40
                · exact z
              · have t2 := hall 0 (by omega)
                rcases gEat_on hx with ⟨-, hx⟩ | ⟨z, -⟩
                rotate_left
                · exact absurd t2 z
                by_cases hi1 : i = 1
                · subst hi1
                  rcases gEat_on hx with ⟨z, -⟩ | ⟨-, z⟩
                  · exact absurd z h40
                  · exact z
                · have hi2 : i = 2 := by omega
                  subst hi2
                  have t3 := hall 1 (by omega)
                  rcases gEat_on hx with ⟨-, hx⟩ | ⟨z, -⟩
                  rotate_left
                  · exact absurd t3 z
                  rcases gEat_on hx with ⟨z, -⟩ | ⟨-, z⟩
                  · exact absurd z h40
                  · exact z
            subst hxe
            rw [e1, nI_clamp (show 3 * sNt S + i < 2 ^ 31 by omega), ← nI_succ]
            refine ⟨vp_in_nI (by omega) (by decide), O_tileBad (k := kk) (e := p + 2 + i) (by omega) s1' F hF (i + 1) (by omega) _ (b6.wrong.eU (by decide)) ?_⟩
            exact (f5.trans (f6.h kk (sNt S)) (Nat.le_refl b) (Nat.le_refl kk) (Nat.le_refl _)).trans (hFr.one (c := 119) (j := 3 * sNt S + i) (by omega)) (Nat.le_refl b) (Nat.le_refl kk) (Nat.le_refl _)
      have f12 := f1.trans f2 (Nat.le_refl _)
      have row3 : ∀ j, j ≠ 11 → M4 118 j = M 118 j := fun j hj => by
        rw [f4.row (by decide) (by omega) (by decide), k3 118 j (by omega), f12.row (by decide) (by omega) (by decide)]
      refine loop 0 (by decide) (fun i' hi' => absurd hi' (Nat.not_lt_zero _)) M4 g4 r4 (fun i' hi' => absurd hi' (Nat.not_lt_zero _)) (fun h16 => ?_) (row3 0 (by decide)) (row3 1 (by decide)) (row3 4 (by decide))
      rw [f4.row (by decide) (by omega) (by decide)]
      exact w3 h16
    refine B_X13_tile_55 G M2 F _ (S_is ht r2 (by omega) _ 41 30 (by decide) rfl (fun _ => ⟨cTF, fun _ => ⟨fun q => ?_, fun q => ⟨?_, ?_⟩⟩⟩) (fun z => absurd h41 z))
    · have h16 : 16 ≤ sNt S := (nI_leI (a := 16) (by decide) (by omega)).mp q
      exact on M2 (fun _ _ _ => rfl) (fun z => absurd z (by omega))
    · have h16 : ¬ 16 ≤ sNt S := fun z => q (nI_le (a := 16) z (by omega))
      exact vp_in_nI (by omega) (by decide)
    · have h16 : ¬ 16 ≤ sNt S := fun z => q (nI_le (a := 16) z (by omega))
      rw [nI_clamp (show sNt S < 2 ^ 31 by omega), r2.2.1]
      exact on _ (fun c j hc => if_neg (fun z => hc ⟨z.1, by omega⟩)) (fun _ => eU_same _ _ _ _)
  have second : ∀ M2, mFr M1 M2 b → mRd (tTk bt sz) (tT bt sz) (tW bt sz) (sNt S) (sNk S) (tNb bt sz) M2 (p + 1) b 0 (sErr (sKn (tW bt sz) S (p + 1)).isSome 2 (p + 1) (sEr S)) → Ev (eZ G 100 40 0 0 (eFV F)) G 100 40 (4, 0, 0) kX13_tile 35 [(0, .ref (G.1 100)), (1, .int (nI (sNt S)))] [] M2 0 0 := by
    intro M2 f2 r2
    have er2 : sEr (tScan bt sz (p + 2)) = sErr (decide (16 ≤ sNt S)) 4 (p + 1) (sErr (sKn (tW bt sz) S (p + 1)).isSome 2 (p + 1) (sEr S)) := by rw [eS2]
    refine B_X13_tile_35 G M2 F _ (S_is ht r2 (by omega) _ 41 30 (by decide) rfl (fun _ => ⟨cTF, fun _ => ⟨fun q => ?_, fun q => ?_⟩⟩) (fun z => absurd h41 z))
    · have h16 : ¬ 16 ≤ sNt S := fun z => q (by rw [show sNt S = 16 by omega]; rfl)
      refine named M2 f2 ?_
      rw [er2, decide_eq_false h16, sErr_f]
      exact r2
    · have h16 : sNt S = 16 := (nI_eq (b := 16) (by omega) (by decide)).mp q
      refine S_mark r2 _ 4 (by decide) (fun M3 f3 r3 => named M3 (f2.trans f3 (Nat.le_refl _)) ?_)
      rw [er2, decide_eq_true (show 16 ≤ sNt S by omega)]
      unfold sErr at r3 ⊢
      by_cases h0 : (if (sEr S).1 = 0 ∧ (sKn (tW bt sz) S (p + 1)).isSome = true then (2, p + 1) else sEr S).1 = 0
      · rw [if_pos ⟨h0, rfl⟩]
        rw [if_pos h0] at r3
        exact r3
      · rw [if_neg (fun z => h0 z.1)]
        rw [if_neg h0] at r3
        exact r3
  refine S_is ht r1 (by omega) _ 41 30 (by decide) rfl (fun _ => ⟨cTF, fun _ => ?_⟩) (fun z => absurd h41 z)
  refine S_known ht r1 (by omega) h41 _ ?_
  show ((eO (sKn (tW bt sz) S (p + 1)) = -1) → _) ∧ ((¬ eO (sKn (tW bt sz) S (p + 1)) = -1) → _)
  cases hkn : sKn (tW bt sz) S (p + 1) with
  | none =>
    refine ⟨fun _ => second M1 (mFr.refl _ _) ?_, fun q => absurd rfl q⟩
    rw [hkn]
    show mRd _ _ _ _ _ _ M1 (p + 1) b 0 (sErr false 2 (p + 1) (sEr S))
    rw [sErr_f]
    exact r1
  | some i =>
    have hi : i < 16 := by have := (zFf_some' hkn).1; omega
    refine ⟨fun q => absurd q (eNeg i (by omega)), fun _ => S_mark r1 _ 2 (by decide) (fun M2 f2 r2 => second M2 f2 ?_)⟩
    rw [hkn]
    show mRd _ _ _ _ _ _ M2 (p + 1) b 0 (sErr true 2 (p + 1) (sEr S))
    unfold sErr
    by_cases h0 : (sEr S).1 = 0
    · rw [if_pos ⟨h0, rfl⟩]
      rw [if_pos h0] at r2
      exact r2
    · rw [if_neg (fun z => h0 z.1)]
      rw [if_neg h0] at r2
      exact r2
/-- at the head of the lines' loop -/
def mLp (M : eM) (bt : Nat → Nat) (sz p b : Nat) (os : List pOrd) : Prop := mLn M bt sz p b ∧ (os.length = sNo (tScan bt sz p) ∧ b = (osCode os).length ∧ b ≤ p) ∧ gCd M bt sz 0 (osCode os) ∧ (∀ i o, os[i]? = some o → i < 16 → mOrd M i o (tTile bt sz (oName o))) ∧ ((sEr (tScan bt sz p)).1 = 0 → sNn (tScan bt sz p) = 3 * sNt (tScan bt sz p) ∧ ∀ i, i < 3 * sNt (tScan bt sz p) → M 119 i = nI (sNu (tScan bt sz p) i)) ∧ M 118 0 = nI (sCol (tScan bt sz p)) ∧ M 118 1 = nI (sRow (tScan bt sz p))
theorem mLp.keep {M M' : eM} {p b : Nat} {os : List pOrd} (h : mLp M bt sz p b os) (hf : hFr M M' b (min 16 (sNo (tScan bt sz p))) (sNt (tScan bt sz p))) : gCd M' bt sz 0 (osCode os) ∧ (∀ i o, os[i]? = some o → i < 16 → mOrd M' i o (tTile bt sz (oName o))) := by
  obtain ⟨h1, ⟨h2, h3, h4⟩, h5, h6, -⟩ := h
  refine ⟨h5.keep hf (by omega), fun i o hi h16 => (h6 i o hi h16).fr hf ?_⟩
  have := (List.getElem?_eq_some_iff.mp hi).1
  omega
theorem scan29 {q : Nat} (h : tTk bt sz q = 29) : tScan bt sz (q + 1) = tScan bt sz q := by
  show sStep (tTk bt sz) (tW bt sz) (tNv bt sz) (tScan bt sz q) q = _
  unfold sStep
  rw [if_neg (by omega), if_neg (by omega), if_neg (by omega), if_neg (by omega)]
theorem mLn.next {M M' : eM} {q b : Nat} (h : mLn M bt sz q b) (h29 : tTk bt sz q = 29) (f : mFr M M' b) (r : mRd (tTk bt sz) (tT bt sz) (tW bt sz) (sNt (tScan bt sz q)) (sNk (tScan bt sz q)) (tNb bt sz) M' (q + 1) b 0 (sEr (tScan bt sz q))) : mLn M' bt sz (q + 1) b := by
  unfold mLn
  rw [scan29 h29]
  exact ⟨r, by rw [f.row (by decide) (by omega) (by decide)]; exact h.2.1, h.2.2.fr (f.h 0 0)⟩
theorem O_lines (F : eM → Prop) : ∀ (f : Nat) (p b : Nat) (os : List pOrd) (M0 M : eM) (x : Nat ⊕ List pOrd), mLp M bt sz p b os → p ≤ tT bt sz → hFr M0 M 0 0 0 → pLines (tTk bt sz) 2500 f p b os = some x →
    (match (generalizing := false) x with
      | .inl e => ∀ M', hFr M0 M' 0 0 0 → mWrong M' e → F M'
      | .inr os' => ∀ M', hFr M0 M' 0 0 0 → mLp M' bt sz (tT bt sz) (osCode os').length os' → F M') → Ev (eZ G 100 40 0 0 (eFV F)) G 100 40 (103, 0, 0) kX13_game 47 [(0, .ref (G.1 100))] [] M 0 0 := by
  have ht := tTk_pTk bt sz
  have h400 := ht.1
  intro f
  induction f with
  | zero => intro p b os M0 M x _ _ _ hx; cases hx
  | succ f ih =>
    intro p b os M0 M x hL hp f0 hx hF
    unfold pLines at hx
    have hL0 := hL
    obtain ⟨hLn, ⟨o1, o2, o3⟩, o4, o5, o6, o7, o8⟩ := hL
    have hLn0 := hLn
    obtain ⟨m1, m2, m3⟩ := hLn
    have hk := ht.2.1 p hp
    have hkind : M 102 (M 100 8).toNatClampNeg = nI (mk (tTk bt sz p)) := by rw [m1.2.1, nI_clamp (show p < 2 ^ 31 by omega)]; exact m3.kind p hp
    have hml := mk_lt (tTk bt sz p) (by omega)
    have wrong : ∀ (M1 : eM) (e : Nat), hFr M0 M1 0 0 0 → mWrong M1 e → x = .inl e → Cal G 100 40 (2, 0, 0) kX13_take [.ref (G.1 100), .int 53] M1 (eFV (fun (M2 : eM) => Ev (eZ G 100 40 0 0 (eFV F)) G 100 40 (103, 0, 0) kX13_game 47 [(0, .ref (G.1 100))] [] M2 0 0)) := by
      intro M1 e f1 w1 hxe
      subst hxe
      exact W_take w1.ne _ _ (B_X13_game_47 G M1 F ⟨fun _ => hF M1 f1 w1, fun q => absurd q w1.ne⟩)
    have wrong1 : ∀ (M1 : eM) (e : Nat), hFr M0 M1 0 0 0 → mWrong M1 e → x = .inl e → Ev (eZ G 100 40 0 0 (eFV F)) G 100 40 (103, 0, 0) kX13_game 47 [(0, .ref (G.1 100))] [] M1 0 0 := by
      intro M1 e f1 w1 hxe
      subst hxe
      exact B_X13_game_47 G M1 F ⟨fun _ => hF M1 f1 w1, fun q => absurd q w1.ne⟩
    have semi : ∀ (M1 : eM) (q b1 : Nat) (os1 : List pOrd) (x1 : Option (Nat ⊕ List pOrd)), hFr M0 M1 0 0 0 → mLp M1 bt sz q b1 os1 → q ≤ tT bt sz → x1 = pLines (tTk bt sz) 2500 f (q + 1) b1 os1 → gEat (tTk bt sz) 29 q x1 = some x → Cal G 100 40 (2, 0, 0) kX13_take [.ref (G.1 100), .int 53] M1 (eFV (fun (M2 : eM) => Ev (eZ G 100 40 0 0 (eFV F)) G 100 40 (103, 0, 0) kX13_game 47 [(0, .ref (G.1 100))] [] M2 0 0)) := by
      intro M1 q b1 os1 x1 f1 c1 hq hx1 hx
      subst hx1
      have c1' := c1
      obtain ⟨k1, ⟨k2, k3, k4⟩, k5, k6, k7, k8, k9⟩ := c1
      rcases gEat_on hx with ⟨h29, hx⟩ | ⟨h29, hxe⟩
      · have hq1 := ht.lt hq (by omega) (by omega)
        refine S_take ht k1.1 hq _ 29 53 (by decide) rfl (fun _ M2 f2 r2 => ?_) (fun z => absurd h29 z)
        obtain ⟨y1, y2⟩ := c1'.keep (f2.h _ _)
        have s29 := scan29 h29
        refine ih (q + 1) b1 os1 M0 M2 x ⟨k1.next h29 f2 r2, ⟨by rw [s29]; exact k2, k3, by omega⟩, y1, y2, fun z => ?_, ?_, ?_⟩ hq1 (f1.trans (f2.h 0 0) (Nat.zero_le _) (Nat.le_refl _) (Nat.le_refl _)) hx hF
        · rw [s29] at z ⊢
          obtain ⟨z1, z2⟩ := k7 z
          exact ⟨z1, fun i hi => by rw [f2.row (by decide) (by omega) (by decide)]; exact z2 i hi⟩
        · rw [s29, f2.row (by decide) (by omega) (by decide)]; exact k8
        · rw [s29, f2.row (by decide) (by omega) (by decide)]; exact k9
      · exact S_take ht k1.1 hq _ 29 53 (by decide) rfl (fun z => absurd z h29) (fun _ M2 f2 b2 => wrong1 M2 _ (f1.trans (f2.h 0 0) (Nat.zero_le _) (Nat.le_refl _) (Nat.le_refl _)) b2.wrong hxe)
    refine B_X13_game_47 G M F ⟨fun q => absurd m1.2.2.1 q, fun _ => ⟨by rw [m1.2.1]; exact vp_in_nI (by omega) (by decide), ?_⟩⟩
    rw [hkind]
    refine ⟨fun q => ?_, fun q => ?_⟩
    · have h42 : tTk bt sz p = 42 := mk_inj (a := tTk bt sz p) (b := 42) (by omega) (by decide) ((nI_eq (b := 33) (by omega) (by decide)).mp q)
      rw [if_pos h42] at hx
      cases hx
      have hpT : p = tT bt sz := by
        refine Decidable.byContradiction fun z => ?_
        exact (ht.2.2.1 p (by omega)).1 h42
      rw [o2, hpT] at hL0
      exact hF M f0 hL0
    · have h42 : ¬ tTk bt sz p = 42 := fun z => q (by rw [z]; rfl)
      rw [if_neg h42] at hx
      refine C_X13_line G M _ (S_takes ht m1 hp _ 3 2 (by decide) rfl (fun h3 M1 f1 r1 => ⟨cTF, fun _ => ?_⟩) (fun h3 => ⟨fun _ => ?_, cFT⟩))
      · rw [if_pos h3] at hx
        have hpT := ht.lt hp (by omega) (by omega)
        obtain ⟨y, hxt⟩ := pTile_tot (tTk bt sz) p
        rw [hxt] at hx
        refine O_tile hLn0 hpT h3 r1 f1 hxt _ ?_
        match y, hxt, hx with
        | .inl e, hxt, hx =>
          have hxe : x = .inl e := (Option.some.inj hx).symm
          exact fun M' f' w' => wrong M' e (f0.trans f' (Nat.zero_le _) (Nat.zero_le _) (Nat.zero_le _)) w' hxe
        | .inr q, hxt, hx =>
          obtain ⟨k1, k2, -⟩ := pTile_ok ht hpT hxt
          refine fun M' f' l' nn' no' co' ro' c0 c1 => ?_
          obtain ⟨y1, y2⟩ := hL0.keep f'
          refine semi M' q b os _ (f0.trans f' (Nat.zero_le _) (Nat.zero_le _) (Nat.zero_le _)) ⟨l', ⟨by rw [no']; exact o1, o2, by omega⟩, y1, y2, fun z => ?_, ?_, ?_⟩ (by omega) rfl hx
          · have z0 : (sEr (tScan bt sz p)).1 = 0 := sScan_er0 z (by omega)
            obtain ⟨w1, w2⟩ := o6 z0
            obtain ⟨v1, v2⟩ := nn' z w1
            exact ⟨v1, v2 w2⟩
          · rw [c0, co']; exact o7
          · rw [c1, ro']; exact o8
      · rw [if_neg h3] at hx
        have ord : (tTk bt sz p = 4 ∨ tTk bt sz p = 7 ∨ tTk bt sz p = 8) → Cal G 100 40 (101, 0, 0) kX13_order [.ref (G.1 100), .int (nI (mDoes (tTk bt sz p)))] M (eFV (fun (M6 : eM) => Cal G 100 40 (2, 0, 0) kX13_take [.ref (G.1 100), .int 53] M6 (eFV (fun (M2 : eM) => Ev (eZ G 100 40 0 0 (eFV F)) G 100 40 (103, 0, 0) kX13_game 47 [(0, .ref (G.1 100))] [] M2 0 0)))) := by
          intro hkk
          rw [if_pos hkk] at hx
          have hpT := ht.lt hp (by omega) (by omega)
          cases hxo : pOrder (tTk bt sz) 2500 p b with
          | none => rw [hxo] at hx; cases hx
          | some y =>
            rw [hxo] at hx
            refine O_order hLn0 hpT hkk o3 hxo _ ?_
            match y, hxo, hx with
            | .inl e, hxo, hx =>
              have hxe : x = .inl e := (Option.some.inj hx).symm
              exact fun M' f' w' => wrong M' e (f0.trans f' (Nat.zero_le _) (Nat.zero_le _) (Nat.zero_le _)) w' hxe
            | .inr (q, o), hxo, hx =>
              have hok := pOrder_ok ht hpT hkk hxo
              have k1 := hok.1
              have k2 := hok.2.1
              refine fun M' f' l' cd' rc' n119 c0 c1 => ?_
              obtain ⟨y1, y2⟩ := hL0.keep f'
              obtain ⟨g1, g2, g3, g4, g5, g6⟩ := O_er (bt := bt) (sz := sz) (p := p) (q := q) hkk (fun j a1 a2 => by have := hok.2.2.2.1 j a1 a2; omega)
              obtain ⟨d, hd⟩ : ∃ d, q = p + 1 + d := ⟨q - (p + 1), by omega⟩
              obtain ⟨w1, w2, w3, w4, w5⟩ := g6 d (by omega)
              rw [← hd] at w1 w2 w3 w4 w5
              have hNo : sNo (tScan bt sz q) = sNo (tScan bt sz p) + 1 := (congrArg (fun z => z.2.2.1) w1).trans g3
              have hNt : sNt (tScan bt sz q) = sNt (tScan bt sz p) := (congrArg (fun z => z.2.1) w1).trans g2
              have hNn : sNn (tScan bt sz q) = sNn (tScan bt sz p) := by
                have e1 : sNn (tScan bt sz q) = sNn (tScan bt sz (p + 1)) := congrArg (fun z => z.2.2.2.1) w1
                rw [e1]
                show sNn (sStep (tTk bt sz) (tW bt sz) (tNv bt sz) (tScan bt sz p) p) = _
                unfold sStep
                rw [if_neg (by omega), if_pos hkk]
              have hlen : (oCode o).length = (oCode o).length := rfl
              refine semi M' q (b + (oCode o).length) (os ++ [o]) _ (f0.trans f' (Nat.zero_le _) (Nat.zero_le _) (Nat.zero_le _)) ⟨l', ⟨by rw [List.length_append, List.length_singleton, hNo, o1], by rw [osCode_app, List.length_append, o2], by omega⟩, ?_, fun i o' hi h16 => ?_, fun z => ?_, ?_, ?_⟩ k1 rfl hx
              · rw [osCode_app]
                refine y1.append ?_
                rw [Nat.zero_add, ← o2]
                exact cd'
              · by_cases hq : i < os.length
                · rw [List.getElem?_append_left hq] at hi
                  exact y2 i o' hi h16
                · rw [List.getElem?_append_right (by omega)] at hi
                  have hi0 : i - os.length = 0 := by
                    have := (List.getElem?_eq_some_iff.mp hi).1
                    rw [List.length_singleton] at this
                    omega
                  rw [hi0] at hi
                  cases hi
                  have e : i = min 16 (sNo (tScan bt sz p)) := by omega
                  rw [e]
                  exact rc'
              · have z0 : (sEr (tScan bt sz p)).1 = 0 := sScan_er0 z (by omega)
                obtain ⟨v1, v2⟩ := o6 z0
                rw [hNn, hNt]
                exact ⟨v1, fun i hi => by rw [n119, w3]; exact v2 i hi⟩
              · rw [c0, show sCol (tScan bt sz q) = (tScan bt sz q).2.2.2.1.1 from rfl, w4]; exact o7
              · rw [c1, show sRow (tScan bt sz q) = (tScan bt sz q).2.2.2.1.2 from rfl, w4]; exact o8
        refine S_is ht m1 hp _ 4 3 (by decide) rfl (fun h4 => ⟨cTF, fun _ => ?_⟩) (fun h4 => ⟨fun _ => ?_, cFT⟩)
        · have := ord (Or.inl h4)
          rw [h4] at this
          exact this
        refine S_is ht m1 hp _ 7 6 (by decide) rfl (fun h7 => ⟨cTF, fun _ => ?_⟩) (fun h7 => ⟨fun _ => ?_, cFT⟩)
        · have := ord (Or.inr (Or.inl h7))
          rw [h7] at this
          exact this
        refine S_is ht m1 hp _ 8 7 (by decide) rfl (fun h8 => ⟨cTF, fun _ => ?_⟩) (fun h8 => ⟨fun _ => ?_, cFT⟩)
        · have := ord (Or.inr (Or.inr h8))
          rw [h8] at this
          exact this
        rw [if_neg (by omega)] at hx
        have hxe : x = .inl p := (Option.some.inj hx).symm
        exact S_wrong m1 _ (fun M1 f1 b1 => wrong M1 p (f0.trans (f1.h 0 0) (Nat.zero_le _) (Nat.le_refl _) (Nat.le_refl _)) b1.wrong hxe)
theorem O_game {M : eM} (hT : mTS M bt sz) (h8 : M 100 8 = 0) (h9 : M 100 9 = 0) (h10 : M 100 10 = 0) (h12 : M 100 12 = 0) (g0 : M 118 0 = 5) (g1 : M 118 1 = 5) (g2 : M 118 2 = 0) (g4 : M 118 4 = 0) (g11 : M 118 11 = 0) {x : Nat ⊕ List pOrd} (hx : pGame (tTk bt sz) 2500 = some x) (F : eM → Prop)
    (hF : match (generalizing := false) x with
      | .inl e => ∀ M', hFr M M' 0 0 0 → mWrong M' e → F M'
      | .inr os' => ∀ M', hFr M M' 0 0 0 → mLp M' bt sz (tT bt sz) (osCode os').length os' → F M') : Cal G 100 40 (103, 0, 0) kX13_game [.ref (G.1 100)] M (eFV F) := by
  have ht := tTk_pTk bt sz
  have h400 := ht.1
  have sta : ∀ M1, mTS M1 bt sz → M1 118 2 = 0 → mSta (tTk bt sz) (tT bt sz) (tW bt sz) 0 (fun _ => 0) (tNb bt sz) M1 := fun M1 t1 e1 => t1.sta e1 (by decide) (fun i hi => absurd hi (Nat.not_lt_zero _))
  have r0 : mRd (tTk bt sz) (tT bt sz) (tW bt sz) 0 (fun _ => 0) (tNb bt sz) M 0 0 0 (0, 0) := ⟨sta M hT g2, h8, h9, ⟨h10, fun z => absurd rfl z, by decide⟩, h12, g11⟩
  unfold pGame at hx
  have lp : ∀ (M1 : eM) (p : Nat), mTS M1 bt sz → mRd (tTk bt sz) (tT bt sz) (tW bt sz) 0 (fun _ => 0) (tNb bt sz) M1 p 0 0 (sEr (tScan bt sz p)) → sNt (tScan bt sz p) = 0 → sNk (tScan bt sz p) = (fun _ => 0) → sNo (tScan bt sz p) = 0 → sNn (tScan bt sz p) = 0 → M1 118 4 = 0 → M1 118 0 = nI (sCol (tScan bt sz p)) → M1 118 1 = nI (sRow (tScan bt sz p)) → mLp M1 bt sz p 0 [] := by
    intro M1 p t1 c1 e1 e2 e3 e4 e5 e6 e7
    refine ⟨⟨by rw [e1, e2]; exact c1, by rw [e3]; exact e5, t1⟩, ⟨e3.symm, rfl, Nat.zero_le _⟩, fun i s hs => by simp [osCode] at hs, fun i o ho _ => by simp at ho, fun _ => ⟨by rw [e4, e1], fun i hi => by rw [e1] at hi; exact absurd hi (Nat.not_lt_zero _)⟩, e6, e7⟩
  refine C_X13_game G M F ?_
  by_cases hb : tTk bt sz 0 = 1
  rotate_left
  · rw [if_neg hb] at hx
    refine S_takes ht r0 (Nat.zero_le _) _ 1 0 (by decide) rfl (fun z => absurd z hb) (fun _ => ⟨fun _ => ?_, cFT⟩)
    exact O_lines F 401 0 0 [] M M x (lp M 0 hT r0 rfl rfl rfl rfl g4 g0 g1) (Nat.zero_le _) (hFr.refl _ _ _ _) hx hF
  rw [if_pos hb] at hx
  have q0 := ht.lt (Nat.zero_le (tT bt sz)) (by omega) (by omega)
  -- the scan along the board's line
  have S1 : tScan bt sz 1 = ((1, 0, 0, 0, 0), (fun _ => 0), (fun _ => 0), (5, 5), (0, 0)) := by
    show sStep (tTk bt sz) (tW bt sz) (tNv bt sz) sInit 0 = _
    unfold sStep
    rw [if_pos (Or.inl hb), hb]
    rfl
  have keepW : ∀ (M1 : eM) (e : Nat) (c j : Nat) (v : Int32), c = 118 → (mWrong M1 e → mWrong (eU M1 c j v) e) := fun M1 e c j v hc w => w.eU (by omega)
  refine S_takes ht r0 (Nat.zero_le _) _ 1 0 (by decide) rfl (fun _ M1 f1 r1 => ⟨cTF, fun _ => ?_⟩) (fun z => absurd hb z)
  have fr1 : hFr M M1 0 0 0 := f1.h 0 0
  have endW : ∀ (M2 : eM) (e : Nat), hFr M M2 0 0 0 → mWrong M2 e → x = .inl e → Ev (eZ G 100 40 0 0 (eFV F)) G 100 40 (103, 0, 0) kX13_game 47 [(0, .ref (G.1 100))] [] M2 0 0 := by
    intro M2 e f2 w2 hxe
    subst hxe
    exact B_X13_game_47 G M2 F ⟨fun _ => hF M2 f2 w2, fun q => absurd q w2.ne⟩
  have one118 : ∀ (M2 : eM) (j : Nat) (v : Int32), (j = 0 ∨ j = 1) → hFr M M2 0 0 0 → hFr M (eU M2 118 j v) 0 0 0 := fun M2 j v hj f => f.trans (hFr.one (c := 118) (j := j) (by omega)) (Nat.le_refl _) (Nat.le_refl _) (Nat.le_refl _)
  have rd118 : ∀ (M2 : eM) (j : Nat) (v : Int32) (p : Nat) (er : Nat × Nat), (j = 0 ∨ j = 1) → mRd (tTk bt sz) (tT bt sz) (tW bt sz) 0 (fun _ => 0) (tNb bt sz) M2 p 0 0 er → mRd (tTk bt sz) (tT bt sz) (tW bt sz) 0 (fun _ => 0) (tNb bt sz) (eU M2 118 j v) p 0 0 er := by
    intro M2 j v p er hj r
    obtain ⟨⟨h1, h2, h3, h4, h5, h6⟩, z2, z3, z4, z5, z6⟩ := r
    refine ⟨⟨fun j hj => ?_, ⟨?_, h2.2⟩, fun i hi => absurd hi (Nat.not_lt_zero _), fun j hj hkj => ⟨?_, ?_, (h4 j hj hkj).2.2⟩, fun i hi => ?_, fun j hj hkj => ?_⟩, ?_, ?_, ⟨?_, ?_, z4.2.2⟩, ?_, ?_⟩
    · rw [eU_cell _ _ _ _ (by decide)]; exact h1 j hj
    · rw [eU_place _ _ _ _ (by omega)]; exact h2.1
    · rw [eU_cell _ _ _ _ (by decide)]; exact (h4 j hj hkj).1
    · rw [eU_cell _ _ _ _ (by decide)]; exact (h4 j hj hkj).2.1
    · rw [eU_cell _ _ _ _ (by decide)]; exact h5 i hi
    · rw [eU_cell _ _ _ _ (by decide)]; exact h6 j hj hkj
    · rw [eU_cell _ _ _ _ (by decide)]; exact z2
    · rw [eU_cell _ _ _ _ (by decide)]; exact z3
    · rw [eU_cell _ _ _ _ (by decide)]; exact z4.1
    · rw [eU_cell _ _ _ _ (by decide)]; exact z4.2.1
    · rw [eU_cell _ _ _ _ (by decide)]; exact z5
    · rw [eU_place _ _ _ _ (by omega)]; exact z6
  -- columns
  rcases gEat_on hx with ⟨h40, hx⟩ | ⟨h40, hxe⟩
  rotate_left
  · refine O_numberIn r1 q0 _ 3 7 (by decide) (by decide) (fun z => absurd z h40) (fun z => absurd z h40) (fun _ M2 r f2 b2 => ?_)
    have w2 := b2.wrong.eU (c := 118) (j := 0) (v := r) (by decide)
    have g2' := one118 M2 0 r (Or.inl rfl) (fr1.trans (f2.h 0 0) (Nat.le_refl _) (Nat.le_refl _) (Nat.le_refl _))
    refine W_take w2.ne _ _ (W_numberIn w2 (by decide) _ _ _ (fun r' => W_take (w2.eU (c := 118) (by decide)).ne _ _ ?_))
    exact endW _ 1 (one118 _ 1 r' (Or.inr rfl) g2') (w2.eU (by decide)) hxe
  have q1 := ht.lt (show 1 ≤ tT bt sz by omega) (by omega) (by omega)
  refine O_numberIn r1 q0 _ 3 7 (by decide) (by decide) (fun z => tNv_lt q0 z) (fun _ M2 f2 r2 => ?_) (fun z => absurd h40 z)
  have S2 : tScan bt sz 2 = ((1, 0, 0, 0, 1), (fun _ => 0), (fun _ => 0), (tNv bt sz 1, 5), sErr (decide (tNv bt sz 1 < 3 ∨ 7 < tNv bt sz 1)) 5 1 (0, 0)) := by
    show sStep (tTk bt sz) (tW bt sz) (tNv bt sz) (tScan bt sz 1) 1 = _
    rw [S1]
    unfold sStep
    rw [if_neg (by omega), if_neg (by omega), if_neg (by omega), if_pos h40]
    unfold sNum
    rw [if_pos rfl, if_pos rfl]
  have g2' := one118 M2 0 (nI (tNv bt sz 1)) (Or.inl rfl) (fr1.trans (f2.h 0 0) (Nat.le_refl _) (Nat.le_refl _) (Nat.le_refl _))
  have r2' := rd118 M2 0 (nI (tNv bt sz 1)) _ _ (Or.inl rfl) r2
  have w20 : (eU M2 118 0 (nI (tNv bt sz 1))) 118 0 = nI (tNv bt sz 1) := eU_same _ _ _ _
  have w24 : (eU M2 118 0 (nI (tNv bt sz 1))) 118 4 = 0 := by rw [eU_place _ _ _ _ (by decide), (f1.trans f2 (Nat.le_refl _)).row (by decide) (by decide) (by decide)]; exact g4
  generalize eU M2 118 0 (nI (tNv bt sz 1)) = N2 at g2' r2' w20 w24
  rcases gEat_on hx with ⟨h2, hx⟩ | ⟨h2, hxe⟩
  rotate_left
  · refine S_take ht r2' (by omega) _ 2 1 (by decide) rfl (fun z => absurd z h2) (fun _ M3 f3 b3 => ?_)
    have w3 := b3.wrong
    have g3' := g2'.trans (f3.h 0 0) (Nat.le_refl _) (Nat.le_refl _) (Nat.le_refl _)
    refine W_numberIn w3 (by decide) _ _ _ (fun r' => W_take (w3.eU (c := 118) (by decide)).ne _ _ ?_)
    exact endW _ 2 (one118 _ 1 r' (Or.inr rfl) g3') (w3.eU (by decide)) hxe
  have q2 := ht.lt (show 2 ≤ tT bt sz by omega) (by omega) (by omega)
  refine S_take ht r2' (by omega) _ 2 1 (by decide) rfl (fun _ M3 f3 r3 => ?_) (fun z => absurd h2 z)
  have g3' := g2'.trans (f3.h 0 0) (Nat.le_refl _) (Nat.le_refl _) (Nat.le_refl _)
  have S3 : tScan bt sz 3 = tScan bt sz 2 := by
    show sStep (tTk bt sz) (tW bt sz) (tNv bt sz) (tScan bt sz 2) 2 = _
    unfold sStep
    rw [if_neg (by omega), if_neg (by omega), if_neg (by omega), if_neg (by omega)]
  -- rows
  rcases gEat_on hx with ⟨h40', hx⟩ | ⟨h40', hxe⟩
  rotate_left
  · refine O_numberIn r3 q2 _ 3 7 (by decide) (by decide) (fun z => absurd z h40') (fun z => absurd z h40') (fun _ M4 r f4 b4 => ?_)
    have w4 := b4.wrong.eU (c := 118) (j := 1) (v := r) (by decide)
    have g4' := one118 M4 1 r (Or.inr rfl) (g3'.trans (f4.h 0 0) (Nat.le_refl _) (Nat.le_refl _) (Nat.le_refl _))
    exact W_take w4.ne _ _ (endW _ 3 g4' w4 hxe)
  have q3 := ht.lt (show 3 ≤ tT bt sz by omega) (by omega) (by omega)
  refine O_numberIn r3 q2 _ 3 7 (by decide) (by decide) (fun z => tNv_lt q2 z) (fun _ M4 f4 r4 => ?_) (fun z => absurd h40' z)
  have S4 : tScan bt sz 4 = ((1, 0, 0, 0, 2), (fun _ => 0), (fun _ => 0), (tNv bt sz 1, tNv bt sz 3), sErr (decide (tNv bt sz 3 < 3 ∨ 7 < tNv bt sz 3)) 5 3 (sErr (decide (tNv bt sz 1 < 3 ∨ 7 < tNv bt sz 1)) 5 1 (0, 0))) := by
    show sStep (tTk bt sz) (tW bt sz) (tNv bt sz) (tScan bt sz 3) 3 = _
    rw [S3, S2]
    unfold sStep
    rw [if_neg (by omega), if_neg (by omega), if_neg (by omega), if_pos h40']
    unfold sNum
    rw [if_pos rfl, if_neg (show ¬ (1 : Nat) = 0 by decide)]
  have g4' := one118 M4 1 (nI (tNv bt sz 3)) (Or.inr rfl) (g3'.trans (f4.h 0 0) (Nat.le_refl _) (Nat.le_refl _) (Nat.le_refl _))
  have r4' := rd118 M4 1 (nI (tNv bt sz 3)) _ _ (Or.inr rfl) r4
  have f34 := f3.trans f4 (Nat.le_refl _)
  have w40 : (eU M4 118 1 (nI (tNv bt sz 3))) 118 0 = nI (tNv bt sz 1) := by rw [eU_place _ _ _ _ (by decide), f34.row (by decide) (by decide) (by decide)]; exact w20
  have w41 : (eU M4 118 1 (nI (tNv bt sz 3))) 118 1 = nI (tNv bt sz 3) := eU_same _ _ _ _
  have w44 : (eU M4 118 1 (nI (tNv bt sz 3))) 118 4 = 0 := by rw [eU_place _ _ _ _ (by decide), f34.row (by decide) (by decide) (by decide)]; exact w24
  generalize eU M4 118 1 (nI (tNv bt sz 3)) = N4 at g4' r4' w40 w41 w44
  rcases gEat_on hx with ⟨h29, hx⟩ | ⟨h29, hxe⟩
  rotate_left
  · exact S_take ht r4' (by omega) _ 29 53 (by decide) rfl (fun z => absurd z h29) (fun _ M5 f5 b5 => endW M5 4 (g4'.trans (f5.h 0 0) (Nat.le_refl _) (Nat.le_refl _) (Nat.le_refl _)) b5.wrong hxe)
  have q4 := ht.lt (show 4 ≤ tT bt sz by omega) (by omega) (by omega)
  refine S_take ht r4' (by omega) _ 29 53 (by decide) rfl (fun _ M5 f5 r5 => ?_) (fun z => absurd h29 z)
  have S5 : tScan bt sz 5 = tScan bt sz 4 := scan29 h29
  have g5' := g4'.trans (f5.h 0 0) (Nat.le_refl _) (Nat.le_refl _) (Nat.le_refl _)
  refine O_lines F 401 5 0 [] M M5 x (lp M5 5 (hT.fr g5') ?_ ?_ ?_ ?_ ?_ ?_ ?_ ?_) (by omega) g5' hx hF
  · rw [S5, S4]; exact r5
  · rw [S5, S4]
  · rw [S5, S4]
  · rw [S5, S4]
  · rw [S5, S4]
  · rw [f5.row (by decide) (by decide) (by decide)]; exact w44
  · rw [S5, S4, f5.row (by decide) (by decide) (by decide)]; exact w40
  · rw [S5, S4, f5.row (by decide) (by decide) (by decide)]; exact w41
end MLines
