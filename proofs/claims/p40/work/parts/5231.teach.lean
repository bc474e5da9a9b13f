/-! ===== teaching, on both sides ===== -/
section Teach
variable {G : eG} {bt : Nat → Nat} {sz : Nat}
theorem T_teach {M : eM} (hT : cTape M bt sz) (F : Int32 → eM → Prop)
    (hbad : (tEr bt sz).1 ≠ 0 → ∀ M', (∀ c, (16 ≤ c ∧ c < 36) ∨ 52 ≤ c → M' c = M c) → M' 1 1 = 0 → M' 0 7 = nI (tAt bt sz (tEr bt sz).2) → F (nI (tEr bt sz).1) M')
    (hok : (tEr bt sz).1 = 0 → ∀ M', M' 1 1 = 0 → M' 0 7 = -1 → cPg M' (tV bt sz) (tOs bt sz) → cB M' (tB0 bt sz) → M' 16 5 = 0 → F 0 M') : Cal G 0 68 (103, 0, 0) kX10_teach [.ref (G.1 0)] M (eFI F) := by
  have ht := tTk_pTk bt sz
  have h400 := ht.1
  refine C_X10_teach G M F (T_cut hT _ (fun M1 f1 k1 => C_X7_clear G M1 _ ?_))
  obtain ⟨M2, hM2⟩ : ∃ M2, M2 = eU (eU (eU (eU (eU (eU M1 8 0 5) 8 1 5) 8 2 0) 8 4 0) 8 6 0) 8 9 0 := ⟨_, rfl⟩
  rw [← hM2]
  have f2 : ∀ c, c ≠ 8 → M2 c = M1 c := fun c hc => by rw [hM2, eU_other _ _ _ hc, eU_other _ _ _ hc, eU_other _ _ _ hc, eU_other _ _ _ hc, eU_other _ _ _ hc, eU_other _ _ _ hc]
  have g8 : M2 8 0 = 5 ∧ M2 8 1 = 5 ∧ M2 8 2 = 0 ∧ M2 8 4 = 0 ∧ M2 8 6 = 0 ∧ M2 8 9 = 0 := by
    rw [hM2]
    refine ⟨?_, ?_, ?_, ?_, ?_, ?_⟩
    · rw [eU_place _ _ _ _ (by decide), eU_place _ _ _ _ (by decide), eU_place _ _ _ _ (by decide), eU_place _ _ _ _ (by decide), eU_place _ _ _ _ (by decide), eU_same]
    · rw [eU_place _ _ _ _ (by decide), eU_place _ _ _ _ (by decide), eU_place _ _ _ _ (by decide), eU_place _ _ _ _ (by decide), eU_same]
    · rw [eU_place _ _ _ _ (by decide), eU_place _ _ _ _ (by decide), eU_place _ _ _ _ (by decide), eU_same]
    · rw [eU_place _ _ _ _ (by decide), eU_place _ _ _ _ (by decide), eU_same]
    · rw [eU_place _ _ _ _ (by decide), eU_same]
    · rw [eU_same]
  have fM1 : ∀ c, (c < 3 ∨ 8 ≤ c) → M1 c = M c := fun c hc => funext fun j => f1 c j (by omega) (by omega)
  have S1 : cTS M1 bt sz := ⟨hT.of (fM1 1 (by decide)) (fM1 2 (by decide)), k1⟩
  have S2 : cTS M2 bt sz := S1.of (fun c c1 c2 => f2 c (by omega)) (fun j _ => by rw [f2 7 (by decide)])
  obtain ⟨x, hx⟩ := pGame_tot ht
  refine R_game ht (fun j hj => S2.at j hj) (by rw [f2 3 (by decide)]; exact k1.1) g8.2.2.2.2.1 g8.2.2.2.2.2 hx _ ?_
  match x, hx with
  | .inl e, hx =>
    have he := pGame_bad ht hx
    have hE := tEr_bad hx
    rw [hE] at hbad
    intro M3 f3 e3
    have S3 : cTS M3 bt sz := S2.of (fun c c1 c2 => funext fun j => f3.at (by omega) (by omega) (by omega) (by omega)) (fun j _ => f3.at (by omega) (by omega) (by omega) (by omega))
    refine ⟨fun _ => ⟨fun q => absurd rfl q, fun _ => ⟨fun _ => ?_, fun q => absurd q (by decide)⟩⟩, cFT⟩
    rw [e3]
    refine T_startOf S3 _ he ⟨fun _ => ?_, fun q => absurd q (by decide)⟩
    refine hbad (Nat.succ_ne_zero _) _ (fun c hc => ?_) (eU_same _ _ _ _) ?_
    · rw [eU_other _ _ _ (by omega), eU_other _ _ _ (by omega), show M3 c = M2 c from funext fun j => f3.at (by omega) (by omega) (by omega) (by omega), f2 c (by omega), fM1 c (by omega)]
    · rw [eU_cell _ _ _ _ (by decide), eU_same]
  | .inr os, hx =>
    obtain ⟨hE, hO⟩ := tEr_good hx
    obtain ⟨l1, l2, l3, l4, l5⟩ := L_game hx
    have hend := tScan_end l1
    rw [hE] at hbad hok
    rw [hO] at hok
    intro M3 f3 e6 e9 hos
    have S3 : cTS M3 bt sz := S2.of (fun c c1 c2 => funext fun j => f3.at (by omega) (by omega) (by omega) (by omega)) (fun j _ => f3.at (by omega) (by omega) (by omega) (by omega))
    have m3 : ∀ c, (c < 3 ∨ 8 ≤ c) → c ≠ 8 → c ≠ 13 → c ≠ 11 → c ≠ 12 → (c < 36 ∨ 52 ≤ c) → M3 c = M c := fun c c1 c2 c3 c4 c5 c6 => by
      rw [show M3 c = M2 c from funext fun j => f3.at (by omega) (by omega) (by omega) (by omega), f2 c c2, fM1 c c1]
    have h8 : M3 8 0 = 5 ∧ M3 8 1 = 5 ∧ M3 8 2 = 0 ∧ M3 8 4 = 0 := by
      refine ⟨?_, ?_, ?_, ?_⟩
      · rw [f3.at (by omega) (by omega) (by omega) (by omega)]; exact g8.1
      · rw [f3.at (by omega) (by omega) (by omega) (by omega)]; exact g8.2.1
      · rw [f3.at (by omega) (by omega) (by omega) (by omega)]; exact g8.2.2.1
      · rw [f3.at (by omega) (by omega) (by omega) (by omega)]; exact g8.2.2.2.1
    have hname : ∀ i o, os[i]? = some o → oName o ≤ tT bt sz := fun i o ho => by
      obtain ⟨⟨p, q, q1, q2, q3⟩, -, -⟩ := l5 o (List.mem_of_getElem? ho)
      obtain ⟨-, -, ⟨-, k4, -⟩, -⟩ := q3
      rw [k4]
      omega
    have hn : ∀ i, i < min 16 os.length → ∃ t, t ≤ tT bt sz ∧ M3 (36 + i) 1 = nI t := fun i hi => by
      have hi' : i < os.length := by omega
      have ho : os[i]? = some os[i] := List.getElem?_eq_getElem hi'
      exact ⟨oName os[i], hname i _ ho, (hos.1 i _ ho (by omega)).2.1⟩
    refine ⟨cTF, fun _ => N_first S3 h8 (show (osCode os).length ≤ 400 by omega) (show min 16 os.length ≤ 16 by omega) e9 e6 hn _ (fun hb M' f' s' t' tle => ?_) (fun h0 Ma M' nfr hts hmn hvals fr res1 res2 => ?_)⟩
    · rw [hend] at hb t' tle ⊢
      have h5 := tScan_5 bt sz (tT bt sz)
      have hn1 := tScan_n1 bt sz (tT bt sz)
      obtain ⟨er, her⟩ : ∃ er, er = sEr (tScan bt sz (tT bt sz)) := ⟨_, rfl⟩
      rw [← her] at hb t' tle h5 hn1 hbad ⊢
      have z0 : ¬ nI er.1 = 0 := nI_ne0 (by omega) (by omega)
      refine ⟨fun _ => ⟨fun _ => ?_, fun q => absurd q z0⟩, fun q => absurd ((nI_eq (b := 1) (by omega) (by decide)).mp q) hn1⟩
      rw [t']
      refine T_startOf s' _ tle ⟨fun _ => ?_, fun q => absurd q z0⟩
      refine hbad hb _ (fun c hc => ?_) (eU_same _ _ _ _) ?_
      · rw [eU_other _ _ _ (by omega), eU_other _ _ _ (by omega), f'.1 c (by omega) (by omega) (by omega) (by omega) (by omega), m3 c (by omega) (by omega) (by omega) (by omega) (by omega) (by omega)]
      · rw [eU_cell _ _ _ _ (by decide), eU_same]
    · rw [hend] at h0 hmn
      have hgm := tOut_gm (bt := bt) (sz := sz) (by rw [hE]; exact h0)
      rw [hO] at hgm
      have hlen : os.length ≤ 16 := hgm.1.1
      have hmin : min 16 os.length = os.length := by omega
      have hnn := l4 h0
      obtain ⟨s1, s2, s3, s4⟩ := tScan_ok (q := tT bt sz) h0
      obtain ⟨i1, -⟩ := tScan_in bt sz (tT bt sz)
      refine ⟨fun _ => ⟨fun q => absurd rfl q, fun _ => ⟨fun q => absurd rfl q, fun _ => ?_⟩⟩, fun q => absurd q (by decide)⟩
      have at8 : ∀ j, M' 8 j = Ma 8 j := fun j => fr 8 j (by omega) (by omega)
      have at9 : ∀ j, M' 9 j = Ma 9 j := fun j => fr 9 j (by omega) (by omega)
      have ordr : ∀ i j, i < os.length → j ≠ 1 → M' (36 + i) j = M3 (36 + i) j := fun i j hi hj => by
        rw [fr (36 + i) j (by omega) (by omega), nfr.1 (36 + i) (by omega) (by omega) (by omega) (by omega) (by omega)]
      obtain ⟨⟨m1, m2, m3'⟩, m4, ⟨m5, m6, m7, m8⟩, m9⟩ := hmn
      have v7 : ∀ t, t < tT bt sz → (tTk bt sz t = 40 ∨ (tTk bt sz t = 41 ∧ sL (tScan bt sz t) ≠ 3)) → Ma 7 t = nI (tV bt sz t) := by
        intro t htT hk
        unfold tV
        rcases hk with hk | ⟨hk, hL⟩
        · rw [if_pos hk]
          exact (hts.2.2.1 t htT).2.2.2 hk
        · rw [if_neg (by omega)]
          exact hvals t (by omega) hk hL
      have dp : dPg (eU M' 0 7 (-1)) (tV bt sz) os := by
        refine ⟨?_, ?_, fun i o ho => ?_, fun i s hs => ?_⟩
        · rw [eU_cell _ _ _ _ (by decide), at8, nfr.2 6 (by decide) (by decide) (by decide) (by decide), e6, hmin]
        · rw [eU_cell _ _ _ _ (by decide), at8, nfr.2 9 (by decide) (by decide) (by decide) (by decide), e9]
        · have hi : i < os.length := by
            rcases Nat.lt_or_ge i os.length with h1 | h1
            · exact h1
            · rw [List.getElem?_eq_none h1] at ho; cases ho
          obtain ⟨c0, c1, c2, c3, c4⟩ := hos.1 i o ho (by omega)
          rw [eU_other _ _ _ (show 36 + i ≠ 0 by omega), ordr i 0 hi (by decide), ordr i 2 hi (by decide), ordr i 3 hi (by decide), ordr i 4 hi (by decide)]
          refine ⟨c0, ?_, c2, c3, c4⟩
          obtain ⟨⟨p, q, q1, q2, q3⟩, -, -⟩ := l5 o (List.mem_of_getElem? ho)
          have q3' := q3
          obtain ⟨k1', k2', ⟨k3', k4', k5'⟩, k6', k7', -⟩ := q3
          have htn : oName o < tT bt sz := by rw [k4']; omega
          have hma : Ma (36 + i) 1 = nI (oName o) := by
            rw [nfr.1 (36 + i) (by omega) (by omega) (by omega) (by omega) (by omega)]; exact c1
          rw [res2 i (oName o) (by omega) (by omega) hma]
          refine v7 _ htn (Or.inr ⟨by rw [k4']; exact k7', ?_⟩)
          rw [k4']
          exact (L_name q2 q3' h0 (show p ≤ p + 1 by omega) (by omega) k7').1
        · have hi : i < (osCode os).length := by
            rcases Nat.lt_or_ge i (osCode os).length with h1 | h1
            · exact h1
            · rw [List.getElem?_eq_none h1] at hs; cases hs
          have hcd := hos.2 i s hs
          rw [Nat.zero_add] at hcd
          rw [eU_other _ _ _ (by decide), eU_other _ _ _ (by decide), fr 11 i (by omega) (by omega), nfr.1 11 (by decide) (by decide) (by decide) (by decide) (by decide)]
          refine ⟨hcd.1, fun hk => ?_⟩
          obtain ⟨o, ho, hso⟩ := osCode_mem (List.mem_of_getElem? hs)
          obtain ⟨t1, t2⟩ := L_step l5 h0 ho hso hk
          have hma : Ma 12 i = nI s.2.1 := by rw [nfr.1 12 (by decide) (by decide) (by decide) (by decide) (by decide)]; exact hcd.2 hk
          rw [res1 i s.2.1 hi (by omega) hma]
          refine v7 _ t1 ?_
          rcases t2 with ⟨-, t2⟩ | t2
          · exact Or.inl t2
          · exact Or.inr t2
      refine S_gbegin hlen (by omega) dp s1 s2 i1 (fun j hj => ?_) (by rw [eU_cell _ _ _ _ (by decide), at8]; exact m5) (by rw [eU_cell _ _ _ _ (by decide), at8]; exact m6) (by rw [eU_cell _ _ _ _ (by decide), at8, m8, hnn]) (fun j hj => by rw [eU_cell _ _ _ _ (by decide), at9]; exact m9 j (by omega)) _ (fun M5 p5 b5 r5 f5 => ?_)
      · have := s3 j (by omega)
        omega
      · refine hok h0 _ (eU_same _ _ _ _) ?_ (p5.fr (fun c hc => eU_other _ _ _ (by omega))) (b5.fr (fun c c1 c2 => eU_other _ _ _ (by omega))) ?_
        · rw [eU_cell _ _ _ _ (by decide), f5 0 (by decide), eU_same]
        · rw [eU_cell _ _ _ _ (by decide)]; exact r5
end Teach
