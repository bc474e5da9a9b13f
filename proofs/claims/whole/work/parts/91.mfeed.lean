/-! ===== the model's feed and digest: arrays made in the call ===== -/
def tFm (M M' : eM) : Prop := (∀ c, c ≠ 100 → c ≠ 101 → M' c = M c) ∧ ∀ j, j ≠ 2 → M' 100 j = M 100 j
theorem tFm.refl (M : eM) : tFm M M := ⟨fun _ _ _ => rfl, fun _ _ => rfl⟩
theorem tFm.trans {M M1 M2 : eM} (h : tFm M M1) (h1 : tFm M1 M2) : tFm M M2 := ⟨fun c a b => (h1.1 c a b).trans (h.1 c a b), fun j a => (h1.2 j a).trans (h.2 j a)⟩
def mTp (M : eM) (bt : Nat → Nat) (sz : Nat) : Prop := M 100 2 = nI sz ∧ ∀ i, i < 2000 → M 101 i = nI (bt i)
abbrev xTrue : xN := fun _ => True
theorem xTrue_m : xNm xTrue := fun _ _ _ _ => trivial
abbrev xQW (G : eG) (M : eM) (q N : Nat) (f : Nat → Int32) : va_W := eW G 100 40 M ++ [(q, .inl (G.2.2.2 0, (N, .inl f)))]
abbrev fdX : xX := fun s meth _ _ => meth.name = (kY kX13_feed).name ∧ xTrue s
abbrev fdZ (G : eG) (F : Int32 → eM → Prop) : eZt := xZ G 1 5 (fun v w' => ∃ M', eFI F v M' ∧ w' = eW G 100 40 M')
def fdF (a b c d e : Int32) : Nat → Int32 := fun j => if j = 4 then e else if j = 3 then d else if j = 2 then c else if j = 1 then b else if j = 0 then a else 0
theorem fdF_eq (a b c d e : Int32) : upd (upd (upd (upd (upd (fun _ => 0) (0 : Int32).toNatClampNeg a) (1 : Int32).toNatClampNeg b) (2 : Int32).toNatClampNeg c) (3 : Int32).toNatClampNeg d) (4 : Int32).toNatClampNeg e = fdF a b c d e := by
  rw [show (0 : Int32).toNatClampNeg = 0 from by decide, show (1 : Int32).toNatClampNeg = 1 from by decide, show (2 : Int32).toNatClampNeg = 2 from by decide, show (3 : Int32).toNatClampNeg = 3 from by decide, show (4 : Int32).toNatClampNeg = 4 from by decide]
  rfl
section Feed
variable {G : eG}
theorem Fd_byte (F : Int32 → eM → Prop) {M : eM} {q : Nat} {f : Nat → Int32} {bt : Nat → Nat} {sz : Nat} (h : mTp M bt sz) (hsz : sz < 2000) (x i s s' : Int32) (hs0 : ¬ s < 0) (hs1 : s &&& 31 = s) (hs2 : s + -8 = s')
    (kk : ∀ M', tFm M M' → mTp M' (zU bt sz (fB (x >>> s))) (sz + 1) → Ex fdX (fdZ G F) G (eR (3, 1, 5)) kX13_feed 81 [(11, .int s'), (10, .int x), (9, .int i), (8, .int 5), (7, .ref q), (0, .ref (G.1 100))] [] (xQW G M' q 5 f) 1 5) :
    Ex fdX (fdZ G F) G (eR (3, 1, 5)) kX13_feed 81 [(11, .int s), (10, .int x), (9, .int i), (8, .int 5), (7, .ref q), (0, .ref (G.1 100))] [] (xQW G M q 5 f) 1 5 := by
  refine x_iload 0 dX13_feed_81 rfl ?_
  refine x_if_lt (t := 120) dX13_feed_83 (by decide) (fun z => absurd z hs0) (fun _ => ?_)
  refine x_aload_n 5 dX13_feed_86 rfl rfl ?_
  refine xe_getR (c := 100) (k := 1) 101 dX13_feed_87 clX13 lFX13_9 (by decide) iM100 sC100 rfl ?_
  refine x_aload_n 5 dX13_feed_90 rfl rfl ?_
  refine xe_getI (c := 100) (k := 2) dX13_feed_91 clX13 lFX13_72 (by decide) iM100 sC100 rfl ?_
  refine x_iload 1 dX13_feed_94 rfl ?_
  refine x_iload 0 dX13_feed_96 rfl ?_
  refine x_ishr dX13_feed_98 ?_
  refine x_sipush (v := 255) dX13_feed_99 rfl ?_
  refine x_iand dX13_feed_102 ?_
  refine xe_iast (c := 101) (N := 2000) dX13_feed_103 iM101 sC101 ?_ ?_
  · rw [h.1]; exact vp_in_nI hsz (by decide)
  refine x_aload_n 5 dX13_feed_104 rfl rfl ?_
  refine x_dup dX13_feed_105 rfl ?_
  refine xe_getI (c := 100) (k := 2) dX13_feed_106 clX13 lFX13_72 (by decide) iM100 sC100 rfl ?_
  refine x_iconst (v := 1) dX13_feed_109 rfl ?_
  refine x_iadd dX13_feed_110 ?_
  refine xe_putI (c := 100) (k := 2) dX13_feed_111 clX13 lFX13_72 (by decide) iM100 sC100 rfl rfl rfl ?_
  refine x_iinc (v := s + (-8)) (l' := [(11, .int (s + (-8))), (10, .int x), (9, .int i), (8, .int 5), (7, .ref q), (0, .ref (G.1 100))]) 0 dX13_feed_114 rfl rfl (by decide) rfl ?_
  refine x_goto (t := 81) dX13_feed_117 (by decide) ?_
  rw [hs1, fB_and, show s + (-8) = s' from hs2]
  refine kk _ ⟨fun c a b => ?_, fun j a => ?_⟩ ⟨?_, fun j hj => ?_⟩
  · rw [eU_other _ _ _ a, eU_other _ _ _ b]
  · rw [eU_place _ _ _ _ a, eU_cell _ _ _ _ (by decide)]
  · rw [eU_same, eU_cell _ _ _ _ (by decide), h.1, ← nI_succ]
  · rw [eU_cell _ _ _ _ (by decide), h.1, nI_clamp (show sz < 2 ^ 31 by omega)]
    by_cases hq : j = sz
    · rw [hq, eU_same, zU_same]
    · rw [eU_place _ _ _ _ hq, zU_ne _ _ hq]
      exact h.2 j hj
theorem Fd_int (F : Int32 → eM → Prop) {M : eM} {q : Nat} {f : Nat → Int32} {bt : Nat → Nat} {sz : Nat} (h : mTp M bt sz) (hsz : sz + 4 ≤ 2000) (x : Int32) {k : Nat} (hk : k < 5) (hx : f k = x)
    (kk : ∀ M', tFm M M' → mTp M' (fW bt sz x) (sz + 4) → Ex fdX (fdZ G F) G (eR (3, 1, 5)) kX13_feed 63 [(9, .int (nI (k + 1))), (8, .int 5), (7, .ref q), (0, .ref (G.1 100))] [] (xQW G M' q 5 f) 1 5) :
    Ex fdX (fdZ G F) G (eR (3, 1, 5)) kX13_feed 63 [(9, .int (nI k)), (8, .int 5), (7, .ref q), (0, .ref (G.1 100))] [] (xQW G M q 5 f) 1 5 := by
  refine x_iload 0 dX13_feed_63 rfl ?_
  refine x_iload 1 dX13_feed_65 rfl ?_
  refine x_icmp_ge (t := 126) dX13_feed_67 (by decide) (fun z => absurd z (nI_ge (b := 5) hk (by decide))) (fun _ => ?_)
  refine x_aload 2 dX13_feed_70 rfl ?_
  refine x_iload 0 dX13_feed_72 rfl ?_
  refine x_iald (q0 := 40) (N := 5) (f := f) dX13_feed_74 (xe_end _ _) ?_ ?_
  · exact vp_in_nI hk (by decide)
  rw [nI_clamp (show k < 2 ^ 31 by omega), hx]
  refine x_istore (l' := [(10, .int x), (9, .int (nI k)), (8, .int 5), (7, .ref q), (0, .ref (G.1 100))]) dX13_feed_75 (by decide) rfl ?_
  refine x_bipush (v := 24) dX13_feed_77 rfl ?_
  refine x_istore (l' := [(11, .int 24), (10, .int x), (9, .int (nI k)), (8, .int 5), (7, .ref q), (0, .ref (G.1 100))]) dX13_feed_79 (by decide) rfl ?_
  refine Fd_byte F h (by omega) x (nI k) 24 16 (by decide) (by decide) (by decide) (fun M1 f1 h1 => ?_)
  refine Fd_byte F h1 (by omega) x (nI k) 16 8 (by decide) (by decide) (by decide) (fun M2 f2 h2 => ?_)
  refine Fd_byte F h2 (by omega) x (nI k) 8 0 (by decide) (by decide) (by decide) (fun M3 f3 h3 => ?_)
  refine Fd_byte F h3 (by omega) x (nI k) 0 (-8) (by decide) (by decide) (by decide) (fun M4 f4 h4 => ?_)
  refine x_iload 0 dX13_feed_81 rfl ?_
  refine x_if_lt (t := 120) dX13_feed_83 (by decide) (fun _ => ?_) (fun z => absurd (by decide) z)
  refine x_iinc (v := nI (k + 1)) (l' := [(9, .int (nI (k + 1))), (11, .int (-8)), (10, .int x), (8, .int 5), (7, .ref q), (0, .ref (G.1 100))]) 2 dX13_feed_120 rfl (by rw [nI_succ]; rfl) (by decide) rfl ?_
  refine x_goto (t := 63) dX13_feed_123 (by decide) ?_
  refine Ex.sub (ks := [0, 3, 4, 5]) rfl ?_
  exact kk M4 (((f1.trans f2).trans f3).trans f4) h4
set_option maxHeartbeats 4000000 in
theorem U_feed {M : eM} {S : gS} (hs : sOk S) (hm : sM M S) (a b c d e : Int32) (F : Int32 → eM → Prop) (hF : ∀ r M', sM M' (z_feed S a b c d e).2.2 → M' 100 0 = nI (z_feed S a b c d e).1 → ((z_feed S a b c d e).1 = 0 → r = (z_feed S a b c d e).2.1) → F r M') : Cal G 100 40 (3, 1, 5) kX13_feed [.ref (G.1 100), .int a, .int b, .int c, .int d, .int e] M (eFI F) := by
  have h0 := hm.th 0
  have hsz := hs.1
  have h1 := hm.1
  refine Cal.ofX (xCal.of (by decide +kernel) rfl (Nat.le_of_ble_eq_true rfl) ?_)
  show Ex fdX (fdZ G F) G (eR (3, 1, 5)) kX13_feed 0 [(0, .ref (G.1 100)), (1, .int a), (2, .int b), (3, .int c), (4, .int d), (5, .int e)] [] _ 0 0
  refine Ex.ww (List.append_nil _).symm ?_
  refine x_aload_n 0 dX13_feed_0 rfl rfl ?_
  refine x_iconst (v := 0) dX13_feed_1 rfl ?_
  refine xe_putI (c := 100) (k := 0) dX13_feed_2 clX13 lFX13_65 (by decide) iM100 sC100 rfl rfl rfl ?_
  refine x_aload_n 0 dX13_feed_5 rfl rfl ?_
  refine xe_getI (c := 100) (k := 2) dX13_feed_6 clX13 lFX13_72 (by decide) iM100 sC100 rfl ?_
  refine x_bipush (v := 20) dX13_feed_9 rfl ?_
  refine x_iadd dX13_feed_11 ?_
  refine x_sipush (v := 2000) dX13_feed_12 rfl ?_
  refine x_icmp_le (t := 24) dX13_feed_15 (by decide) (fun z => ?_) (fun z => ?_)
  · rw [eU_place _ _ _ _ (by decide), h1, show (20 : Int32) = nI 20 from rfl, nI_add, show (2000 : Int32) = nI 2000 from rfl] at z
    have z2 := (nI_leI (by omega) (by decide)).mp z
    unfold z_feed at hF
    rw [if_pos z2] at hF
    refine Ex.ww (List.append_nil _) ?_
    refine x_iconst (v := 5) dX13_feed_24 rfl ?_
    refine x_newi (N := 5) dX13_feed_25 xa_int (by decide) (by decide) (by decide) ⟨Nat.le_of_ble_eq_true rfl, Nat.le_of_ble_eq_true rfl⟩ (fun q => ?_)
    refine x_dup dX13_feed_27 rfl ?_
    refine x_iconst (v := 0) dX13_feed_28 rfl ?_
    refine x_iload_n 1 dX13_feed_29 rfl rfl ?_
    refine x_iast (q0 := 40) (N := 5) (f := fun _ => 0) dX13_feed_30 (xe_end _ _) (vp_in_nI (n := 0) (by decide) (by decide)) ?_
    refine Ex.ww (xe_endset _ _ _) ?_
    refine x_dup dX13_feed_31 rfl ?_
    refine x_iconst (v := 1) dX13_feed_32 rfl ?_
    refine x_iload_n 2 dX13_feed_33 rfl rfl ?_
    refine x_iast (q0 := 40) (N := 5) (f := upd (fun _ => 0) (0 : Int32).toNatClampNeg a) dX13_feed_34 (xe_end _ _) (vp_in_nI (n := 1) (by decide) (by decide)) ?_
    refine Ex.ww (xe_endset _ _ _) ?_
    refine x_dup dX13_feed_35 rfl ?_
    refine x_iconst (v := 2) dX13_feed_36 rfl ?_
    refine x_iload_n 3 dX13_feed_37 rfl rfl ?_
    refine x_iast (q0 := 40) (N := 5) (f := upd (upd (fun _ => 0) (0 : Int32).toNatClampNeg a) (1 : Int32).toNatClampNeg b) dX13_feed_38 (xe_end _ _) (vp_in_nI (n := 2) (by decide) (by decide)) ?_
    refine Ex.ww (xe_endset _ _ _) ?_
    refine x_dup dX13_feed_39 rfl ?_
    refine x_iconst (v := 3) dX13_feed_40 rfl ?_
    refine x_iload 4 dX13_feed_41 rfl ?_
    refine x_iast (q0 := 40) (N := 5) (f := upd (upd (upd (fun _ => 0) (0 : Int32).toNatClampNeg a) (1 : Int32).toNatClampNeg b) (2 : Int32).toNatClampNeg c) dX13_feed_43 (xe_end _ _) (vp_in_nI (n := 3) (by decide) (by decide)) ?_
    refine Ex.ww (xe_endset _ _ _) ?_
    refine x_dup dX13_feed_44 rfl ?_
    refine x_iconst (v := 4) dX13_feed_45 rfl ?_
    refine x_iload 5 dX13_feed_46 rfl ?_
    refine x_iast (q0 := 40) (N := 5) (f := upd (upd (upd (upd (fun _ => 0) (0 : Int32).toNatClampNeg a) (1 : Int32).toNatClampNeg b) (2 : Int32).toNatClampNeg c) (3 : Int32).toNatClampNeg d) dX13_feed_48 (xe_end _ _) (vp_in_nI (n := 4) (by decide) (by decide)) ?_
    refine Ex.ww (xe_endset _ _ _) ?_
    refine x_astore (l' := [(6, .ref q), (0, .ref (G.1 100)), (1, .int a), (2, .int b), (3, .int c), (4, .int d), (5, .int e)]) dX13_feed_49 (by decide) rfl ?_
    rw [fdF_eq]
    refine x_aload 0 dX13_feed_51 rfl ?_
    refine x_astore (l' := [(7, .ref q), (6, .ref q), (0, .ref (G.1 100)), (1, .int a), (2, .int b), (3, .int c), (4, .int d), (5, .int e)]) dX13_feed_53 (by decide) rfl ?_
    refine x_aload 0 dX13_feed_55 rfl ?_
    refine x_alen (q0 := 40) (N := 5) (f := fdF a b c d e) (v := 5) dX13_feed_57 (xe_end _ _) rfl ?_
    refine x_istore (l' := [(8, .int 5), (7, .ref q), (6, .ref q), (0, .ref (G.1 100)), (1, .int a), (2, .int b), (3, .int c), (4, .int d), (5, .int e)]) dX13_feed_58 (by decide) rfl ?_
    refine x_iconst (v := 0) dX13_feed_60 rfl ?_
    refine x_istore (l' := [(9, .int 0), (8, .int 5), (7, .ref q), (6, .ref q), (0, .ref (G.1 100)), (1, .int a), (2, .int b), (3, .int c), (4, .int d), (5, .int e)]) dX13_feed_61 (by decide) rfl ?_
    refine Ex.sub (ks := [0, 1, 2, 4]) rfl ?_
    have h2 : mTp (eU M 100 0 0) (gBt S) (gSz S) := ⟨by rw [eU_place _ _ _ _ (by decide)]; exact h1, fun i hi => by rw [eU_cell _ _ _ _ (by decide)]; exact hm.2.1 i hi⟩
    refine Fd_int F h2 (by omega) a (k := 0) (by decide) rfl (fun M1 f1 t1 => ?_)
    refine Fd_int F t1 (by omega) b (k := 1) (by decide) rfl (fun M2 f2 t2 => ?_)
    refine Fd_int F t2 (by omega) c (k := 2) (by decide) rfl (fun M3 f3 t3 => ?_)
    refine Fd_int F t3 (by omega) d (k := 3) (by decide) rfl (fun M4 f4 t4 => ?_)
    refine Fd_int F t4 (by omega) e (k := 4) (by decide) rfl (fun M5 f5 t5 => ?_)
    have fr := (((f1.trans f2).trans f3).trans f4).trans f5
    refine x_iload 0 dX13_feed_63 rfl ?_
    refine x_iload 1 dX13_feed_65 rfl ?_
    refine x_icmp_ge (t := 126) dX13_feed_67 (by decide) (fun _ => ?_) (fun z => absurd (Int32.le_refl 5) z)
    refine x_aload_n 3 dX13_feed_126 rfl rfl ?_
    refine xe_getI (c := 100) (k := 2) dX13_feed_127 clX13 lFX13_72 (by decide) iM100 sC100 rfl ?_
    refine Ex.le (xLe.dropR _ _) ?_
    refine x_iret dX13_feed_130 rfl (Nat.le_of_ble_eq_true rfl) (Nat.le_of_ble_eq_true rfl) ⟨M5, ⟨_, rfl, ?_⟩, rfl⟩
    rw [t5.1]
    refine hF _ M5 ?_ ((fr.2 0 (by decide)).trans (eU_same _ _ _ _)) (fun _ => rfl)
    obtain ⟨q1, q2, q3, q4, q5, q6⟩ := h0
    refine ⟨t5.1, t5.2, (fr.2 3 (by decide)).trans q3, q4.fr (fun c c1 c2 => fr.1 c (by omega) (by omega)), q5.of (fr.1 107 (by decide) (by decide)) (fr.1 108 (by decide) (by decide)) (fr.1 131 (by decide) (by decide)) (fr.1 132 (by decide) (by decide)) (fr.1 133 (by decide) (by decide)) (fr.1 130 (by decide) (by decide)), ?_⟩
    rw [fr.1 130 (by decide) (by decide)]
    exact q6
  · rw [eU_place _ _ _ _ (by decide), h1, show (20 : Int32) = nI 20 from rfl, nI_add, show (2000 : Int32) = nI 2000 from rfl] at z
    have z2 : ¬ gSz S + 20 ≤ 2000 := fun y => z ((nI_leI (by omega) (by decide)).mpr y)
    unfold z_feed at hF
    rw [if_neg z2] at hF
    refine x_aload_n 0 dX13_feed_18 rfl rfl ?_
    refine x_iconst (v := 1) dX13_feed_19 rfl ?_
    refine xe_callV (K := kX13_feed) (R := eR (3, 1, 5)) (ca := 0) (sl := 0) (lo := 100) (n := 40) (M := eU M 100 0 0) (Rr := []) xTrue_m xX0 (b' := (1, 0, 0)) (c := 100) (As := [.int 1]) (S := []) dX13_feed_20 mX13_no lMX13_254 clX13 rfl iM100 sC100 rfl (by exact ⟨⟨Nat.le_of_ble_eq_true rfl, Nat.le_of_ble_eq_true rfl⟩, ⟨Nat.le_of_ble_eq_true rfl, Nat.le_of_ble_eq_true rfl⟩⟩) (Nat.le_of_ble_eq_true rfl) (C_X13_no G _ (fun r M' => r = 0 ∧ M' = eU (eU M 100 0 0) 100 0 1) _ ⟨rfl, rfl⟩) (fun v M' h => ?_) rfl
    obtain ⟨r, rfl, rfl, rfl⟩ := h
    refine Ex.ww (List.append_nil _) ?_
    exact x_iret dX13_feed_23 rfl (Nat.le_of_ble_eq_true rfl) (Nat.le_of_ble_eq_true rfl) ⟨_, ⟨_, rfl, hF _ _ (h0.th 1) (eU_same _ _ _ _) (fun z => absurd z (Nat.succ_ne_zero _))⟩, rfl⟩
end Feed
