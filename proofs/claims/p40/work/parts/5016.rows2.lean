/-! ===== further rows: constants stored, tables of references, strings, copies, longs, doubles, switches ===== -/
def eCp (M : eM) (c c1 sp dp k : Nat) : eM := fun c' => if c' = c1 then va_cpy (M c) (M c1) sp dp k else M c'
section ERows2
variable {Z : eZt} {G : eG} {lo n : Nat} {b : eB} {K : eK} {pc : Nat} {l l' : List (Nat × Value)} {S : List Value} {M : eM} {ca sl : Nat}
variable {index c N : Nat}
theorem r_ldcw {v : Int32} (hdg : decode (kCode K) pc = .ok (.ldc_w index, 3)) (hw : Cond.constant (kOwn K) index v ∈ lw_tbl) (k : Ev Z G lo n b K (pc + 3) l (.int v :: S) M ca sl) : Ev Z G lo n b K pc l S M ca sl :=
  Ev.step (fun C _ k => lv_ldcw C.1 C.2.1 C.2.2.2.2.2.1 (C.2.2.2.2.2.2.1 _ (eIn hw rfl)) hdg k) k
theorem eSt.obj {A : Nat → Prop} {s : State} {H : Heap} {locs : List Loc} (h : eSt G A s s.heap) (hS : va_S A s.heap H locs) {j : Nat} (hj : j < 44) : ∃ cellV : Cell, H[G.1 (1000 + j)]? = some cellV ∧ cellV.vm.isStatics = false ∧ s.vm.findClass "RingDomino$Kind" = some cellV.cls := va_recvE (ad := fun k => G.1 (1000 + k)) h.1 hj hS
/-- a constant or null stored in an array of constants -/
theorem r_kast {i v : Int32} (hdg : decode (kCode K) pc = .ok (.aastore, 1)) (hc : lo ≤ c ∧ c < lo + n) (hs : esh c = .inl (3, N)) (hin : vp_in i N) (kk : Ev Z G lo n b K (pc + 1) l S (eU M c i.toNatClampNeg v) ca sl) : Ev Z G lo n b K pc l (eV G 1 v :: .int i :: .ref (G.1 c) :: S) M ca sl := by
  intro p la e s m args below meth c' A H locs ls C0 hl
  obtain ⟨h1, h2, h3, h4, h5, h6, h7, h8, h9, h10, h11, h12, h13, h14⟩ := C0
  have key : ∀ (H1 : Heap) (locs1 : List Loc), va_P (eD G) vwCl ((eW G lo n M).set (c - lo) (G.1 c, .inl (G.2.2.2 3, N, .inr (.inr (.inr (.inr (va_up (fun j => eKr G (M c j)) i.toNatClampNeg (eKr G v)))))))) H1 → va_D A ((eW G lo n M).set (c - lo) (G.1 c, .inl (G.2.2.2 3, N, .inr (.inr (.inr (.inr (va_up (fun j => eKr G (M c j)) i.toNatClampNeg (eKr G v)))))))) → va_S A s.heap H1 locs1 → W p la e (eR b) s m args below meth c' H1 locs1 ca sl (Z below args s A) (F0 m (pc + 1) ls S) := by
    intro H1 locs1 hP hD hS
    rw [eW_set hc (M' := eU M c i.toNatClampNeg v) (fun c' h => eU_other M _ v h) (by
      rw [hs, eU_row]
      refine congrArg (fun f : Nat → Option Nat => (Sum.inl (G.2.2.2 3, (N, Sum.inr (Sum.inr (Sum.inr (Sum.inr f))))) : va_E)) (funext fun j => ?_)
      by_cases hj : j = i.toNatClampNeg
      · subst hj; simp [va_up, pk_us]
      · rw [pk_un hj]; simp [va_up, hj])] at hP hD
    exact kk p la e s m args below meth c' A H1 locs1 ls ⟨h1, h2, h3, h4, h5, h6, h7, h8, h9, h10, h11, hS, hP, hD⟩ hl
  have he : (eW G lo n M)[c - lo]? = some (G.1 c, .inl (G.2.2.2 3, N, .inr (.inr (.inr (.inr (fun j => eKr G (M c j))))))) := by rw [eW_get hc, hs]; rfl
  show W p la e (eR b) s m args below meth c' H locs ca sl (Z below args s A) (F0 m pc ls (va_rf (eKr G v) :: .int i :: .ref (G.1 c) :: S))
  by_cases hv : 1 ≤ v ∧ v ≤ 44
  · obtain ⟨j, hj, e0⟩ := eKr_nat hv
    have e1 : eKr G v = some (G.1 (1000 + j)) := by
      unfold eKr
      rw [if_pos hv, e0, nI_clamp (by omega), show 999 + (j + 1) = 1000 + j by omega]
    rw [e1] at key ⊢
    obtain ⟨cellV, g1, g2, g3⟩ := h9.obj h12 hj
    obtain ⟨kC, hkC, -⟩ := Vm.findClass_spec g3
    refine va_astqM h1 h2 h8 h13 h14 h12 (c - lo) 3 (E := "RingDomino$Kind") he rfl ⟨cellV, g1, g2, ⟨kC, hkC⟩, fun comp h => ?_⟩ hin hdg key
    cases h.symm.trans g3
    exact va_asg _ _
  · have e1 : eKr G v = none := by unfold eKr; rw [if_neg hv]
    rw [e1] at key ⊢
    exact va_astqN h1 h2 h8 h13 h14 h12 (c - lo) 3 (C := "RingDomino$Kind") he rfl hin hdg key
theorem r_getsN {c0 n0 d0 host : String} {w : Value} (hdg : decode (kCode K) pc = .ok (.getstatic index, 3)) (hlk : Cond.fieldLinkNest (kOwn K) index c0 n0 d0 host ∈ lw_tbl) (hZ : ∀ {A : Nat → Prop} {U : State} {H : Heap}, eSt G A U H → va_Z c0 n0 d0 w A U H)
    (kk : Ev Z G lo n b K (pc + 3) l (w :: S) M ca sl) : Ev Z G lo n b K pc l S M ca sl :=
  Ev.step (fun C _ k => va_getsN C.1 C.2.1 (hZ C.2.2.2.2.2.2.2.2.1) C.2.2.2.2.2.2.2.2.2.2.2.1 C.2.2.2.2.2.1 (C.2.2.2.2.2.2.1 _ (eIn hlk rfl)) (fun x h => h) hdg k) kk
/-- a static table's length -/
theorem r_tlen {tc : Nat} {f : Nat → Value} {c0 n0 d0 : String} {ty : FieldType} {v : Int32} (hdg : decode (kCode K) pc = .ok (.arraylength, 1)) (hT : ∀ {A : Nat → Prop} {U : State} {H : Heap}, eSt G A U H → eTb G tc c0 n0 d0 ty N f A U H) (hv : Int32.ofNat N = v)
    (kk : Ev Z G lo n b K (pc + 1) l (.int v :: S) M ca sl) : Ev Z G lo n b K pc l (.ref (G.1 tc) :: S) M ca sl :=
  Ev.step (fun C _ k => va_tlen C.1 C.2.1 (hT C.2.2.2.2.2.2.2.2.1).2 C.2.2.2.2.2.2.2.2.2.2.2.1 hv hdg k) kk
/-- Kind.ALL[i] -/
theorem r_allld {i : Int32} (hdg : decode (kCode K) pc = .ok (.aaload, 1)) (hin : vp_in i 44) (kk : Ev Z G lo n b K (pc + 1) l (eV G 1 (i + 1) :: S) M ca sl) : Ev Z G lo n b K pc l (.int i :: .ref (G.1 1300) :: S) M ca sl := by
  obtain ⟨j, hj, rfl⟩ := vp_in_of hin (by decide)
  refine Ev.step (fun C _ k => vb_tq C.1 C.2.1 C.2.2.2.2.2.2.2.2.1.2.2.2.2.1.2 C.2.2.2.2.2.2.2.2.2.2.2.1 hin rfl hdg k) ?_
  show Ev Z G lo n b K (pc + 1) l (.ref (G.1 (1000 + (nI j).toNatClampNeg)) :: S) M ca sl
  rw [nI_clamp (by omega), ← eKr_lit G j hj, nI_succ]
  exact kk
/-- a constant's text -/
theorem r_ktext {x : Int32} (hdg : decode (kCode K) pc = .ok (.getfield index, 3)) (hlk : Cond.fieldLink (kOwn K) index "RingDomino$Kind" "text" "Ljava/lang/String;" ∈ lw_tbl) (hx : 1 ≤ x ∧ x ≤ 44) (kk : Ev Z G lo n b K (pc + 3) l (.ref (G.1 (1100 + (x.toNatClampNeg - 1))) :: S) M ca sl) : Ev Z G lo n b K pc l (eV G 1 x :: S) M ca sl := by
  obtain ⟨j, hj, rfl⟩ := eKr_nat hx
  rw [eKr_lit G j hj]
  rw [nI_clamp (by omega), show 1100 + (j + 1 - 1) = 1100 + j by omega] at kk
  exact Ev.step (fun C _ k => vk_getf C.1 C.2.1 (C.2.2.2.2.2.2.2.2.1.2.1 j hj) C.2.2.2.2.2.2.2.2.2.2.2.1 C.2.2.2.2.2.1 (C.2.2.2.2.2.2.1 _ (eIn hlk rfl)) (fun x h => h) hdg k) kk
/-! strings -/
abbrev eStA (G : eG) (bs : Nat) (tx : List (List Int32)) : Prop := ∀ {A : Nat → Prop} {U : State} {H : Heap}, eSt G A U H → eStr G bs tx A U H
theorem eSt.k (G : eG) : eStA G 1100 eKtx := fun h => h.2.2.1
theorem eSt.w (G : eG) : eStA G 1400 eWd := fun h => h.2.2.2.1
theorem r_sval {bs k : Nat} {tx : List (List Int32)} (hA : eStA G bs tx) (hk : k < tx.length) (hdg : decode (kCode K) pc = .ok (.getfield index, 3)) (hlk : Cond.fieldLink (kOwn K) index "java/lang/String" "value" "[B" ∈ lw_tbl) (kk : Ev Z G lo n b K (pc + 3) l (.ref (G.1 (bs + 50 + k)) :: S) M ca sl) : Ev Z G lo n b K pc l (.ref (G.1 (bs + k)) :: S) M ca sl :=
  Ev.step (fun C _ k0 => vk_getf C.1 C.2.1 (hA C.2.2.2.2.2.2.2.2.1 k hk).2.2.1 C.2.2.2.2.2.2.2.2.2.2.2.1 C.2.2.2.2.2.1 (C.2.2.2.2.2.2.1 _ (eIn hlk rfl)) (fun x h => h) hdg k0) kk
theorem r_scod {bs k : Nat} {tx : List (List Int32)} (hA : eStA G bs tx) (hk : k < tx.length) (hdg : decode (kCode K) pc = .ok (.getfield index, 3)) (hlk : Cond.fieldLink (kOwn K) index "java/lang/String" "coder" "B" ∈ lw_tbl) (kk : Ev Z G lo n b K (pc + 3) l (.int 0 :: S) M ca sl) : Ev Z G lo n b K pc l (.ref (G.1 (bs + k)) :: S) M ca sl :=
  Ev.step (fun C _ k0 => vk_getf C.1 C.2.1 (hA C.2.2.2.2.2.2.2.2.1 k hk).2.1 C.2.2.2.2.2.2.2.2.2.2.2.1 C.2.2.2.2.2.1 (C.2.2.2.2.2.2.1 _ (eIn hlk rfl)) (fun x h => h) hdg k0) kk
theorem r_slen {bs k : Nat} {tx : List (List Int32)} (hA : eStA G bs tx) (hk : k < tx.length) {v : Int32} (hv : Int32.ofNat (tx.getD k []).length = v) (hdg : decode (kCode K) pc = .ok (.arraylength, 1)) (kk : Ev Z G lo n b K (pc + 1) l (.int v :: S) M ca sl) : Ev Z G lo n b K pc l (.ref (G.1 (bs + 50 + k)) :: S) M ca sl :=
  Ev.step (fun C _ k0 => va_tlen C.1 C.2.1 (hA C.2.2.2.2.2.2.2.2.1 k hk).2.2.2 C.2.2.2.2.2.2.2.2.2.2.2.1 hv hdg k0) kk
theorem r_sbyte {bs k : Nat} {tx : List (List Int32)} (hA : eStA G bs tx) (hk : k < tx.length) {i : Int32} (hin : vp_in i (tx.getD k []).length) (hdg : decode (kCode K) pc = .ok (.baload, 1)) (kk : Ev Z G lo n b K (pc + 1) l (.int ((tx.getD k []).getD i.toNatClampNeg 0) :: S) M ca sl) : Ev Z G lo n b K pc l (.int i :: .ref (G.1 (bs + 50 + k)) :: S) M ca sl :=
  Ev.step (fun C _ k0 => va_tb C.1 C.2.1 (hA C.2.2.2.2.2.2.2.2.1 k hk).2.2.2 C.2.2.2.2.2.2.2.2.2.2.2.1 hin rfl hdg k0) kk
/-- a call on a text -/
theorem r_callT {K' : eK} {b' : eB} {As : List Value} {k bs j : Nat} {tx : List (List Int32)} {Fin : Option Value → eM → Prop} (hA : eStA G bs tx) (hj : j < tx.length) (hdg : decode (kCode K) pc = .ok (.invokevirtual index, 3)) (hm : eMV K' k) (hlk : Cond.methodLink (kOwn K) index (kY K') ∈ lw_tbl) (hcn : (kY K').cls = "java/lang/String") (hk : As.length = k) (hb : eFit b b' K' ca sl) (hS : (S.map fun v => v.category).sum ≤ 8)
    (hcal : Cal G lo n b' K' (.ref (G.1 (bs + j)) :: As) M Fin) (kk : ∀ (v : Option Value) (M' : eM), Fin v M' → Ev Z G lo n b K (pc + 3) l (v.toList ++ S) M' (ca + b'.2.1) (sl + b'.2.2)) {S0 : List Value} (hS0 : S0 = As.reverse ++ .ref (G.1 (bs + j)) :: S) : Ev Z G lo n b K pc l S0 M ca sl := by
  subst hS0
  intro p la e s m args below meth c' A H locs ls C0 hl
  have C1 := C0
  obtain ⟨q1, q2, q3, q4, q5, q6, q7, q8, q9, q10, q11, q12, q13, q14⟩ := C1
  obtain ⟨m1, m2, m3, m4, m5, m6, m8⟩ := hm
  have hcw : CallW (eR b) s args (kOwn K) "java/lang/String" index (kY K') (kCode K') (kMax K') (kRet K') [kW K'] (eR b') b'.2.1 b'.2.2 k :=
    ⟨callB_of k q7 (eGood m1 m6) rfl rfl rfl (q7 _ (eIn m4 rfl)) (q7 _ (eIn hlk rfl)) m5 hb.1, q7 _ (eIn m2 rfl), by rw [← hcn]; exact q7 _ (eIn m3 rfl)⟩
  refine Ev.after C0 hl (va_runV (As := As) (rest := S) (nL := kMax K) ⟨q1, q2, q3, q6, q7⟩ (hcal la q11.1 A) hcw ⟨eI.blind, ?_, fun U hU hW => ⟨rfl, eC.pass C0 hU hW⟩⟩ rfl hk hl.1 rfl (lv_room hS) hdg hb.2) kk
  obtain ⟨cell, z1, z2, z3, -⟩ := ((hA q9 j hj).1).kept q12.2.1
  exact ⟨cell, z1, z2, z3⟩
theorem r_callTI {K' : eK} {b' : eB} {k bs j : Nat} {tx : List (List Int32)} {F : Int32 → eM → Prop} (hA : eStA G bs tx) (hj : j < tx.length) (As : List Value) (hdg : decode (kCode K) pc = .ok (.invokevirtual index, 3)) (hm : eMV K' k) (hlk : Cond.methodLink (kOwn K) index (kY K') ∈ lw_tbl) (hcn : (kY K').cls = "java/lang/String") (hk : As.length = k) (hb : eFit b b' K' ca sl) (hS : (S.map fun v => v.category).sum ≤ 8)
    (hcal : Cal G lo n b' K' (.ref (G.1 (bs + j)) :: As) M (eFI F)) (kk : ∀ (r : Int32) (M' : eM), F r M' → Ev Z G lo n b K (pc + 3) l (.int r :: S) M' (ca + b'.2.1) (sl + b'.2.2)) {S0 : List Value} (hS0 : S0 = As.reverse ++ .ref (G.1 (bs + j)) :: S) : Ev Z G lo n b K pc l S0 M ca sl :=
  r_callT hA hj hdg hm hlk hcn hk hb hS hcal (fun v M' h => by obtain ⟨r, rfl, hF⟩ := h; exact kk r M' hF) hS0
theorem r_callTZ {K' : eK} {b' : eB} {k bs j : Nat} {tx : List (List Int32)} {F : Bool → eM → Prop} (hA : eStA G bs tx) (hj : j < tx.length) (As : List Value) (hdg : decode (kCode K) pc = .ok (.invokevirtual index, 3)) (hm : eMV K' k) (hlk : Cond.methodLink (kOwn K) index (kY K') ∈ lw_tbl) (hcn : (kY K').cls = "java/lang/String") (hk : As.length = k) (hb : eFit b b' K' ca sl) (hS : (S.map fun v => v.category).sum ≤ 8)
    (hcal : Cal G lo n b' K' (.ref (G.1 (bs + j)) :: As) M (eFZ F)) (kk : ∀ (r : Bool) (M' : eM), F r M' → Ev Z G lo n b K (pc + 3) l (.int (eZi r) :: S) M' (ca + b'.2.1) (sl + b'.2.2)) {S0 : List Value} (hS0 : S0 = As.reverse ++ .ref (G.1 (bs + j)) :: S) : Ev Z G lo n b K pc l S0 M ca sl :=
  r_callT hA hj hdg hm hlk hcn hk hb hS hcal (fun v M' h => by obtain ⟨r, rfl, hF⟩ := h; exact kk r M' hF) hS0
/-! the constant's number: Enum.ordinal -/
theorem r_kord {x : Int32} (hdg : decode (kCode K) pc = .ok (.getfield index, 3)) (hlk : Cond.fieldLink (kOwn K) index "java/lang/Enum" "ordinal" "I" ∈ lw_tbl) (hx : 1 ≤ x ∧ x ≤ 44) (kk : Ev Z G lo n b K (pc + 3) l (.int (x - 1) :: S) M ca sl) : Ev Z G lo n b K pc l (eV G 1 x :: S) M ca sl := by
  obtain ⟨j, hj, rfl⟩ := eKr_nat hx
  rw [eKr_lit G j hj]
  rw [nI_pred] at kk
  have ho : ∀ j, j < 44 → eOrd.getD j 0 = nI j := by decide +kernel
  rw [← ho j hj] at kk
  exact Ev.step (fun C _ k => va_getE (ad := fun k => G.1 (1000 + k)) C.1 C.2.1 C.2.2.2.2.2.2.2.2.1.1 (i := j) hj C.2.2.2.2.2.2.2.2.2.2.2.1 C.2.2.2.2.2.1 (q := ("java/lang/Enum", "ordinal", "I", eOrd)) List.mem_cons_self (C.2.2.2.2.2.2.1 _ (eIn hlk rfl)) (fun x h => h) hdg k) kk
/-- kind.ordinal(), a method that the enum inherits -/
theorem r_ordinal {K' : eK} {b' : eB} {x : Int32} {F : Int32 → eM → Prop} (hdg : decode (kCode K) pc = .ok (.invokevirtual index, 3)) (hx : 1 ≤ x ∧ x ≤ 44) (hK' : kY K' = ⟨"java/lang/Enum", "ordinal", "()I"⟩) (hw : kW K' ∈ lw_tbl) (hg : goodWord (kW K') = true) (hlk : Cond.methodLink (kOwn K) index ⟨"RingDomino$Kind", "ordinal", "()I"⟩ ∈ lw_tbl) (h1 : Cond.sameMethod "RingDomino$Kind" "java/lang/Enum" "ordinal" "()I" ∈ lw_tbl) (h2 : Cond.selects "RingDomino$Kind" ⟨"RingDomino$Kind", "ordinal", "()I"⟩ ⟨"java/lang/Enum", "ordinal", "()I"⟩ ∈ lw_tbl) (h3 : Cond.instanceMethod ⟨"java/lang/Enum", "ordinal", "()I"⟩ ∈ lw_tbl) (h4 : Cond.initialized "java/lang/Enum" ∈ lw_tbl) (hb : eFit b b' K' ca sl) (hS : (S.map fun v => v.category).sum ≤ 8)
    (hcal : Cal G lo n b' K' [eV G 1 x] M (eFI F)) (kk : ∀ (r : Int32) (M' : eM), F r M' → Ev Z G lo n b K (pc + 3) l (.int r :: S) M' (ca + b'.2.1) (sl + b'.2.2)) : Ev Z G lo n b K pc l (eV G 1 x :: S) M ca sl := by
  obtain ⟨j, hj, rfl⟩ := eKr_nat hx
  rw [eKr_lit G j hj] at hcal ⊢
  intro p la e s m args below meth c' A H locs ls C0 hl
  have C1 := C0
  obtain ⟨q1, q2, q3, q4, q5, q6, q7, q8, q9, q10, q11, q12, q13, q14⟩ := C1
  have hcw : va_CU (eR b) s args (kOwn K) "RingDomino$Kind" "java/lang/Enum" index ⟨"RingDomino$Kind", "ordinal", "()I"⟩ (kY K') (kCode K') (kMax K') (kRet K') [kW K'] (eR b') b'.2.1 b'.2.2 0 := by
    refine ⟨⟨rfl, rfl, hb.1.1, hb.1.2, pay_in q7 (eGood hw hg), List.mem_cons_self⟩, q7 _ (eIn hw (by simp [eOk, hg])), by rw [hK']; exact q7 _ (eIn h4 rfl), ⟨by decide, by decide⟩, fun sig h => ?_, q7 _ (eIn hlk rfl), q7 _ (eIn h1 rfl), ?_, by rw [hK']; exact q7 _ (eIn h2 rfl), by rw [hK']; exact q7 _ (eIn h3 rfl)⟩
    · have hp : parseMethodDescriptor "()I" = some { parameters := [], returnType := some .int } := by decide +kernel
      cases hp.symm.trans h
      rfl
    · have := va_Decl.of (q7 _ (eIn h3 rfl)) (b := kCode K') (m := kMax K') (ret := kRet K') (by rw [← hK']; exact q7 _ (eIn hw (by simp [eOk, hg])))
      exact this
  refine Ev.after C0 hl (va_runU (As := []) (rest := S) (nL := kMax K) ⟨q1, q2, q3, q6, q7⟩ (hcal la q11.1 A) hcw ⟨eI.blind, ?_, fun U hU hW => ⟨rfl, eC.pass C0 hU hW⟩⟩ rfl rfl hl.1 rfl (lv_room hS) hdg hb.2) (fun v M' h => by obtain ⟨r, rfl, hF⟩ := h; exact kk r M' hF)
  exact q9.obj q12 hj
/-! copies of int arrays -/
theorem r_copy {c1 N1 : Nat} {sp dp k : Int32} (hdg : decode (kCode K) pc = .ok (.invokestatic index, 3)) (hlk : Cond.methodLink (kOwn K) index arraycopyName ∈ lw_tbl) (h2 : Cond.native arraycopyName ∈ lw_tbl) (h3 : Cond.static arraycopyName ∈ lw_tbl) (h4 : Cond.initialized "java/lang/System" ∈ lw_tbl)
    (hc : lo ≤ c ∧ c < lo + n) (hs : esh c = .inl (0, N)) (hc1 : lo ≤ c1 ∧ c1 < lo + n) (hs1 : esh c1 = .inl (0, N1)) (hsp : ¬ sp < 0) (hdp : ¬ dp < 0) (hk : ¬ k < 0) (hN : sp.toNatClampNeg + k.toNatClampNeg ≤ N) (hN1 : dp.toNatClampNeg + k.toNatClampNeg ≤ N1) (hb : 1 ≤ b.1) (hS : (S.map fun v => v.category).sum ≤ 8)
    (kk : Ev Z G lo n b K (pc + 3) l S (eCp M c c1 sp.toNatClampNeg dp.toNatClampNeg k.toNatClampNeg) ca sl) : Ev Z G lo n b K pc l (.int k :: .int dp :: .ref (G.1 c1) :: .int sp :: .ref (G.1 c) :: S) M ca sl := by
  intro p la e s m args below meth c' A H locs ls C0 hl
  obtain ⟨q1, q2, q3, q4, q5, q6, q7, q8, q9, q10, q11, q12, q13, q14⟩ := C0
  refine va_copyi q1 q2 (q3.trans hl.1.symm) q6 (q7 _ (eIn hlk rfl)) (q7 _ (eIn h2 rfl)) (q7 _ (eIn h3 rfl)) (q7 _ (eIn h4 rfl)) q8 q13 q14 q12 (c - lo) (c1 - lo) 0 0 (f := M c) (g := M c1) (ty := .int) (by rw [eW_get hc, hs]; rfl) (by rw [eW_get hc1, hs1]; rfl) rfl rfl rfl hsp hdp hk hN hN1 (fun i _ => rfl) hb ?_ hdg (fun H1 locs1 hP hD hS1 => ?_)
  · have : nativeFrameWords "java/lang/System" "arraycopy" 5 ≤ 40 := by decide +kernel
    show _ ≤ 64 * b.1
    omega
  · rw [eW_set hc1 (M' := eCp M c c1 sp.toNatClampNeg dp.toNatClampNeg k.toNatClampNeg) (fun c' h => if_neg h) (by rw [hs1, show eCp M c c1 sp.toNatClampNeg dp.toNatClampNeg k.toNatClampNeg c1 = va_cpy (M c) (M c1) sp.toNatClampNeg dp.toNatClampNeg k.toNatClampNeg from if_pos rfl]; rfl)] at hP hD
    exact kk p la e s m args below meth c' A H1 locs1 ls ⟨q1, q2, q3, q4, q5, q6, q7, q8, q9, q10, q11, hS1, hP, hD⟩ hl
/-! lookupswitch -/
theorem r_lookup {dflt : Int} {ps : Array (Int × Int)} {len : Nat} {x : Int32} {off : Int} {t : Nat} (hdg : decode (kCode K) pc = .ok (.lookupswitch dflt ps, len)) (hp : (ps.toList.zip (ps.toList.drop 1)).all (fun (a, next) => a.1 < next.1) = true) (ho : Op.lookupswitch.offset ps.toList dflt x.toInt = off) (ht : (pc : Int) + off = (t : Int)) (k : Ev Z G lo n b K t l S M ca sl) : Ev Z G lo n b K pc l (.int x :: S) M ca sl :=
  Ev.step (fun C _ k => lv_lookup C.1 C.2.1 hdg hp ho ht k) k
/-! longs -/
abbrev eDrop2 (i : Nat) (l : List (Nat × Value)) : List (Nat × Value) := l.filter (fun q => !(q.1 == i) && (!(q.1 == i + 1) && !(q.1 + 1 == i && q.2.category == 2)))
theorem r_lload_n {q : Fin 4} {i : Nat} (j : Nat) {x : Int64} (hdg : decode (kCode K) pc = .ok (.lload_n q, 1)) (hi : (q : Nat) = i) (hj : l[j]? = some (i, .long x)) (k : Ev Z G lo n b K (pc + 1) l (.long x :: S) M ca sl) : Ev Z G lo n b K pc l S M ca sl :=
  Ev.step (fun C hl k => lv_lload_n C.1 C.2.1 hdg hi (lv_at hl j hj) k) k
theorem r_lstore_n {q : Fin 4} {i : Nat} {x : Int64} (hdg : decode (kCode K) pc = .ok (.lstore_n q, 1)) (hi : (q : Nat) = i) (hn : i + 1 < kMax K) (hl' : (i, Value.long x) :: eDrop2 i l = l') (k : Ev Z G lo n b K (pc + 1) l' S M ca sl) : Ev Z G lo n b K pc l (.long x :: S) M ca sl :=
  fun p la e s m args below meth c A H locs ls C hl => lv_lstore_n C.1 C.2.1 hdg hi hl hn hl' (fun ls' h => k p la e s m args below meth c A H locs ls' C h)
theorem r_lretL {mc ms : Nat} {F : Int64 → eM → Prop} {v : Int64} (hdg : decode (kCode K) pc = .ok (.lreturn, 1)) (hr : kRet K = some .long) (h1 : ca ≤ mc) (h2 : sl ≤ ms) (hF : F v M) : Ev (eZ G lo n mc ms (eFL F)) G lo n b K pc l [.long v] M ca sl := by
  intro p la e s m args below meth c' A H locs ls C0 hl
  obtain ⟨q1, q2, q3, q4, q5, q6, q7, q8, q9, q10, q11, q12, q13, q14⟩ := C0
  refine W.widen h1 h2 ?_
  exact W.lret q1 q2 (q4.trans hr) (fun t ht _ => ⟨⟨_, M, rfl, ⟨v, rfl, hF⟩, by rw [ht]; exact q13⟩, q12.F ht⟩) q12.2.2 hdg q5.1
/-! doubles -/
abbrev eFD (F : UInt64 → eM → Prop) : Option Value → eM → Prop := fun v M => ∃ r : UInt64, v = some (.double r) ∧ F r M
theorem r_i2d {x : Int32} (hdg : decode (kCode K) pc = .ok (.i2d, 1)) (k : Ev Z G lo n b K (pc + 1) l (.double (FP.i2d x) :: S) M ca sl) : Ev Z G lo n b K pc l (.int x :: S) M ca sl :=
  Ev.step (fun C _ k => lv_i2d C.1 C.2.1 hdg k) k
theorem r_dconst0 (hdg : decode (kCode K) pc = .ok (.dconst 0, 1)) (k : Ev Z G lo n b K (pc + 1) l (.double FP.dconst0 :: S) M ca sl) : Ev Z G lo n b K pc l S M ca sl :=
  Ev.step (fun C _ k => lv_dconst0 C.1 C.2.1 hdg k) k
theorem r_ddiv {x y : UInt64} (hdg : decode (kCode K) pc = .ok (.ddiv, 1)) (hne : vf_n64 (FP.ddiv x y)) (k : Ev Z G lo n b K (pc + 1) l (.double (FP.ddiv x y) :: S) M ca sl) : Ev Z G lo n b K pc l (.double y :: .double x :: S) M ca sl :=
  Ev.step (fun C _ k => lv_ddiv C.1 C.2.1 hdg hne k) k
theorem r_dretD {mc ms : Nat} {F : UInt64 → eM → Prop} {v : UInt64} (hdg : decode (kCode K) pc = .ok (.dreturn, 1)) (hr : kRet K = some .double) (h1 : ca ≤ mc) (h2 : sl ≤ ms) (hF : F v M) : Ev (eZ G lo n mc ms (eFD F)) G lo n b K pc l [.double v] M ca sl := by
  intro p la e s m args below meth c' A H locs ls C0 hl
  obtain ⟨q1, q2, q3, q4, q5, q6, q7, q8, q9, q10, q11, q12, q13, q14⟩ := C0
  refine W.widen h1 h2 ?_
  exact W.dret q1 q2 (q4.trans hr) (fun t ht _ => ⟨⟨_, M, rfl, ⟨v, rfl, hF⟩, by rw [ht]; exact q13⟩, q12.F ht⟩) q12.2.2 hdg q5.1
/-- a static that is null or a reference: either way -/
theorem r_getsQ {c0 n0 d0 : String} (hdg : decode (kCode K) pc = .ok (.getstatic index, 3)) (hlk : Cond.fieldLink (kOwn K) index c0 n0 d0 ∈ lw_tbl) (hZ : ∀ {A : Nat → Prop} {U : State} {H : Heap}, eSt G A U H → va_Zq c0 n0 d0 A U H)
    (kk : ∀ r : Option Nat, Ev Z G lo n b K (pc + 3) l (va_rf r :: S) M ca sl) : Ev Z G lo n b K pc l S M ca sl := by
  intro p la e s m args below meth c A H locs ls C hl
  rcases hZ C.2.2.2.2.2.2.2.2.1 with h | ⟨t, h⟩
  · exact va_gets C.1 C.2.1 h C.2.2.2.2.2.2.2.2.2.2.2.1 C.2.2.2.2.2.1 (C.2.2.2.2.2.2.1 _ (eIn hlk rfl)) (fun x h => h) hdg (kk none p la e s m args below meth c A H locs ls C hl)
  · exact va_gets C.1 C.2.1 h C.2.2.2.2.2.2.2.2.2.2.2.1 C.2.2.2.2.2.1 (C.2.2.2.2.2.2.1 _ (eIn hlk rfl)) (fun x h => h) hdg (kk (some t) p la e s m args below meth c A H locs ls C hl)
/-- a static method of a nest mate -/
theorem r_callSNV {K' : eK} {b' : eB} {k : Nat} {host : String} {F : eM → Prop} (As : List Value) (hdg : decode (kCode K) pc = .ok (.invokestatic index, 3)) (hm : eMS K' k) (hlk : Cond.methodLinkNest (kOwn K) index (kY K') host ∈ lw_tbl) (hk : As.length = k) (hb : eFit b b' K' ca sl) (hS : (S.map fun v => v.category).sum ≤ 8)
    (hcal : Cal G lo n b' K' As M (eFV F)) (kk : ∀ (M' : eM), F M' → Ev Z G lo n b K (pc + 3) l S M' (ca + b'.2.1) (sl + b'.2.2)) {S0 : List Value} (hS0 : S0 = As.reverse ++ S) : Ev Z G lo n b K pc l S0 M ca sl := by
  subst hS0
  intro p la e s m args below meth c' A H locs ls C0 hl
  have C1 := C0
  obtain ⟨q1, q2, q3, q4, q5, q6, q7, q8, q9, q10, q11, q12, q13, q14⟩ := C1
  obtain ⟨m1, m2, m4, m5, m6, m8⟩ := hm
  exact Ev.after C0 hl (va_runSN (As := As) (rest := S) (nL := kMax K) ⟨q1, q2, q3, q6, q7⟩ (hcal la q11.1 A) ⟨va_cnB (host := host) k q7 (eGood m1 m6) rfl rfl rfl (va_Nw.of rfl (q7 _ (eIn hlk rfl))) (q7 _ (eIn m4 rfl)) m5 hb.1, q7 _ (eIn m2 rfl), trivial⟩ ⟨eI.blind, fun U hU hW => ⟨rfl, eC.pass C0 hU hW⟩⟩ rfl hk hl.1 rfl (lv_room hS) hdg hb.2) (fun v M' h => by obtain ⟨rfl, hF⟩ := h; exact kk M' hF)
end ERows2
theorem eKtx_lt {x : Int32} (h : 1 ≤ x ∧ x ≤ 44) : x.toNatClampNeg - 1 < eKtx.length := by
  obtain ⟨j, hj, rfl⟩ := eKr_nat h
  rw [nI_clamp (by omega)]
  show j + 1 - 1 < 44
  omega
theorem eFitR {d : Nat} {K' : eK} (hK : kMax K' ≤ 40) : eFit (d + 5, 0, 0) (d + 4, 0, 0) K' 0 0 := ⟨⟨Nat.le_refl _, by show 8 + (kMax K' + 11) + 64 * (d + 4) ≤ 64 * (d + 5); omega⟩, ⟨Nat.le_refl _, Nat.le_refl _⟩⟩
theorem eFitL {d j : Nat} {K' : eK} (hj : j ≤ 4) (hK : kMax K' ≤ 40) : eFit (d + 5, 0, 0) (j, 0, 0) K' 0 0 := ⟨⟨by show j + 1 ≤ d + 5; omega, by show 8 + (kMax K' + 11) + 64 * j ≤ 64 * (d + 5); omega⟩, ⟨Nat.le_refl _, Nat.le_refl _⟩⟩
theorem eTabCases {x : Int32} {lo' hi : Int} {N : Nat} {P : Prop} (h : ¬ (x.toInt < lo' ∨ hi < x.toInt)) (hN : hi - lo' + 1 = (N : Int)) (k : ∀ i : Nat, i < N → x.toInt = lo' + (i : Int) → P) : P :=
  k (x.toInt - lo').toNat (by omega) (by omega)

