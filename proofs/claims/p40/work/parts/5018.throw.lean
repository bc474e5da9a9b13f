/-! ===== methods that throw: the road of the throw ===== -/
def eXC (G : eG) (lo n : Nat) (A : Nat → Prop) (E : String) (M : eM) : String → State → State → Prop := fun E' st t => E' = E ∧ va_P (eD G) vwCl (eW G lo n M) t.heap ∧ va_F A st t
abbrev eNo : Array Value → State → Outcome → State → Prop := fun _ _ _ _ => False
abbrev eZX (G : eG) (lo n mc ms : Nat) (E : String) (M : eM) : eZt := fun below args s A => vx_MQ below eNo (eXC G lo n A E M) args s mc ms A
/-- at these arguments and this memory the method throws an object of class E, and the memory is as it was -/
def CalX (G : eG) (lo n : Nat) (b : eB) (K : eK) (av : List Value) (M : eM) (E : String) : Prop :=
  ∀ (la : Launch), la.flags = flags0 → ∀ (A : Nat → Prop), vx_Met la (kY K) [kW K] (eR b) (va_Pc av (eI G A lo n M)) eNo (eXC G lo n A E M) b.2.1 b.2.2 A
theorem CalX.of {G : eG} {lo n : Nat} {b : eB} {K : eK} {av : List Value} {M : eM} {E : String} (hpl : plainName (kY K).cls = true) (hown : kOwn K = (kY K).cls) (hlen : (lg_sl av).length ≤ kMax K)
    (body : Ev (eZX G lo n b.2.1 b.2.2 E M) G lo n b K 0 (lv_args 0 av) [] M 0 0) : CalX G lo n b K av M E := by
  intro la hfl A
  refine vx_ofW (cc := kCode K) (maxL := kMax K) (ret := kRet K) hpl rfl ?_
  intro p e s m args below meth c s₁ B hml _ hv
  obtain ⟨rfl, h1, h2, h3, h4, h5, h6⟩ := hv
  rw [lg_entry_eq]
  exact body p la e s m _ below meth c A s.heap [] _ ⟨B.exec, B.bytes, hml, B.returns, ⟨B.notSynchronized, eNoExc B⟩, by rw [hown]; exact findClass_of_methodNamed B.named, h1.1.at _, h2, h3, h4, ⟨hfl, h1.2⟩, va_S.rf, h5, h6⟩ (lv_entry av hlen)
theorem eFlags {la : Launch} (h : la.flags = flags0) : la.stackTraces = false := by
  unfold Launch.stackTraces
  rw [h]
  decide +kernel
theorem eNoCov {c : Code} (h : c.exceptionTable.isEmpty = true) (pc : Nat) : ∀ x ∈ c.exceptionTable.toList, covers x pc = false := by
  intro x hx
  have h1 : c.exceptionTable = #[] := by simpa using h
  rw [h1] at hx
  simp at hx
section EThrow
variable {G : eG} {lo n : Nat} {b : eB} {K : eK} {pc : Nat} {l : List (Nat × Value)} {S : List Value} {M : eM} {ca sl mc ms : Nat} {E text : String}
/-- the words of such a throw, all of the tables -/
def eThW (own : String) (ik ic : Nat) (cls : String) : Prop := (∀ w ∈ vx_atS own ic cls ["java/lang/RuntimeException", "java/lang/Exception"], w ∈ lw_tbl ∧ eOk w = true) ∧ Cond.classLink own ik cls ∈ lw_tbl ∧ Cond.initialized cls ∈ lw_tbl ∧ Bundle.fit cls = true ∧ (∀ w ∈ Cond.classLink own ik cls :: Cond.initialized cls :: vx_atS own ic cls ["java/lang/RuntimeException", "java/lang/Exception"], vx_ot w = true)
theorem eThN : ∀ x ∈ (["java/lang/RuntimeException", "java/lang/Exception"] : List String), Bundle.fit x = true := by decide +kernel
theorem r_throwS {ik ic is j : Nat} (hw : eThW (kOwn K) ik ic E) (hmsg : (kOwn K, is, text, j) ∈ eMsg) (d0 : decode (kCode K) pc = .ok (.new ik, 3)) (d3 : decode (kCode K) (pc + 3) = .ok (.dup, 1)) (d4 : decode (kCode K) (pc + 4) = .ok (.ldc is, 2)) (d6 : decode (kCode K) (pc + 6) = .ok (.invokespecial ic, 3)) (d9 : decode (kCode K) (pc + 9) = .ok (.athrow, 1))
    (hb : 6 ≤ b.1 ∧ ca + 1 ≤ b.2.1 ∧ sl + 6 ≤ b.2.2) (hS : (S.map fun v => v.category).sum ≤ 8) (hc : ca + 1 ≤ mc) (hs : sl + 6 ≤ ms) : Ev (eZX G lo n mc ms E M) G lo n b K pc l S M ca sl := by
  intro p la e s m args below meth c A H locs ls C hl
  obtain ⟨q1, q2, q3, q4, q5, q6, q7, q8, q9, q10, q11, q12, q13, q14⟩ := C
  obtain ⟨w1, w2, w3, w4, w5⟩ := hw
  exact vx_throwS q1 q2 (eFlags q11.1) q6 w4 eThN (q7 _ (eIn w2 rfl)) (q7 _ (eIn w3 rfl)) (q11.2 _ (List.mem_append_left _ hmsg)) (fun w hw => q7 _ (eIn (w1 w hw).1 (w1 w hw).2)) w5 q9.2.2.2.2.2.2.2.2.2.2.2.2.2.1 q9.2.2.2.2.2.2.2.2.2.2.2.2.2.2.1 q12 (hl.1.trans q3.symm) d0 d3 d4 d6 d9 (eNoCov q5.2 _) (by show 2 + 3 < b.1; omega) (by show _ + (13 * (2 + 1) + 43) ≤ 64 * b.1; omega) hb.2.1 hb.2.2 q5.1
    (fun t hvm hz hk => ⟨rfl, q13.kept (fun k q hq => hk q.1 (q13 k q hq).lt), ⟨Nat.le_trans q12.1 hz, fun q h1 h2 => by rw [hk q (Nat.lt_of_lt_of_le h1 q12.1)]; exact q12.2.1 q h1 h2⟩⟩) q12.2.2 hc hs
theorem r_throwSW {ik ic is j : Nat} (hw : eThW (kOwn K) ik ic E) (hmsg : (kOwn K, is, text, j) ∈ eMsg) (d0 : decode (kCode K) pc = .ok (.new ik, 3)) (d3 : decode (kCode K) (pc + 3) = .ok (.dup, 1)) (d4 : decode (kCode K) (pc + 4) = .ok (.ldc_w is, 3)) (d6 : decode (kCode K) (pc + 7) = .ok (.invokespecial ic, 3)) (d9 : decode (kCode K) (pc + 10) = .ok (.athrow, 1))
    (hb : 6 ≤ b.1 ∧ ca + 1 ≤ b.2.1 ∧ sl + 6 ≤ b.2.2) (hS : (S.map fun v => v.category).sum ≤ 8) (hc : ca + 1 ≤ mc) (hs : sl + 6 ≤ ms) : Ev (eZX G lo n mc ms E M) G lo n b K pc l S M ca sl := by
  intro p la e s m args below meth c A H locs ls C hl
  obtain ⟨q1, q2, q3, q4, q5, q6, q7, q8, q9, q10, q11, q12, q13, q14⟩ := C
  obtain ⟨w1, w2, w3, w4, w5⟩ := hw
  exact vx_throwSW q1 q2 (eFlags q11.1) q6 w4 eThN (q7 _ (eIn w2 rfl)) (q7 _ (eIn w3 rfl)) (q11.2 _ (List.mem_append_left _ hmsg)) (fun w hw => q7 _ (eIn (w1 w hw).1 (w1 w hw).2)) w5 q9.2.2.2.2.2.2.2.2.2.2.2.2.2.1 q9.2.2.2.2.2.2.2.2.2.2.2.2.2.2.1 q12 (hl.1.trans q3.symm) d0 d3 d4 d6 d9 (eNoCov q5.2 _) (by show 2 + 3 < b.1; omega) (by show _ + (13 * (2 + 1) + 43) ≤ 64 * b.1; omega) hb.2.1 hb.2.2 q5.1
    (fun t hvm hz hk => ⟨rfl, q13.kept (fun k q hq => hk q.1 (q13 k q hq).lt), ⟨Nat.le_trans q12.1 hz, fun q h1 h2 => by rw [hk q (Nat.lt_of_lt_of_le h1 q12.1)]; exact q12.2.1 q h1 h2⟩⟩) q12.2.2 hc hs
/-- a call of a method that throws: it goes on to the caller -/
theorem r_callXV {K' : eK} {b' : eB} {As : List Value} {index c ci k : Nat} {cs : List Nat} {C : String} {T : u_T} {N : Nat} {ty : Nat → FieldType} (hdg : decode (kCode K) pc = .ok (.invokevirtual index, 3)) (hm : eMV K' k) (hlk : Cond.methodLink (kOwn K) index (kY K') ∈ lw_tbl) (hC : eCl ci C T N ty) (hcn : (kY K').cls = C) (hc : lo ≤ c ∧ c < lo + n) (hs : esh c = .inr (ci, cs)) (hk : As.length = k) (hb : eFit b b' K' ca sl) (hS : (S.map fun v => v.category).sum ≤ 8) (hmc : ca + b'.2.1 ≤ mc) (hms : sl + b'.2.2 ≤ ms)
    (hcal : CalX G lo n b' K' (.ref (G.1 c) :: As) M E) {S0 : List Value} (hS0 : S0 = As.reverse ++ .ref (G.1 c) :: S) : Ev (eZX G lo n mc ms E M) G lo n b K pc l S0 M ca sl := by
  subst hS0
  intro p la e s m args below meth c' A H locs ls C0 hl
  have C1 := C0
  obtain ⟨q1, q2, q3, q4, q5, q6, q7, q8, q9, q10, q11, q12, q13, q14⟩ := C1
  obtain ⟨m1, m2, m3, m4, m5, m6, m8⟩ := hm
  have hcw : CallW (eR b) s args (kOwn K) C index (kY K') (kCode K') (kMax K') (kRet K') [kW K'] (eR b') b'.2.1 b'.2.2 k :=
    ⟨callB_of k q7 (eGood m1 m6) rfl rfl rfl (q7 _ (eIn m4 rfl)) (q7 _ (eIn hlk rfl)) m5 hb.1, q7 _ (eIn m2 rfl), by rw [← hcn]; exact q7 _ (eIn m3 rfl)⟩
  have hr := vx_runV (As := As) (rest := S) (nL := kMax K) (g := F0 m pc ls (As.reverse ++ .ref (G.1 c) :: S)) (slots := sl) (cells := ca) (below := below) (meth := meth) (e := e) (locs := locs) ⟨q1, q2, q3, q6, q7⟩ (hcal la q11.1 A) hcw ⟨eI.blind, va_recv (q := (C, T, N)) q8 q13 hC.1 (q0 := c - lo) (by rw [eW_get hc, hs]; rfl), fun U hU hW => ⟨rfl, eC.pass C0 hU hW⟩⟩ rfl hk hl.1 rfl (lv_room hS) hdg hb.2
  intro T0 hT X
  rcases hr T0 hT X with ⟨v, st₀, t, T', L, h0, X', hL, e1, e2, hno, st⟩ | ⟨q, st₀, t, T', L, E', ce, h0, X', hL, e1, e2, ⟨hE, hP1, hz, hk1⟩, hce, hcv, hcl, st⟩
  · exact hno.elim
  · subst hE
    rw [h0] at hz hk1
    have hF : va_F A s T' := ⟨Nat.le_trans q12.1 (by rw [e1]; exact hz), fun q h1 h2 => by rw [e1, hk1 q (Nat.lt_of_lt_of_le h1 q12.1) h2]; exact q12.2.1 q h1 h2⟩
    have hw := vx_out (l := la) (R := eR b) (p := p) (e := e) (s := s) (m := m) (args := args) (below := below) (meth := meth) (c := c') (H := T'.heap) (locs := locs ++ L) (cells := ca + b'.2.1) (slots := sl + b'.2.2) (ls := ls) (rest := S) (Qc := eNo) (XC := eXC G lo n A E' M) (free := A) (pc := pc) (ce := ce) (q := q) (mc := mc) (ms := ms) (eNoCov q5.2 pc) q5.1 (by rw [e1]; exact hce) hcv hcl
      (fun t2 ht2 _ => ⟨rfl, by rw [ht2, e1]; exact hP1, ⟨by rw [ht2]; exact hF.1, fun q h1 h2 => by rw [ht2]; exact hF.2 q h1 h2⟩⟩)
      (fun z hz => by
        rcases List.mem_append.mp hz with h | h
        · exact q12.2.2 z h
        · exact hL z h) hmc hms
    obtain ⟨t2, a1, b1⟩ := hw T' rfl X'
    exact ⟨t2, st.trans a1, b1⟩
end EThrow
def eMsgJ (i : Nat) : Nat := ((eMsg.find? (fun q => q.2.1 == i)).getD ("", 0, "", 0)).2.2.2
set_option maxRecDepth 100000 in
theorem eTh_ISE : eThW RX10 72 76 "java/lang/IllegalStateException" := ⟨by decide +kernel, tb3 _ (List.mem_of_getElem? (i := 48) rfl), tb1 _ (List.mem_of_getElem? (i := 31) rfl), by decide +kernel, by decide +kernel⟩
set_option maxRecDepth 100000 in
theorem eTh_IAE : eThW RX10 86 90 "java/lang/IllegalArgumentException" := ⟨by decide +kernel, tb3 _ (List.mem_of_getElem? (i := 190) rfl), tb1 _ (List.mem_of_getElem? (i := 32) rfl), by decide +kernel, by decide +kernel⟩
set_option maxRecDepth 100000 in
theorem eTh_IOE : eThW RX10 283 287 "java/lang/IndexOutOfBoundsException" := ⟨by decide +kernel, tb2 _ (List.mem_of_getElem? (i := 213) rfl), tb1 _ (List.mem_of_getElem? (i := 34) rfl), by decide +kernel, by decide +kernel⟩

