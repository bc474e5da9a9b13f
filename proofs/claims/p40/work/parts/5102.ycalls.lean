section YCalls
variable {X : xX} {Z : eZt} {G : eG} {R : Room} {K : eK} {pc : Nat} {l l' : List (Nat × Value)} {S : List Value} {M : eM} {H : yH} {ca sl index : Nat}
theorem y_sval {bs k : Nat} {tx : List (List Int32)} (hA : eStA G bs tx) (hk : k < tx.length) (hdg : decode (kCode K) pc = .ok (.getfield index, 3)) (hlk : Cond.fieldLink (kOwn K) index "java/lang/String" "value" "[B" ∈ lw_tbl) (kk : Yx X Z G R K (pc + 3) l (.ref (G.1 (bs + 50 + k)) :: S) M H ca sl) : Yx X Z G R K pc l (.ref (G.1 (bs + k)) :: S) M H ca sl :=
  Yx.step (fun C _ k0 => vk_getf C.1 C.2.1 (hA C.2.2.2.2.2.2.2.2.1 k hk).2.2.1 C.2.2.2.2.2.2.2.2.2.2.2.1 C.2.2.2.2.2.1 (C.2.2.2.2.2.2.1 _ (eIn hlk rfl)) (fun x h => h) hdg k0) kk
theorem y_scod {bs k : Nat} {tx : List (List Int32)} (hA : eStA G bs tx) (hk : k < tx.length) (hdg : decode (kCode K) pc = .ok (.getfield index, 3)) (hlk : Cond.fieldLink (kOwn K) index "java/lang/String" "coder" "B" ∈ lw_tbl) (kk : Yx X Z G R K (pc + 3) l (.int 0 :: S) M H ca sl) : Yx X Z G R K pc l (.ref (G.1 (bs + k)) :: S) M H ca sl :=
  Yx.step (fun C _ k0 => vk_getf C.1 C.2.1 (hA C.2.2.2.2.2.2.2.2.1 k hk).2.1 C.2.2.2.2.2.2.2.2.2.2.2.1 C.2.2.2.2.2.1 (C.2.2.2.2.2.2.1 _ (eIn hlk rfl)) (fun x h => h) hdg k0) kk
theorem y_slen {bs k : Nat} {tx : List (List Int32)} (hA : eStA G bs tx) (hk : k < tx.length) {v : Int32} (hv : Int32.ofNat (tx.getD k []).length = v) (hdg : decode (kCode K) pc = .ok (.arraylength, 1)) (kk : Yx X Z G R K (pc + 1) l (.int v :: S) M H ca sl) : Yx X Z G R K pc l (.ref (G.1 (bs + 50 + k)) :: S) M H ca sl :=
  Yx.step (fun C _ k0 => va_tlen C.1 C.2.1 (hA C.2.2.2.2.2.2.2.2.1 k hk).2.2.2 C.2.2.2.2.2.2.2.2.2.2.2.1 hv hdg k0) kk
theorem y_sbyte {bs k : Nat} {tx : List (List Int32)} (hA : eStA G bs tx) (hk : k < tx.length) {i : Int32} (hin : vp_in i (tx.getD k []).length) (hdg : decode (kCode K) pc = .ok (.baload, 1)) (kk : Yx X Z G R K (pc + 1) l (.int ((tx.getD k []).getD i.toNatClampNeg 0) :: S) M H ca sl) : Yx X Z G R K pc l (.int i :: .ref (G.1 (bs + 50 + k)) :: S) M H ca sl :=
  Yx.step (fun C _ k0 => va_tb C.1 C.2.1 (hA C.2.2.2.2.2.2.2.2.1 k hk).2.2.2 C.2.2.2.2.2.2.2.2.2.2.2.1 hin rfl hdg k0) kk
/-- what an inherited method is called by, on a receiver of class C: x is named, K is run -/
def yMU (K : eK) (x : MethodName) (C : String) (k : Nat) : Prop := kW K ∈ lw_tbl ∧ Cond.instanceMethod (kY K) ∈ lw_tbl ∧ Cond.initialized (kY K).cls ∈ lw_tbl ∧ Cond.sameMethod x.cls x.cls x.name x.desc ∈ lw_tbl ∧ (x.cls ≠ "java/lang/invoke/MethodHandle" ∧ x.cls ≠ "java/lang/invoke/VarHandle" ∧ (parseMethodDescriptor x.desc).map (fun d => d.parameters.length) = some k) ∧ goodWord (kW K) = true ∧ (∀ (args : Array Value) (s : State), (∀ w ∈ eTbl, w.before args s = true) → va_Decl s ⟨x.cls, x.name, x.desc⟩ ∧ (Cond.selects C x (kY K)).before args s = true)
theorem y_callU (hX : yXok X) {K' : eK} {x : MethodName} {b' : eB} {As : List Value} {a ci k Nf : Nat} {fs : List Value} {C : String} {T : u_T} {ty : Nat → FieldType} {Fin : Option Value → eM → yH → Prop} (hdg : decode (kCode K) pc = .ok (.invokevirtual index, 3)) (hm : yMU K' x C k) (hlk : Cond.methodLink (kOwn K) index x ∈ lw_tbl) (hC : eCl ci C T Nf ty) (he : H a = some (.inr (ci, fs))) (hk : As.length = k) (hb : xFit R b' K' ca sl) (hS : (S.map fun v => v.category).sum ≤ 8)
    (hcal : yCal G b' K' (.ref a :: As) M H Fin) (kk : ∀ (v : Option Value) (M' : eM) (H' : yH), Fin v M' H' → Yx X Z G R K (pc + 3) l (v.toList ++ S) M' H' (ca + b'.2.1) (sl + b'.2.2)) {S0 : List Value} (hS0 : S0 = As.reverse ++ .ref a :: S) : Yx X Z G R K pc l S0 M H ca sl := fun Rr hR => by
  subst hS0
  obtain ⟨q0, hq⟩ := List.mem_iff_getElem?.mp (hR a _ he)
  intro p la e s m args below meth c' A Hh locs ls C0 hl
  have C1 := C0
  obtain ⟨q1, q2, q3, q4, q5, q6, q7, q8, q9, q10, q11, q12, q13, q14⟩ := C1
  obtain ⟨m1, m2, m3, m4, m5, m6, m7⟩ := hm
  obtain ⟨hd, hsel⟩ := m7 args s q7
  have hpay : ∀ w ∈ [kW K'], ∀ (a' : Array Value) (U : State), s.WarmedH U.vm → w.before a' U = true := pay_in q7 (eGood m1 m6)
  have hcw : va_CU R s args (kOwn K) C x.cls index x (kY K') (kCode K') (kMax K') (kRet K') [kW K'] (eR b') b'.2.1 b'.2.2 k := ⟨⟨rfl, rfl, hb.1.1, hb.1.2, hpay, List.mem_cons_self⟩, q7 _ (eGood m1 m6 _ List.mem_cons_self).1, q7 _ (eIn m3 rfl), ⟨m5.1, m5.2.1⟩, fun sig h => by
      have h2 := m5.2.2
      rw [h] at h2
      exact (Option.some.inj h2).symm, q7 _ (eIn hlk rfl), q7 _ (eIn m4 rfl), hd, hsel, q7 _ (eIn m2 rfl)⟩
  exact Ex.after C0 hl (va_runU (As := As) (rest := S) (nL := kMax K) ⟨q1, q2, q3, q6, q7⟩ (hcal Rr hR la q11.1 A) hcw ⟨xI.blind xN0_m, va_recv (q := (C, T, Nf)) q8 q13 hC.1 (q0 := 68 + q0) (yw_at hq), fun U hU hW => ⟨rfl, xC.pass xN0_m hX C0 hU hW⟩⟩ rfl hk hl.1 rfl (lv_room hS) hdg hb.2) (y_ret kk)
/-- what super's method is called by -/
def yMS (K : eK) (k : Nat) : Prop := kW K ∈ lw_tbl ∧ Cond.instanceMethod (kY K) ∈ lw_tbl ∧ Cond.initialized (kY K).cls ∈ lw_tbl ∧ Cond.sameMethod (kY K).cls (kY K).cls (kY K).name (kY K).desc ∈ lw_tbl ∧ ((kY K).name ≠ "<init>" ∧ (parseMethodDescriptor (kY K).desc).map (fun d => d.parameters.length) = some k) ∧ goodWord (kW K) = true
theorem y_callSU (hX : yXok X) {K' : eK} {b' : eB} {As : List Value} {a ci k Nf : Nat} {fs : List Value} {C : String} {T : u_T} {ty : Nat → FieldType} {Fin : Option Value → eM → yH → Prop} (hdg : decode (kCode K) pc = .ok (.invokespecial index, 3)) (hm : yMS K' k) (hlk : Cond.methodLink (kOwn K) index (kY K') ∈ lw_tbl) (hsup : Cond.superclass (kOwn K) (kY K').cls ∈ lw_tbl) (hC : eCl ci C T Nf ty) (he : H a = some (.inr (ci, fs))) (hk : As.length = k) (hb : xFit R b' K' ca sl) (hS : (S.map fun v => v.category).sum ≤ 8)
    (hcal : yCal G b' K' (.ref a :: As) M H Fin) (kk : ∀ (v : Option Value) (M' : eM) (H' : yH), Fin v M' H' → Yx X Z G R K (pc + 3) l (v.toList ++ S) M' H' (ca + b'.2.1) (sl + b'.2.2)) {S0 : List Value} (hS0 : S0 = As.reverse ++ .ref a :: S) : Yx X Z G R K pc l S0 M H ca sl := fun Rr hR => by
  subst hS0
  obtain ⟨q0, hq⟩ := List.mem_iff_getElem?.mp (hR a _ he)
  intro p la e s m args below meth c' A Hh locs ls C0 hl
  have C1 := C0
  obtain ⟨q1, q2, q3, q4, q5, q6, q7, q8, q9, q10, q11, q12, q13, q14⟩ := C1
  obtain ⟨m1, m2, m3, m4, m5, m6⟩ := hm
  have hpay : ∀ w ∈ [kW K'], ∀ (a' : Array Value) (U : State), s.WarmedH U.vm → w.before a' U = true := pay_in q7 (eGood m1 m6)
  have hcw : va_CS R s args (kOwn K) index (kY K') (kCode K') (kMax K') (kRet K') [kW K'] (eR b') b'.2.1 b'.2.2 k := ⟨⟨rfl, rfl, hb.1.1, hb.1.2, hpay, List.mem_cons_self⟩, q7 _ (eIn hlk rfl), q7 _ (eIn m4 rfl), q7 _ (eIn hsup rfl), q7 _ (eIn m2 rfl), q7 _ (eIn m3 rfl), q7 _ (eGood m1 m6 _ List.mem_cons_self).1, m5.1, fun sig h => by
      have h2 := m5.2
      rw [h] at h2
      exact (Option.some.inj h2).symm⟩
  exact Ex.after C0 hl (va_runSU (As := As) (rest := S) (nL := kMax K) (C := C) (q8.1 ci _ hC.1).2 ⟨q1, q2, q3, q6, q7⟩ (hcal Rr hR la q11.1 A) hcw ⟨xI.blind xN0_m, va_recv (q := (C, T, Nf)) q8 q13 hC.1 (q0 := 68 + q0) (yw_at hq), fun U hU hW => ⟨rfl, xC.pass xN0_m hX C0 hU hW⟩⟩ rfl hk hl.1 rfl (lv_room hS) hdg hb.2) (y_ret kk)
/-- a call of a text that is static, or of another of its own: the receiver by what is there -/
theorem y_callT (hX : yXok X) {K' : eK} {b' : eB} {As : List Value} {bs j k : Nat} {tx : List (List Int32)} {Fin : Option Value → eM → yH → Prop} (hA : eStA G bs tx) (hj : j < tx.length) (hdg : decode (kCode K) pc = .ok (.invokevirtual index, 3)) (hm : eMV K' k) (hlk : Cond.methodLink (kOwn K) index (kY K') ∈ lw_tbl) (hcn : (kY K').cls = "java/lang/String") (hk : As.length = k) (hb : xFit R b' K' ca sl) (hS : (S.map fun v => v.category).sum ≤ 8)
    (hcal : yCal G b' K' (.ref (G.1 (bs + j)) :: As) M H Fin) (kk : ∀ (v : Option Value) (M' : eM) (H' : yH), Fin v M' H' → Yx X Z G R K (pc + 3) l (v.toList ++ S) M' H' (ca + b'.2.1) (sl + b'.2.2)) {S0 : List Value} (hS0 : S0 = As.reverse ++ .ref (G.1 (bs + j)) :: S) : Yx X Z G R K pc l S0 M H ca sl := fun Rr hR => by
  subst hS0
  intro p la e s m args below meth c' A Hh locs ls C0 hl
  have C1 := C0
  obtain ⟨q1, q2, q3, q4, q5, q6, q7, q8, q9, q10, q11, q12, q13, q14⟩ := C1
  obtain ⟨m1, m2, m3, m4, m5, m6, m8⟩ := hm
  have hcw : CallW R s args (kOwn K) "java/lang/String" index (kY K') (kCode K') (kMax K') (kRet K') [kW K'] (eR b') b'.2.1 b'.2.2 k :=
    ⟨callB_of k q7 (eGood m1 m6) rfl rfl rfl (q7 _ (eIn m4 rfl)) (q7 _ (eIn hlk rfl)) m5 hb.1, q7 _ (eIn m2 rfl), by rw [← hcn]; exact q7 _ (eIn m3 rfl)⟩
  obtain ⟨cellV, g1, g2, g3, -⟩ := ((hA q9 j hj).1).kept q12.2.1
  exact Ex.after C0 hl (va_runV (As := As) (rest := S) (nL := kMax K) ⟨q1, q2, q3, q6, q7⟩ (hcal Rr hR la q11.1 A) hcw ⟨xI.blind xN0_m, ⟨cellV, g1, g2, g3⟩, fun U hU hW => ⟨rfl, xC.pass xN0_m hX C0 hU hW⟩⟩ rfl hk hl.1 rfl (lv_room hS) hdg hb.2) (y_ret kk)
/-- System.arraycopy between byte arrays -/
theorem y_copyb (hX : yXok X) {a a1 N N1 : Nat} {f g : Nat → Int32} {sp dp k : Int32} (hdg : decode (kCode K) pc = .ok (.invokestatic index, 3)) (hlk : Cond.methodLink (kOwn K) index arraycopyName ∈ lw_tbl) (he : H a = some (.inl (G.2.2.2 1, (N, .inl f)))) (he1 : H a1 = some (.inl (G.2.2.2 1, (N1, .inl g)))) (hsp : ¬ sp < 0) (hdp : ¬ dp < 0) (hk : ¬ k < 0) (hN : sp.toNatClampNeg + k.toNatClampNeg ≤ N) (hN1 : dp.toNatClampNeg + k.toNatClampNeg ≤ N1) (hfit : ∀ i, i < k.toNatClampNeg → fits .byte (.int (f (sp.toNatClampNeg + i))) = true) (hb : 1 ≤ R.frames ∧ 60 ≤ R.locals) (hS : (S.map fun v => v.category).sum ≤ 8)
    (kk : Yx X Z G R K (pc + 3) l S M (yU H a1 (.inl (G.2.2.2 1, (N1, .inl (va_cpy f g sp.toNatClampNeg dp.toNatClampNeg k.toNatClampNeg))))) ca sl) : Yx X Z G R K pc l (.int k :: .int dp :: .ref a1 :: .int sp :: .ref a :: S) M H ca sl := fun Rr hR => by
  obtain ⟨i0, hi0⟩ := List.mem_iff_getElem?.mp (hR a _ he)
  obtain ⟨i1, hi1⟩ := List.mem_iff_getElem?.mp (hR a1 _ he1)
  intro p la e s m args below meth c' A Hh locs ls C0 hl
  obtain ⟨q1, q2, q3, q4, q5, q6, q7, q8, q9, q10, q11, q12, q13, q14⟩ := C0
  refine va_copyi q1 q2 (q3.trans hl.1.symm) q6 (q7 _ (eIn hlk rfl)) (q7 _ (eIn eCy_n rfl)) (q7 _ (eIn eCy_s rfl)) (q7 _ (eIn eCy_i rfl)) q8 q13 q14 q12 (68 + i0) (68 + i1) 1 1 (f := f) (g := g) (ty := .byte) (yw_at hi0) (yw_at hi1) rfl rfl rfl hsp hdp hk hN hN1 hfit hb.1 ?_ hdg (fun H1 locs1 hP hD hS1 => ?_)
  · have : nativeFrameWords "java/lang/System" "arraycopy" 5 ≤ 40 := by decide +kernel
    omega
  · rw [yw_set] at hP hD
    exact kk _ (hR.set hi1 _) p la e s m args below meth c' A H1 locs1 ls ⟨q1, q2, q3, q4, q5, q6, q7, q8, q9, q10, q11, hS1, hP, hD⟩ hl
/-- out of a static text's bytes -/
theorem y_copyt (hX : yXok X) {bs j a1 N1 : Nat} {tx : List (List Int32)} {g : Nat → Int32} {sp dp k : Int32} (hA : eStA G bs tx) (hj : j < tx.length) (hdg : decode (kCode K) pc = .ok (.invokestatic index, 3)) (hlk : Cond.methodLink (kOwn K) index arraycopyName ∈ lw_tbl) (he1 : H a1 = some (.inl (G.2.2.2 1, (N1, .inl g)))) (hsp : ¬ sp < 0) (hdp : ¬ dp < 0) (hk : ¬ k < 0) (hN : sp.toNatClampNeg + k.toNatClampNeg ≤ (tx.getD j []).length) (hN1 : dp.toNatClampNeg + k.toNatClampNeg ≤ N1) (hfit : ∀ i, i < k.toNatClampNeg → fits .byte (.int ((tx.getD j []).getD (sp.toNatClampNeg + i) 0)) = true) (hb : 1 ≤ R.frames ∧ 60 ≤ R.locals) (hS : (S.map fun v => v.category).sum ≤ 8)
    (kk : Yx X Z G R K (pc + 3) l S M (yU H a1 (.inl (G.2.2.2 1, (N1, .inl (va_cpy (fun i => (tx.getD j []).getD i 0) g sp.toNatClampNeg dp.toNatClampNeg k.toNatClampNeg))))) ca sl) : Yx X Z G R K pc l (.int k :: .int dp :: .ref a1 :: .int sp :: .ref (G.1 (bs + 50 + j)) :: S) M H ca sl := fun Rr hR => by
  obtain ⟨i1, hi1⟩ := List.mem_iff_getElem?.mp (hR a1 _ he1)
  intro p la e s m args below meth c' A Hh locs ls C0 hl
  obtain ⟨q1, q2, q3, q4, q5, q6, q7, q8, q9, q10, q11, q12, q13, q14⟩ := C0
  refine vk_copyt q1 q2 (q3.trans hl.1.symm) q6 (q7 _ (eIn hlk rfl)) (q7 _ (eIn eCy_n rfl)) (q7 _ (eIn eCy_s rfl)) (q7 _ (eIn eCy_i rfl)) q8 q13 q14 q12 (hA q9 j hj).2.2.2 (68 + i1) 1 (g := g) (yw_at hi1) rfl hsp hdp hk hN hN1 hfit hb.1 ?_ hdg (fun H1 locs1 hP hD hS1 => ?_)
  · have : nativeFrameWords "java/lang/System" "arraycopy" 5 ≤ 40 := by decide +kernel
    omega
  · rw [yw_set] at hP hD
    exact kk _ (hR.set hi1 _) p la e s m args below meth c' A H1 locs1 ls ⟨q1, q2, q3, q4, q5, q6, q7, q8, q9, q10, q11, hS1, hP, hD⟩ hl
theorem yB_nm {s : State} (hK : va_K (eD G) vwCl (eTy G) s) : s.vm.findClass "[B" = some (G.2.2.2 1) := (hK.2 1 (G.2.2.2 1, .byte) rfl).2
/-- a byte array's clone -/
theorem y_cloneb (hX : yXok X) {a N : Nat} {f : Nat → Int32} (hdg : decode (kCode K) pc = .ok (.invokevirtual index, 3)) (hlk : Cond.methodLink (kOwn K) index ⟨"[B", "clone", "()Ljava/lang/Object;"⟩ ∈ lw_tbl) (he : H a = some (.inl (G.2.2.2 1, (N, .inl f)))) (hfit : ∀ j, fits .byte (.int (f j)) = true) (hb : (1 ≤ R.frames ∧ 60 ≤ R.locals) ∧ ca + 1 ≤ R.cells ∧ sl + N ≤ R.slots) (hS : (S.map fun v => v.category).sum ≤ 8)
    (kk : ∀ q : Nat, H q = none → Yx X Z G R K (pc + 3) l (.ref q :: S) M (yU H q (.inl (G.2.2.2 1, (N, .inl f)))) (ca + 1) (sl + N)) : Yx X Z G R K pc l (.ref a :: S) M H ca sl := fun Rr hR => by
  obtain ⟨i0, hi0⟩ := List.mem_iff_getElem?.mp (hR a _ he)
  intro p la e s m args below meth c' A Hh locs ls C0 hl
  obtain ⟨q1, q2, q3, q4, q5, q6, q7, q8, q9, q10, q11, q12, q13, q14⟩ := C0
  refine va_clone q1 q2 (q3.trans hl.1.symm) q6 (q7 _ (eIn hlk rfl)) (q7 _ (eIn (tb6 _ (List.mem_of_getElem? (i := 165) rfl)) rfl)) (q7 _ (eIn (tb6 _ (List.mem_of_getElem? (i := 166) rfl)) rfl)) (q7 _ (eIn (tb6 _ (List.mem_of_getElem? (i := 167) rfl)) rfl)) (q7 _ (eIn (tb6 _ (List.mem_of_getElem? (i := 168) rfl)) rfl)) (va_Nw.of rfl (q7 _ (eIn (tb6 _ (List.mem_of_getElem? (i := 169) rfl)) rfl))) q8 q13 q14 q12 q10 (68 + i0) 1 (x := (N, .inl f)) (yw_at hi0) rfl (yB_nm q8) (fun i v hv => ?_) hb.1.1 (by omega) hb.2.1 hb.2.2 hdg (fun q H1 hK hP hD hS1 => y_made hR (kk q) p la e s m args below meth c' A H1 locs ls ⟨q1, q2, q3, q4, q5, q6, q7, q8, q9, q10, q11, hS1, hP, hD⟩ hl)
  have hlt : i < N := by
    have := (Array.getElem?_eq_some_iff.mp hv).1
    rwa [show (vp_cell (G.2.2.2 1) (N, .inl f)).slots.size = N from arrV_size _ _ _] at this
  rw [show (vp_cell (G.2.2.2 1) (N, .inl f)).slots[i]? = some (.int (f i)) from arrV_read _ _ hlt] at hv
  cases hv
  exact hfit i
theorem y_castb {a : Nat} {x : vp_A} (hdg : decode (kCode K) pc = .ok (.checkcast index, 3)) (hlk : Cond.classLink (kOwn K) index "[B" ∈ lw_tbl) (he : H a = some (.inl (G.2.2.2 1, x)))
    (kk : Yx X Z G R K (pc + 3) l (.ref a :: S) M H ca sl) : Yx X Z G R K pc l (.ref a :: S) M H ca sl := fun Rr hR => by
  obtain ⟨i0, hi0⟩ := List.mem_iff_getElem?.mp (hR a _ he)
  intro p la e s m args below meth c' A Hh locs ls C0 hl
  have C1 := C0
  obtain ⟨q1, q2, q3, q4, q5, q6, q7, q8, q9, q10, q11, q12, q13, q14⟩ := C1
  exact va_castA q1 q2 q6 (q7 _ (eIn hlk rfl)) q13 (68 + i0) (x := x) (yw_at hi0) (yB_nm q8) hdg (kk Rr hR p la e s m args below meth c' A Hh locs ls C0 hl)
end YCalls
theorem y_selP {y : MethodName} (hc : y.cls = "java/lang/AbstractStringBuilder") {args : Array Value} {s : State} (hl : (Cond.selects "java/lang/StringBuilder" ⟨"java/lang/AbstractStringBuilder", "isLatin1", "()Z"⟩ ⟨"java/lang/AbstractStringBuilder", "isLatin1", "()Z"⟩).before args s = true) (hp : (Cond.privateMethod y).before args s = true) (hi : (Cond.instanceMethod y).before args s = true) : (Cond.selects "java/lang/StringBuilder" y y).before args s = true := by
  obtain ⟨c2, r2, m2, q1, q2, q3, q4, kP, hkP, hkPi⟩ := Cond.selects_spec hl
  obtain ⟨mk, methM, hnamed, hmethM, -, -⟩ := Cond.instanceMethod_spec hi
  have hfound : s.methodFound? y.cls y.name y.desc = some mk := State.methodFound?_of_named hnamed ⟨by rw [hc]; decide +kernel, by rw [hc]; decide +kernel⟩
  have h1 := findClass_of_methodNamed hnamed
  have h2 := findClass_of_methodNamed q3
  rw [hc] at h1
  have hcls : mk.cls = m2.cls := Option.some.inj (h1.symm.trans h2)
  have hsel : selectMethod {} s.vm c2 mk = .method mk := selectMethod_private hmethM (Cond.privateMethod_at hp mk methM hnamed hmethM)
  rw [← hcls] at hkP
  simp only [Cond.before, Cond.holds, Cond.value, q1, hfound, hnamed, hsel, hkP]
  simp; exact hkPi
theorem muJ5_ensureCapacityInternal_d00df : yMU kJ5_ensureCapacityInternal_d00df yJ5_ensureCapacityInternal_d00df "java/lang/StringBuilder" 1 := ⟨tb6 _ (List.mem_of_getElem? (i := 147) rfl), tb6 _ (List.mem_of_getElem? (i := 146) rfl), tb1 _ (List.mem_of_getElem? (i := 15) rfl), tb7 _ (List.mem_of_getElem? (i := 224) rfl), by decide +kernel, by decide +kernel, fun args s h => ⟨va_Decl.of (h _ (eIn (tb6 _ (List.mem_of_getElem? (i := 146) rfl)) rfl)) (h _ (eIn (show kW kJ5_ensureCapacityInternal_d00df ∈ lw_tbl from tb6 _ (List.mem_of_getElem? (i := 147) rfl)) rfl)), h _ (eIn (show Cond.selects "java/lang/StringBuilder" yJ5_ensureCapacityInternal_d00df yJ5_ensureCapacityInternal_d00df ∈ lw_tbl from List.mem_append_right _ (List.mem_append_left _ (List.mem_of_getElem? (i := 0) rfl))) rfl)⟩⟩
theorem muJ5_newCapacity_0f7a4 : yMU kJ5_newCapacity_0f7a4 yJ5_newCapacity_0f7a4 "java/lang/StringBuilder" 1 := ⟨tb6 _ (List.mem_of_getElem? (i := 151) rfl), tb6 _ (List.mem_of_getElem? (i := 150) rfl), tb1 _ (List.mem_of_getElem? (i := 15) rfl), tb7 _ (List.mem_of_getElem? (i := 225) rfl), by decide +kernel, by decide +kernel, fun args s h => ⟨va_Decl.of (h _ (eIn (tb6 _ (List.mem_of_getElem? (i := 150) rfl)) rfl)) (h _ (eIn (show kW kJ5_newCapacity_0f7a4 ∈ lw_tbl from tb6 _ (List.mem_of_getElem? (i := 151) rfl)) rfl)), h _ (eIn (show Cond.selects "java/lang/StringBuilder" yJ5_newCapacity_0f7a4 yJ5_newCapacity_0f7a4 ∈ lw_tbl from List.mem_append_right _ (List.mem_append_left _ (List.mem_of_getElem? (i := 1) rfl))) rfl)⟩⟩
theorem muJ5_putStringAt_47b60 : yMU kJ5_putStringAt_47b60 yJ5_putStringAt_47b60 "java/lang/StringBuilder" 2 := ⟨tb6 _ (List.mem_of_getElem? (i := 198) rfl), tb6 _ (List.mem_of_getElem? (i := 197) rfl), tb1 _ (List.mem_of_getElem? (i := 15) rfl), tb7 _ (List.mem_of_getElem? (i := 226) rfl), by decide +kernel, by decide +kernel, fun args s h => ⟨va_Decl.of (h _ (eIn (tb6 _ (List.mem_of_getElem? (i := 197) rfl)) rfl)) (h _ (eIn (show kW kJ5_putStringAt_47b60 ∈ lw_tbl from tb6 _ (List.mem_of_getElem? (i := 198) rfl)) rfl)), h _ (eIn (show Cond.selects "java/lang/StringBuilder" yJ5_putStringAt_47b60 yJ5_putStringAt_47b60 ∈ lw_tbl from List.mem_append_right _ (List.mem_append_left _ (List.mem_of_getElem? (i := 2) rfl))) rfl)⟩⟩
theorem muJ5_inflateIfNeededFor_a7421 : yMU kJ5_inflateIfNeededFor_a7421 yJ5_inflateIfNeededFor_a7421 "java/lang/StringBuilder" 1 := ⟨tb6 _ (List.mem_of_getElem? (i := 202) rfl), tb6 _ (List.mem_of_getElem? (i := 201) rfl), tb1 _ (List.mem_of_getElem? (i := 15) rfl), tb7 _ (List.mem_of_getElem? (i := 227) rfl), by decide +kernel, by decide +kernel, fun args s h => ⟨va_Decl.of (h _ (eIn (tb6 _ (List.mem_of_getElem? (i := 201) rfl)) rfl)) (h _ (eIn (show kW kJ5_inflateIfNeededFor_a7421 ∈ lw_tbl from tb6 _ (List.mem_of_getElem? (i := 202) rfl)) rfl)), h _ (eIn (show Cond.selects "java/lang/StringBuilder" yJ5_inflateIfNeededFor_a7421 yJ5_inflateIfNeededFor_a7421 ∈ lw_tbl from List.mem_append_right _ (List.mem_append_left _ (List.mem_of_getElem? (i := 3) rfl))) rfl)⟩⟩
theorem muJ5_isLatin1_aae02 : yMU kJ5_isLatin1_aae02 yJ5_isLatin1_aae02 "java/lang/StringBuilder" 0 := ⟨tb6 _ (List.mem_of_getElem? (i := 177) rfl), tb6 _ (List.mem_of_getElem? (i := 174) rfl), tb1 _ (List.mem_of_getElem? (i := 15) rfl), tb6 _ (List.mem_of_getElem? (i := 175) rfl), by decide +kernel, by decide +kernel, fun args s h => ⟨va_Decl.of (h _ (eIn (tb6 _ (List.mem_of_getElem? (i := 174) rfl)) rfl)) (h _ (eIn (show kW kJ5_isLatin1_aae02 ∈ lw_tbl from tb6 _ (List.mem_of_getElem? (i := 177) rfl)) rfl)), h _ (eIn (tb6 _ (List.mem_of_getElem? (i := 176) rfl)) rfl)⟩⟩
theorem muJ5_getValue_6d5f1 : yMU kJ5_getValue_6d5f1 yJ5_getValue_6d5f1 "java/lang/StringBuilder" 0 := ⟨tb7 _ (List.mem_of_getElem? (i := 133) rfl), tb7 _ (List.mem_of_getElem? (i := 130) rfl), tb1 _ (List.mem_of_getElem? (i := 15) rfl), tb7 _ (List.mem_of_getElem? (i := 131) rfl), by decide +kernel, by decide +kernel, fun args s h => ⟨va_Decl.of (h _ (eIn (tb7 _ (List.mem_of_getElem? (i := 130) rfl)) rfl)) (h _ (eIn (show kW kJ5_getValue_6d5f1 ∈ lw_tbl from tb7 _ (List.mem_of_getElem? (i := 133) rfl)) rfl)), h _ (eIn (tb7 _ (List.mem_of_getElem? (i := 132) rfl)) rfl)⟩⟩
theorem muJ4_length_8abf5 : yMU kJ4_length_8abf5 yJ5_length_8abf5 "java/lang/StringBuilder" 0 := ⟨tb7 _ (List.mem_of_getElem? (i := 139) rfl), tb7 _ (List.mem_of_getElem? (i := 138) rfl), tb1 _ (List.mem_of_getElem? (i := 16) rfl), tb7 _ (List.mem_of_getElem? (i := 136) rfl), by decide +kernel, by decide +kernel, fun args s h => ⟨va_Decl.of (h _ (eIn (tb7 _ (List.mem_of_getElem? (i := 135) rfl)) rfl)) (h _ (eIn (show kW kJ5_length_8abf5 ∈ lw_tbl from tb7 _ (List.mem_of_getElem? (i := 141) rfl)) rfl)), h _ (eIn (tb7 _ (List.mem_of_getElem? (i := 137) rfl)) rfl)⟩⟩
theorem msJ5_append_cf1ce : yMS kJ5_append_cf1ce 1 := ⟨tb6 _ (List.mem_of_getElem? (i := 139) rfl), tb6 _ (List.mem_of_getElem? (i := 138) rfl), tb1 _ (List.mem_of_getElem? (i := 15) rfl), tb7 _ (List.mem_of_getElem? (i := 222) rfl), by decide +kernel, by decide +kernel⟩
theorem msJ5_append_c97b9 : yMS kJ5_append_c97b9 1 := ⟨tb7 _ (List.mem_of_getElem? (i := 2) rfl), tb7 _ (List.mem_of_getElem? (i := 1) rfl), tb1 _ (List.mem_of_getElem? (i := 15) rfl), tb7 _ (List.mem_of_getElem? (i := 229) rfl), by decide +kernel, by decide +kernel⟩
theorem msJ5_length_8abf5 : yMS kJ5_length_8abf5 0 := ⟨tb7 _ (List.mem_of_getElem? (i := 141) rfl), tb7 _ (List.mem_of_getElem? (i := 135) rfl), tb1 _ (List.mem_of_getElem? (i := 15) rfl), tb7 _ (List.mem_of_getElem? (i := 136) rfl), by decide +kernel, by decide +kernel⟩
theorem ySup : Cond.superclass "java/lang/StringBuilder" "java/lang/AbstractStringBuilder" ∈ lw_tbl := tb6 _ (List.mem_of_getElem? (i := 137) rfl)
theorem miJ4_init_da8c8 : eMI kJ4_init_da8c8 0 := ⟨tb7 _ (List.mem_of_getElem? (i := 88) rfl), tb7 _ (List.mem_of_getElem? (i := 87) rfl), tb1 _ (List.mem_of_getElem? (i := 16) rfl), by decide +kernel, rfl, rfl⟩
theorem miJ5_init_d00df : eMI kJ5_init_d00df 1 := ⟨tb7 _ (List.mem_of_getElem? (i := 91) rfl), tb7 _ (List.mem_of_getElem? (i := 90) rfl), tb1 _ (List.mem_of_getElem? (i := 15) rfl), by decide +kernel, rfl, rfl⟩
theorem miJ0_init_81219 : eMI kJ0_init_81219 1 := ⟨tb7 _ (List.mem_of_getElem? (i := 124) rfl), tb7 _ (List.mem_of_getElem? (i := 123) rfl), tb1 _ (List.mem_of_getElem? (i := 17) rfl), by decide +kernel, rfl, rfl⟩
theorem miJ0_init_db425 : eMI kJ0_init_db425 2 := ⟨tb7 _ (List.mem_of_getElem? (i := 127) rfl), tb7 _ (List.mem_of_getElem? (i := 126) rfl), tb1 _ (List.mem_of_getElem? (i := 17) rfl), by decide +kernel, rfl, rfl⟩
theorem miX11_init : eMI kX11_init 1 := ⟨tb4 _ (List.mem_of_getElem? (i := 120) rfl), tb4 _ (List.mem_of_getElem? (i := 119) rfl), tb1 _ (List.mem_of_getElem? (i := 14) rfl), by decide +kernel, rfl, rfl⟩
theorem miX12_init : eMI kX12_init 0 := ⟨tb6 _ (List.mem_of_getElem? (i := 98) rfl), tb6 _ (List.mem_of_getElem? (i := 97) rfl), tb1 _ (List.mem_of_getElem? (i := 19) rfl), by decide +kernel, rfl, rfl⟩
theorem miX13_init : eMI kX13_init 4 := ⟨tb7 _ (List.mem_of_getElem? (i := 39) rfl), tb7 _ (List.mem_of_getElem? (i := 38) rfl), tb1 _ (List.mem_of_getElem? (i := 27) rfl), by decide +kernel, rfl, rfl⟩
theorem miX14_init : eMI kX14_init 2 := ⟨tb7 _ (List.mem_of_getElem? (i := 31) rfl), tb7 _ (List.mem_of_getElem? (i := 30) rfl), tb1 _ (List.mem_of_getElem? (i := 26) rfl), by decide +kernel, rfl, rfl⟩
theorem lJ7_clone : Cond.methodLink RJ7 310 ⟨"[B", "clone", "()Ljava/lang/Object;"⟩ ∈ lw_tbl := tb6 _ (List.mem_of_getElem? (i := 164) rfl)
theorem lJ7_cast : Cond.classLink RJ7 311 "[B" ∈ lw_tbl := tb6 _ (List.mem_of_getElem? (i := 170) rfl)
