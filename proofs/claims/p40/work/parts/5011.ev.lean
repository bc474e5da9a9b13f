/-! ===== Ev: the machine at one place of a method, over the world of fixed cells ===== -/
/-- frames, cells, slots -/
abbrev eB : Type := Nat × Nat × Nat
abbrev eR (b : eB) : Room := { frames := b.1, cells := b.2.1, slots := b.2.2, locals := 64 * b.1 }
def eC (G : eG) (lo n : Nat) (K : eK) (p : Program) (la : Launch) (s : State) (m : MethodId) (args : Array Value) (meth : Method) (c : Code) (A : Nat → Prop) (M : eM) (H : Heap) (locs : List Loc) : Prop :=
  p.tables.exec = Jvm.exec ∧ c.code = kCode K ∧ c.maxLocals = kMax K ∧ meth.sig.returnType = kRet K ∧ (meth.locks = false ∧ c.exceptionTable.isEmpty = true) ∧ s.vm.findClass (kOwn K) = some m.cls ∧ (∀ w ∈ eTbl, w.before args s = true) ∧
  va_K (eD G) vwCl (eTy G) s ∧ eSt G A s s.heap ∧ (∀ q, s.heap.size ≤ q → A q) ∧ (la.flags = flags0 ∧ eMs G s) ∧ va_S A s.heap H locs ∧ va_P (eD G) vwCl (eW G lo n M) H ∧ va_D A (eW G lo n M)
abbrev eZt : Type := List Frame → Array Value → State → (Nat → Prop) → State → Prop
def Ev (Z : eZt) (G : eG) (lo n : Nat) (b : eB) (K : eK) (pc : Nat) (l : List (Nat × Value)) (S : List Value) (M : eM) (ca sl : Nat) : Prop :=
  ∀ (p : Program) (la : Launch) (e : Env) (s : State) (m : MethodId) (args : Array Value) (below : List Frame) (meth : Method) (c : Code) (A : Nat → Prop) (H : Heap) (locs : List Loc) (ls : Array Slot),
    eC G lo n K p la s m args meth c A M H locs → lv_has ls (kMax K) l → W p la e (eR b) s m args below meth c H locs ca sl (Z below args s A) (F0 m pc ls S)
/-- a method's end: its answer and its memory -/
def eQ (G : eG) (lo n : Nat) (A : Nat → Prop) (Fin : Option Value → eM → Prop) : Array Value → State → Outcome → State → Prop := fun _ st oc t =>
  (∃ (v : Option Value) (M' : eM), oc = .returned v ∧ Fin v M' ∧ va_P (eD G) vwCl (eW G lo n M') t.heap) ∧ va_F A st t
abbrev eZ (G : eG) (lo n mc ms : Nat) (Fin : Option Value → eM → Prop) : eZt := fun below args s A => MQ below (eQ G lo n A Fin) args s mc ms A
def eI (G : eG) (A : Nat → Prop) (lo n : Nat) (M : eM) (U : State) : Prop :=
  (eTB U ∧ eMs G U) ∧ va_K (eD G) vwCl (eTy G) U ∧ eSt G A U U.heap ∧ (∀ q, U.heap.size ≤ q → A q) ∧ va_P (eD G) vwCl (eW G lo n M) U.heap ∧ va_D A (eW G lo n M)
/-- a method's contract at these arguments and this memory: it returns, so that Fin holds -/
def Cal (G : eG) (lo n : Nat) (b : eB) (K : eK) (av : List Value) (M : eM) (Fin : Option Value → eM → Prop) : Prop :=
  ∀ (la : Launch), la.flags = flags0 → ∀ (A : Nat → Prop), Met la (kY K) [kW K] (eR b) (va_Pc av (eI G A lo n M)) (eQ G lo n A Fin) b.2.1 b.2.2 A
theorem eW_fst {G : eG} {lo n i : Nat} {M : eM} {q : Nat × va_E} (h : (eW G lo n M)[i]? = some q) : q.1 = G.1 (lo + i) ∧ i < n := by
  have hl : i < n := by
    have := (List.getElem?_eq_some_iff.mp h).1
    rwa [eW_len] at this
  have e1 : i = (lo + i) - lo := by omega
  rw [e1, eW_get (c := lo + i) (by omega)] at h
  cases h
  exact ⟨rfl, hl⟩
theorem eW_D {G : eG} {lo n : Nat} {M M' : eM} {A : Nat → Prop} (h : va_D A (eW G lo n M)) : va_D A (eW G lo n M') := by
  have key : ∀ (i : Nat) (q : Nat × va_E), (eW G lo n M')[i]? = some q → ∃ q', (eW G lo n M)[i]? = some q' ∧ q'.1 = q.1 := by
    intro i q hq
    obtain ⟨h1, h2⟩ := eW_fst hq
    have e1 : i = (lo + i) - lo := by omega
    refine ⟨(G.1 (lo + i), eE G (esh (lo + i)) (M (lo + i))), ?_, h1.symm⟩
    have := eW_get (G := G) (lo := lo) (n := n) (c := lo + i) (M := M) (by omega)
    rwa [← e1] at this
  refine ⟨fun i j x y hi hj hxy => ?_, fun k q hk => ?_⟩
  · obtain ⟨x', a1, a2⟩ := key i x hi
    obtain ⟨y', b1, b2⟩ := key j y hj
    exact h.1 i j x' y' a1 b1 (a2.trans (hxy.trans b2.symm))
  · obtain ⟨q', a1, a2⟩ := key k q hk
    rw [← a2]
    exact h.2 k q' a1
theorem eTB.at {U : State} (h : eTB U) (args : Array Value) : ∀ w ∈ eTbl, w.before args U = true := by
  intro w hw
  rcases eOk_ot (eIn_ok hw) with h1 | ⟨ty, rfl⟩
  · exact va_tabs h1 rfl (h w hw)
  · exact h _ hw
theorem eTB.of {args : Array Value} {U : State} (h : ∀ w ∈ eTbl, w.before args U = true) : eTB U := by
  intro w hw
  rcases eOk_ot (eIn_ok hw) with h1 | ⟨ty, rfl⟩
  · exact va_tabs h1 rfl (h w hw)
  · exact h _ hw
theorem eTB.warm {args : Array Value} {s U : State} (hW : s.WarmedH U.vm) (h : ∀ w ∈ eTbl, w.before args s = true) : eTB U := fun w hw => eOk_warm (eIn_ok hw) hW (h w hw)
theorem eTB.same {u U : State} (hv : u.vm = U.vm) (h : eTB u) : eTB U := by
  intro w hw
  rcases eOk_ot (eIn_ok hw) with h1 | ⟨ty, rfl⟩
  · exact va_tabs h1 hv (h w hw)
  · have h2 := h _ hw
    simpa [Cond.before, Cond.holds, Cond.value, hv] using h2
theorem eI.blind {G : eG} {A : Nat → Prop} {lo n : Nat} {M : eM} {av : List Value} : FrameBlind (va_Pc av (eI G A lo n M)) := by
  intro a U g mk h
  obtain ⟨h0, h1, h2, h3, h4, h5, h6⟩ := h
  exact ⟨h0, ⟨eTB.same (u := U) (U := U.calling g mk a) rfl h1.1, eMs.same (u := U) (U := U.calling g mk a) rfl h1.2⟩, va_K.moved (U := U.calling g mk a) (Vm.Alike.refl U.vm) h2, eSt.moved (U := U.calling g mk a) (Vm.Alike.refl U.vm) h3, h4, h5, h6⟩
/-- what a callee gets -/
theorem eC.pass {G : eG} {lo n : Nat} {K : eK} {p : Program} {la : Launch} {s : State} {m : MethodId} {args : Array Value} {meth : Method} {c : Code} {A : Nat → Prop} {M : eM} {H : Heap} {locs : List Loc} (C : eC G lo n K p la s m args meth c A M H locs) {U : State} (hU : U.heap = H) (hW : s.WarmedH U.vm) : eI G A lo n M U := by
  obtain ⟨-, -, -, -, -, -, h7, h8, h9, h10, h11, h12, h13, h14⟩ := C
  refine ⟨⟨eTB.warm hW h7, eMs.warm hW h11.2⟩, va_K.moved hW.alike h8, ?_, fun q hq => h10 q (Nat.le_trans h12.1 (by rw [← hU]; exact hq)), by rw [hU]; exact h13, h14⟩
  rw [hU]
  exact (h9.kept h12.2.1).moved hW.alike
theorem eNoExc {p : Program} {l : Launch} {K : eK} {rm : Room} {e : Env} {s : State} {m : MethodId} {args : Array Value} {below : List Frame} {meth : Method} {c : Code} {s₁ : State} (B : BodyLoose p l (kY K) (headSpec [kW K] rm) (kCode K) (kMax K) (kRet K) e s m args below meth c s₁) : c.exceptionTable.isEmpty = true := by
  have h0 := atoms_spec (ws := [kW K]) B.pre _ List.mem_cons_self
  obtain ⟨meth', c', h1, h2, -, -, -, -, h7, -⟩ := Cond.code_spec B.named h0
  have X := Stand.of_body B
  cases Option.some.inj (h1.symm.trans B.method)
  cases Option.some.inj (h2.symm.trans X.code)
  exact h7
theorem Cal.of {G : eG} {lo n : Nat} {b : eB} {K : eK} {av : List Value} {M : eM} {Fin : Option Value → eM → Prop} (hpl : plainName (kY K).cls = true) (hown : kOwn K = (kY K).cls) (hlen : (lg_sl av).length ≤ kMax K)
    (body : Ev (eZ G lo n b.2.1 b.2.2 Fin) G lo n b K 0 (lv_args 0 av) [] M 0 0) : Cal G lo n b K av M Fin := by
  intro la hfl A
  refine Met.ofW (cc := kCode K) (maxL := kMax K) (ret := kRet K) hpl rfl ?_
  intro p e s m args below meth c s₁ B hml hv
  obtain ⟨rfl, h1, h2, h3, h4, h5, h6⟩ := hv
  rw [lg_entry_eq]
  exact body p la e s m _ below meth c A s.heap [] _ ⟨B.exec, B.bytes, hml, B.returns, ⟨B.notSynchronized, eNoExc B⟩, by rw [hown]; exact findClass_of_methodNamed B.named, h1.1.at _, h2, h3, h4, ⟨hfl, h1.2⟩, va_S.rf, h5, h6⟩ (lv_entry av hlen)
theorem Cal.mono {G : eG} {lo n : Nat} {b : eB} {K : eK} {av : List Value} {M : eM} {Fin Fin' : Option Value → eM → Prop} (h : Cal G lo n b K av M Fin) (hF : ∀ v M', Fin v M' → Fin' v M') : Cal G lo n b K av M Fin' := by
  intro la hfl A p e ha hc hk s m args below hf happ hP hK
  obtain ⟨k, o, h1, h2, h3, ⟨⟨v, M', e1, e2, e3⟩, e4⟩, h5⟩ := h la hfl A p e ha hc hk s m args below hf happ hP hK
  exact ⟨k, o, h1, h2, h3, ⟨⟨v, M', e1, hF v M' e2, e3⟩, e4⟩, h5⟩
/-- the same for a class some of whose methods the machine runs by entries: not this one -/
theorem eMet_ofF {l : Launch} {y : MethodName} {ws ws' : List Cond} {rm : Room} {Pc : Array Value → State → Prop} {Qc : Array Value → State → Outcome → State → Prop} {mc ms : Nat} {free : Addr → Prop} {cc : ByteArray} {maxL : Nat} {ret : Option FieldType}
    (hy : plainFor y = true) (hw : ws = Cond.code y cc maxL ret :: ws')
    (body : ∀ p e s m args below meth c s₁, BodyLoose p l y (headSpec ws rm) cc maxL ret e s m args below meth c s₁ → c.maxLocals = maxL → Pc args s →
      W p l e (headSpec ws rm).room s m args below meth c s.heap [] 0 0 (MQ below Qc args s mc ms free) (entryFrame m args maxL)) : Met l y ws rm Pc Qc mc ms free := by
  refine MetFree.of_bodySF (code := cc) (maxLocals := maxL) (ret := ret) hy ?_ ?_
  · intro args s m h hn
    obtain ⟨meth, c, h1, h2, h3, h4, h5, h6, -, -⟩ := Cond.code_spec hn (atoms_spec (ws := ws) h _ (by rw [hw]; exact List.mem_cons_self))
    exact ⟨meth, c, h1, h2, h3, h4, h5, h6⟩
  · intro p e s m args below meth c s₁ B hml hP _
    have hh0 : s₁.heap = s.heap := by rw [B.state]; rfl
    obtain ⟨t, a1, o, b1, b2, b3⟩ := body p e s m args below meth c s₁ B hml hP s₁ hh0 (Stand.of_body B)
    exact ⟨t, o, a1, b1, b2, ⟨b3.1, b3.2⟩⟩
theorem Cal.ofF {G : eG} {lo n : Nat} {b : eB} {K : eK} {av : List Value} {M : eM} {Fin : Option Value → eM → Prop} (hpl : plainFor (kY K) = true) (hown : kOwn K = (kY K).cls) (hlen : (lg_sl av).length ≤ kMax K)
    (body : Ev (eZ G lo n b.2.1 b.2.2 Fin) G lo n b K 0 (lv_args 0 av) [] M 0 0) : Cal G lo n b K av M Fin := by
  intro la hfl A
  refine eMet_ofF (cc := kCode K) (maxL := kMax K) (ret := kRet K) hpl rfl ?_
  intro p e s m args below meth c s₁ B hml hv
  obtain ⟨rfl, h1, h2, h3, h4, h5, h6⟩ := hv
  rw [lg_entry_eq]
  exact body p la e s m _ below meth c A s.heap [] _ ⟨B.exec, B.bytes, hml, B.returns, ⟨B.notSynchronized, eNoExc B⟩, by rw [hown]; exact findClass_of_methodNamed B.named, h1.1.at _, h2, h3, h4, ⟨hfl, h1.2⟩, va_S.rf, h5, h6⟩ (lv_entry av hlen)
/-! ===== the rows: one instruction each ===== -/
section ERows
variable {Z : eZt} {G : eG} {lo n : Nat} {b : eB} {K : eK} {pc : Nat} {l l' : List (Nat × Value)} {S : List Value} {M : eM} {ca sl : Nat}
/-- goal first: the frame changes, the heap does not -/
theorem Ev.step {pc' : Nat} {S' : List Value} (h : ∀ {p : Program} {la : Launch} {e : Env} {s : State} {m : MethodId} {args : Array Value} {below : List Frame} {meth : Method} {c : Code} {A : Nat → Prop} {H : Heap} {locs : List Loc} {ls : Array Slot} {Q : State → Prop}, eC G lo n K p la s m args meth c A M H locs → lv_has ls (kMax K) l →
    W p la e (eR b) s m args below meth c H locs ca sl Q (F0 m pc' ls S') → W p la e (eR b) s m args below meth c H locs ca sl Q (F0 m pc ls S)) (k : Ev Z G lo n b K pc' l S' M ca sl) : Ev Z G lo n b K pc l S M ca sl :=
  fun p la e s m args below meth c A H locs ls C hl => h C hl (k p la e s m args below meth c A H locs ls C hl)
theorem r_iconst {i : Int} {v : Int32} (hdg : decode (kCode K) pc = .ok (.iconst i, 1)) (hv : Int32.ofInt i = v) (k : Ev Z G lo n b K (pc + 1) l (.int v :: S) M ca sl) : Ev Z G lo n b K pc l S M ca sl :=
  Ev.step (fun C _ k => lv_iconst C.1 C.2.1 hdg hv k) k
theorem r_bipush {i : Int} {v : Int32} (hdg : decode (kCode K) pc = .ok (.bipush i, 2)) (hv : (Int8.ofInt i).toInt32 = v) (k : Ev Z G lo n b K (pc + 2) l (.int v :: S) M ca sl) : Ev Z G lo n b K pc l S M ca sl :=
  Ev.step (fun C _ k => lv_bipush C.1 C.2.1 hdg hv k) k
theorem r_sipush {i : Int} {v : Int32} (hdg : decode (kCode K) pc = .ok (.sipush i, 3)) (hv : (Int16.ofInt i).toInt32 = v) (k : Ev Z G lo n b K (pc + 3) l (.int v :: S) M ca sl) : Ev Z G lo n b K pc l S M ca sl :=
  Ev.step (fun C _ k => lv_sipush C.1 C.2.1 hdg hv k) k
theorem r_ldc {index : Nat} {v : Int32} (hdg : decode (kCode K) pc = .ok (.ldc index, 2)) (hw : Cond.constant (kOwn K) index v ∈ lw_tbl) (k : Ev Z G lo n b K (pc + 2) l (.int v :: S) M ca sl) : Ev Z G lo n b K pc l S M ca sl :=
  Ev.step (fun C _ k => lv_ldc C.1 C.2.1 C.2.2.2.2.2.1 (C.2.2.2.2.2.2.1 _ (eIn hw rfl)) hdg k) k
theorem r_iload_n {q : Fin 4} {i : Nat} (j : Nat) {x : Int32} (hdg : decode (kCode K) pc = .ok (.iload_n q, 1)) (hi : (q : Nat) = i) (hj : l[j]? = some (i, .int x)) (k : Ev Z G lo n b K (pc + 1) l (.int x :: S) M ca sl) : Ev Z G lo n b K pc l S M ca sl :=
  Ev.step (fun C hl k => lv_iload_n C.1 C.2.1 hdg hi (lv_at hl j hj) k) k
theorem r_iload {i : Nat} (j : Nat) {x : Int32} (hdg : decode (kCode K) pc = .ok (.iload i, 2)) (hj : l[j]? = some (i, .int x)) (k : Ev Z G lo n b K (pc + 2) l (.int x :: S) M ca sl) : Ev Z G lo n b K pc l S M ca sl :=
  Ev.step (fun C hl k => lv_iload C.1 C.2.1 hdg (lv_at hl j hj) k) k
theorem r_aload_n {q : Fin 4} {i : Nat} (j : Nat) {x : Nat} (hdg : decode (kCode K) pc = .ok (.aload_n q, 1)) (hi : (q : Nat) = i) (hj : l[j]? = some (i, .ref x)) (k : Ev Z G lo n b K (pc + 1) l (.ref x :: S) M ca sl) : Ev Z G lo n b K pc l S M ca sl :=
  Ev.step (fun C hl k => lv_aload_n C.1 C.2.1 hdg hi (lv_at hl j hj) k) k
theorem r_aload {i : Nat} (j : Nat) {x : Nat} (hdg : decode (kCode K) pc = .ok (.aload i, 2)) (hj : l[j]? = some (i, .ref x)) (k : Ev Z G lo n b K (pc + 2) l (.ref x :: S) M ca sl) : Ev Z G lo n b K pc l S M ca sl :=
  Ev.step (fun C hl k => lv_aload C.1 C.2.1 hdg (lv_at hl j hj) k) k
/-- a constant or null in a local -/
theorem r_kload_n {q : Fin 4} {i : Nat} (j : Nat) {x : Int32} (hdg : decode (kCode K) pc = .ok (.aload_n q, 1)) (hi : (q : Nat) = i) (hj : l[j]? = some (i, eV G 1 x)) (k : Ev Z G lo n b K (pc + 1) l (eV G 1 x :: S) M ca sl) : Ev Z G lo n b K pc l S M ca sl := by
  refine Ev.step (fun C hl k => ?_) k
  have h := lv_at hl j hj
  revert h k
  show (W _ _ _ _ _ _ _ _ _ _ _ _ _ _ _ (F0 _ _ _ (va_rf (eKr G x) :: S)) → _ = some (Slot.val (va_rf (eKr G x))) → _)
  cases eKr G x with
  | none => exact fun k h => lv_aload_nN C.1 C.2.1 hdg hi h k
  | some a => exact fun k h => lv_aload_n C.1 C.2.1 hdg hi h k
theorem r_kload {i : Nat} (j : Nat) {x : Int32} (hdg : decode (kCode K) pc = .ok (.aload i, 2)) (hj : l[j]? = some (i, eV G 1 x)) (k : Ev Z G lo n b K (pc + 2) l (eV G 1 x :: S) M ca sl) : Ev Z G lo n b K pc l S M ca sl := by
  refine Ev.step (fun C hl k => ?_) k
  have h := lv_at hl j hj
  revert h k
  show (W _ _ _ _ _ _ _ _ _ _ _ _ _ _ _ (F0 _ _ _ (va_rf (eKr G x) :: S)) → _ = some (Slot.val (va_rf (eKr G x))) → _)
  cases eKr G x with
  | none => exact fun k h => lv_aloadN C.1 C.2.1 hdg h k
  | some a => exact fun k h => lv_aload C.1 C.2.1 hdg h k
abbrev eDrop (i : Nat) (l : List (Nat × Value)) : List (Nat × Value) := l.filter (fun q => !(q.1 == i) && !(q.1 + 1 == i && q.2.category == 2))
theorem r_istore_n {q : Fin 4} {i : Nat} {x : Int32} (hdg : decode (kCode K) pc = .ok (.istore_n q, 1)) (hi : (q : Nat) = i) (hn : i < kMax K) (hl' : (i, Value.int x) :: eDrop i l = l') (k : Ev Z G lo n b K (pc + 1) l' S M ca sl) : Ev Z G lo n b K pc l (.int x :: S) M ca sl :=
  fun p la e s m args below meth c A H locs ls C hl => lv_istore_n C.1 C.2.1 hdg hi hl hn hl' (fun ls' h => k p la e s m args below meth c A H locs ls' C h)
theorem r_istore {i : Nat} {x : Int32} (hdg : decode (kCode K) pc = .ok (.istore i, 2)) (hn : i < kMax K) (hl' : (i, Value.int x) :: eDrop i l = l') (k : Ev Z G lo n b K (pc + 2) l' S M ca sl) : Ev Z G lo n b K pc l (.int x :: S) M ca sl :=
  fun p la e s m args below meth c A H locs ls C hl => lv_istore C.1 C.2.1 hdg hl hn hl' (fun ls' h => k p la e s m args below meth c A H locs ls' C h)
theorem r_astore_n {q : Fin 4} {i : Nat} {x : Nat} (hdg : decode (kCode K) pc = .ok (.astore_n q, 1)) (hi : (q : Nat) = i) (hn : i < kMax K) (hl' : (i, Value.ref x) :: eDrop i l = l') (k : Ev Z G lo n b K (pc + 1) l' S M ca sl) : Ev Z G lo n b K pc l (.ref x :: S) M ca sl :=
  fun p la e s m args below meth c A H locs ls C hl => lv_astore_n C.1 C.2.1 hdg hi hl hn hl' (fun ls' h => k p la e s m args below meth c A H locs ls' C h)
theorem r_astore {i : Nat} {x : Nat} (hdg : decode (kCode K) pc = .ok (.astore i, 2)) (hn : i < kMax K) (hl' : (i, Value.ref x) :: eDrop i l = l') (k : Ev Z G lo n b K (pc + 2) l' S M ca sl) : Ev Z G lo n b K pc l (.ref x :: S) M ca sl :=
  fun p la e s m args below meth c A H locs ls C hl => lv_astore C.1 C.2.1 hdg hl hn hl' (fun ls' h => k p la e s m args below meth c A H locs ls' C h)
theorem r_kstore_n {q : Fin 4} {i : Nat} {x : Int32} (hdg : decode (kCode K) pc = .ok (.astore_n q, 1)) (hi : (q : Nat) = i) (hn : i < kMax K) (hl' : (i, eV G 1 x) :: eDrop i l = l') (k : Ev Z G lo n b K (pc + 1) l' S M ca sl) : Ev Z G lo n b K pc l (eV G 1 x :: S) M ca sl := by
  intro p la e s m args below meth c A H locs ls C hl
  have k2 := fun (ls' : Array Slot) (h : lv_has ls' (kMax K) l') => k p la e s m args below meth c A H locs ls' C h
  clear k
  revert hl' k2
  show ((i, va_rf (eKr G x)) :: eDrop i l = l' → _ → W _ _ _ _ _ _ _ _ _ _ _ _ _ _ _ (F0 _ _ _ (va_rf (eKr G x) :: S)))
  cases eKr G x with
  | none => exact fun hl' k2 => lv_astore_nN C.1 C.2.1 hdg hi hl hn hl' k2
  | some a => exact fun hl' k2 => lv_astore_n C.1 C.2.1 hdg hi hl hn hl' k2
theorem r_kstore {i : Nat} {x : Int32} (hdg : decode (kCode K) pc = .ok (.astore i, 2)) (hn : i < kMax K) (hl' : (i, eV G 1 x) :: eDrop i l = l') (k : Ev Z G lo n b K (pc + 2) l' S M ca sl) : Ev Z G lo n b K pc l (eV G 1 x :: S) M ca sl := by
  intro p la e s m args below meth c A H locs ls C hl
  have k2 := fun (ls' : Array Slot) (h : lv_has ls' (kMax K) l') => k p la e s m args below meth c A H locs ls' C h
  clear k
  revert hl' k2
  show ((i, va_rf (eKr G x)) :: eDrop i l = l' → _ → W _ _ _ _ _ _ _ _ _ _ _ _ _ _ _ (F0 _ _ _ (va_rf (eKr G x) :: S)))
  cases eKr G x with
  | none => exact fun hl' k2 => lv_astoreN C.1 C.2.1 hdg hl hn hl' k2
  | some a => exact fun hl' k2 => lv_astore C.1 C.2.1 hdg hl hn hl' k2
theorem r_iinc {i : Nat} (j : Nat) {z : Int} {x v : Int32} (hdg : decode (kCode K) pc = .ok (.iinc i z, 3)) (hj : l[j]? = some (i, .int x)) (hv : x + Int32.ofInt z = v) (hn : i < kMax K) (hl' : (i, Value.int v) :: eDrop i l = l') (k : Ev Z G lo n b K (pc + 3) l' S M ca sl) : Ev Z G lo n b K pc l S M ca sl :=
  fun p la e s m args below meth c A H locs ls C hl => lv_iinc C.1 C.2.1 hdg hl hj hv hn hl' (fun ls' h => k p la e s m args below meth c A H locs ls' C h)
theorem r_dup {v : Value} (hdg : decode (kCode K) pc = .ok (.dup, 1)) (hv : v.category = 1) (k : Ev Z G lo n b K (pc + 1) l (v :: v :: S) M ca sl) : Ev Z G lo n b K pc l (v :: S) M ca sl :=
  Ev.step (fun C _ k => lv_dup C.1 C.2.1 hdg hv k) k
theorem r_dup2 {v w : Value} (hdg : decode (kCode K) pc = .ok (.dup2, 1)) (hv : v.category = 1) (hw : w.category = 1) (k : Ev Z G lo n b K (pc + 1) l (v :: w :: v :: w :: S) M ca sl) : Ev Z G lo n b K pc l (v :: w :: S) M ca sl :=
  Ev.step (fun C _ k => lv_dup2_11 C.1 C.2.1 hdg hv hw k) k
theorem r_pop {v : Value} (hdg : decode (kCode K) pc = .ok (.pop, 1)) (hv : v.category = 1) (k : Ev Z G lo n b K (pc + 1) l S M ca sl) : Ev Z G lo n b K pc l (v :: S) M ca sl :=
  Ev.step (fun C _ k => lv_pop C.1 C.2.1 hdg hv k) k
theorem r_iadd {x y : Int32} (hdg : decode (kCode K) pc = .ok (.iadd, 1)) (k : Ev Z G lo n b K (pc + 1) l (.int (x + y) :: S) M ca sl) : Ev Z G lo n b K pc l (.int y :: .int x :: S) M ca sl :=
  Ev.step (fun C _ k => lv_iadd C.1 C.2.1 hdg k) k
theorem r_isub {x y : Int32} (hdg : decode (kCode K) pc = .ok (.isub, 1)) (k : Ev Z G lo n b K (pc + 1) l (.int (x - y) :: S) M ca sl) : Ev Z G lo n b K pc l (.int y :: .int x :: S) M ca sl :=
  Ev.step (fun C _ k => lv_isub C.1 C.2.1 hdg k) k
theorem r_imul {x y : Int32} (hdg : decode (kCode K) pc = .ok (.imul, 1)) (k : Ev Z G lo n b K (pc + 1) l (.int (x * y) :: S) M ca sl) : Ev Z G lo n b K pc l (.int y :: .int x :: S) M ca sl :=
  Ev.step (fun C _ k => lv_imul C.1 C.2.1 hdg k) k
theorem r_idiv {x y : Int32} (hdg : decode (kCode K) pc = .ok (.idiv, 1)) (hne : ¬ y = 0) (k : Ev Z G lo n b K (pc + 1) l (.int (x / y) :: S) M ca sl) : Ev Z G lo n b K pc l (.int y :: .int x :: S) M ca sl :=
  Ev.step (fun C _ k => lv_idiv C.1 C.2.1 hdg hne k) k
theorem r_irem {x y : Int32} (hdg : decode (kCode K) pc = .ok (.irem, 1)) (hne : ¬ y = 0) (k : Ev Z G lo n b K (pc + 1) l (.int (x - x / y * y) :: S) M ca sl) : Ev Z G lo n b K pc l (.int y :: .int x :: S) M ca sl :=
  Ev.step (fun C _ k => lv_irem C.1 C.2.1 hdg hne k) k
theorem r_ineg {x : Int32} (hdg : decode (kCode K) pc = .ok (.ineg, 1)) (k : Ev Z G lo n b K (pc + 1) l (.int (-x) :: S) M ca sl) : Ev Z G lo n b K pc l (.int x :: S) M ca sl :=
  Ev.step (fun C _ k => lv_ineg C.1 C.2.1 hdg k) k
theorem r_ishl {x y : Int32} (hdg : decode (kCode K) pc = .ok (.ishl, 1)) (k : Ev Z G lo n b K (pc + 1) l (.int (x <<< (y &&& 31)) :: S) M ca sl) : Ev Z G lo n b K pc l (.int y :: .int x :: S) M ca sl :=
  Ev.step (fun C _ k => lv_ishl C.1 C.2.1 hdg k) k
theorem r_ishr {x y : Int32} (hdg : decode (kCode K) pc = .ok (.ishr, 1)) (k : Ev Z G lo n b K (pc + 1) l (.int (x >>> (y &&& 31)) :: S) M ca sl) : Ev Z G lo n b K pc l (.int y :: .int x :: S) M ca sl :=
  Ev.step (fun C _ k => lv_ishr C.1 C.2.1 hdg k) k
theorem r_iushr {x y : Int32} (hdg : decode (kCode K) pc = .ok (.iushr, 1)) (k : Ev Z G lo n b K (pc + 1) l (.int (x.toUInt32 >>> (y.toUInt32 &&& Int32.toUInt32 31)).toInt32 :: S) M ca sl) : Ev Z G lo n b K pc l (.int y :: .int x :: S) M ca sl :=
  Ev.step (fun C _ k => lv_iushr C.1 C.2.1 hdg rfl k) k
theorem r_iand {x y : Int32} (hdg : decode (kCode K) pc = .ok (.iand, 1)) (k : Ev Z G lo n b K (pc + 1) l (.int (x &&& y) :: S) M ca sl) : Ev Z G lo n b K pc l (.int y :: .int x :: S) M ca sl :=
  Ev.step (fun C _ k => lv_iand C.1 C.2.1 hdg k) k
theorem r_ior {x y : Int32} (hdg : decode (kCode K) pc = .ok (.ior, 1)) (k : Ev Z G lo n b K (pc + 1) l (.int (x ||| y) :: S) M ca sl) : Ev Z G lo n b K pc l (.int y :: .int x :: S) M ca sl :=
  Ev.step (fun C _ k => lv_ior C.1 C.2.1 hdg k) k
theorem r_ixor {x y : Int32} (hdg : decode (kCode K) pc = .ok (.ixor, 1)) (k : Ev Z G lo n b K (pc + 1) l (.int (x ^^^ y) :: S) M ca sl) : Ev Z G lo n b K pc l (.int y :: .int x :: S) M ca sl :=
  Ev.step (fun C _ k => lv_ixor C.1 C.2.1 hdg k) k
theorem r_i2b {x : Int32} (hdg : decode (kCode K) pc = .ok (.i2b, 1)) (k : Ev Z G lo n b K (pc + 1) l (.int x.toInt8.toInt32 :: S) M ca sl) : Ev Z G lo n b K pc l (.int x :: S) M ca sl :=
  Ev.step (fun C _ k => lv_i2b C.1 C.2.1 hdg rfl k) k
theorem r_i2c {x : Int32} (hdg : decode (kCode K) pc = .ok (.i2c, 1)) (k : Ev Z G lo n b K (pc + 1) l (.int (x.toUInt32 % 65536).toInt32 :: S) M ca sl) : Ev Z G lo n b K pc l (.int x :: S) M ca sl :=
  Ev.step (fun C _ k => lv_i2c C.1 C.2.1 hdg rfl k) k
theorem r_i2l {x : Int32} (hdg : decode (kCode K) pc = .ok (.i2l, 1)) (k : Ev Z G lo n b K (pc + 1) l (.long x.toInt64 :: S) M ca sl) : Ev Z G lo n b K pc l (.int x :: S) M ca sl :=
  Ev.step (fun C _ k => lv_i2l C.1 C.2.1 hdg rfl k) k
theorem r_ladd {x y : Int64} (hdg : decode (kCode K) pc = .ok (.ladd, 1)) (k : Ev Z G lo n b K (pc + 1) l (.long (x + y) :: S) M ca sl) : Ev Z G lo n b K pc l (.long y :: .long x :: S) M ca sl :=
  Ev.step (fun C _ k => lv_ladd C.1 C.2.1 hdg k) k
theorem r_lmul {x y : Int64} (hdg : decode (kCode K) pc = .ok (.lmul, 1)) (k : Ev Z G lo n b K (pc + 1) l (.long (x * y) :: S) M ca sl) : Ev Z G lo n b K pc l (.long y :: .long x :: S) M ca sl :=
  Ev.step (fun C _ k => lv_lmul C.1 C.2.1 hdg k) k
theorem r_ldc2 {index : Nat} {v : Int64} (hdg : decode (kCode K) pc = .ok (.ldc2_w index, 3)) (hw : Cond.constantLong (kOwn K) index v ∈ lw_tbl) (k : Ev Z G lo n b K (pc + 3) l (.long v :: S) M ca sl) : Ev Z G lo n b K pc l S M ca sl :=
  Ev.step (fun C _ k => lv_ldc2 C.1 C.2.1 C.2.2.2.2.2.1 (C.2.2.2.2.2.2.1 _ (eIn hw rfl)) hdg k) k
theorem r_goto {off : Int} {t : Nat} (hdg : decode (kCode K) pc = .ok (.goto off, 3)) (ht : (pc : Int) + off = (t : Int)) (k : Ev Z G lo n b K t l S M ca sl) : Ev Z G lo n b K pc l S M ca sl :=
  Ev.step (fun C _ k => lv_goto C.1 C.2.1 hdg ht k) k
theorem Ev.br {P : Prop} {t f : Nat} {S0 : List Value} (h : ∀ {p : Program} {la : Launch} {e : Env} {s : State} {m : MethodId} {args : Array Value} {below : List Frame} {meth : Method} {c : Code} {A : Nat → Prop} {H : Heap} {locs : List Loc} {ls : Array Slot} {Q : State → Prop}, eC G lo n K p la s m args meth c A M H locs → lv_has ls (kMax K) l →
    (P → W p la e (eR b) s m args below meth c H locs ca sl Q (F0 m t ls S)) → (¬ P → W p la e (eR b) s m args below meth c H locs ca sl Q (F0 m f ls S)) → W p la e (eR b) s m args below meth c H locs ca sl Q (F0 m pc ls S0)) (kt : P → Ev Z G lo n b K t l S M ca sl) (kf : ¬ P → Ev Z G lo n b K f l S M ca sl) : Ev Z G lo n b K pc l S0 M ca sl :=
  fun p la e s m args below meth c A H locs ls C hl => h C hl (fun q => kt q p la e s m args below meth c A H locs ls C hl) (fun q => kf q p la e s m args below meth c A H locs ls C hl)
theorem r_icmp_eq {x y : Int32} {off : Int} {t : Nat} (hdg : decode (kCode K) pc = .ok (.if_icmp .eq off, 3)) (ht : (pc : Int) + off = (t : Int)) (kt : x = y → Ev Z G lo n b K t l S M ca sl) (kf : ¬ x = y → Ev Z G lo n b K (pc + 3) l S M ca sl) : Ev Z G lo n b K pc l (.int y :: .int x :: S) M ca sl :=
  fun p la e s m args below meth c A H locs ls C hl => lv_icmp_eq C.1 C.2.1 hdg ht (fun q => kt q p la e s m args below meth c A H locs ls C hl) (fun q => kf q p la e s m args below meth c A H locs ls C hl)
theorem r_if_eq {x : Int32} {off : Int} {t : Nat} (hdg : decode (kCode K) pc = .ok (.ifCond .eq off, 3)) (ht : (pc : Int) + off = (t : Int)) (kt : x = 0 → Ev Z G lo n b K t l S M ca sl) (kf : ¬ x = 0 → Ev Z G lo n b K (pc + 3) l S M ca sl) : Ev Z G lo n b K pc l (.int x :: S) M ca sl :=
  fun p la e s m args below meth c A H locs ls C hl => lv_if_eq C.1 C.2.1 hdg ht (fun q => kt q p la e s m args below meth c A H locs ls C hl) (fun q => kf q p la e s m args below meth c A H locs ls C hl)
theorem r_icmp_ne {x y : Int32} {off : Int} {t : Nat} (hdg : decode (kCode K) pc = .ok (.if_icmp .ne off, 3)) (ht : (pc : Int) + off = (t : Int)) (kt : ¬ x = y → Ev Z G lo n b K t l S M ca sl) (kf : x = y → Ev Z G lo n b K (pc + 3) l S M ca sl) : Ev Z G lo n b K pc l (.int y :: .int x :: S) M ca sl :=
  fun p la e s m args below meth c A H locs ls C hl => lv_icmp_ne C.1 C.2.1 hdg ht (fun q => kt q p la e s m args below meth c A H locs ls C hl) (fun q => kf q p la e s m args below meth c A H locs ls C hl)
theorem r_if_ne {x : Int32} {off : Int} {t : Nat} (hdg : decode (kCode K) pc = .ok (.ifCond .ne off, 3)) (ht : (pc : Int) + off = (t : Int)) (kt : ¬ x = 0 → Ev Z G lo n b K t l S M ca sl) (kf : x = 0 → Ev Z G lo n b K (pc + 3) l S M ca sl) : Ev Z G lo n b K pc l (.int x :: S) M ca sl :=
  fun p la e s m args below meth c A H locs ls C hl => lv_if_ne C.1 C.2.1 hdg ht (fun q => kt q p la e s m args below meth c A H locs ls C hl) (fun q => kf q p la e s m args below meth c A H locs ls C hl)
theorem r_icmp_lt {x y : Int32} {off : Int} {t : Nat} (hdg : decode (kCode K) pc = .ok (.if_icmp .lt off, 3)) (ht : (pc : Int) + off = (t : Int)) (kt : x < y → Ev Z G lo n b K t l S M ca sl) (kf : ¬ x < y → Ev Z G lo n b K (pc + 3) l S M ca sl) : Ev Z G lo n b K pc l (.int y :: .int x :: S) M ca sl :=
  fun p la e s m args below meth c A H locs ls C hl => lv_icmp_lt C.1 C.2.1 hdg ht (fun q => kt q p la e s m args below meth c A H locs ls C hl) (fun q => kf q p la e s m args below meth c A H locs ls C hl)
theorem r_if_lt {x : Int32} {off : Int} {t : Nat} (hdg : decode (kCode K) pc = .ok (.ifCond .lt off, 3)) (ht : (pc : Int) + off = (t : Int)) (kt : x < 0 → Ev Z G lo n b K t l S M ca sl) (kf : ¬ x < 0 → Ev Z G lo n b K (pc + 3) l S M ca sl) : Ev Z G lo n b K pc l (.int x :: S) M ca sl :=
  fun p la e s m args below meth c A H locs ls C hl => lv_if_lt C.1 C.2.1 hdg ht (fun q => kt q p la e s m args below meth c A H locs ls C hl) (fun q => kf q p la e s m args below meth c A H locs ls C hl)
theorem r_icmp_ge {x y : Int32} {off : Int} {t : Nat} (hdg : decode (kCode K) pc = .ok (.if_icmp .ge off, 3)) (ht : (pc : Int) + off = (t : Int)) (kt : y ≤ x → Ev Z G lo n b K t l S M ca sl) (kf : ¬ y ≤ x → Ev Z G lo n b K (pc + 3) l S M ca sl) : Ev Z G lo n b K pc l (.int y :: .int x :: S) M ca sl :=
  fun p la e s m args below meth c A H locs ls C hl => lv_icmp_ge C.1 C.2.1 hdg ht (fun q => kt q p la e s m args below meth c A H locs ls C hl) (fun q => kf q p la e s m args below meth c A H locs ls C hl)
theorem r_if_ge {x : Int32} {off : Int} {t : Nat} (hdg : decode (kCode K) pc = .ok (.ifCond .ge off, 3)) (ht : (pc : Int) + off = (t : Int)) (kt : 0 ≤ x → Ev Z G lo n b K t l S M ca sl) (kf : ¬ 0 ≤ x → Ev Z G lo n b K (pc + 3) l S M ca sl) : Ev Z G lo n b K pc l (.int x :: S) M ca sl :=
  fun p la e s m args below meth c A H locs ls C hl => lv_if_ge C.1 C.2.1 hdg ht (fun q => kt q p la e s m args below meth c A H locs ls C hl) (fun q => kf q p la e s m args below meth c A H locs ls C hl)
theorem r_icmp_gt {x y : Int32} {off : Int} {t : Nat} (hdg : decode (kCode K) pc = .ok (.if_icmp .gt off, 3)) (ht : (pc : Int) + off = (t : Int)) (kt : y < x → Ev Z G lo n b K t l S M ca sl) (kf : ¬ y < x → Ev Z G lo n b K (pc + 3) l S M ca sl) : Ev Z G lo n b K pc l (.int y :: .int x :: S) M ca sl :=
  fun p la e s m args below meth c A H locs ls C hl => lv_icmp_gt C.1 C.2.1 hdg ht (fun q => kt q p la e s m args below meth c A H locs ls C hl) (fun q => kf q p la e s m args below meth c A H locs ls C hl)
theorem r_if_gt {x : Int32} {off : Int} {t : Nat} (hdg : decode (kCode K) pc = .ok (.ifCond .gt off, 3)) (ht : (pc : Int) + off = (t : Int)) (kt : 0 < x → Ev Z G lo n b K t l S M ca sl) (kf : ¬ 0 < x → Ev Z G lo n b K (pc + 3) l S M ca sl) : Ev Z G lo n b K pc l (.int x :: S) M ca sl :=
  fun p la e s m args below meth c A H locs ls C hl => lv_if_gt C.1 C.2.1 hdg ht (fun q => kt q p la e s m args below meth c A H locs ls C hl) (fun q => kf q p la e s m args below meth c A H locs ls C hl)
theorem r_icmp_le {x y : Int32} {off : Int} {t : Nat} (hdg : decode (kCode K) pc = .ok (.if_icmp .le off, 3)) (ht : (pc : Int) + off = (t : Int)) (kt : x ≤ y → Ev Z G lo n b K t l S M ca sl) (kf : ¬ x ≤ y → Ev Z G lo n b K (pc + 3) l S M ca sl) : Ev Z G lo n b K pc l (.int y :: .int x :: S) M ca sl :=
  fun p la e s m args below meth c A H locs ls C hl => lv_icmp_le C.1 C.2.1 hdg ht (fun q => kt q p la e s m args below meth c A H locs ls C hl) (fun q => kf q p la e s m args below meth c A H locs ls C hl)
theorem r_if_le {x : Int32} {off : Int} {t : Nat} (hdg : decode (kCode K) pc = .ok (.ifCond .le off, 3)) (ht : (pc : Int) + off = (t : Int)) (kt : x ≤ 0 → Ev Z G lo n b K t l S M ca sl) (kf : ¬ x ≤ 0 → Ev Z G lo n b K (pc + 3) l S M ca sl) : Ev Z G lo n b K pc l (.int x :: S) M ca sl :=
  fun p la e s m args below meth c A H locs ls C hl => lv_if_le C.1 C.2.1 hdg ht (fun q => kt q p la e s m args below meth c A H locs ls C hl) (fun q => kf q p la e s m args below meth c A H locs ls C hl)
/-! fields -/
abbrev eCl (ci : Nat) (C : String) (T : u_T) (N : Nat) (ty : Nat → FieldType) : Prop := vwCl[ci]? = some (C, T, N) ∧ (∀ w ∈ u_ws C T N, w ∈ lw_tbl) ∧ (∀ k, k < N → parseFieldDescriptor (T k).2.2.1 = some (ty k)) ∧ (∀ a, a < N → ∀ b, b < N → a ≠ b → (T a).2.1 ≠ (T b).2.1)
theorem r_get {index c k ci N code : Nat} {C : String} {T : u_T} {ty : Nat → FieldType} {cs : List Nat} (hdg : decode (kCode K) pc = .ok (.getfield index, 3)) (hC : eCl ci C T N ty) (hlk : Cond.fieldLink (kOwn K) index (T k).1 (T k).2.1 (T k).2.2.1 ∈ lw_tbl) (hk : k < N) (hc : lo ≤ c ∧ c < lo + n) (hs : esh c = .inr (ci, cs)) (hcs : cs[k]? = some code)
    (kk : Ev Z G lo n b K (pc + 3) l (eV G code (M c k) :: S) M ca sl) : Ev Z G lo n b K pc l (.ref (G.1 c) :: S) M ca sl := by
  refine Ev.step (fun {p la e s m args below meth c' A H locs ls Q} C0 hl k0 => ?_) kk
  obtain ⟨h1, h2, h3, h4, h5, h6, h7, h8, h9, h10, h11, h12, h13, h14⟩ := C0
  exact va_get h1 h2 h7 (eInU hC.2.1) h6 h8 h13 (c - lo) (by rw [eW_get hc, hs]; rfl) hC.1 k hk (h7 _ (eIn hlk rfl)) (fun x h => h) (by rw [eF_get G cs 0 _ k code hcs, Nat.zero_add]) hdg k0
theorem r_getN {index c k ci N code : Nat} {C host : String} {T : u_T} {ty : Nat → FieldType} {cs : List Nat} (hdg : decode (kCode K) pc = .ok (.getfield index, 3)) (hC : eCl ci C T N ty) (hlk : Cond.fieldLinkNest (kOwn K) index (T k).1 (T k).2.1 (T k).2.2.1 host ∈ lw_tbl) (hk : k < N) (hc : lo ≤ c ∧ c < lo + n) (hs : esh c = .inr (ci, cs)) (hcs : cs[k]? = some code)
    (kk : Ev Z G lo n b K (pc + 3) l (eV G code (M c k) :: S) M ca sl) : Ev Z G lo n b K pc l (.ref (G.1 c) :: S) M ca sl := by
  refine Ev.step (fun {p la e s m args below meth c' A H locs ls Q} C0 hl k0 => ?_) kk
  obtain ⟨h1, h2, h3, h4, h5, h6, h7, h8, h9, h10, h11, h12, h13, h14⟩ := C0
  exact va_getN h1 h2 h7 (eInU hC.2.1) h6 h8 h13 (c - lo) (by rw [eW_get hc, hs]; rfl) hC.1 k hk (h7 _ (eIn hlk rfl)) (fun x h => h) (by rw [eF_get G cs 0 _ k code hcs, Nat.zero_add]) hdg k0
theorem eW_put {c k ci code : Nat} {cs : List Nat} {v : Int32} (hc : lo ≤ c ∧ c < lo + n) (hs : esh c = .inr (ci, cs)) (hcs : cs[k]? = some code) : (eW G lo n M).set (c - lo) (G.1 c, .inr (ci, (eF G cs 0 (M c)).set k (eV G code v))) = eW G lo n (eU M c k v) := by
  refine eW_set hc (fun c' h => eU_other M k v h) ?_
  rw [hs, eU_row]
  have := eF_set G cs 0 (M c) k code v hcs
  rw [Nat.zero_add] at this
  rw [this]
  rfl
theorem r_put {index c k ci N code : Nat} {C : String} {T : u_T} {ty : Nat → FieldType} {cs : List Nat} {v : Int32} {ft : FieldType} (hdg : decode (kCode K) pc = .ok (.putfield index, 3)) (hC : eCl ci C T N ty) (hlk : Cond.fieldLink (kOwn K) index (T k).1 (T k).2.1 (T k).2.2.1 ∈ lw_tbl) (hk : k < N) (hc : lo ≤ c ∧ c < lo + n) (hs : esh c = .inr (ci, cs)) (hcs : cs[k]? = some code)
    (hfin : (T k).2.2.2 = false) (hd : parseFieldDescriptor (T k).2.2.1 = some ft) (hnw : narrow ft (eV G code v) = eV G code v) (hfit : fits ft (eV G code v) = true)
    (kk : Ev Z G lo n b K (pc + 3) l S (eU M c k v) ca sl) : Ev Z G lo n b K pc l (eV G code v :: .ref (G.1 c) :: S) M ca sl := by
  intro p la e s m args below meth c' A H locs ls C0 hl
  obtain ⟨h1, h2, h3, h4, h5, h6, h7, h8, h9, h10, h11, h12, h13, h14⟩ := C0
  have hlen : k < (eF G cs 0 (M c)).length := by rw [eF_len]; exact (List.getElem?_eq_some_iff.mp hcs).1
  refine va_put h1 h2 h7 (eInU hC.2.1) ty hC.2.2.1 hC.2.2.2 h6 h8 h13 h14 h12 (c - lo) (fs := eF G cs 0 (M c)) (by rw [eW_get hc, hs]; rfl) hC.1 k hk (h7 _ (eIn hlk rfl)) (fun x h => h) hfin hd hnw hfit hlen hdg (fun H1 locs1 hP hD hS => ?_)
  rw [eW_put hc hs hcs] at hP hD
  exact kk p la e s m args below meth c' A H1 locs1 ls ⟨h1, h2, h3, h4, h5, h6, h7, h8, h9, h10, h11, hS, hP, hD⟩ hl
theorem r_putN {index c k ci N code : Nat} {C host : String} {T : u_T} {ty : Nat → FieldType} {cs : List Nat} {v : Int32} {ft : FieldType} (hdg : decode (kCode K) pc = .ok (.putfield index, 3)) (hC : eCl ci C T N ty) (hlk : Cond.fieldLinkNest (kOwn K) index (T k).1 (T k).2.1 (T k).2.2.1 host ∈ lw_tbl) (hk : k < N) (hc : lo ≤ c ∧ c < lo + n) (hs : esh c = .inr (ci, cs)) (hcs : cs[k]? = some code)
    (hfin : (T k).2.2.2 = false) (hd : parseFieldDescriptor (T k).2.2.1 = some ft) (hnw : narrow ft (eV G code v) = eV G code v) (hfit : fits ft (eV G code v) = true)
    (kk : Ev Z G lo n b K (pc + 3) l S (eU M c k v) ca sl) : Ev Z G lo n b K pc l (eV G code v :: .ref (G.1 c) :: S) M ca sl := by
  intro p la e s m args below meth c' A H locs ls C0 hl
  obtain ⟨h1, h2, h3, h4, h5, h6, h7, h8, h9, h10, h11, h12, h13, h14⟩ := C0
  have hlen : k < (eF G cs 0 (M c)).length := by rw [eF_len]; exact (List.getElem?_eq_some_iff.mp hcs).1
  refine va_putN h1 h2 h7 (eInU hC.2.1) ty hC.2.2.1 hC.2.2.2 h6 h8 h13 h14 h12 (c - lo) (fs := eF G cs 0 (M c)) (by rw [eW_get hc, hs]; rfl) hC.1 k hk (h7 _ (eIn hlk rfl)) (fun x h => h) hfin hd hnw hfit hlen hdg (fun H1 locs1 hP hD hS => ?_)
  rw [eW_put hc hs hcs] at hP hD
  exact kk p la e s m args below meth c' A H1 locs1 ls ⟨h1, h2, h3, h4, h5, h6, h7, h8, h9, h10, h11, hS, hP, hD⟩ hl
theorem eKr_fits (G : eG) (v : Int32) (nm : String) : narrow (.object nm) (eV G 1 v) = eV G 1 v ∧ fits (.object nm) (eV G 1 v) = true := by
  show narrow (.object nm) (va_rf (eKr G v)) = va_rf (eKr G v) ∧ fits (.object nm) (va_rf (eKr G v)) = true
  cases eKr G v <;> exact ⟨rfl, rfl⟩
/-- an int that is a boolean -/
def eBo (v : Int32) : Prop := v = 0 ∨ v = 1
theorem eBo_fits (G : eG) {v : Int32} (h : eBo v) : narrow .boolean (eV G 0 v) = eV G 0 v ∧ fits .boolean (eV G 0 v) = true := by
  rcases h with rfl | rfl <;> exact ⟨rfl, rfl⟩
/-! arrays -/
theorem r_iald {c N : Nat} {i : Int32} (hdg : decode (kCode K) pc = .ok (.iaload, 1)) (hc : lo ≤ c ∧ c < lo + n) (hs : esh c = .inl (0, N)) (hin : vp_in i N) (kk : Ev Z G lo n b K (pc + 1) l (.int (M c i.toNatClampNeg) :: S) M ca sl) : Ev Z G lo n b K pc l (.int i :: .ref (G.1 c) :: S) M ca sl := by
  refine Ev.step (fun {p la e s m args below meth c' A H locs ls Q} C0 hl k0 => ?_) kk
  obtain ⟨h1, h2, h3, h4, h5, h6, h7, h8, h9, h10, h11, h12, h13, h14⟩ := C0
  exact va_iald h1 h2 h8 h13 (c - lo) 0 (by rw [eW_get hc, hs]; rfl) rfl hin hdg k0
theorem r_bald {c N : Nat} {i : Int32} (hdg : decode (kCode K) pc = .ok (.baload, 1)) (hc : lo ≤ c ∧ c < lo + n) (hs : esh c = .inl (1, N)) (hin : vp_in i N) (kk : Ev Z G lo n b K (pc + 1) l (.int (M c i.toNatClampNeg) :: S) M ca sl) : Ev Z G lo n b K pc l (.int i :: .ref (G.1 c) :: S) M ca sl := by
  refine Ev.step (fun {p la e s m args below meth c' A H locs ls Q} C0 hl k0 => ?_) kk
  obtain ⟨h1, h2, h3, h4, h5, h6, h7, h8, h9, h10, h11, h12, h13, h14⟩ := C0
  exact va_bald h1 h2 h8 h13 (c - lo) 1 (by rw [eW_get hc, hs]; rfl) rfl hin hdg k0
theorem r_zald {c N : Nat} {i : Int32} (hdg : decode (kCode K) pc = .ok (.baload, 1)) (hc : lo ≤ c ∧ c < lo + n) (hs : esh c = .inl (2, N)) (hin : vp_in i N) (kk : Ev Z G lo n b K (pc + 1) l (.int (M c i.toNatClampNeg) :: S) M ca sl) : Ev Z G lo n b K pc l (.int i :: .ref (G.1 c) :: S) M ca sl := by
  refine Ev.step (fun {p la e s m args below meth c' A H locs ls Q} C0 hl k0 => ?_) kk
  obtain ⟨h1, h2, h3, h4, h5, h6, h7, h8, h9, h10, h11, h12, h13, h14⟩ := C0
  exact va_zald h1 h2 h8 h13 (c - lo) 2 (by rw [eW_get hc, hs]; rfl) rfl hin hdg k0
theorem r_kald {c N : Nat} {i : Int32} (hdg : decode (kCode K) pc = .ok (.aaload, 1)) (hc : lo ≤ c ∧ c < lo + n) (hs : esh c = .inl (3, N)) (hin : vp_in i N) (kk : Ev Z G lo n b K (pc + 1) l (eV G 1 (M c i.toNatClampNeg) :: S) M ca sl) : Ev Z G lo n b K pc l (.int i :: .ref (G.1 c) :: S) M ca sl := by
  refine Ev.step (fun {p la e s m args below meth c' A H locs ls Q} C0 hl k0 => ?_) kk
  obtain ⟨h1, h2, h3, h4, h5, h6, h7, h8, h9, h10, h11, h12, h13, h14⟩ := C0
  exact va_aldq h1 h2 h8 h13 (c - lo) 3 (f := fun j => eKr G (M c j)) (by rw [eW_get hc, hs]; rfl) rfl hin hdg k0
/-- an array of Orders: its cells are the base's and those behind it -/
theorem r_oald {c N t : Nat} {i : Int32} (hdg : decode (kCode K) pc = .ok (.aaload, 1)) (hc : lo ≤ c ∧ c < lo + n) (hs : esh c = .inl (t + 4, N)) (hin : vp_in i N) (kk : Ev Z G lo n b K (pc + 1) l (.ref (G.1 (t + i.toNatClampNeg)) :: S) M ca sl) : Ev Z G lo n b K pc l (.int i :: .ref (G.1 c) :: S) M ca sl := by
  refine Ev.step (fun {p la e s m args below meth c' A H locs ls Q} C0 hl k0 => ?_) kk
  obtain ⟨h1, h2, h3, h4, h5, h6, h7, h8, h9, h10, h11, h12, h13, h14⟩ := C0
  exact va_aldq h1 h2 h8 h13 (c - lo) 4 (f := fun j => some (G.1 (t + j))) (by rw [eW_get hc, hs]; rfl) rfl hin hdg k0
theorem r_iast {c N : Nat} {i v : Int32} (hdg : decode (kCode K) pc = .ok (.iastore, 1)) (hc : lo ≤ c ∧ c < lo + n) (hs : esh c = .inl (0, N)) (hin : vp_in i N) (kk : Ev Z G lo n b K (pc + 1) l S (eU M c i.toNatClampNeg v) ca sl) : Ev Z G lo n b K pc l (.int v :: .int i :: .ref (G.1 c) :: S) M ca sl := by
  intro p la e s m args below meth c' A H locs ls C0 hl
  obtain ⟨h1, h2, h3, h4, h5, h6, h7, h8, h9, h10, h11, h12, h13, h14⟩ := C0
  refine va_iast h1 h2 h8 h13 h14 h12 (c - lo) 0 (f := M c) (by rw [eW_get hc, hs]; rfl) rfl hin hdg (fun H1 locs1 hP hD hS => ?_)
  rw [eW_set hc (M' := eU M c i.toNatClampNeg v) (fun c' h => eU_other M _ v h) (by rw [hs, eU_row]; rfl)] at hP hD
  exact kk p la e s m args below meth c' A H1 locs1 ls ⟨h1, h2, h3, h4, h5, h6, h7, h8, h9, h10, h11, hS, hP, hD⟩ hl
theorem r_bast {c N : Nat} {i v : Int32} (hdg : decode (kCode K) pc = .ok (.bastore, 1)) (hc : lo ≤ c ∧ c < lo + n) (hs : esh c = .inl (1, N)) (hin : vp_in i N) (kk : Ev Z G lo n b K (pc + 1) l S (eU M c i.toNatClampNeg v.toInt8.toInt32) ca sl) : Ev Z G lo n b K pc l (.int v :: .int i :: .ref (G.1 c) :: S) M ca sl := by
  intro p la e s m args below meth c' A H locs ls C0 hl
  obtain ⟨h1, h2, h3, h4, h5, h6, h7, h8, h9, h10, h11, h12, h13, h14⟩ := C0
  refine va_bast h1 h2 h8 h13 h14 h12 (c - lo) 1 (f := M c) (by rw [eW_get hc, hs]; rfl) rfl hin hdg (fun H1 locs1 hP hD hS => ?_)
  rw [eW_set hc (M' := eU M c i.toNatClampNeg v.toInt8.toInt32) (fun c' h => eU_other M _ _ h) (by rw [hs, eU_row]; rfl)] at hP hD
  exact kk p la e s m args below meth c' A H1 locs1 ls ⟨h1, h2, h3, h4, h5, h6, h7, h8, h9, h10, h11, hS, hP, hD⟩ hl
theorem r_zast {c N : Nat} {i v : Int32} (hdg : decode (kCode K) pc = .ok (.bastore, 1)) (hc : lo ≤ c ∧ c < lo + n) (hs : esh c = .inl (2, N)) (hin : vp_in i N) (kk : Ev Z G lo n b K (pc + 1) l S (eU M c i.toNatClampNeg (v &&& 1)) ca sl) : Ev Z G lo n b K pc l (.int v :: .int i :: .ref (G.1 c) :: S) M ca sl := by
  intro p la e s m args below meth c' A H locs ls C0 hl
  obtain ⟨h1, h2, h3, h4, h5, h6, h7, h8, h9, h10, h11, h12, h13, h14⟩ := C0
  refine va_zast h1 h2 h8 h13 h14 h12 (c - lo) 2 (f := M c) (by rw [eW_get hc, hs]; rfl) rfl hin hdg (fun H1 locs1 hP hD hS => ?_)
  rw [eW_set hc (M' := eU M c i.toNatClampNeg (v &&& 1)) (fun c' h => eU_other M _ _ h) (by rw [hs, eU_row]; rfl)] at hP hD
  exact kk p la e s m args below meth c' A H1 locs1 ls ⟨h1, h2, h3, h4, h5, h6, h7, h8, h9, h10, h11, hS, hP, hD⟩ hl
theorem r_alen {c t N : Nat} {v : Int32} (hdg : decode (kCode K) pc = .ok (.arraylength, 1)) (hc : lo ≤ c ∧ c < lo + n) (hs : esh c = .inl (t, N)) (hv : Int32.ofNat N = v) (kk : Ev Z G lo n b K (pc + 1) l (.int v :: S) M ca sl) : Ev Z G lo n b K pc l (.ref (G.1 c) :: S) M ca sl := by
  refine Ev.step (fun {p la e s m args below meth c' A H locs ls Q} C0 hl k0 => ?_) kk
  obtain ⟨h1, h2, h3, h4, h5, h6, h7, h8, h9, h10, h11, h12, h13, h14⟩ := C0
  match t, hs with
  | 0, hs => exact va_alen h1 h2 h8 h13 (c - lo) 0 (x := (N, .inl (M c))) (by rw [eW_get hc, hs]; rfl) rfl hv hdg k0
  | 1, hs => exact va_alen h1 h2 h8 h13 (c - lo) 1 (x := (N, .inl (M c))) (by rw [eW_get hc, hs]; rfl) rfl hv hdg k0
  | 2, hs => exact va_alen h1 h2 h8 h13 (c - lo) 2 (x := (N, .inl (M c))) (by rw [eW_get hc, hs]; rfl) rfl hv hdg k0
  | 3, hs => exact va_alen h1 h2 h8 h13 (c - lo) 3 (x := (N, .inr (.inr (.inr (.inr (fun j => eKr G (M c j))))))) (by rw [eW_get hc, hs]; rfl) rfl hv hdg k0
  | t + 4, hs => exact va_alen h1 h2 h8 h13 (c - lo) 4 (x := (N, .inr (.inr (.inr (.inr (fun j => some (G.1 (t + j)))))))) (by rw [eW_get hc, hs]; rfl) rfl hv hdg k0
/-! ends -/
theorem r_iret {mc ms : Nat} {Fin : Option Value → eM → Prop} {v : Int32} (hdg : decode (kCode K) pc = .ok (.ireturn, 1)) (hr : kRet K = some .int) (h1 : ca ≤ mc) (h2 : sl ≤ ms) (hF : Fin (some (.int v)) M) : Ev (eZ G lo n mc ms Fin) G lo n b K pc l [.int v] M ca sl := by
  intro p la e s m args below meth c' A H locs ls C0 hl
  obtain ⟨q1, q2, q3, q4, q5, q6, q7, q8, q9, q10, q11, q12, q13, q14⟩ := C0
  refine W.widen h1 h2 ?_
  exact W.iret q1 q2 (q4.trans hr) (fun t ht _ => ⟨⟨_, M, rfl, hF, by rw [ht]; exact q13⟩, q12.F ht⟩) q12.2.2 hdg q5.1
theorem r_zret {mc ms : Nat} {Fin : Option Value → eM → Prop} {v : Int32} {ty : FieldType} (hdg : decode (kCode K) pc = .ok (.ireturn, 1)) (hr : kRet K = some ty) (hn : narrow ty (.int v) = .int v) (h1 : ca ≤ mc) (h2 : sl ≤ ms) (hF : Fin (some (.int v)) M) : Ev (eZ G lo n mc ms Fin) G lo n b K pc l [.int v] M ca sl := by
  intro p la e s m args below meth c' A H locs ls C0 hl
  obtain ⟨q1, q2, q3, q4, q5, q6, q7, q8, q9, q10, q11, q12, q13, q14⟩ := C0
  refine W.widen h1 h2 ?_
  exact W.zret q1 q2 (q4.trans hr) hn (fun t ht _ => ⟨⟨_, M, rfl, hF, by rw [ht]; exact q13⟩, q12.F ht⟩) q12.2.2 hdg q5.1
theorem r_vret {mc ms : Nat} {Fin : Option Value → eM → Prop} (hdg : decode (kCode K) pc = .ok (.return_, 1)) (hr : kRet K = none) (h1 : ca ≤ mc) (h2 : sl ≤ ms) (hF : Fin none M) : Ev (eZ G lo n mc ms Fin) G lo n b K pc l [] M ca sl := by
  intro p la e s m args below meth c' A H locs ls C0 hl
  obtain ⟨q1, q2, q3, q4, q5, q6, q7, q8, q9, q10, q11, q12, q13, q14⟩ := C0
  refine W.widen h1 h2 ?_
  exact W.vret q1 q2 (q4.trans hr) (fun t ht _ => ⟨⟨_, M, rfl, hF, by rw [ht]; exact q13⟩, q12.F ht⟩) q12.2.2 hdg q5.1
theorem r_kret {mc ms : Nat} {Fin : Option Value → eM → Prop} {v : Int32} {nm : String} (hdg : decode (kCode K) pc = .ok (.areturn, 1)) (hr : kRet K = some (.object nm)) (h1 : ca ≤ mc) (h2 : sl ≤ ms) (hF : Fin (some (eV G 1 v)) M) : Ev (eZ G lo n mc ms Fin) G lo n b K pc l [eV G 1 v] M ca sl := by
  intro p la e s m args below meth c' A H locs ls C0 hl
  obtain ⟨q1, q2, q3, q4, q5, q6, q7, q8, q9, q10, q11, q12, q13, q14⟩ := C0
  refine W.widen h1 h2 ?_
  exact W.aret q1 q2 (q4.trans hr) (Or.inl ⟨_, rfl⟩) (va_rf_or _) (fun t ht _ => ⟨⟨_, M, rfl, hF, by rw [ht]; exact q13⟩, q12.F ht⟩) q12.2.2 hdg q5.1
/-! calls -/
abbrev eMD (K : eK) (k : Nat) : Prop := ((kY K).cls ≠ "java/lang/invoke/MethodHandle" ∧ (kY K).cls ≠ "java/lang/invoke/VarHandle" ∧ (parseMethodDescriptor (kY K).desc).map (fun d => d.parameters.length) = some k) ∧ goodWord (kW K) = true ∧ kOwn K = (kY K).cls
def eMV (K : eK) (k : Nat) : Prop := kW K ∈ lw_tbl ∧ Cond.instanceMethod (kY K) ∈ lw_tbl ∧ Cond.selects (kY K).cls (kY K) (kY K) ∈ lw_tbl ∧ Cond.initialized (kY K).cls ∈ lw_tbl ∧ eMD K k
def eMS (K : eK) (k : Nat) : Prop := kW K ∈ lw_tbl ∧ Cond.static (kY K) ∈ lw_tbl ∧ Cond.initialized (kY K).cls ∈ lw_tbl ∧ eMD K k
theorem eGood {K' : eK} (h : kW K' ∈ lw_tbl) (hg : goodWord (kW K') = true) : GoodIn eTbl [kW K'] := by
  intro w hw
  have : w = kW K' := by simpa using hw
  subst this
  exact ⟨eIn h (by simp [eOk, hg]), good_of_word hg⟩
/-- the budget of a callee within the caller's -/
abbrev eFit (b b' : eB) (K' : eK) (ca sl : Nat) : Prop := (b'.1 + 1 ≤ b.1 ∧ 8 + (kMax K' + 11) + 64 * b'.1 ≤ 64 * b.1) ∧ (ca + b'.2.1 ≤ b.2.1 ∧ sl + b'.2.2 ≤ b.2.2)
/-- behind any call -/
theorem Ev.after {b' : eB} {av rest : List Value} {S0 : List Value} {Fin : Option Value → eM → Prop} {p : Program} {la : Launch} {e : Env} {s : State} {m : MethodId} {args : Array Value} {below : List Frame} {meth : Method} {c' : Code} {A : Nat → Prop} {H : Heap} {locs : List Loc} {ls : Array Slot} (C0 : eC G lo n K p la s m args meth c' A M H locs) (hl : lv_has ls (kMax K) l)
    (hr : va_Run p la e (eR b) s m args below meth c' H locs ca sl b'.2.1 b'.2.2 (F0 m pc ls S0) rest (eQ G lo n A Fin av.toArray) A)
    (kk : ∀ (v : Option Value) (M' : eM), Fin v M' → Ev Z G lo n b K (pc + 3) l (v.toList ++ rest) M' (ca + b'.2.1) (sl + b'.2.2)) : W p la e (eR b) s m args below meth c' H locs ca sl (Z below args s A) (F0 m pc ls S0) := by
  intro T hT X
  obtain ⟨v, st₀, t, T', L, h0, X', hL, e1, e2, ⟨⟨v', M', hv, hF, hP1⟩, hz, hk⟩, st⟩ := hr T hT X
  cases hv
  obtain ⟨q1, q2, q3, q4, q5, q6, q7, q8, q9, q10, q11, q12, q13, q14⟩ := C0
  rw [h0] at hz hk
  obtain ⟨t2, a1, b1⟩ := kk v M' hF p la e s m args below meth c' A T'.heap (locs ++ L) ls
    ⟨q1, q2, q3, q4, q5, q6, q7, q8, q9, q10, q11,
      ⟨Nat.le_trans q12.1 (by rw [e1]; exact hz), fun q h1 h2 => by rw [e1, hk q (Nat.lt_of_lt_of_le h1 q12.1) h2]; exact q12.2.1 q h1 h2, fun q hq => by
        rcases List.mem_append.mp hq with h | h
        · exact q12.2.2 q h
        · exact hL q h⟩, by rw [e1]; exact hP1, eW_D q14⟩ hl T' rfl X'
  exact ⟨t2, st t2 a1, b1⟩
theorem r_callV {K' : eK} {b' : eB} {As : List Value} {index c ci k : Nat} {cs : List Nat} {C : String} {T : u_T} {N : Nat} {ty : Nat → FieldType} {Fin : Option Value → eM → Prop} (hdg : decode (kCode K) pc = .ok (.invokevirtual index, 3)) (hm : eMV K' k) (hlk : Cond.methodLink (kOwn K) index (kY K') ∈ lw_tbl) (hC : eCl ci C T N ty) (hcn : (kY K').cls = C) (hc : lo ≤ c ∧ c < lo + n) (hs : esh c = .inr (ci, cs)) (hk : As.length = k) (hb : eFit b b' K' ca sl) (hS : (S.map fun v => v.category).sum ≤ 8)
    (hcal : Cal G lo n b' K' (.ref (G.1 c) :: As) M Fin) (kk : ∀ (v : Option Value) (M' : eM), Fin v M' → Ev Z G lo n b K (pc + 3) l (v.toList ++ S) M' (ca + b'.2.1) (sl + b'.2.2)) {S0 : List Value} (hS0 : S0 = As.reverse ++ .ref (G.1 c) :: S) : Ev Z G lo n b K pc l S0 M ca sl := by
  subst hS0
  intro p la e s m args below meth c' A H locs ls C0 hl
  have C1 := C0
  obtain ⟨q1, q2, q3, q4, q5, q6, q7, q8, q9, q10, q11, q12, q13, q14⟩ := C1
  obtain ⟨m1, m2, m3, m4, m5, m6, m8⟩ := hm
  have hcw : CallW (eR b) s args (kOwn K) C index (kY K') (kCode K') (kMax K') (kRet K') [kW K'] (eR b') b'.2.1 b'.2.2 k :=
    ⟨callB_of k q7 (eGood m1 m6) rfl rfl rfl (q7 _ (eIn m4 rfl)) (q7 _ (eIn hlk rfl)) m5 hb.1, q7 _ (eIn m2 rfl), by rw [← hcn]; exact q7 _ (eIn m3 rfl)⟩
  refine Ev.after C0 hl (va_runV (As := As) (rest := S) (nL := kMax K) ⟨q1, q2, q3, q6, q7⟩ (hcal la q11.1 A) hcw ⟨eI.blind, ?_, fun U hU hW => ⟨rfl, eC.pass C0 hU hW⟩⟩ rfl hk hl.1 rfl (lv_room hS) hdg hb.2) kk
  exact va_recv (q := (C, T, N)) q8 q13 hC.1 (q0 := c - lo) (by rw [eW_get hc, hs]; rfl)
theorem r_callS {K' : eK} {b' : eB} {As : List Value} {index k : Nat} {Fin : Option Value → eM → Prop} (hdg : decode (kCode K) pc = .ok (.invokestatic index, 3)) (hm : eMS K' k) (hlk : Cond.methodLink (kOwn K) index (kY K') ∈ lw_tbl) (hk : As.length = k) (hb : eFit b b' K' ca sl) (hS : (S.map fun v => v.category).sum ≤ 8)
    (hcal : Cal G lo n b' K' As M Fin) (kk : ∀ (v : Option Value) (M' : eM), Fin v M' → Ev Z G lo n b K (pc + 3) l (v.toList ++ S) M' (ca + b'.2.1) (sl + b'.2.2)) {S0 : List Value} (hS0 : S0 = As.reverse ++ S) : Ev Z G lo n b K pc l S0 M ca sl := by
  subst hS0
  intro p la e s m args below meth c' A H locs ls C0 hl
  have C1 := C0
  obtain ⟨q1, q2, q3, q4, q5, q6, q7, q8, q9, q10, q11, q12, q13, q14⟩ := C1
  obtain ⟨m1, m2, m4, m5, m6, m8⟩ := hm
  exact Ev.after C0 hl (va_runS (As := As) (rest := S) (nL := kMax K) ⟨q1, q2, q3, q6, q7⟩ (hcal la q11.1 A) ⟨callB_of k q7 (eGood m1 m6) rfl rfl rfl (q7 _ (eIn m4 rfl)) (q7 _ (eIn hlk rfl)) m5 hb.1, q7 _ (eIn m2 rfl)⟩ ⟨eI.blind, fun U hU hW => ⟨rfl, eC.pass C0 hU hW⟩⟩ rfl hk hl.1 rfl (lv_room hS) hdg hb.2) kk
end ERows
