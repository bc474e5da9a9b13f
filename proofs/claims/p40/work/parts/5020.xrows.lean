/-! ===== worlds as lists of cells ===== -/
theorem xP_mem {D : va_G} {cl : List vw_C} {w : va_W} {H : Heap} : va_P D cl w H ↔ ∀ x ∈ w, va_at D cl x H := by
  constructor
  · intro h x hx
    obtain ⟨i, hi⟩ := List.mem_iff_getElem?.mp hx
    exact h i x hi
  · intro h k x hx
    exact h x (List.mem_iff_getElem?.mpr ⟨k, hx⟩)
theorem xD_mem {A : Nat → Prop} {w : va_W} : va_D A w ↔ (w.map (·.1)).Nodup ∧ ∀ x ∈ w, A x.1 := by
  constructor
  · intro h
    refine ⟨?_, fun x hx => ?_⟩
    · refine List.pairwise_iff_getElem.mpr (fun i j hi hj hij e => ?_)
      rw [List.length_map] at hi hj
      rw [List.getElem_map, List.getElem_map] at e
      have := h.1 i j w[i] w[j] (List.getElem?_eq_getElem hi) (List.getElem?_eq_getElem hj) e
      omega
    · obtain ⟨i, hi⟩ := List.mem_iff_getElem?.mp hx
      exact h.2 i x hi
  · intro h
    refine ⟨fun i j x y hi hj e => ?_, fun k x hx => h.2 x (List.mem_iff_getElem?.mpr ⟨k, hx⟩)⟩
    obtain ⟨hi1, hi2⟩ := List.getElem?_eq_some_iff.mp hi
    obtain ⟨hj1, hj2⟩ := List.getElem?_eq_some_iff.mp hj
    have hp := List.pairwise_iff_getElem.mp h.1
    rcases Nat.lt_trichotomy i j with q | q | q
    · exact absurd (by rw [List.getElem_map, List.getElem_map, hi2, hj2]; exact e) (hp i j (by rw [List.length_map]; exact hi1) (by rw [List.length_map]; exact hj1) q)
    · exact q
    · exact absurd (by rw [List.getElem_map, List.getElem_map, hi2, hj2]; exact e.symm) (hp j i (by rw [List.length_map]; exact hj1) (by rw [List.length_map]; exact hi1) q)
/-- what the one world says, the other says too -/
def xLe (w w' : va_W) : Prop := (∀ (D : va_G) (H : Heap), va_P D vwCl w H → va_P D vwCl w' H) ∧ ∀ A : Nat → Prop, va_D A w → va_D A w'
theorem xLe.refl (w : va_W) : xLe w w := ⟨fun _ _ h => h, fun _ h => h⟩
theorem xLe.trans {w w1 w2 : va_W} (h : xLe w w1) (h1 : xLe w1 w2) : xLe w w2 := ⟨fun D H q => h1.1 D H (h.1 D H q), fun A q => h1.2 A (h.2 A q)⟩
theorem xLe.perm {w w' : va_W} (h : w.Perm w') : xLe w w' := by
  refine ⟨fun D H q => ?_, fun A q => ?_⟩
  · rw [xP_mem] at q ⊢
    exact fun x hx => q x (h.mem_iff.mpr hx)
  · rw [xD_mem] at q ⊢
    exact ⟨(h.map _).nodup_iff.mp q.1, fun x hx => q.2 x (h.mem_iff.mpr hx)⟩
/-- the same addresses, and each cell says what the other says -/
def xEq (w w' : va_W) : Prop := w.map (·.1) = w'.map (·.1) ∧ ∀ (D : va_G) (H : Heap), va_P D vwCl w H → va_P D vwCl w' H
theorem xEq.le {w w' : va_W} (h : xEq w w') : xLe w w' := by
  refine ⟨h.2, fun A q => ?_⟩
  rw [xD_mem] at q ⊢
  rw [← h.1]
  refine ⟨q.1, fun x hx => ?_⟩
  have h1 : x.1 ∈ w'.map (·.1) := List.mem_map.mpr ⟨x, hx, rfl⟩
  rw [← h.1] at h1
  obtain ⟨y, hy, e⟩ := List.mem_map.mp h1
  have := q.2 y hy
  rw [e] at this
  exact this
theorem xEq.nil : xEq [] [] := ⟨rfl, fun _ _ h => h⟩
theorem xP_cons {D : va_G} {cl : List vw_C} {x : Nat × va_E} {w : va_W} {H : Heap} : va_P D cl (x :: w) H ↔ va_at D cl x H ∧ va_P D cl w H := by
  rw [xP_mem, xP_mem]
  exact List.forall_mem_cons
theorem xP_app {D : va_G} {cl : List vw_C} {w w' : va_W} {H : Heap} : va_P D cl (w ++ w') H ↔ va_P D cl w H ∧ va_P D cl w' H := by
  rw [xP_mem, xP_mem, xP_mem]
  exact List.forall_mem_append
theorem xEq.cons {x x' : Nat × va_E} {w w' : va_W} (h1 : x.1 = x'.1) (h2 : ∀ (D : va_G) (H : Heap), va_at D vwCl x H → va_at D vwCl x' H) (h : xEq w w') : xEq (x :: w) (x' :: w') := by
  refine ⟨by rw [List.map_cons, List.map_cons, h1, h.1], fun D H q => ?_⟩
  rw [xP_cons] at q ⊢
  exact ⟨h2 D H q.1, h.2 D H q.2⟩
theorem xEq.same {x : Nat × va_E} {w w' : va_W} (h : xEq w w') : xEq (x :: w) (x :: w') := xEq.cons rfl (fun _ _ q => q) h
theorem xEq.app {w w' v v' : va_W} (h : xEq w w') (h1 : xEq v v') : xEq (w ++ v) (w' ++ v') := by
  refine ⟨by rw [List.map_append, List.map_append, h.1, h1.1], fun D H q => ?_⟩
  rw [xP_app] at q ⊢
  exact ⟨h.2 D H q.1, h1.2 D H q.2⟩
theorem xEq.refl (w : va_W) : xEq w w := ⟨rfl, fun _ _ h => h⟩
theorem xEq.trans {w w1 w2 : va_W} (h : xEq w w1) (h1 : xEq w1 w2) : xEq w w2 := ⟨h.1.trans h1.1, fun D H q => h1.2 D H (h.2 D H q)⟩
theorem xEq.map {α : Type} {f f' : α → Nat × va_E} {l : List α} (h1 : ∀ x ∈ l, (f x).1 = (f' x).1) (h2 : ∀ x ∈ l, ∀ (D : va_G) (H : Heap), va_at D vwCl (f x) H → va_at D vwCl (f' x) H) : xEq (l.map f) (l.map f') := by
  refine ⟨?_, fun D H q => ?_⟩
  · rw [List.map_map, List.map_map]
    exact List.map_congr_left h1
  · rw [xP_mem] at q ⊢
    intro x hx
    obtain ⟨y, hy, rfl⟩ := List.mem_map.mp hx
    exact h2 y hy D H (q _ (List.mem_map.mpr ⟨y, hy, rfl⟩))
/-! Ex: the machine at one place of a method, over a list of cells -/
abbrev xX : Type := State → Method → Code → (Nat → Prop) → Prop
def xC (X : xX) (G : eG) (K : eK) (p : Program) (la : Launch) (s : State) (m : MethodId) (args : Array Value) (meth : Method) (c : Code) (A : Nat → Prop) (w : va_W) (H : Heap) (locs : List Loc) : Prop :=
  p.tables.exec = Jvm.exec ∧ c.code = kCode K ∧ c.maxLocals = kMax K ∧ meth.sig.returnType = kRet K ∧ (meth.locks = false ∧ X s meth c A) ∧ s.vm.findClass (kOwn K) = some m.cls ∧ (∀ w ∈ eTbl, w.before args s = true) ∧
  va_K (eD G) vwCl (eTy G) s ∧ eSt G A s s.heap ∧ (∀ q, s.heap.size ≤ q → A q) ∧ (la.flags = flags0 ∧ eMs G s) ∧ va_S A s.heap H locs ∧ va_P (eD G) vwCl w H ∧ va_D A w
def Ex (X : xX) (Z : eZt) (G : eG) (R : Room) (K : eK) (pc : Nat) (l : List (Nat × Value)) (S : List Value) (w : va_W) (ca sl : Nat) : Prop :=
  ∀ (p : Program) (la : Launch) (e : Env) (s : State) (m : MethodId) (args : Array Value) (below : List Frame) (meth : Method) (c : Code) (A : Nat → Prop) (H : Heap) (locs : List Loc) (ls : Array Slot),
    xC X G K p la s m args meth c A w H locs → lv_has ls (kMax K) l → W p la e R s m args below meth c H locs ca sl (Z below args s A) (F0 m pc ls S)
/-- a method's end: its answer and its world -/
def xQ (G : eG) (A : Nat → Prop) (Fin : Option Value → va_W → Prop) : Array Value → State → Outcome → State → Prop := fun _ st oc t =>
  (∃ (v : Option Value) (w' : va_W), oc = .returned v ∧ Fin v w' ∧ va_P (eD G) vwCl w' t.heap ∧ va_D A w') ∧ va_F A st t
abbrev xZ (G : eG) (mc ms : Nat) (Fin : Option Value → va_W → Prop) : eZt := fun below args s A => MQ below (xQ G A Fin) args s mc ms A
abbrev xN : Type := State → Prop
def xNm (N : xN) : Prop := ∀ s U : State, s.vm.Alike U.vm → N s → N U
def xI (G : eG) (N : xN) (A : Nat → Prop) (w : va_W) (U : State) : Prop :=
  (eTB U ∧ eMs G U ∧ N U) ∧ va_K (eD G) vwCl (eTy G) U ∧ eSt G A U U.heap ∧ (∀ q, U.heap.size ≤ q → A q) ∧ va_P (eD G) vwCl w U.heap ∧ va_D A w
/-- a method's contract over a list of cells -/
def xCal (G : eG) (N : xN) (b : eB) (K : eK) (av : List Value) (w : va_W) (Fin : Option Value → va_W → Prop) : Prop :=
  ∀ (la : Launch), la.flags = flags0 → ∀ (A : Nat → Prop), Met la (kY K) [kW K] (eR b) (va_Pc av (xI G N A w)) (xQ G A Fin) b.2.1 b.2.2 A
abbrev xHH : Type := List (Nat × Nat × Nat × Nat)
abbrev kT (K : eK) (hh : xHH) : Cond := .codeWith (kY K) (kCode K) (kMax K) (kRet K) hh
/-- the same for a method with an exception table -/
def xCalT (G : eG) (N : xN) (b : eB) (K : eK) (hh : xHH) (av : List Value) (w : va_W) (Fin : Option Value → va_W → Prop) : Prop :=
  ∀ (la : Launch), la.flags = flags0 → ∀ (A : Nat → Prop), Met la (kY K) [kT K hh] (eR b) (va_Pc av (xI G N A w)) (xQ G A Fin) b.2.1 b.2.2 A
def xXC (G : eG) (A : Nat → Prop) (E : String) (w : va_W) : String → State → State → Prop := fun E' st t => E' = E ∧ va_P (eD G) vwCl w t.heap ∧ va_F A st t
/-- at these arguments and this world the method throws an object of class E, and the world is as it was -/
def xCalX (G : eG) (N : xN) (b : eB) (K : eK) (av : List Value) (w : va_W) (E : String) : Prop :=
  ∀ (la : Launch), la.flags = flags0 → ∀ (A : Nat → Prop), vx_Met la (kY K) [kW K] (eR b) (va_Pc av (xI G N A w)) eNo (xXC G A E w) b.2.1 b.2.2 A
theorem xI.blind {G : eG} {N : xN} (hN : xNm N) {A : Nat → Prop} {w : va_W} {av : List Value} : FrameBlind (va_Pc av (xI G N A w)) := by
  intro a U g mk h
  obtain ⟨h0, h1, h2, h3, h4, h5, h6⟩ := h
  exact ⟨h0, ⟨eTB.same (u := U) (U := U.calling g mk a) rfl h1.1, eMs.same (u := U) (U := U.calling g mk a) rfl h1.2.1, hN U (U.calling g mk a) (Vm.Alike.refl U.vm) h1.2.2⟩, va_K.moved (U := U.calling g mk a) (Vm.Alike.refl U.vm) h2, eSt.moved (U := U.calling g mk a) (Vm.Alike.refl U.vm) h3, h4, h5, h6⟩
theorem xC.pass {X : xX} {N : xN} (hN : xNm N) (hX : ∀ s meth c A, X s meth c A → N s) {G : eG} {K : eK} {p : Program} {la : Launch} {s : State} {m : MethodId} {args : Array Value} {meth : Method} {c : Code} {A : Nat → Prop} {w : va_W} {H : Heap} {locs : List Loc} (C : xC X G K p la s m args meth c A w H locs) {U : State} (hU : U.heap = H) (hW : s.WarmedH U.vm) : xI G N A w U := by
  obtain ⟨-, -, -, -, h5, -, h7, h8, h9, h10, h11, h12, h13, h14⟩ := C
  refine ⟨⟨eTB.warm hW h7, eMs.warm hW h11.2, hN s U hW.alike (hX _ _ _ _ h5.2)⟩, va_K.moved hW.alike h8, ?_, fun q hq => h10 q (Nat.le_trans h12.1 (by rw [← hU]; exact hq)), by rw [hU]; exact h13, h14⟩
  rw [hU]
  exact (h9.kept h12.2.1).moved hW.alike
theorem xCal.of {G : eG} {N : xN} {b : eB} {K : eK} {av : List Value} {w : va_W} {Fin : Option Value → va_W → Prop} (hpl : plainName (kY K).cls = true) (hown : kOwn K = (kY K).cls) (hlen : (lg_sl av).length ≤ kMax K)
    (body : Ex (fun s meth _ _ => meth.name = (kY K).name ∧ N s) (xZ G b.2.1 b.2.2 Fin) G (eR b) K 0 (lv_args 0 av) [] w 0 0) : xCal G N b K av w Fin := by
  intro la hfl A
  refine Met.ofW (cc := kCode K) (maxL := kMax K) (ret := kRet K) hpl rfl ?_
  intro p e s m args below meth c s₁ B hml hv
  obtain ⟨rfl, h1, h2, h3, h4, h5, h6⟩ := hv
  rw [lg_entry_eq]
  exact body p la e s m _ below meth c A s.heap [] _ ⟨B.exec, B.bytes, hml, B.returns, ⟨B.notSynchronized, (name_of_methodNamed B.named B.method).1, h1.2.2⟩, by rw [hown]; exact findClass_of_methodNamed B.named, h1.1.at _, h2, h3, h4, ⟨hfl, h1.2.1⟩, va_S.rf, h5, h6⟩ (lv_entry av hlen)
theorem xCalT.of {G : eG} {N : xN} {b : eB} {K : eK} {hh : xHH} {av : List Value} {w : va_W} {Fin : Option Value → va_W → Prop} (hpl : plainName (kY K).cls = true) (hown : kOwn K = (kY K).cls) (hlen : (lg_sl av).length ≤ kMax K)
    (body : Ex (fun s _ c _ => c.exceptionTable.toList = tableOf hh ∧ N s) (xZ G b.2.1 b.2.2 Fin) G (eR b) K 0 (lv_args 0 av) [] w 0 0) : xCalT G N b K hh av w Fin := by
  intro la hfl A
  refine va_MetW (cc := kCode K) (maxL := kMax K) (ret := kRet K) (hh := hh) hpl rfl ?_
  intro p e s m args below meth c s₁ B hml hv
  obtain ⟨rfl, h1, h2, h3, h4, h5, h6⟩ := hv
  rw [lg_entry_eq]
  exact body p la e s m _ below meth c A s.heap [] _ ⟨B.exec, B.bytes, hml, B.returns, ⟨B.notSynchronized, vx_table (x := kY K) B (atoms_spec (ws := [kT K hh]) B.pre _ List.mem_cons_self), h1.2.2⟩, by rw [hown]; exact findClass_of_methodNamed B.named, h1.1.at _, h2, h3, h4, ⟨hfl, h1.2.1⟩, va_S.rf, h5, h6⟩ (lv_entry av hlen)
theorem xCal.mono {G : eG} {N : xN} {b : eB} {K : eK} {av : List Value} {w : va_W} {Fin Fin' : Option Value → va_W → Prop} (h : xCal G N b K av w Fin) (hF : ∀ v w', Fin v w' → Fin' v w') : xCal G N b K av w Fin' := by
  intro la hfl A p e ha hc hk s m args below hf happ hP hK
  obtain ⟨k, o, h1, h2, h3, ⟨⟨v, w', e1, e2, e3⟩, e4⟩, h5⟩ := h la hfl A p e ha hc hk s m args below hf happ hP hK
  exact ⟨k, o, h1, h2, h3, ⟨⟨v, w', e1, hF v w' e2, e3⟩, e4⟩, h5⟩
/-! contracts over a part of the world -/
theorem eStr.narrow {G : eG} {b : Nat} {tx : List (List Int32)} {A B : Nat → Prop} {U : State} {H : Heap} (h : eStr G b tx A U H) (hAB : ∀ q, B q → A q) : eStr G b tx B U H :=
  fun k hk => ⟨(h k hk).1.narrow hAB, (h k hk).2.1.narrow hAB, (h k hk).2.2.1.narrow hAB, (h k hk).2.2.2.narrow hAB⟩
theorem eTb.narrow {G : eG} {c : Nat} {C n d : String} {ty : FieldType} {N : Nat} {f : Nat → Value} {A B : Nat → Prop} {U : State} {H : Heap} (h : eTb G c C n d ty N f A U H) (hAB : ∀ q, B q → A q) : eTb G c C n d ty N f B U H := ⟨h.1.narrow hAB, h.2.narrow hAB⟩
theorem eWy.narrow {G : eG} {A B : Nat → Prop} {U : State} {H : Heap} (h : eWy G A U H) (hAB : ∀ q, B q → A q) : eWy G B U H := ⟨h.1.narrow hAB, fun j hj => (h.2 j hj).narrow hAB⟩
theorem eSt.narrow {G : eG} {A B : Nat → Prop} {U : State} {H : Heap} (h : eSt G A U H) (hAB : ∀ q, B q → A q) : eSt G B U H := by
  obtain ⟨h1, h2, h3, h4, h5, h6, h7, h8, h9, h10, h11, h12, h13, h14, h15, h16, h17, h18, h19⟩ := h
  exact ⟨h1.narrow hAB, fun k hk => (h2 k hk).narrow hAB, h3.narrow hAB, h4.narrow hAB, h5.narrow hAB, h6.narrow hAB, h7.narrow hAB, h8.narrow hAB, h9.narrow hAB, h10.narrow hAB, h11.narrow hAB, h12.narrow hAB, h13.narrow hAB, h14.narrow hAB, h15.narrow hAB, h16.narrow hAB, h17.narrow hAB, h18.narrow hAB, h19.narrow hAB⟩
theorem xw_mid {α : Type} {L W R : List α} {i : Nat} (h : i < W.length) : (L ++ (W ++ R))[L.length + i]? = W[i]? := by
  rw [List.getElem?_append_right (by omega), List.getElem?_append_left (by omega)]
  congr 1
  omega
theorem xw_out {L W R : va_W} {A : Nat → Prop} (h : va_D A (L ++ (W ++ R))) : va_D (fun q => A q ∧ ∀ x, x ∈ L ∨ x ∈ R → q ≠ x.1) W := by
  rw [xD_mem] at h ⊢
  obtain ⟨h1, h2⟩ := h
  rw [List.map_append, List.map_append] at h1
  obtain ⟨n1, n2, n3⟩ := List.nodup_append.mp h1
  obtain ⟨m1, m2, m3⟩ := List.nodup_append.mp n2
  refine ⟨m1, fun x hx => ⟨h2 x (List.mem_append_right _ (List.mem_append_left _ hx)), fun y hy e => ?_⟩⟩
  have hx1 : x.1 ∈ W.map (·.1) := List.mem_map.mpr ⟨x, hx, rfl⟩
  rcases hy with hy | hy
  · exact n3 y.1 (List.mem_map.mpr ⟨y, hy, rfl⟩) x.1 (List.mem_append_left _ hx1) e.symm
  · exact m3 x.1 hx1 y.1 (List.mem_map.mpr ⟨y, hy, rfl⟩) e
theorem eW_adr (G : eG) (lo n : Nat) (M M' : eM) : (eW G lo n M).map (·.1) = (eW G lo n M').map (·.1) := by
  unfold eW
  rw [List.map_map, List.map_map]
  rfl
theorem xw_new {G : eG} {lo n : Nat} {M M' : eM} {L R : va_W} {A : Nat → Prop} (h : va_D A (L ++ (eW G lo n M ++ R))) : va_D A (L ++ (eW G lo n M' ++ R)) := by
  have e : (L ++ (eW G lo n M ++ R)).map (·.1) = (L ++ (eW G lo n M' ++ R)).map (·.1) := by
    rw [List.map_append, List.map_append, List.map_append, List.map_append, eW_adr G lo n M M']
  rw [xD_mem] at h ⊢
  rw [← e]
  refine ⟨h.1, fun x hx => ?_⟩
  have h1 : x.1 ∈ (L ++ (eW G lo n M' ++ R)).map (·.1) := List.mem_map.mpr ⟨x, hx, rfl⟩
  rw [← e] at h1
  obtain ⟨y, hy, e2⟩ := List.mem_map.mp h1
  have := h.2 y hy
  rw [e2] at this
  exact this
theorem xI.cut {G : eG} {N : xN} {A : Nat → Prop} {lo n : Nat} {M : eM} {L R : va_W} {U : State} (h : xI G N A (L ++ (eW G lo n M ++ R)) U) : eI G (fun q => A q ∧ ∀ x, x ∈ L ∨ x ∈ R → q ≠ x.1) lo n M U := by
  obtain ⟨h1, h2, h3, h4, h5, h6⟩ := h
  refine ⟨⟨h1.1, h1.2.1⟩, h2, h3.narrow (fun q z => z.1), fun q hq => ⟨h4 q hq, fun x hx e => ?_⟩, (xP_app.mp (xP_app.mp h5).2).1, xw_out h6⟩
  have hlt : x.1 < U.heap.size := by
    rcases hx with hx | hx
    · exact (xP_mem.mp (xP_app.mp h5).1 x hx).lt
    · exact (xP_mem.mp (xP_app.mp (xP_app.mp h5).2).2 x hx).lt
  omega
theorem xw_kept {G : eG} {A : Nat → Prop} {lo n : Nat} {M M' : eM} {L R : va_W} {st t : State} (h : va_P (eD G) vwCl (L ++ (eW G lo n M ++ R)) st.heap) (hF : va_F (fun q => A q ∧ ∀ x, x ∈ L ∨ x ∈ R → q ≠ x.1) st t) (hP : va_P (eD G) vwCl (eW G lo n M') t.heap) : va_P (eD G) vwCl (L ++ (eW G lo n M' ++ R)) t.heap := by
  obtain ⟨hL, hWR⟩ := xP_app.mp h
  obtain ⟨-, hR⟩ := xP_app.mp hWR
  have key : ∀ x, x ∈ L ∨ x ∈ R → va_at (eD G) vwCl x st.heap → va_at (eD G) vwCl x t.heap := fun x hx q => q.kept (hF.2 _ q.lt (fun z => z.2 x hx rfl))
  exact xP_app.mpr ⟨xP_mem.mpr (fun x hx => key x (Or.inl hx) (xP_mem.mp hL x hx)), xP_app.mpr ⟨hP, xP_mem.mpr (fun x hx => key x (Or.inr hx) (xP_mem.mp hR x hx))⟩⟩
/-- a contract over fixed cells holds over every list that has them -/
theorem Cal.list {G : eG} {lo n : Nat} {b : eB} {K : eK} {av : List Value} {M : eM} {Fin : Option Value → eM → Prop} (h : Cal G lo n b K av M Fin) (N : xN) (L R : va_W) : xCal G N b K av (L ++ (eW G lo n M ++ R)) (fun v w' => ∃ M', Fin v M' ∧ w' = L ++ (eW G lo n M' ++ R)) := by
  intro la hfl A p e ha hc hk s m args below hf happ hP hK
  obtain ⟨q0, hI⟩ := hP
  obtain ⟨k, o, z1, z2, z3, ⟨⟨v, M0, e1, e2, e3⟩, e4⟩, L0, z5, z6⟩ := h la hfl (fun q => A q ∧ ∀ x, x ∈ L ∨ x ∈ R → q ≠ x.1) p e ha hc hk s m args below hf happ ⟨q0, hI.cut⟩ hK
  obtain ⟨h1, h2, h3, h4, h5, h6⟩ := hI
  exact ⟨k, o, z1, z2, z3, ⟨⟨v, _, e1, ⟨M0, e2, rfl⟩, xw_kept h5 e4 e3, xw_new h6⟩, ⟨e4.1, fun q hq hA => e4.2 q hq (fun z => hA z.1)⟩⟩, L0, z5, fun q hq => (z6 q hq).1⟩
theorem CalX.list {G : eG} {lo n : Nat} {b : eB} {K : eK} {av : List Value} {M : eM} {E : String} (h : CalX G lo n b K av M E) (N : xN) (L R : va_W) : xCalX G N b K av (L ++ (eW G lo n M ++ R)) E := by
  intro la hfl A p e ha hc hk s m args below hf happ hP hK
  obtain ⟨q0, hI⟩ := hP
  obtain ⟨k, o, z1, z2, z3, z4⟩ := h la hfl (fun q => A q ∧ ∀ x, x ∈ L ∨ x ∈ R → q ≠ x.1) p e ha hc hk s m args below hf happ ⟨q0, hI.cut⟩ hK
  refine ⟨k, o, z1, z2, z3, ?_⟩
  obtain ⟨h1, h2, h3, h4, h5, h6⟩ := hI
  rcases z4 with ⟨z5, -⟩ | ⟨q, e1, E', ce, L0, ⟨e2, e3, e4⟩, e5, e6, e7, e8, e9, e10⟩
  · exact z5.elim
  · exact Or.inr ⟨q, e1, E', ce, L0, ⟨e2, xw_kept h5 e4 e3, ⟨e4.1, fun q hq hA => e4.2 q hq (fun z => hA z.1)⟩⟩, e5, e6, e7, e8, e9, fun z hz => (e10 z hz).1⟩
section XRows
variable {X : xX} {Z : eZt} {G : eG} {R : Room} {K : eK} {pc : Nat} {l l' : List (Nat × Value)} {S : List Value} {w : va_W} {ca sl : Nat}
theorem Ex.le {w' : va_W} (h : xLe w w') (k : Ex X Z G R K pc l S w' ca sl) : Ex X Z G R K pc l S w ca sl := by
  intro p la e s m args below meth c A H locs ls C hl
  obtain ⟨h1, h2, h3, h4, h5, h6, h7, h8, h9, h10, h11, h12, h13, h14⟩ := C
  exact k p la e s m args below meth c A H locs ls ⟨h1, h2, h3, h4, h5, h6, h7, h8, h9, h10, h11, h12, h.1 _ _ h13, h.2 _ h14⟩ hl
theorem Ex.ww {w' : va_W} (h : w = w') (k : Ex X Z G R K pc l S w' ca sl) : Ex X Z G R K pc l S w ca sl := h ▸ k
theorem Ex.wide {ca' sl' : Nat} (h1 : ca ≤ ca') (h2 : sl ≤ sl') (k : Ex X Z G R K pc l S w ca' sl') : Ex X Z G R K pc l S w ca sl :=
  fun p la e s m args below meth c A H locs ls C hl => W.widen h1 h2 (k p la e s m args below meth c A H locs ls C hl)
theorem Ex.sub {ks : List Nat} (hl' : lv_pick l ks = l') (k : Ex X Z G R K pc l' S w ca sl) : Ex X Z G R K pc l S w ca sl :=
  fun p la e s m args below meth c A H locs ls C hl => k p la e s m args below meth c A H locs ls C (lv_sub hl ks hl')
theorem Ex.step {pc' : Nat} {S' : List Value} (h : ∀ {p : Program} {la : Launch} {e : Env} {s : State} {m : MethodId} {args : Array Value} {below : List Frame} {meth : Method} {c : Code} {A : Nat → Prop} {H : Heap} {locs : List Loc} {ls : Array Slot} {Q : State → Prop}, xC X G K p la s m args meth c A w H locs → lv_has ls (kMax K) l →
    W p la e R s m args below meth c H locs ca sl Q (F0 m pc' ls S') → W p la e R s m args below meth c H locs ca sl Q (F0 m pc ls S)) (k : Ex X Z G R K pc' l S' w ca sl) : Ex X Z G R K pc l S w ca sl :=
  fun p la e s m args below meth c A H locs ls C hl => h C hl (k p la e s m args below meth c A H locs ls C hl)
theorem x_iconst {i : Int} {v : Int32} (hdg : decode (kCode K) pc = .ok (.iconst i, 1)) (hv : Int32.ofInt i = v) (k : Ex X Z G R K (pc + 1) l (.int v :: S) w ca sl) : Ex X Z G R K pc l S w ca sl :=
  Ex.step (fun C _ k => lv_iconst C.1 C.2.1 hdg hv k) k
theorem x_bipush {i : Int} {v : Int32} (hdg : decode (kCode K) pc = .ok (.bipush i, 2)) (hv : (Int8.ofInt i).toInt32 = v) (k : Ex X Z G R K (pc + 2) l (.int v :: S) w ca sl) : Ex X Z G R K pc l S w ca sl :=
  Ex.step (fun C _ k => lv_bipush C.1 C.2.1 hdg hv k) k
theorem x_sipush {i : Int} {v : Int32} (hdg : decode (kCode K) pc = .ok (.sipush i, 3)) (hv : (Int16.ofInt i).toInt32 = v) (k : Ex X Z G R K (pc + 3) l (.int v :: S) w ca sl) : Ex X Z G R K pc l S w ca sl :=
  Ex.step (fun C _ k => lv_sipush C.1 C.2.1 hdg hv k) k
theorem x_iload_n {q : Fin 4} {i : Nat} (j : Nat) {x : Int32} (hdg : decode (kCode K) pc = .ok (.iload_n q, 1)) (hi : (q : Nat) = i) (hj : l[j]? = some (i, .int x)) (k : Ex X Z G R K (pc + 1) l (.int x :: S) w ca sl) : Ex X Z G R K pc l S w ca sl :=
  Ex.step (fun C hl k => lv_iload_n C.1 C.2.1 hdg hi (lv_at hl j hj) k) k
theorem x_iload {i : Nat} (j : Nat) {x : Int32} (hdg : decode (kCode K) pc = .ok (.iload i, 2)) (hj : l[j]? = some (i, .int x)) (k : Ex X Z G R K (pc + 2) l (.int x :: S) w ca sl) : Ex X Z G R K pc l S w ca sl :=
  Ex.step (fun C hl k => lv_iload C.1 C.2.1 hdg (lv_at hl j hj) k) k
theorem x_aload_n {q : Fin 4} {i : Nat} (j : Nat) {x : Nat} (hdg : decode (kCode K) pc = .ok (.aload_n q, 1)) (hi : (q : Nat) = i) (hj : l[j]? = some (i, .ref x)) (k : Ex X Z G R K (pc + 1) l (.ref x :: S) w ca sl) : Ex X Z G R K pc l S w ca sl :=
  Ex.step (fun C hl k => lv_aload_n C.1 C.2.1 hdg hi (lv_at hl j hj) k) k
theorem x_aload {i : Nat} (j : Nat) {x : Nat} (hdg : decode (kCode K) pc = .ok (.aload i, 2)) (hj : l[j]? = some (i, .ref x)) (k : Ex X Z G R K (pc + 2) l (.ref x :: S) w ca sl) : Ex X Z G R K pc l S w ca sl :=
  Ex.step (fun C hl k => lv_aload C.1 C.2.1 hdg (lv_at hl j hj) k) k
theorem x_istore_n {q : Fin 4} {i : Nat} {x : Int32} (hdg : decode (kCode K) pc = .ok (.istore_n q, 1)) (hi : (q : Nat) = i) (hn : i < kMax K) (hl' : (i, Value.int x) :: eDrop i l = l') (k : Ex X Z G R K (pc + 1) l' S w ca sl) : Ex X Z G R K pc l (.int x :: S) w ca sl :=
  fun p la e s m args below meth c A H locs ls C hl => lv_istore_n C.1 C.2.1 hdg hi hl hn hl' (fun ls' h => k p la e s m args below meth c A H locs ls' C h)
theorem x_istore {i : Nat} {x : Int32} (hdg : decode (kCode K) pc = .ok (.istore i, 2)) (hn : i < kMax K) (hl' : (i, Value.int x) :: eDrop i l = l') (k : Ex X Z G R K (pc + 2) l' S w ca sl) : Ex X Z G R K pc l (.int x :: S) w ca sl :=
  fun p la e s m args below meth c A H locs ls C hl => lv_istore C.1 C.2.1 hdg hl hn hl' (fun ls' h => k p la e s m args below meth c A H locs ls' C h)
theorem x_astore_n {q : Fin 4} {i : Nat} {x : Nat} (hdg : decode (kCode K) pc = .ok (.astore_n q, 1)) (hi : (q : Nat) = i) (hn : i < kMax K) (hl' : (i, Value.ref x) :: eDrop i l = l') (k : Ex X Z G R K (pc + 1) l' S w ca sl) : Ex X Z G R K pc l (.ref x :: S) w ca sl :=
  fun p la e s m args below meth c A H locs ls C hl => lv_astore_n C.1 C.2.1 hdg hi hl hn hl' (fun ls' h => k p la e s m args below meth c A H locs ls' C h)
theorem x_astore {i : Nat} {x : Nat} (hdg : decode (kCode K) pc = .ok (.astore i, 2)) (hn : i < kMax K) (hl' : (i, Value.ref x) :: eDrop i l = l') (k : Ex X Z G R K (pc + 2) l' S w ca sl) : Ex X Z G R K pc l (.ref x :: S) w ca sl :=
  fun p la e s m args below meth c A H locs ls C hl => lv_astore C.1 C.2.1 hdg hl hn hl' (fun ls' h => k p la e s m args below meth c A H locs ls' C h)
theorem x_iinc {i : Nat} (j : Nat) {z : Int} {x v : Int32} (hdg : decode (kCode K) pc = .ok (.iinc i z, 3)) (hj : l[j]? = some (i, .int x)) (hv : x + Int32.ofInt z = v) (hn : i < kMax K) (hl' : (i, Value.int v) :: eDrop i l = l') (k : Ex X Z G R K (pc + 3) l' S w ca sl) : Ex X Z G R K pc l S w ca sl :=
  fun p la e s m args below meth c A H locs ls C hl => lv_iinc C.1 C.2.1 hdg hl hj hv hn hl' (fun ls' h => k p la e s m args below meth c A H locs ls' C h)
theorem x_dup {v : Value} (hdg : decode (kCode K) pc = .ok (.dup, 1)) (hv : v.category = 1) (k : Ex X Z G R K (pc + 1) l (v :: v :: S) w ca sl) : Ex X Z G R K pc l (v :: S) w ca sl :=
  Ex.step (fun C _ k => lv_dup C.1 C.2.1 hdg hv k) k
theorem x_pop {v : Value} (hdg : decode (kCode K) pc = .ok (.pop, 1)) (hv : v.category = 1) (k : Ex X Z G R K (pc + 1) l S w ca sl) : Ex X Z G R K pc l (v :: S) w ca sl :=
  Ex.step (fun C _ k => lv_pop C.1 C.2.1 hdg hv k) k
theorem x_iadd {x y : Int32} (hdg : decode (kCode K) pc = .ok (.iadd, 1)) (k : Ex X Z G R K (pc + 1) l (.int (x + y) :: S) w ca sl) : Ex X Z G R K pc l (.int y :: .int x :: S) w ca sl :=
  Ex.step (fun C _ k => lv_iadd C.1 C.2.1 hdg k) k
theorem x_isub {x y : Int32} (hdg : decode (kCode K) pc = .ok (.isub, 1)) (k : Ex X Z G R K (pc + 1) l (.int (x - y) :: S) w ca sl) : Ex X Z G R K pc l (.int y :: .int x :: S) w ca sl :=
  Ex.step (fun C _ k => lv_isub C.1 C.2.1 hdg k) k
theorem x_imul {x y : Int32} (hdg : decode (kCode K) pc = .ok (.imul, 1)) (k : Ex X Z G R K (pc + 1) l (.int (x * y) :: S) w ca sl) : Ex X Z G R K pc l (.int y :: .int x :: S) w ca sl :=
  Ex.step (fun C _ k => lv_imul C.1 C.2.1 hdg k) k
theorem x_ishr {x y : Int32} (hdg : decode (kCode K) pc = .ok (.ishr, 1)) (k : Ex X Z G R K (pc + 1) l (.int (x >>> (y &&& 31)) :: S) w ca sl) : Ex X Z G R K pc l (.int y :: .int x :: S) w ca sl :=
  Ex.step (fun C _ k => lv_ishr C.1 C.2.1 hdg k) k
theorem x_iand {x y : Int32} (hdg : decode (kCode K) pc = .ok (.iand, 1)) (k : Ex X Z G R K (pc + 1) l (.int (x &&& y) :: S) w ca sl) : Ex X Z G R K pc l (.int y :: .int x :: S) w ca sl :=
  Ex.step (fun C _ k => lv_iand C.1 C.2.1 hdg k) k
theorem x_i2l {x : Int32} (hdg : decode (kCode K) pc = .ok (.i2l, 1)) (k : Ex X Z G R K (pc + 1) l (.long x.toInt64 :: S) w ca sl) : Ex X Z G R K pc l (.int x :: S) w ca sl :=
  Ex.step (fun C _ k => lv_i2l C.1 C.2.1 hdg rfl k) k
theorem x_ladd {x y : Int64} (hdg : decode (kCode K) pc = .ok (.ladd, 1)) (k : Ex X Z G R K (pc + 1) l (.long (x + y) :: S) w ca sl) : Ex X Z G R K pc l (.long y :: .long x :: S) w ca sl :=
  Ex.step (fun C _ k => lv_ladd C.1 C.2.1 hdg k) k
theorem x_lmul {x y : Int64} (hdg : decode (kCode K) pc = .ok (.lmul, 1)) (k : Ex X Z G R K (pc + 1) l (.long (x * y) :: S) w ca sl) : Ex X Z G R K pc l (.long y :: .long x :: S) w ca sl :=
  Ex.step (fun C _ k => lv_lmul C.1 C.2.1 hdg k) k
theorem x_ldc2 {index : Nat} {v : Int64} (hdg : decode (kCode K) pc = .ok (.ldc2_w index, 3)) (hw : Cond.constantLong (kOwn K) index v ∈ lw_tbl) (k : Ex X Z G R K (pc + 3) l (.long v :: S) w ca sl) : Ex X Z G R K pc l S w ca sl :=
  Ex.step (fun C _ k => lv_ldc2 C.1 C.2.1 C.2.2.2.2.2.1 (C.2.2.2.2.2.2.1 _ (eIn hw rfl)) hdg k) k
theorem x_goto {off : Int} {t : Nat} (hdg : decode (kCode K) pc = .ok (.goto off, 3)) (ht : (pc : Int) + off = (t : Int)) (k : Ex X Z G R K t l S w ca sl) : Ex X Z G R K pc l S w ca sl :=
  Ex.step (fun C _ k => lv_goto C.1 C.2.1 hdg ht k) k
theorem x_icmp_eq {x y : Int32} {off : Int} {t : Nat} (hdg : decode (kCode K) pc = .ok (.if_icmp .eq off, 3)) (ht : (pc : Int) + off = (t : Int)) (kt : x = y → Ex X Z G R K t l S w ca sl) (kf : ¬ x = y → Ex X Z G R K (pc + 3) l S w ca sl) : Ex X Z G R K pc l (.int y :: .int x :: S) w ca sl :=
  fun p la e s m args below meth c A H locs ls C hl => lv_icmp_eq C.1 C.2.1 hdg ht (fun q => kt q p la e s m args below meth c A H locs ls C hl) (fun q => kf q p la e s m args below meth c A H locs ls C hl)
theorem x_if_eq {x : Int32} {off : Int} {t : Nat} (hdg : decode (kCode K) pc = .ok (.ifCond .eq off, 3)) (ht : (pc : Int) + off = (t : Int)) (kt : x = 0 → Ex X Z G R K t l S w ca sl) (kf : ¬ x = 0 → Ex X Z G R K (pc + 3) l S w ca sl) : Ex X Z G R K pc l (.int x :: S) w ca sl :=
  fun p la e s m args below meth c A H locs ls C hl => lv_if_eq C.1 C.2.1 hdg ht (fun q => kt q p la e s m args below meth c A H locs ls C hl) (fun q => kf q p la e s m args below meth c A H locs ls C hl)
theorem x_icmp_ne {x y : Int32} {off : Int} {t : Nat} (hdg : decode (kCode K) pc = .ok (.if_icmp .ne off, 3)) (ht : (pc : Int) + off = (t : Int)) (kt : ¬ x = y → Ex X Z G R K t l S w ca sl) (kf : x = y → Ex X Z G R K (pc + 3) l S w ca sl) : Ex X Z G R K pc l (.int y :: .int x :: S) w ca sl :=
  fun p la e s m args below meth c A H locs ls C hl => lv_icmp_ne C.1 C.2.1 hdg ht (fun q => kt q p la e s m args below meth c A H locs ls C hl) (fun q => kf q p la e s m args below meth c A H locs ls C hl)
theorem x_if_ne {x : Int32} {off : Int} {t : Nat} (hdg : decode (kCode K) pc = .ok (.ifCond .ne off, 3)) (ht : (pc : Int) + off = (t : Int)) (kt : ¬ x = 0 → Ex X Z G R K t l S w ca sl) (kf : x = 0 → Ex X Z G R K (pc + 3) l S w ca sl) : Ex X Z G R K pc l (.int x :: S) w ca sl :=
  fun p la e s m args below meth c A H locs ls C hl => lv_if_ne C.1 C.2.1 hdg ht (fun q => kt q p la e s m args below meth c A H locs ls C hl) (fun q => kf q p la e s m args below meth c A H locs ls C hl)
theorem x_icmp_lt {x y : Int32} {off : Int} {t : Nat} (hdg : decode (kCode K) pc = .ok (.if_icmp .lt off, 3)) (ht : (pc : Int) + off = (t : Int)) (kt : x < y → Ex X Z G R K t l S w ca sl) (kf : ¬ x < y → Ex X Z G R K (pc + 3) l S w ca sl) : Ex X Z G R K pc l (.int y :: .int x :: S) w ca sl :=
  fun p la e s m args below meth c A H locs ls C hl => lv_icmp_lt C.1 C.2.1 hdg ht (fun q => kt q p la e s m args below meth c A H locs ls C hl) (fun q => kf q p la e s m args below meth c A H locs ls C hl)
theorem x_if_lt {x : Int32} {off : Int} {t : Nat} (hdg : decode (kCode K) pc = .ok (.ifCond .lt off, 3)) (ht : (pc : Int) + off = (t : Int)) (kt : x < 0 → Ex X Z G R K t l S w ca sl) (kf : ¬ x < 0 → Ex X Z G R K (pc + 3) l S w ca sl) : Ex X Z G R K pc l (.int x :: S) w ca sl :=
  fun p la e s m args below meth c A H locs ls C hl => lv_if_lt C.1 C.2.1 hdg ht (fun q => kt q p la e s m args below meth c A H locs ls C hl) (fun q => kf q p la e s m args below meth c A H locs ls C hl)
theorem x_icmp_ge {x y : Int32} {off : Int} {t : Nat} (hdg : decode (kCode K) pc = .ok (.if_icmp .ge off, 3)) (ht : (pc : Int) + off = (t : Int)) (kt : y ≤ x → Ex X Z G R K t l S w ca sl) (kf : ¬ y ≤ x → Ex X Z G R K (pc + 3) l S w ca sl) : Ex X Z G R K pc l (.int y :: .int x :: S) w ca sl :=
  fun p la e s m args below meth c A H locs ls C hl => lv_icmp_ge C.1 C.2.1 hdg ht (fun q => kt q p la e s m args below meth c A H locs ls C hl) (fun q => kf q p la e s m args below meth c A H locs ls C hl)
theorem x_if_ge {x : Int32} {off : Int} {t : Nat} (hdg : decode (kCode K) pc = .ok (.ifCond .ge off, 3)) (ht : (pc : Int) + off = (t : Int)) (kt : 0 ≤ x → Ex X Z G R K t l S w ca sl) (kf : ¬ 0 ≤ x → Ex X Z G R K (pc + 3) l S w ca sl) : Ex X Z G R K pc l (.int x :: S) w ca sl :=
  fun p la e s m args below meth c A H locs ls C hl => lv_if_ge C.1 C.2.1 hdg ht (fun q => kt q p la e s m args below meth c A H locs ls C hl) (fun q => kf q p la e s m args below meth c A H locs ls C hl)
theorem x_icmp_gt {x y : Int32} {off : Int} {t : Nat} (hdg : decode (kCode K) pc = .ok (.if_icmp .gt off, 3)) (ht : (pc : Int) + off = (t : Int)) (kt : y < x → Ex X Z G R K t l S w ca sl) (kf : ¬ y < x → Ex X Z G R K (pc + 3) l S w ca sl) : Ex X Z G R K pc l (.int y :: .int x :: S) w ca sl :=
  fun p la e s m args below meth c A H locs ls C hl => lv_icmp_gt C.1 C.2.1 hdg ht (fun q => kt q p la e s m args below meth c A H locs ls C hl) (fun q => kf q p la e s m args below meth c A H locs ls C hl)
theorem x_if_gt {x : Int32} {off : Int} {t : Nat} (hdg : decode (kCode K) pc = .ok (.ifCond .gt off, 3)) (ht : (pc : Int) + off = (t : Int)) (kt : 0 < x → Ex X Z G R K t l S w ca sl) (kf : ¬ 0 < x → Ex X Z G R K (pc + 3) l S w ca sl) : Ex X Z G R K pc l (.int x :: S) w ca sl :=
  fun p la e s m args below meth c A H locs ls C hl => lv_if_gt C.1 C.2.1 hdg ht (fun q => kt q p la e s m args below meth c A H locs ls C hl) (fun q => kf q p la e s m args below meth c A H locs ls C hl)
theorem x_icmp_le {x y : Int32} {off : Int} {t : Nat} (hdg : decode (kCode K) pc = .ok (.if_icmp .le off, 3)) (ht : (pc : Int) + off = (t : Int)) (kt : x ≤ y → Ex X Z G R K t l S w ca sl) (kf : ¬ x ≤ y → Ex X Z G R K (pc + 3) l S w ca sl) : Ex X Z G R K pc l (.int y :: .int x :: S) w ca sl :=
  fun p la e s m args below meth c A H locs ls C hl => lv_icmp_le C.1 C.2.1 hdg ht (fun q => kt q p la e s m args below meth c A H locs ls C hl) (fun q => kf q p la e s m args below meth c A H locs ls C hl)
theorem x_if_le {x : Int32} {off : Int} {t : Nat} (hdg : decode (kCode K) pc = .ok (.ifCond .le off, 3)) (ht : (pc : Int) + off = (t : Int)) (kt : x ≤ 0 → Ex X Z G R K t l S w ca sl) (kf : ¬ x ≤ 0 → Ex X Z G R K (pc + 3) l S w ca sl) : Ex X Z G R K pc l (.int x :: S) w ca sl :=
  fun p la e s m args below meth c A H locs ls C hl => lv_if_le C.1 C.2.1 hdg ht (fun q => kt q p la e s m args below meth c A H locs ls C hl) (fun q => kf q p la e s m args below meth c A H locs ls C hl)
theorem x_lload_n {q : Fin 4} {i : Nat} (j : Nat) {x : Int64} (hdg : decode (kCode K) pc = .ok (.lload_n q, 1)) (hi : (q : Nat) = i) (hj : l[j]? = some (i, .long x)) (k : Ex X Z G R K (pc + 1) l (.long x :: S) w ca sl) : Ex X Z G R K pc l S w ca sl :=
  Ex.step (fun C hl k => lv_lload_n C.1 C.2.1 hdg hi (lv_at hl j hj) k) k
theorem x_lstore_n {q : Fin 4} {i : Nat} {x : Int64} (hdg : decode (kCode K) pc = .ok (.lstore_n q, 1)) (hi : (q : Nat) = i) (hn : i + 1 < kMax K) (hl' : (i, Value.long x) :: eDrop2 i l = l') (k : Ex X Z G R K (pc + 1) l' S w ca sl) : Ex X Z G R K pc l (.long x :: S) w ca sl :=
  fun p la e s m args below meth c A H locs ls C hl => lv_lstore_n C.1 C.2.1 hdg hi hl hn hl' (fun ls' h => k p la e s m args below meth c A H locs ls' C h)
theorem x_tableAt {dflt lo' hi : Int} {offs : Array Int} {len : Nat} {x kx : Int32} {off : Int} {tg : Nat} (hdg : decode (kCode K) pc = .ok (.tableswitch dflt lo' hi offs, len)) (hx : x = kx) (h1 : ¬ kx.toInt < lo') (h2 : ¬ hi < kx.toInt) (ho : offs[(kx.toInt - lo').toNat]? = some off) (ht : (pc : Int) + off = (tg : Int))
    (kk : Ex X Z G R K tg l S w ca sl) : Ex X Z G R K pc l (.int x :: S) w ca sl := by
  subst hx
  exact Ex.step (fun C _ k => lv_tableIn C.1 C.2.1 hdg h1 h2 ho ht k) kk
theorem x_tableOut {dflt lo' hi : Int} {offs : Array Int} {len : Nat} {x : Int32} {tg : Nat} (hdg : decode (kCode K) pc = .ok (.tableswitch dflt lo' hi offs, len)) (h : x.toInt < lo' ∨ hi < x.toInt) (ht : (pc : Int) + dflt = (tg : Int))
    (kk : Ex X Z G R K tg l S w ca sl) : Ex X Z G R K pc l (.int x :: S) w ca sl := Ex.step (fun C _ k => lv_tableOut C.1 C.2.1 hdg h ht k) kk
theorem x_gets {index : Nat} {c0 n0 d0 : String} {v0 : Value} (hdg : decode (kCode K) pc = .ok (.getstatic index, 3)) (hlk : Cond.fieldLink (kOwn K) index c0 n0 d0 ∈ lw_tbl) (hZ : ∀ {A : Nat → Prop} {U : State} {H : Heap}, eSt G A U H → va_Z c0 n0 d0 v0 A U H)
    (kk : Ex X Z G R K (pc + 3) l (v0 :: S) w ca sl) : Ex X Z G R K pc l S w ca sl :=
  Ex.step (fun C _ k => va_gets C.1 C.2.1 (hZ C.2.2.2.2.2.2.2.2.1) C.2.2.2.2.2.2.2.2.2.2.2.1 C.2.2.2.2.2.1 (C.2.2.2.2.2.2.1 _ (eIn hlk rfl)) (fun x h => h) hdg k) kk
theorem x_getsK (j : Nat) {index : Nat} {n0 : String} {v0 : Int32} (hdg : decode (kCode K) pc = .ok (.getstatic index, 3)) (hlk : Cond.fieldLink (kOwn K) index "RingDomino$Kind" n0 "LRingDomino$Kind;" ∈ lw_tbl) (hj : j < 44) (hn : eKn.getD j "" = n0) (hw : nI (j + 1) = v0)
    (kk : Ex X Z G R K (pc + 3) l (eV G 1 v0 :: S) w ca sl) : Ex X Z G R K pc l S w ca sl := by
  subst hw
  rw [eKr_lit G j hj] at kk
  refine x_gets hdg hlk (fun {A U H} h => ?_) kk
  have h1 := (h.1.1 j hj).1
  rw [hn] at h1
  exact h1

theorem x_lconst {n : Fin 2} {v : Int64} (hdg : decode (kCode K) pc = .ok (.lconst n, 1)) (hv : Int64.ofNat (n : Nat) = v) (k : Ex X Z G R K (pc + 1) l (.long v :: S) w ca sl) : Ex X Z G R K pc l S w ca sl :=
  Ex.step (fun C _ k => lv_lconst C.1 C.2.1 hdg hv k) k
theorem x_dload {i : Nat} (j : Nat) {x : UInt64} (hdg : decode (kCode K) pc = .ok (.dload i, 2)) (hj : l[j]? = some (i, .double x)) (k : Ex X Z G R K (pc + 2) l (.double x :: S) w ca sl) : Ex X Z G R K pc l S w ca sl :=
  Ex.step (fun C hl k => lv_dload C.1 C.2.1 hdg (lv_at hl j hj) k) k
theorem x_dstore {i : Nat} {x : UInt64} (hdg : decode (kCode K) pc = .ok (.dstore i, 2)) (hn : i + 1 < kMax K) (hl' : (i, Value.double x) :: eDrop2 i l = l') (k : Ex X Z G R K (pc + 2) l' S w ca sl) : Ex X Z G R K pc l (.double x :: S) w ca sl :=
  fun p la e s m args below meth c A H locs ls C hl => lv_dstore C.1 C.2.1 hdg hl hn hl' (fun ls' h => k p la e s m args below meth c A H locs ls' C h)
theorem x_zif_eq {x : Bool} {off : Int} {t : Nat} (hdg : decode (kCode K) pc = .ok (.ifCond .eq off, 3)) (ht : (pc : Int) + off = (t : Int)) (kt : x = false → Ex X Z G R K t l S w ca sl) (kf : x = true → Ex X Z G R K (pc + 3) l S w ca sl) : Ex X Z G R K pc l (.int (eZi x) :: S) w ca sl :=
  x_if_eq hdg ht (fun q => kt (eZi_0.mp q)) (fun q => kf (by cases x with | false => exact absurd rfl q | true => rfl))
/-! the heap -/
theorem x_get {a q0 index k ci N : Nat} {C : String} {T : u_T} {ty : Nat → FieldType} {fs : List Value} {v : Value} (hdg : decode (kCode K) pc = .ok (.getfield index, 3)) (hC : eCl ci C T N ty) (hlk : Cond.fieldLink (kOwn K) index (T k).1 (T k).2.1 (T k).2.2.1 ∈ lw_tbl) (hk : k < N) (he : w[q0]? = some (a, .inr (ci, fs))) (hv : fs[k]? = some v)
    (kk : Ex X Z G R K (pc + 3) l (v :: S) w ca sl) : Ex X Z G R K pc l (.ref a :: S) w ca sl := by
  refine Ex.step (fun {p la e s m args below meth c' A H locs ls Q} C0 hl k0 => ?_) kk
  obtain ⟨h1, h2, h3, h4, h5, h6, h7, h8, h9, h10, h11, h12, h13, h14⟩ := C0
  exact va_get h1 h2 h7 (eInU hC.2.1) h6 h8 h13 q0 he hC.1 k hk (h7 _ (eIn hlk rfl)) (fun x h => h) hv hdg k0
theorem x_put {a q0 index k ci N : Nat} {C : String} {T : u_T} {ty : Nat → FieldType} {fs : List Value} {v : Value} {ft : FieldType} (hdg : decode (kCode K) pc = .ok (.putfield index, 3)) (hC : eCl ci C T N ty) (hlk : Cond.fieldLink (kOwn K) index (T k).1 (T k).2.1 (T k).2.2.1 ∈ lw_tbl) (hk : k < N) (he : w[q0]? = some (a, .inr (ci, fs))) (hl0 : k < fs.length)
    (hfin : (T k).2.2.2 = false) (hd : parseFieldDescriptor (T k).2.2.1 = some ft) (hnw : narrow ft v = v) (hfit : fits ft v = true)
    (kk : Ex X Z G R K (pc + 3) l S (w.set q0 (a, .inr (ci, fs.set k v))) ca sl) : Ex X Z G R K pc l (v :: .ref a :: S) w ca sl := by
  intro p la e s m args below meth c' A H locs ls C0 hl
  obtain ⟨h1, h2, h3, h4, h5, h6, h7, h8, h9, h10, h11, h12, h13, h14⟩ := C0
  exact va_put h1 h2 h7 (eInU hC.2.1) ty hC.2.2.1 hC.2.2.2 h6 h8 h13 h14 h12 q0 he hC.1 k hk (h7 _ (eIn hlk rfl)) (fun x h => h) hfin hd hnw hfit hl0 hdg (fun H1 locs1 hP hD hS => kk p la e s m args below meth c' A H1 locs1 ls ⟨h1, h2, h3, h4, h5, h6, h7, h8, h9, h10, h11, hS, hP, hD⟩ hl)
/-- a final field, in a constructor -/
theorem x_putF (hX : ∀ s meth c A, X s meth c A → meth.name = "<init>") {a q0 index k ci N : Nat} {C : String} {T : u_T} {ty : Nat → FieldType} {fs : List Value} {v : Value} {ft : FieldType} (hdg : decode (kCode K) pc = .ok (.putfield index, 3)) (hC : eCl ci C T N ty) (hlk : Cond.fieldLink (kOwn K) index (T k).1 (T k).2.1 (T k).2.2.1 ∈ lw_tbl) (hk : k < N) (he : w[q0]? = some (a, .inr (ci, fs))) (hl0 : k < fs.length)
    (hfin : (T k).2.2.2 = true) (hdecl : (T k).1 = kOwn K) (hd : parseFieldDescriptor (T k).2.2.1 = some ft) (hnw : narrow ft v = v) (hfit : fits ft v = true)
    (kk : Ex X Z G R K (pc + 3) l S (w.set q0 (a, .inr (ci, fs.set k v))) ca sl) : Ex X Z G R K pc l (v :: .ref a :: S) w ca sl := by
  intro p la e s m args below meth c' A H locs ls C0 hl
  obtain ⟨h1, h2, h3, h4, h5, h6, h7, h8, h9, h10, h11, h12, h13, h14⟩ := C0
  exact va_putF h1 h2 h7 (eInU hC.2.1) ty hC.2.2.1 hC.2.2.2 h6 h8 h13 h14 h12 q0 he hC.1 k hk (h7 _ (eIn hlk rfl)) (fun x h => h) hfin (hX _ _ _ _ h5.2) hdecl hd hnw hfit hl0 hdg (fun H1 locs1 hP hD hS => kk p la e s m args below meth c' A H1 locs1 ls ⟨h1, h2, h3, h4, h5, h6, h7, h8, h9, h10, h11, hS, hP, hD⟩ hl)
theorem x_iald {a q0 N : Nat} {f : Nat → Int32} {i : Int32} (hdg : decode (kCode K) pc = .ok (.iaload, 1)) (he : w[q0]? = some (a, .inl (G.2.2.2 0, (N, .inl f)))) (hin : vp_in i N) (kk : Ex X Z G R K (pc + 1) l (.int (f i.toNatClampNeg) :: S) w ca sl) : Ex X Z G R K pc l (.int i :: .ref a :: S) w ca sl := by
  refine Ex.step (fun {p la e s m args below meth c' A H locs ls Q} C0 hl k0 => ?_) kk
  obtain ⟨h1, h2, h3, h4, h5, h6, h7, h8, h9, h10, h11, h12, h13, h14⟩ := C0
  exact va_iald h1 h2 h8 h13 q0 0 he rfl hin hdg k0
theorem x_iast {a q0 N : Nat} {f : Nat → Int32} {i v : Int32} (hdg : decode (kCode K) pc = .ok (.iastore, 1)) (he : w[q0]? = some (a, .inl (G.2.2.2 0, (N, .inl f)))) (hin : vp_in i N) (kk : Ex X Z G R K (pc + 1) l S (w.set q0 (a, .inl (G.2.2.2 0, (N, .inl (upd f i.toNatClampNeg v))))) ca sl) : Ex X Z G R K pc l (.int v :: .int i :: .ref a :: S) w ca sl := by
  intro p la e s m args below meth c' A H locs ls C0 hl
  obtain ⟨h1, h2, h3, h4, h5, h6, h7, h8, h9, h10, h11, h12, h13, h14⟩ := C0
  exact va_iast h1 h2 h8 h13 h14 h12 q0 0 (f := f) he rfl hin hdg (fun H1 locs1 hP hD hS => kk p la e s m args below meth c' A H1 locs1 ls ⟨h1, h2, h3, h4, h5, h6, h7, h8, h9, h10, h11, hS, hP, hD⟩ hl)
theorem x_alen {a q0 N : Nat} {f : Nat → Int32} {v : Int32} (hdg : decode (kCode K) pc = .ok (.arraylength, 1)) (he : w[q0]? = some (a, .inl (G.2.2.2 0, (N, .inl f)))) (hv : Int32.ofNat N = v) (kk : Ex X Z G R K (pc + 1) l (.int v :: S) w ca sl) : Ex X Z G R K pc l (.ref a :: S) w ca sl := by
  refine Ex.step (fun {p la e s m args below meth c' A H locs ls Q} C0 hl k0 => ?_) kk
  obtain ⟨h1, h2, h3, h4, h5, h6, h7, h8, h9, h10, h11, h12, h13, h14⟩ := C0
  exact va_alen h1 h2 h8 h13 q0 0 (x := (N, .inl f)) he rfl hv hdg k0
end XRows
