/-! ===== Y: the class's cells, and a map of the law's own cells ===== -/
abbrev yH : Type := Nat → Option va_E
def yHas (R : va_W) (H : yH) : Prop := ∀ a e, H a = some e → (a, e) ∈ R
abbrev yU (H : yH) (a : Nat) (e : va_E) : yH := zU H a (some e)
/-- what the one map says, the other says too -/
def yLe (H H' : yH) : Prop := ∀ a e, H a = some e → H' a = some e
/-- the same, but for some cells -/
def yKp (ex : List Nat) (H H' : yH) : Prop := ∀ a e, a ∉ ex → H a = some e → H' a = some e
theorem yLe.refl (H : yH) : yLe H H := fun _ _ h => h
theorem yLe.trans {H H1 H2 : yH} (h : yLe H H1) (h1 : yLe H1 H2) : yLe H H2 := fun a e q => h1 a e (h a e q)
theorem yKp.of {H H' : yH} (h : yLe H H') (ex : List Nat) : yKp ex H H' := fun a e _ q => h a e q
theorem yKp.refl (ex : List Nat) (H : yH) : yKp ex H H := fun _ _ _ q => q
theorem yKp.trans {ex : List Nat} {H H1 H2 : yH} (h : yKp ex H H1) (h1 : yKp ex H1 H2) : yKp ex H H2 := fun a e n q => h1 a e n (h a e n q)
theorem yKp.le {H H' : yH} (h : yKp [] H H') : yLe H H' := fun a e q => h a e List.not_mem_nil q
theorem yKp.mono {ex ex' : List Nat} {H H' : yH} (h : yKp ex H H') (hs : ∀ a, a ∈ ex → a ∈ ex') : yKp ex' H H' := fun a e n q => h a e (fun z => n (hs a z)) q
theorem yU_same (H : yH) (a : Nat) (e : va_E) : yU H a e a = some e := if_pos rfl
theorem yU_ne (H : yH) {a b : Nat} (e : va_E) (h : b ≠ a) : yU H a e b = H b := if_neg h
theorem yLe.new {H : yH} {q : Nat} (h : H q = none) (e : va_E) : yLe H (yU H q e) := fun a x z => by
  by_cases h1 : a = q
  · subst h1; rw [h] at z; cases z
  · rw [yU_ne H e h1]; exact z
theorem yKp.put (H : yH) (a : Nat) (e : va_E) : yKp [a] H (yU H a e) := fun b x n z => by
  rw [yU_ne H e (fun q => n (by rw [q]; exact List.mem_cons_self))]; exact z
theorem yLe.upd {H H' : yH} (h : yLe H H') (a : Nat) (e : va_E) : yLe (yU H a e) (yU H' a e) := fun b x z => by
  by_cases h1 : b = a
  · subst h1; rw [yU_same] at z ⊢; exact z
  · rw [yU_ne _ _ h1] at z ⊢; exact h b x z
theorem yHas.mono {R : va_W} {H H' : yH} (h : yHas R H) (hl : yLe H' H) : yHas R H' := fun a e q => h a e (hl a e q)
theorem yHas.app {R : va_W} {H : yH} (h : yHas R H) (q : Nat) (e : va_E) : yHas (R ++ [(q, e)]) (yU H q e) := fun a x z => by
  by_cases h1 : a = q
  · subst h1; rw [yU_same] at z; cases z; exact List.mem_append_right _ List.mem_cons_self
  · rw [yU_ne _ _ h1] at z; exact List.mem_append_left _ (h a x z)
theorem yHas.set {R : va_W} {H : yH} (h : yHas R H) {i a : Nat} {e0 : va_E} (hi : R[i]? = some (a, e0)) (e : va_E) : yHas (R.set i (a, e)) (yU H a e) := fun b x z => by
  have hlt : i < R.length := (List.getElem?_eq_some_iff.mp hi).1
  by_cases h1 : b = a
  · subst h1; rw [yU_same] at z; cases z
    exact List.mem_iff_getElem?.mpr ⟨i, List.getElem?_set_self hlt⟩
  · rw [yU_ne _ _ h1] at z
    obtain ⟨j, hj⟩ := List.mem_iff_getElem?.mp (h b x z)
    refine List.mem_iff_getElem?.mpr ⟨j, ?_⟩
    rw [List.getElem?_set_ne (fun q => ?_)]
    · exact hj
    · subst q; rw [hi] at hj; cases hj; exact h1 rfl
theorem yHas.nil (R : va_W) : yHas R (fun _ => none) := fun _ _ h => by cases h
theorem yw_at {G : eG} {M : eM} {R : va_W} {i : Nat} {x : Nat × va_E} (h : R[i]? = some x) : (eW G 0 68 M ++ R)[68 + i]? = some x := by
  rw [List.getElem?_append_right (by rw [eW_len]; omega), eW_len]
  rw [show 68 + i - 68 = i by omega]; exact h
theorem yw_set {G : eG} {M : eM} {R : va_W} (i : Nat) (x : Nat × va_E) : (eW G 0 68 M ++ R).set (68 + i) x = eW G 0 68 M ++ R.set i x := by
  rw [List.set_append_right _ _ (by rw [eW_len]; omega), eW_len]
  rw [show 68 + i - 68 = i by omega]
def Yx (X : xX) (Z : eZt) (G : eG) (R : Room) (K : eK) (pc : Nat) (l : List (Nat × Value)) (S : List Value) (M : eM) (H : yH) (ca sl : Nat) : Prop :=
  ∀ Rr : va_W, yHas Rr H → Ex X Z G R K pc l S (eW G 0 68 M ++ Rr) ca sl
abbrev yX (nm : String) : xX := fun s meth _ _ => meth.name = nm ∧ xN0 s
abbrev yXok (X : xX) : Prop := ∀ s meth c A, X s meth c A → xN0 s
theorem yXn {nm : String} : yXok (yX nm) := fun _ _ _ _ h => h.2
def yFin (G : eG) (Fin : Option Value → eM → yH → Prop) : Option Value → va_W → Prop := fun v w' => ∃ (M' : eM) (H' : yH) (Rr' : va_W), w' = eW G 0 68 M' ++ Rr' ∧ yHas Rr' H' ∧ Fin v M' H'
abbrev yZ (G : eG) (mc ms : Nat) (Fin : Option Value → eM → yH → Prop) : eZt := xZ G mc ms (yFin G Fin)
def yCal (G : eG) (b : eB) (K : eK) (av : List Value) (M : eM) (H : yH) (Fin : Option Value → eM → yH → Prop) : Prop := ∀ Rr : va_W, yHas Rr H → xCal G xN0 b K av (eW G 0 68 M ++ Rr) (yFin G Fin)
/-- a method that changes nothing that is seen -/
abbrev yRd (G : eG) (b : eB) (K : eK) (av : List Value) (M : eM) (H : yH) (v : Value) : Prop := yCal G b K av M H (fun v' M' H' => v' = some v ∧ M' = M ∧ H' = H)
theorem yCal.of {G : eG} {b : eB} {K : eK} {av : List Value} {M : eM} {H : yH} {Fin : Option Value → eM → yH → Prop} (hpl : plainName (kY K).cls = true) (hown : kOwn K = (kY K).cls) (hlen : (lg_sl av).length ≤ kMax K)
    (body : Yx (yX (kY K).name) (yZ G b.2.1 b.2.2 Fin) G (eR b) K 0 (lv_args 0 av) [] M H 0 0) : yCal G b K av M H Fin := fun Rr hR => xCal.of hpl hown hlen (body Rr hR)
theorem xCal.ofF {G : eG} {N : xN} {b : eB} {K : eK} {av : List Value} {w : va_W} {Fin : Option Value → va_W → Prop} (hpl : plainFor (kY K) = true) (hown : kOwn K = (kY K).cls) (hlen : (lg_sl av).length ≤ kMax K)
    (body : Ex (fun s meth _ _ => meth.name = (kY K).name ∧ N s) (xZ G b.2.1 b.2.2 Fin) G (eR b) K 0 (lv_args 0 av) [] w 0 0) : xCal G N b K av w Fin := by
  intro la hfl A
  refine eMet_ofF (cc := kCode K) (maxL := kMax K) (ret := kRet K) hpl rfl ?_
  intro p e s m args below meth c s₁ B hml hv
  obtain ⟨rfl, h1, h2, h3, h4, h5, h6⟩ := hv
  rw [lg_entry_eq]
  exact body p la e s m _ below meth c A s.heap [] _ ⟨B.exec, B.bytes, hml, B.returns, ⟨B.notSynchronized, (name_of_methodNamed B.named B.method).1, h1.2.2⟩, by rw [hown]; exact findClass_of_methodNamed B.named, h1.1.at _, h2, h3, h4, ⟨hfl, h1.2.1⟩, va_S.rf, h5, h6⟩ (lv_entry av hlen)
theorem yCal.ofF {G : eG} {b : eB} {K : eK} {av : List Value} {M : eM} {H : yH} {Fin : Option Value → eM → yH → Prop} (hpl : plainFor (kY K) = true) (hown : kOwn K = (kY K).cls) (hlen : (lg_sl av).length ≤ kMax K)
    (body : Yx (yX (kY K).name) (yZ G b.2.1 b.2.2 Fin) G (eR b) K 0 (lv_args 0 av) [] M H 0 0) : yCal G b K av M H Fin := fun Rr hR => xCal.ofF hpl hown hlen (body Rr hR)
theorem yCal.mono {G : eG} {b : eB} {K : eK} {av : List Value} {M : eM} {H : yH} {Fin Fin' : Option Value → eM → yH → Prop} (h : yCal G b K av M H Fin) (hF : ∀ v M' H', Fin v M' H' → ∃ H0, yLe H0 H' ∧ Fin' v M' H0) : yCal G b K av M H Fin' := fun Rr hR =>
  (h Rr hR).mono (fun v w' ⟨M', H', Rr', e1, e2, e3⟩ => by
    obtain ⟨H0, q1, q2⟩ := hF v M' H' e3
    exact ⟨M', H0, Rr', e1, e2.mono q1, q2⟩)
theorem yCal.imp {G : eG} {b : eB} {K : eK} {av : List Value} {M : eM} {H : yH} {Fin Fin' : Option Value → eM → yH → Prop} (h : yCal G b K av M H Fin) (hF : ∀ v M' H', Fin v M' H' → Fin' v M' H') : yCal G b K av M H Fin' := h.mono (fun v M' H' q => ⟨H', yLe.refl _, hF v M' H' q⟩)
theorem yCal.pre {G : eG} {b : eB} {K : eK} {av : List Value} {M : eM} {H H0 : yH} {Fin : Option Value → eM → yH → Prop} (h : yCal G b K av M H0 Fin) (hl : yLe H0 H) : yCal G b K av M H Fin := fun Rr hR => h Rr (hR.mono hl)
/-- a contract over the class's cells -/
theorem yCal.cls {G : eG} {b : eB} {K : eK} {av : List Value} {M : eM} {H : yH} {Fin : Option Value → eM → Prop} (h : Cal G 0 68 b K av M Fin) : yCal G b K av M H (fun v M' H' => Fin v M' ∧ H' = H) := fun Rr hR =>
  (h.list xN0 [] Rr).mono (fun v w' ⟨M', e1, e2⟩ => ⟨M', H, Rr, e2, hR, e1, rfl⟩)
section YRows
variable {X : xX} {Z : eZt} {G : eG} {R : Room} {K : eK} {pc : Nat} {l l' : List (Nat × Value)} {S : List Value} {M : eM} {H : yH} {ca sl : Nat} {N index : Nat}
theorem Yx.step {pc' : Nat} {S' : List Value} (h : ∀ {w : va_W} {p : Program} {la : Launch} {e : Env} {s : State} {m : MethodId} {args : Array Value} {below : List Frame} {meth : Method} {c : Code} {A : Nat → Prop} {H : Heap} {locs : List Loc} {ls : Array Slot} {Q : State → Prop}, xC X G K p la s m args meth c A w H locs → lv_has ls (kMax K) l →
    W p la e R s m args below meth c H locs ca sl Q (F0 m pc' ls S') → W p la e R s m args below meth c H locs ca sl Q (F0 m pc ls S)) (k : Yx X Z G R K pc' l S' M H ca sl) : Yx X Z G R K pc l S M H ca sl :=
  fun Rr hR => Ex.step (fun C hl k => h C hl k) (k Rr hR)
theorem Yx.sub {ks : List Nat} (hl' : lv_pick l ks = l') (k : Yx X Z G R K pc l' S M H ca sl) : Yx X Z G R K pc l S M H ca sl := fun Rr hR => Ex.sub hl' (k Rr hR)
theorem Yx.wide {ca' sl' : Nat} (h1 : ca ≤ ca') (h2 : sl ≤ sl') (k : Yx X Z G R K pc l S M H ca' sl') : Yx X Z G R K pc l S M H ca sl := fun Rr hR => Ex.wide h1 h2 (k Rr hR)
theorem Yx.less {H0 : yH} (h : yLe H0 H) (k : Yx X Z G R K pc l S M H0 ca sl) : Yx X Z G R K pc l S M H ca sl := fun Rr hR => k Rr (hR.mono h)
theorem Yx.cast {M' : eM} {H' : yH} (h : M = M') (h1 : H = H') (k : Yx X Z G R K pc l S M' H' ca sl) : Yx X Z G R K pc l S M H ca sl := by subst h; subst h1; exact k
theorem y_iconst {i : Int} {v : Int32} (hdg : decode (kCode K) pc = .ok (.iconst i, 1)) (hv : Int32.ofInt i = v) (k : Yx X Z G R K (pc + 1) l (.int v :: S) M H ca sl) : Yx X Z G R K pc l S M H ca sl :=
  Yx.step (fun C _ k => lv_iconst C.1 C.2.1 hdg hv k) k
theorem y_bipush {i : Int} {v : Int32} (hdg : decode (kCode K) pc = .ok (.bipush i, 2)) (hv : (Int8.ofInt i).toInt32 = v) (k : Yx X Z G R K (pc + 2) l (.int v :: S) M H ca sl) : Yx X Z G R K pc l S M H ca sl :=
  Yx.step (fun C _ k => lv_bipush C.1 C.2.1 hdg hv k) k
theorem y_sipush {i : Int} {v : Int32} (hdg : decode (kCode K) pc = .ok (.sipush i, 3)) (hv : (Int16.ofInt i).toInt32 = v) (k : Yx X Z G R K (pc + 3) l (.int v :: S) M H ca sl) : Yx X Z G R K pc l S M H ca sl :=
  Yx.step (fun C _ k => lv_sipush C.1 C.2.1 hdg hv k) k
theorem y_ldc {index : Nat} {v : Int32} (hdg : decode (kCode K) pc = .ok (.ldc index, 2)) (hw : Cond.constant (kOwn K) index v ∈ lw_tbl) (k : Yx X Z G R K (pc + 2) l (.int v :: S) M H ca sl) : Yx X Z G R K pc l S M H ca sl :=
  Yx.step (fun C _ k => lv_ldc C.1 C.2.1 C.2.2.2.2.2.1 (C.2.2.2.2.2.2.1 _ (eIn hw rfl)) hdg k) k
theorem y_iload_n {q : Fin 4} {i : Nat} (j : Nat) {x : Int32} (hdg : decode (kCode K) pc = .ok (.iload_n q, 1)) (hi : (q : Nat) = i) (hj : l[j]? = some (i, .int x)) (k : Yx X Z G R K (pc + 1) l (.int x :: S) M H ca sl) : Yx X Z G R K pc l S M H ca sl :=
  Yx.step (fun C hl k => lv_iload_n C.1 C.2.1 hdg hi (lv_at hl j hj) k) k
theorem y_iload {i : Nat} (j : Nat) {x : Int32} (hdg : decode (kCode K) pc = .ok (.iload i, 2)) (hj : l[j]? = some (i, .int x)) (k : Yx X Z G R K (pc + 2) l (.int x :: S) M H ca sl) : Yx X Z G R K pc l S M H ca sl :=
  Yx.step (fun C hl k => lv_iload C.1 C.2.1 hdg (lv_at hl j hj) k) k
theorem y_aload_n {q : Fin 4} {i : Nat} (j : Nat) {x : Nat} (hdg : decode (kCode K) pc = .ok (.aload_n q, 1)) (hi : (q : Nat) = i) (hj : l[j]? = some (i, .ref x)) (k : Yx X Z G R K (pc + 1) l (.ref x :: S) M H ca sl) : Yx X Z G R K pc l S M H ca sl :=
  Yx.step (fun C hl k => lv_aload_n C.1 C.2.1 hdg hi (lv_at hl j hj) k) k
theorem y_aload {i : Nat} (j : Nat) {x : Nat} (hdg : decode (kCode K) pc = .ok (.aload i, 2)) (hj : l[j]? = some (i, .ref x)) (k : Yx X Z G R K (pc + 2) l (.ref x :: S) M H ca sl) : Yx X Z G R K pc l S M H ca sl :=
  Yx.step (fun C hl k => lv_aload C.1 C.2.1 hdg (lv_at hl j hj) k) k
theorem y_istore_n {q : Fin 4} {i : Nat} {x : Int32} (hdg : decode (kCode K) pc = .ok (.istore_n q, 1)) (hi : (q : Nat) = i) (hn : i < kMax K) (hl' : (i, Value.int x) :: eDrop i l = l') (k : Yx X Z G R K (pc + 1) l' S M H ca sl) : Yx X Z G R K pc l (.int x :: S) M H ca sl :=
  fun Rr hR p la e s m args below meth c A H locs ls C hl => lv_istore_n C.1 C.2.1 hdg hi hl hn hl' (fun ls' h => k Rr hR p la e s m args below meth c A H locs ls' C h)
theorem y_istore {i : Nat} {x : Int32} (hdg : decode (kCode K) pc = .ok (.istore i, 2)) (hn : i < kMax K) (hl' : (i, Value.int x) :: eDrop i l = l') (k : Yx X Z G R K (pc + 2) l' S M H ca sl) : Yx X Z G R K pc l (.int x :: S) M H ca sl :=
  fun Rr hR p la e s m args below meth c A H locs ls C hl => lv_istore C.1 C.2.1 hdg hl hn hl' (fun ls' h => k Rr hR p la e s m args below meth c A H locs ls' C h)
theorem y_astore_n {q : Fin 4} {i : Nat} {x : Nat} (hdg : decode (kCode K) pc = .ok (.astore_n q, 1)) (hi : (q : Nat) = i) (hn : i < kMax K) (hl' : (i, Value.ref x) :: eDrop i l = l') (k : Yx X Z G R K (pc + 1) l' S M H ca sl) : Yx X Z G R K pc l (.ref x :: S) M H ca sl :=
  fun Rr hR p la e s m args below meth c A H locs ls C hl => lv_astore_n C.1 C.2.1 hdg hi hl hn hl' (fun ls' h => k Rr hR p la e s m args below meth c A H locs ls' C h)
theorem y_astore {i : Nat} {x : Nat} (hdg : decode (kCode K) pc = .ok (.astore i, 2)) (hn : i < kMax K) (hl' : (i, Value.ref x) :: eDrop i l = l') (k : Yx X Z G R K (pc + 2) l' S M H ca sl) : Yx X Z G R K pc l (.ref x :: S) M H ca sl :=
  fun Rr hR p la e s m args below meth c A H locs ls C hl => lv_astore C.1 C.2.1 hdg hl hn hl' (fun ls' h => k Rr hR p la e s m args below meth c A H locs ls' C h)
theorem y_iinc {i : Nat} (j : Nat) {z : Int} {x v : Int32} (hdg : decode (kCode K) pc = .ok (.iinc i z, 3)) (hj : l[j]? = some (i, .int x)) (hv : x + Int32.ofInt z = v) (hn : i < kMax K) (hl' : (i, Value.int v) :: eDrop i l = l') (k : Yx X Z G R K (pc + 3) l' S M H ca sl) : Yx X Z G R K pc l S M H ca sl :=
  fun Rr hR p la e s m args below meth c A H locs ls C hl => lv_iinc C.1 C.2.1 hdg hl hj hv hn hl' (fun ls' h => k Rr hR p la e s m args below meth c A H locs ls' C h)
theorem y_dup {v : Value} (hdg : decode (kCode K) pc = .ok (.dup, 1)) (hv : v.category = 1) (k : Yx X Z G R K (pc + 1) l (v :: v :: S) M H ca sl) : Yx X Z G R K pc l (v :: S) M H ca sl :=
  Yx.step (fun C _ k => lv_dup C.1 C.2.1 hdg hv k) k
theorem y_dup2 {v w : Value} (hdg : decode (kCode K) pc = .ok (.dup2, 1)) (hv : v.category = 1) (hw : w.category = 1) (k : Yx X Z G R K (pc + 1) l (v :: w :: v :: w :: S) M H ca sl) : Yx X Z G R K pc l (v :: w :: S) M H ca sl :=
  Yx.step (fun C _ k => lv_dup2_11 C.1 C.2.1 hdg hv hw k) k
theorem y_pop {v : Value} (hdg : decode (kCode K) pc = .ok (.pop, 1)) (hv : v.category = 1) (k : Yx X Z G R K (pc + 1) l S M H ca sl) : Yx X Z G R K pc l (v :: S) M H ca sl :=
  Yx.step (fun C _ k => lv_pop C.1 C.2.1 hdg hv k) k
theorem y_iadd {x y : Int32} (hdg : decode (kCode K) pc = .ok (.iadd, 1)) (k : Yx X Z G R K (pc + 1) l (.int (x + y) :: S) M H ca sl) : Yx X Z G R K pc l (.int y :: .int x :: S) M H ca sl :=
  Yx.step (fun C _ k => lv_iadd C.1 C.2.1 hdg k) k
theorem y_isub {x y : Int32} (hdg : decode (kCode K) pc = .ok (.isub, 1)) (k : Yx X Z G R K (pc + 1) l (.int (x - y) :: S) M H ca sl) : Yx X Z G R K pc l (.int y :: .int x :: S) M H ca sl :=
  Yx.step (fun C _ k => lv_isub C.1 C.2.1 hdg k) k
theorem y_imul {x y : Int32} (hdg : decode (kCode K) pc = .ok (.imul, 1)) (k : Yx X Z G R K (pc + 1) l (.int (x * y) :: S) M H ca sl) : Yx X Z G R K pc l (.int y :: .int x :: S) M H ca sl :=
  Yx.step (fun C _ k => lv_imul C.1 C.2.1 hdg k) k
theorem y_idiv {x y : Int32} (hdg : decode (kCode K) pc = .ok (.idiv, 1)) (hne : ¬ y = 0) (k : Yx X Z G R K (pc + 1) l (.int (x / y) :: S) M H ca sl) : Yx X Z G R K pc l (.int y :: .int x :: S) M H ca sl :=
  Yx.step (fun C _ k => lv_idiv C.1 C.2.1 hdg hne k) k
theorem y_irem {x y : Int32} (hdg : decode (kCode K) pc = .ok (.irem, 1)) (hne : ¬ y = 0) (k : Yx X Z G R K (pc + 1) l (.int (x - x / y * y) :: S) M H ca sl) : Yx X Z G R K pc l (.int y :: .int x :: S) M H ca sl :=
  Yx.step (fun C _ k => lv_irem C.1 C.2.1 hdg hne k) k
theorem y_ineg {x : Int32} (hdg : decode (kCode K) pc = .ok (.ineg, 1)) (k : Yx X Z G R K (pc + 1) l (.int (-x) :: S) M H ca sl) : Yx X Z G R K pc l (.int x :: S) M H ca sl :=
  Yx.step (fun C _ k => lv_ineg C.1 C.2.1 hdg k) k
theorem y_ishl {x y : Int32} (hdg : decode (kCode K) pc = .ok (.ishl, 1)) (k : Yx X Z G R K (pc + 1) l (.int (x <<< (y &&& 31)) :: S) M H ca sl) : Yx X Z G R K pc l (.int y :: .int x :: S) M H ca sl :=
  Yx.step (fun C _ k => lv_ishl C.1 C.2.1 hdg k) k
theorem y_ishr {x y : Int32} (hdg : decode (kCode K) pc = .ok (.ishr, 1)) (k : Yx X Z G R K (pc + 1) l (.int (x >>> (y &&& 31)) :: S) M H ca sl) : Yx X Z G R K pc l (.int y :: .int x :: S) M H ca sl :=
  Yx.step (fun C _ k => lv_ishr C.1 C.2.1 hdg k) k
theorem y_iushr {x y : Int32} (hdg : decode (kCode K) pc = .ok (.iushr, 1)) (k : Yx X Z G R K (pc + 1) l (.int (x.toUInt32 >>> (y.toUInt32 &&& Int32.toUInt32 31)).toInt32 :: S) M H ca sl) : Yx X Z G R K pc l (.int y :: .int x :: S) M H ca sl :=
  Yx.step (fun C _ k => lv_iushr C.1 C.2.1 hdg rfl k) k
theorem y_iand {x y : Int32} (hdg : decode (kCode K) pc = .ok (.iand, 1)) (k : Yx X Z G R K (pc + 1) l (.int (x &&& y) :: S) M H ca sl) : Yx X Z G R K pc l (.int y :: .int x :: S) M H ca sl :=
  Yx.step (fun C _ k => lv_iand C.1 C.2.1 hdg k) k
theorem y_ior {x y : Int32} (hdg : decode (kCode K) pc = .ok (.ior, 1)) (k : Yx X Z G R K (pc + 1) l (.int (x ||| y) :: S) M H ca sl) : Yx X Z G R K pc l (.int y :: .int x :: S) M H ca sl :=
  Yx.step (fun C _ k => lv_ior C.1 C.2.1 hdg k) k
theorem y_ixor {x y : Int32} (hdg : decode (kCode K) pc = .ok (.ixor, 1)) (k : Yx X Z G R K (pc + 1) l (.int (x ^^^ y) :: S) M H ca sl) : Yx X Z G R K pc l (.int y :: .int x :: S) M H ca sl :=
  Yx.step (fun C _ k => lv_ixor C.1 C.2.1 hdg k) k
theorem y_i2b {x : Int32} (hdg : decode (kCode K) pc = .ok (.i2b, 1)) (k : Yx X Z G R K (pc + 1) l (.int x.toInt8.toInt32 :: S) M H ca sl) : Yx X Z G R K pc l (.int x :: S) M H ca sl :=
  Yx.step (fun C _ k => lv_i2b C.1 C.2.1 hdg rfl k) k
theorem y_i2c {x : Int32} (hdg : decode (kCode K) pc = .ok (.i2c, 1)) (k : Yx X Z G R K (pc + 1) l (.int (x.toUInt32 % 65536).toInt32 :: S) M H ca sl) : Yx X Z G R K pc l (.int x :: S) M H ca sl :=
  Yx.step (fun C _ k => lv_i2c C.1 C.2.1 hdg rfl k) k
theorem y_i2l {x : Int32} (hdg : decode (kCode K) pc = .ok (.i2l, 1)) (k : Yx X Z G R K (pc + 1) l (.long x.toInt64 :: S) M H ca sl) : Yx X Z G R K pc l (.int x :: S) M H ca sl :=
  Yx.step (fun C _ k => lv_i2l C.1 C.2.1 hdg rfl k) k
theorem y_ladd {x y : Int64} (hdg : decode (kCode K) pc = .ok (.ladd, 1)) (k : Yx X Z G R K (pc + 1) l (.long (x + y) :: S) M H ca sl) : Yx X Z G R K pc l (.long y :: .long x :: S) M H ca sl :=
  Yx.step (fun C _ k => lv_ladd C.1 C.2.1 hdg k) k
theorem y_lmul {x y : Int64} (hdg : decode (kCode K) pc = .ok (.lmul, 1)) (k : Yx X Z G R K (pc + 1) l (.long (x * y) :: S) M H ca sl) : Yx X Z G R K pc l (.long y :: .long x :: S) M H ca sl :=
  Yx.step (fun C _ k => lv_lmul C.1 C.2.1 hdg k) k
theorem y_ldc2 {index : Nat} {v : Int64} (hdg : decode (kCode K) pc = .ok (.ldc2_w index, 3)) (hw : Cond.constantLong (kOwn K) index v ∈ lw_tbl) (k : Yx X Z G R K (pc + 3) l (.long v :: S) M H ca sl) : Yx X Z G R K pc l S M H ca sl :=
  Yx.step (fun C _ k => lv_ldc2 C.1 C.2.1 C.2.2.2.2.2.1 (C.2.2.2.2.2.2.1 _ (eIn hw rfl)) hdg k) k
theorem y_goto {off : Int} {t : Nat} (hdg : decode (kCode K) pc = .ok (.goto off, 3)) (ht : (pc : Int) + off = (t : Int)) (k : Yx X Z G R K t l S M H ca sl) : Yx X Z G R K pc l S M H ca sl :=
  Yx.step (fun C _ k => lv_goto C.1 C.2.1 hdg ht k) k
theorem y_icmp_eq {x y : Int32} {off : Int} {t : Nat} (hdg : decode (kCode K) pc = .ok (.if_icmp .eq off, 3)) (ht : (pc : Int) + off = (t : Int)) (kt : x = y → Yx X Z G R K t l S M H ca sl) (kf : ¬ x = y → Yx X Z G R K (pc + 3) l S M H ca sl) : Yx X Z G R K pc l (.int y :: .int x :: S) M H ca sl :=
  fun Rr hR p la e s m args below meth c A H locs ls C hl => lv_icmp_eq C.1 C.2.1 hdg ht (fun q => kt q Rr hR p la e s m args below meth c A H locs ls C hl) (fun q => kf q Rr hR p la e s m args below meth c A H locs ls C hl)
theorem y_if_eq {x : Int32} {off : Int} {t : Nat} (hdg : decode (kCode K) pc = .ok (.ifCond .eq off, 3)) (ht : (pc : Int) + off = (t : Int)) (kt : x = 0 → Yx X Z G R K t l S M H ca sl) (kf : ¬ x = 0 → Yx X Z G R K (pc + 3) l S M H ca sl) : Yx X Z G R K pc l (.int x :: S) M H ca sl :=
  fun Rr hR p la e s m args below meth c A H locs ls C hl => lv_if_eq C.1 C.2.1 hdg ht (fun q => kt q Rr hR p la e s m args below meth c A H locs ls C hl) (fun q => kf q Rr hR p la e s m args below meth c A H locs ls C hl)
theorem y_icmp_ne {x y : Int32} {off : Int} {t : Nat} (hdg : decode (kCode K) pc = .ok (.if_icmp .ne off, 3)) (ht : (pc : Int) + off = (t : Int)) (kt : ¬ x = y → Yx X Z G R K t l S M H ca sl) (kf : x = y → Yx X Z G R K (pc + 3) l S M H ca sl) : Yx X Z G R K pc l (.int y :: .int x :: S) M H ca sl :=
  fun Rr hR p la e s m args below meth c A H locs ls C hl => lv_icmp_ne C.1 C.2.1 hdg ht (fun q => kt q Rr hR p la e s m args below meth c A H locs ls C hl) (fun q => kf q Rr hR p la e s m args below meth c A H locs ls C hl)
theorem y_if_ne {x : Int32} {off : Int} {t : Nat} (hdg : decode (kCode K) pc = .ok (.ifCond .ne off, 3)) (ht : (pc : Int) + off = (t : Int)) (kt : ¬ x = 0 → Yx X Z G R K t l S M H ca sl) (kf : x = 0 → Yx X Z G R K (pc + 3) l S M H ca sl) : Yx X Z G R K pc l (.int x :: S) M H ca sl :=
  fun Rr hR p la e s m args below meth c A H locs ls C hl => lv_if_ne C.1 C.2.1 hdg ht (fun q => kt q Rr hR p la e s m args below meth c A H locs ls C hl) (fun q => kf q Rr hR p la e s m args below meth c A H locs ls C hl)
theorem y_icmp_lt {x y : Int32} {off : Int} {t : Nat} (hdg : decode (kCode K) pc = .ok (.if_icmp .lt off, 3)) (ht : (pc : Int) + off = (t : Int)) (kt : x < y → Yx X Z G R K t l S M H ca sl) (kf : ¬ x < y → Yx X Z G R K (pc + 3) l S M H ca sl) : Yx X Z G R K pc l (.int y :: .int x :: S) M H ca sl :=
  fun Rr hR p la e s m args below meth c A H locs ls C hl => lv_icmp_lt C.1 C.2.1 hdg ht (fun q => kt q Rr hR p la e s m args below meth c A H locs ls C hl) (fun q => kf q Rr hR p la e s m args below meth c A H locs ls C hl)
theorem y_if_lt {x : Int32} {off : Int} {t : Nat} (hdg : decode (kCode K) pc = .ok (.ifCond .lt off, 3)) (ht : (pc : Int) + off = (t : Int)) (kt : x < 0 → Yx X Z G R K t l S M H ca sl) (kf : ¬ x < 0 → Yx X Z G R K (pc + 3) l S M H ca sl) : Yx X Z G R K pc l (.int x :: S) M H ca sl :=
  fun Rr hR p la e s m args below meth c A H locs ls C hl => lv_if_lt C.1 C.2.1 hdg ht (fun q => kt q Rr hR p la e s m args below meth c A H locs ls C hl) (fun q => kf q Rr hR p la e s m args below meth c A H locs ls C hl)
theorem y_icmp_ge {x y : Int32} {off : Int} {t : Nat} (hdg : decode (kCode K) pc = .ok (.if_icmp .ge off, 3)) (ht : (pc : Int) + off = (t : Int)) (kt : y ≤ x → Yx X Z G R K t l S M H ca sl) (kf : ¬ y ≤ x → Yx X Z G R K (pc + 3) l S M H ca sl) : Yx X Z G R K pc l (.int y :: .int x :: S) M H ca sl :=
  fun Rr hR p la e s m args below meth c A H locs ls C hl => lv_icmp_ge C.1 C.2.1 hdg ht (fun q => kt q Rr hR p la e s m args below meth c A H locs ls C hl) (fun q => kf q Rr hR p la e s m args below meth c A H locs ls C hl)
theorem y_if_ge {x : Int32} {off : Int} {t : Nat} (hdg : decode (kCode K) pc = .ok (.ifCond .ge off, 3)) (ht : (pc : Int) + off = (t : Int)) (kt : 0 ≤ x → Yx X Z G R K t l S M H ca sl) (kf : ¬ 0 ≤ x → Yx X Z G R K (pc + 3) l S M H ca sl) : Yx X Z G R K pc l (.int x :: S) M H ca sl :=
  fun Rr hR p la e s m args below meth c A H locs ls C hl => lv_if_ge C.1 C.2.1 hdg ht (fun q => kt q Rr hR p la e s m args below meth c A H locs ls C hl) (fun q => kf q Rr hR p la e s m args below meth c A H locs ls C hl)
theorem y_icmp_gt {x y : Int32} {off : Int} {t : Nat} (hdg : decode (kCode K) pc = .ok (.if_icmp .gt off, 3)) (ht : (pc : Int) + off = (t : Int)) (kt : y < x → Yx X Z G R K t l S M H ca sl) (kf : ¬ y < x → Yx X Z G R K (pc + 3) l S M H ca sl) : Yx X Z G R K pc l (.int y :: .int x :: S) M H ca sl :=
  fun Rr hR p la e s m args below meth c A H locs ls C hl => lv_icmp_gt C.1 C.2.1 hdg ht (fun q => kt q Rr hR p la e s m args below meth c A H locs ls C hl) (fun q => kf q Rr hR p la e s m args below meth c A H locs ls C hl)
theorem y_if_gt {x : Int32} {off : Int} {t : Nat} (hdg : decode (kCode K) pc = .ok (.ifCond .gt off, 3)) (ht : (pc : Int) + off = (t : Int)) (kt : 0 < x → Yx X Z G R K t l S M H ca sl) (kf : ¬ 0 < x → Yx X Z G R K (pc + 3) l S M H ca sl) : Yx X Z G R K pc l (.int x :: S) M H ca sl :=
  fun Rr hR p la e s m args below meth c A H locs ls C hl => lv_if_gt C.1 C.2.1 hdg ht (fun q => kt q Rr hR p la e s m args below meth c A H locs ls C hl) (fun q => kf q Rr hR p la e s m args below meth c A H locs ls C hl)
theorem y_icmp_le {x y : Int32} {off : Int} {t : Nat} (hdg : decode (kCode K) pc = .ok (.if_icmp .le off, 3)) (ht : (pc : Int) + off = (t : Int)) (kt : x ≤ y → Yx X Z G R K t l S M H ca sl) (kf : ¬ x ≤ y → Yx X Z G R K (pc + 3) l S M H ca sl) : Yx X Z G R K pc l (.int y :: .int x :: S) M H ca sl :=
  fun Rr hR p la e s m args below meth c A H locs ls C hl => lv_icmp_le C.1 C.2.1 hdg ht (fun q => kt q Rr hR p la e s m args below meth c A H locs ls C hl) (fun q => kf q Rr hR p la e s m args below meth c A H locs ls C hl)
theorem y_if_le {x : Int32} {off : Int} {t : Nat} (hdg : decode (kCode K) pc = .ok (.ifCond .le off, 3)) (ht : (pc : Int) + off = (t : Int)) (kt : x ≤ 0 → Yx X Z G R K t l S M H ca sl) (kf : ¬ x ≤ 0 → Yx X Z G R K (pc + 3) l S M H ca sl) : Yx X Z G R K pc l (.int x :: S) M H ca sl :=
  fun Rr hR p la e s m args below meth c A H locs ls C hl => lv_if_le C.1 C.2.1 hdg ht (fun q => kt q Rr hR p la e s m args below meth c A H locs ls C hl) (fun q => kf q Rr hR p la e s m args below meth c A H locs ls C hl)
theorem y_zif_eq {x : Bool} {off : Int} {t : Nat} (hdg : decode (kCode K) pc = .ok (.ifCond .eq off, 3)) (ht : (pc : Int) + off = (t : Int)) (kt : x = false → Yx X Z G R K t l S M H ca sl) (kf : x = true → Yx X Z G R K (pc + 3) l S M H ca sl) : Yx X Z G R K pc l (.int (eZi x) :: S) M H ca sl :=
  y_if_eq hdg ht (fun q => kt (eZi_0.mp q)) (fun q => kf (by cases x with | false => exact absurd rfl q | true => rfl))
theorem y_zif_ne {x : Bool} {off : Int} {t : Nat} (hdg : decode (kCode K) pc = .ok (.ifCond .ne off, 3)) (ht : (pc : Int) + off = (t : Int)) (kt : x = true → Yx X Z G R K t l S M H ca sl) (kf : x = false → Yx X Z G R K (pc + 3) l S M H ca sl) : Yx X Z G R K pc l (.int (eZi x) :: S) M H ca sl :=
  y_if_ne hdg ht (fun q => kt (by cases x with | false => exact absurd rfl q | true => rfl)) (fun q => kf (eZi_0.mp q))
theorem y_tableAt {dflt lo' hi : Int} {offs : Array Int} {len : Nat} {x kx : Int32} {off : Int} {tg : Nat} (hdg : decode (kCode K) pc = .ok (.tableswitch dflt lo' hi offs, len)) (hx : x = kx) (h1 : ¬ kx.toInt < lo') (h2 : ¬ hi < kx.toInt) (ho : offs[(kx.toInt - lo').toNat]? = some off) (ht : (pc : Int) + off = (tg : Int))
    (kk : Yx X Z G R K tg l S M H ca sl) : Yx X Z G R K pc l (.int x :: S) M H ca sl := by
  subst hx
  exact Yx.step (fun C _ k => lv_tableIn C.1 C.2.1 hdg h1 h2 ho ht k) kk
theorem y_tableOut {dflt lo' hi : Int} {offs : Array Int} {len : Nat} {x : Int32} {tg : Nat} (hdg : decode (kCode K) pc = .ok (.tableswitch dflt lo' hi offs, len)) (h : x.toInt < lo' ∨ hi < x.toInt) (ht : (pc : Int) + dflt = (tg : Int))
    (kk : Yx X Z G R K tg l S M H ca sl) : Yx X Z G R K pc l (.int x :: S) M H ca sl := Yx.step (fun C _ k => lv_tableOut C.1 C.2.1 hdg h ht k) kk
theorem y_gets {c0 n0 d0 : String} {w : Value} (hdg : decode (kCode K) pc = .ok (.getstatic index, 3)) (hlk : Cond.fieldLink (kOwn K) index c0 n0 d0 ∈ lw_tbl) (hZ : ∀ {A : Nat → Prop} {U : State} {H : Heap}, eSt G A U H → va_Z c0 n0 d0 w A U H)
    (kk : Yx X Z G R K (pc + 3) l (w :: S) M H ca sl) : Yx X Z G R K pc l S M H ca sl :=
  Yx.step (fun C _ k => va_gets C.1 C.2.1 (hZ C.2.2.2.2.2.2.2.2.1) C.2.2.2.2.2.2.2.2.2.2.2.1 C.2.2.2.2.2.1 (C.2.2.2.2.2.2.1 _ (eIn hlk rfl)) (fun x h => h) hdg k) kk
theorem y_getsN {c0 n0 d0 host : String} {w : Value} (hdg : decode (kCode K) pc = .ok (.getstatic index, 3)) (hlk : Cond.fieldLinkNest (kOwn K) index c0 n0 d0 host ∈ lw_tbl) (hZ : ∀ {A : Nat → Prop} {U : State} {H : Heap}, eSt G A U H → va_Z c0 n0 d0 w A U H)
    (kk : Yx X Z G R K (pc + 3) l (w :: S) M H ca sl) : Yx X Z G R K pc l S M H ca sl :=
  Yx.step (fun C _ k => va_getsN C.1 C.2.1 (hZ C.2.2.2.2.2.2.2.2.1) C.2.2.2.2.2.2.2.2.2.2.2.1 C.2.2.2.2.2.1 (C.2.2.2.2.2.2.1 _ (eIn hlk rfl)) (fun x h => h) hdg k) kk
theorem y_lookup {dflt : Int} {ps : Array (Int × Int)} {len : Nat} {x : Int32} {off : Int} {t : Nat} (hdg : decode (kCode K) pc = .ok (.lookupswitch dflt ps, len)) (hp : (ps.toList.zip (ps.toList.drop 1)).all (fun (a, next) => a.1 < next.1) = true) (ho : Op.lookupswitch.offset ps.toList dflt x.toInt = off) (ht : (pc : Int) + off = (t : Int)) (k : Yx X Z G R K t l S M H ca sl) : Yx X Z G R K pc l (.int x :: S) M H ca sl :=
  Yx.step (fun C _ k => lv_lookup C.1 C.2.1 hdg hp ho ht k) k
theorem y_lload_n {q : Fin 4} {i : Nat} (j : Nat) {x : Int64} (hdg : decode (kCode K) pc = .ok (.lload_n q, 1)) (hi : (q : Nat) = i) (hj : l[j]? = some (i, .long x)) (k : Yx X Z G R K (pc + 1) l (.long x :: S) M H ca sl) : Yx X Z G R K pc l S M H ca sl :=
  Yx.step (fun C hl k => lv_lload_n C.1 C.2.1 hdg hi (lv_at hl j hj) k) k
theorem y_lstore_n {q : Fin 4} {i : Nat} {x : Int64} (hdg : decode (kCode K) pc = .ok (.lstore_n q, 1)) (hi : (q : Nat) = i) (hn : i + 1 < kMax K) (hl' : (i, Value.long x) :: eDrop2 i l = l') (k : Yx X Z G R K (pc + 1) l' S M H ca sl) : Yx X Z G R K pc l (.long x :: S) M H ca sl :=
  fun Rr hR p la e s m args below meth c A H locs ls C hl => lv_lstore_n C.1 C.2.1 hdg hi hl hn hl' (fun ls' h => k Rr hR p la e s m args below meth c A H locs ls' C h)
theorem y_i2d {x : Int32} (hdg : decode (kCode K) pc = .ok (.i2d, 1)) (k : Yx X Z G R K (pc + 1) l (.double (FP.i2d x) :: S) M H ca sl) : Yx X Z G R K pc l (.int x :: S) M H ca sl :=
  Yx.step (fun C _ k => lv_i2d C.1 C.2.1 hdg k) k
theorem y_dconst0 (hdg : decode (kCode K) pc = .ok (.dconst 0, 1)) (k : Yx X Z G R K (pc + 1) l (.double FP.dconst0 :: S) M H ca sl) : Yx X Z G R K pc l S M H ca sl :=
  Yx.step (fun C _ k => lv_dconst0 C.1 C.2.1 hdg k) k
theorem y_ddiv {x y : UInt64} (hdg : decode (kCode K) pc = .ok (.ddiv, 1)) (hne : vf_n64 (FP.ddiv x y)) (k : Yx X Z G R K (pc + 1) l (.double (FP.ddiv x y) :: S) M H ca sl) : Yx X Z G R K pc l (.double y :: .double x :: S) M H ca sl :=
  Yx.step (fun C _ k => lv_ddiv C.1 C.2.1 hdg hne k) k
theorem y_tald {tc : Nat} {f : Nat → Int32} {c0 n0 d0 : String} {i : Int32} (hdg : decode (kCode K) pc = .ok (.iaload, 1)) (hT : ∀ {A : Nat → Prop} {U : State} {H : Heap}, eSt G A U H → eTb G tc c0 n0 d0 .int N (fun j => .int (f j)) A U H) (hin : vp_in i N)
    (kk : Yx X Z G R K (pc + 1) l (.int (f i.toNatClampNeg) :: S) M H ca sl) : Yx X Z G R K pc l (.int i :: .ref (G.1 tc) :: S) M H ca sl :=
  Yx.step (fun C _ k => va_ti C.1 C.2.1 (hT C.2.2.2.2.2.2.2.2.1).2 C.2.2.2.2.2.2.2.2.2.2.2.1 hin rfl hdg k) kk
theorem y_tlen {tc : Nat} {f : Nat → Value} {c0 n0 d0 : String} {ty : FieldType} {v : Int32} (hdg : decode (kCode K) pc = .ok (.arraylength, 1)) (hT : ∀ {A : Nat → Prop} {U : State} {H : Heap}, eSt G A U H → eTb G tc c0 n0 d0 ty N f A U H) (hv : Int32.ofNat N = v)
    (kk : Yx X Z G R K (pc + 1) l (.int v :: S) M H ca sl) : Yx X Z G R K pc l (.ref (G.1 tc) :: S) M H ca sl :=
  Yx.step (fun C _ k => va_tlen C.1 C.2.1 (hT C.2.2.2.2.2.2.2.2.1).2 C.2.2.2.2.2.2.2.2.2.2.2.1 hv hdg k) kk
theorem y_mmax {x y : Int32} (hdg : decode (kCode K) pc = .ok (.invokestatic index, 3)) (hlk : Cond.methodLink (kOwn K) index Lib.Math.max.name ∈ lw_tbl) (h2 : Cond.static Lib.Math.max.name ∈ lw_tbl) (h3 : Cond.initialized "java/lang/Math" ∈ lw_tbl) (h4 : Cond.code Lib.Math.max.name Lib.Math.max.code 2 (some .int) ∈ lw_tbl) (hb : 1 ≤ R.frames ∧ 21 ≤ R.locals) (hS : (S.map fun v => v.category).sum ≤ 8) (hcs : ca ≤ R.cells ∧ sl ≤ R.slots)
    (kk : Yx X Z G R K (pc + 3) l (.int (if x < y then y else x) :: S) M H ca sl) : Yx X Z G R K pc l (.int y :: .int x :: S) M H ca sl := by
  intro Rr hR p la e s m args below meth c A H locs ls C hl
  obtain ⟨q1, q2, q3, q4, q5, q6, q7, q8, q9, q10, q11, q12, q13, q14⟩ := C
  exact va_mmax q1 q2 (q3.trans hl.1.symm) q6 (q7 _ (eIn hlk rfl)) (q7 _ (eIn h2 rfl)) (q7 _ (eIn h3 rfl)) (q7 _ (eIn h4 rfl)) hb.1 (by show _ + 13 ≤ R.locals; omega) hcs.1 hcs.2 hdg (kk Rr hR p la e s m args below meth c A H locs ls ⟨q1, q2, q3, q4, q5, q6, q7, q8, q9, q10, q11, q12, q13, q14⟩ hl)
theorem y_mmin {x y : Int32} (hdg : decode (kCode K) pc = .ok (.invokestatic index, 3)) (hlk : Cond.methodLink (kOwn K) index Lib.Math.min.name ∈ lw_tbl) (h2 : Cond.static Lib.Math.min.name ∈ lw_tbl) (h3 : Cond.initialized "java/lang/Math" ∈ lw_tbl) (h4 : Cond.code Lib.Math.min.name Lib.Math.min.code 2 (some .int) ∈ lw_tbl) (hb : 1 ≤ R.frames ∧ 21 ≤ R.locals) (hS : (S.map fun v => v.category).sum ≤ 8) (hcs : ca ≤ R.cells ∧ sl ≤ R.slots)
    (kk : Yx X Z G R K (pc + 3) l (.int (if y < x then y else x) :: S) M H ca sl) : Yx X Z G R K pc l (.int y :: .int x :: S) M H ca sl := by
  intro Rr hR p la e s m args below meth c A H locs ls C hl
  obtain ⟨q1, q2, q3, q4, q5, q6, q7, q8, q9, q10, q11, q12, q13, q14⟩ := C
  exact va_mmin q1 q2 (q3.trans hl.1.symm) q6 (q7 _ (eIn hlk rfl)) (q7 _ (eIn h2 rfl)) (q7 _ (eIn h3 rfl)) (q7 _ (eIn h4 rfl)) hb.1 (by show _ + 13 ≤ R.locals; omega) hcs.1 hcs.2 hdg (kk Rr hR p la e s m args below meth c A H locs ls ⟨q1, q2, q3, q4, q5, q6, q7, q8, q9, q10, q11, q12, q13, q14⟩ hl)
theorem y_getsQ {c0 n0 d0 : String} (hdg : decode (kCode K) pc = .ok (.getstatic index, 3)) (hlk : Cond.fieldLink (kOwn K) index c0 n0 d0 ∈ lw_tbl) (hZ : ∀ {A : Nat → Prop} {U : State} {H : Heap}, eSt G A U H → va_Zq c0 n0 d0 A U H)
    (kk : ∀ r : Option Nat, Yx X Z G R K (pc + 3) l (va_rf r :: S) M H ca sl) : Yx X Z G R K pc l S M H ca sl := by
  intro Rr hR p la e s m args below meth c A H locs ls C hl
  rcases hZ C.2.2.2.2.2.2.2.2.1 with h | ⟨t, h⟩
  · exact va_gets C.1 C.2.1 h C.2.2.2.2.2.2.2.2.2.2.2.1 C.2.2.2.2.2.1 (C.2.2.2.2.2.2.1 _ (eIn hlk rfl)) (fun x h => h) hdg (kk none Rr hR p la e s m args below meth c A H locs ls C hl)
  · exact va_gets C.1 C.2.1 h C.2.2.2.2.2.2.2.2.2.2.2.1 C.2.2.2.2.2.1 (C.2.2.2.2.2.2.1 _ (eIn hlk rfl)) (fun x h => h) hdg (kk (some t) Rr hR p la e s m args below meth c A H locs ls C hl)
theorem y_ldcw {v : Int32} (hdg : decode (kCode K) pc = .ok (.ldc_w index, 3)) (hw : Cond.constant (kOwn K) index v ∈ lw_tbl) (k : Yx X Z G R K (pc + 3) l (.int v :: S) M H ca sl) : Yx X Z G R K pc l S M H ca sl :=
  Yx.step (fun C _ k => lv_ldcw C.1 C.2.1 C.2.2.2.2.2.1 (C.2.2.2.2.2.2.1 _ (eIn hw rfl)) hdg k) k
theorem y_aconst (hdg : decode (kCode K) pc = .ok (.aconst_null, 1)) (k : Yx X Z G R K (pc + 1) l (.null :: S) M H ca sl) : Yx X Z G R K pc l S M H ca sl :=
  Yx.step (fun C _ k => lv_null C.1 C.2.1 hdg k) k
theorem y_ifnonnullR {x : Nat} {off : Int} {t : Nat} (hdg : decode (kCode K) pc = .ok (.ifnonnull off, 3)) (ht : (pc : Int) + off = (t : Int)) (k : Yx X Z G R K t l S M H ca sl) : Yx X Z G R K pc l (.ref x :: S) M H ca sl :=
  Yx.step (fun C _ k => lv_ifnonnull C.1 C.2.1 hdg ht k) k
theorem y_ifnonnullN {off : Int} (hdg : decode (kCode K) pc = .ok (.ifnonnull off, 3)) (k : Yx X Z G R K (pc + 3) l S M H ca sl) : Yx X Z G R K pc l (.null :: S) M H ca sl :=
  Yx.step (fun C _ k => lv_ifnonnullN C.1 C.2.1 hdg k) k
theorem y_ifnullR {x : Nat} {off : Int} (hdg : decode (kCode K) pc = .ok (.ifnull off, 3)) (k : Yx X Z G R K (pc + 3) l S M H ca sl) : Yx X Z G R K pc l (.ref x :: S) M H ca sl :=
  Yx.step (fun C _ k => lv_ifnull C.1 C.2.1 hdg k) k
theorem y_ifnullN {off : Int} {t : Nat} (hdg : decode (kCode K) pc = .ok (.ifnull off, 3)) (ht : (pc : Int) + off = (t : Int)) (k : Yx X Z G R K t l S M H ca sl) : Yx X Z G R K pc l (.null :: S) M H ca sl :=
  Yx.step (fun C _ k => lv_ifnullN C.1 C.2.1 hdg ht k) k
theorem y_aload_nN {q : Fin 4} {i : Nat} (j : Nat) (hdg : decode (kCode K) pc = .ok (.aload_n q, 1)) (hi : (q : Nat) = i) (hj : l[j]? = some (i, .null)) (k : Yx X Z G R K (pc + 1) l (.null :: S) M H ca sl) : Yx X Z G R K pc l S M H ca sl :=
  Yx.step (fun C hl k => lv_aload_nN C.1 C.2.1 hdg hi (lv_at hl j hj) k) k
theorem y_aloadN {i : Nat} (j : Nat) (hdg : decode (kCode K) pc = .ok (.aload i, 2)) (hj : l[j]? = some (i, .null)) (k : Yx X Z G R K (pc + 2) l (.null :: S) M H ca sl) : Yx X Z G R K pc l S M H ca sl :=
  Yx.step (fun C hl k => lv_aloadN C.1 C.2.1 hdg (lv_at hl j hj) k) k
theorem y_lload {i : Nat} (j : Nat) {x : Int64} (hdg : decode (kCode K) pc = .ok (.lload i, 2)) (hj : l[j]? = some (i, .long x)) (k : Yx X Z G R K (pc + 2) l (.long x :: S) M H ca sl) : Yx X Z G R K pc l S M H ca sl :=
  Yx.step (fun C hl k => lv_lload C.1 C.2.1 hdg (lv_at hl j hj) k) k
theorem y_lstore {i : Nat} {x : Int64} (hdg : decode (kCode K) pc = .ok (.lstore i, 2)) (hn : i + 1 < kMax K) (hl' : (i, Value.long x) :: eDrop2 i l = l') (k : Yx X Z G R K (pc + 2) l' S M H ca sl) : Yx X Z G R K pc l (.long x :: S) M H ca sl :=
  fun Rr hR p la e s m args below meth c A H locs ls C hl => lv_lstore C.1 C.2.1 hdg hl hn hl' (fun ls' h => k Rr hR p la e s m args below meth c A H locs ls' C h)
theorem y_lcmp {x y : Int64} (hdg : decode (kCode K) pc = .ok (.lcmp, 1)) (k : Yx X Z G R K (pc + 1) l (.int (lg_cmp x y) :: S) M H ca sl) : Yx X Z G R K pc l (.long y :: .long x :: S) M H ca sl :=
  Yx.step (fun C _ k => W.lcmp C.1 C.2.1 hdg k) k
theorem y_dcmp {x y : UInt64} {op : CmpOp} {v : Int32} (hdg : decode (kCode K) pc = .ok (.dcmp op, 1)) (hv : Op.cmpValue (FP.dcmp x y) op = v) (k : Yx X Z G R K (pc + 1) l (.int v :: S) M H ca sl) : Yx X Z G R K pc l (.double y :: .double x :: S) M H ca sl :=
  Yx.step (fun C _ k => lv_dcmp C.1 C.2.1 hdg (by rw [hv]; exact k)) k
/-! texts by name, static rows of texts and of arrays -/
theorem y_ldcS {text : String} {j : Nat} (hdg : decode (kCode K) pc = .ok (.ldc index, 2)) (hm : (kOwn K, index, text, j) ∈ eLw) (k : Yx X Z G R K (pc + 2) l (.ref (G.1 j) :: S) M H ca sl) : Yx X Z G R K pc l S M H ca sl :=
  Yx.step (fun C _ k => va_ldcS C.1 C.2.1 C.2.2.2.2.2.1 (C.2.2.2.2.2.2.2.2.2.2.1.2 _ (List.mem_append_right _ hm)) hdg k) k
theorem y_tqS {tc : Nat} {c0 n0 d0 : String} {C : String} {f : Nat → Value} {i : Int32} {v : Value} (hdg : decode (kCode K) pc = .ok (.aaload, 1)) (hT : ∀ {A : Nat → Prop} {U : State} {H : Heap}, eSt G A U H → eTb G tc c0 n0 d0 (.object C) N f A U H) (hin : vp_in i N) (hv : f i.toNatClampNeg = v)
    (kk : Yx X Z G R K (pc + 1) l (v :: S) M H ca sl) : Yx X Z G R K pc l (.int i :: .ref (G.1 tc) :: S) M H ca sl :=
  Yx.step (fun C _ k => vb_tq C.1 C.2.1 (hT C.2.2.2.2.2.2.2.2.1).2 C.2.2.2.2.2.2.2.2.2.2.2.1 hin hv hdg k) kk
theorem y_tbS {tc : Nat} {c0 n0 d0 : String} {f : Nat → Int32} {i : Int32} (hdg : decode (kCode K) pc = .ok (.baload, 1)) (hT : ∀ {A : Nat → Prop} {U : State} {H : Heap}, eSt G A U H → eTb G tc c0 n0 d0 .byte N (fun j => .int (f j)) A U H) (hin : vp_in i N)
    (kk : Yx X Z G R K (pc + 1) l (.int (f i.toNatClampNeg) :: S) M H ca sl) : Yx X Z G R K pc l (.int i :: .ref (G.1 tc) :: S) M H ca sl :=
  Yx.step (fun C _ k => va_tb C.1 C.2.1 (hT C.2.2.2.2.2.2.2.2.1).2 C.2.2.2.2.2.2.2.2.2.2.2.1 hin rfl hdg k) kk
end YRows
section YHeap
variable {X : xX} {Z : eZt} {G : eG} {R : Room} {K : eK} {pc : Nat} {l l' : List (Nat × Value)} {S : List Value} {M : eM} {H : yH} {ca sl : Nat}
theorem y_get {a index k ci N : Nat} {C : String} {T : u_T} {ty : Nat → FieldType} {fs : List Value} {v : Value} (hdg : decode (kCode K) pc = .ok (.getfield index, 3)) (hC : eCl ci C T N ty) (hlk : Cond.fieldLink (kOwn K) index (T k).1 (T k).2.1 (T k).2.2.1 ∈ lw_tbl) (hk : k < N) (he : H a = some (.inr (ci, fs))) (hv : fs[k]? = some v)
    (kk : Yx X Z G R K (pc + 3) l (v :: S) M H ca sl) : Yx X Z G R K pc l (.ref a :: S) M H ca sl := fun Rr hR => by
  obtain ⟨q0, hq⟩ := List.mem_iff_getElem?.mp (hR a _ he)
  exact x_get hdg hC hlk hk (yw_at hq) hv (kk Rr hR)
theorem y_put {a index k ci N : Nat} {C : String} {T : u_T} {ty : Nat → FieldType} {fs : List Value} {v : Value} {ft : FieldType} (hdg : decode (kCode K) pc = .ok (.putfield index, 3)) (hC : eCl ci C T N ty) (hlk : Cond.fieldLink (kOwn K) index (T k).1 (T k).2.1 (T k).2.2.1 ∈ lw_tbl) (hk : k < N) (he : H a = some (.inr (ci, fs))) (hl0 : k < fs.length)
    (hfin : (T k).2.2.2 = false) (hd : parseFieldDescriptor (T k).2.2.1 = some ft) (hnw : narrow ft v = v) (hfit : fits ft v = true)
    (kk : Yx X Z G R K (pc + 3) l S M (yU H a (.inr (ci, fs.set k v))) ca sl) : Yx X Z G R K pc l (v :: .ref a :: S) M H ca sl := fun Rr hR => by
  obtain ⟨q0, hq⟩ := List.mem_iff_getElem?.mp (hR a _ he)
  refine x_put hdg hC hlk hk (yw_at hq) hl0 hfin hd hnw hfit ?_
  rw [yw_set]
  exact kk _ (hR.set hq _)
theorem y_putF (hX : ∀ s meth c A, X s meth c A → meth.name = "<init>") {a index k ci N : Nat} {C : String} {T : u_T} {ty : Nat → FieldType} {fs : List Value} {v : Value} {ft : FieldType} (hdg : decode (kCode K) pc = .ok (.putfield index, 3)) (hC : eCl ci C T N ty) (hlk : Cond.fieldLink (kOwn K) index (T k).1 (T k).2.1 (T k).2.2.1 ∈ lw_tbl) (hk : k < N) (he : H a = some (.inr (ci, fs))) (hl0 : k < fs.length)
    (hfin : (T k).2.2.2 = true) (hdecl : (T k).1 = kOwn K) (hd : parseFieldDescriptor (T k).2.2.1 = some ft) (hnw : narrow ft v = v) (hfit : fits ft v = true)
    (kk : Yx X Z G R K (pc + 3) l S M (yU H a (.inr (ci, fs.set k v))) ca sl) : Yx X Z G R K pc l (v :: .ref a :: S) M H ca sl := fun Rr hR => by
  obtain ⟨q0, hq⟩ := List.mem_iff_getElem?.mp (hR a _ he)
  refine x_putF hX hdg hC hlk hk (yw_at hq) hl0 hfin hdecl hd hnw hfit ?_
  rw [yw_set]
  exact kk _ (hR.set hq _)
theorem Ex.heap {w : va_W} {pc' : Nat} {S' : List Value} (h : ∀ {p : Program} {la : Launch} {e : Env} {s : State} {m : MethodId} {args : Array Value} {below : List Frame} {meth : Method} {c : Code} {H : Heap} {locs : List Loc} {ls : Array Slot} {Q : State → Prop}, p.tables.exec = Jvm.exec → c.code = kCode K → va_K (eD G) vwCl (eTy G) s → va_P (eD G) vwCl w H → 
    W p la e R s m args below meth c H locs ca sl Q (F0 m pc' ls S') → W p la e R s m args below meth c H locs ca sl Q (F0 m pc ls S)) (k : Ex X Z G R K pc' l S' w ca sl) : Ex X Z G R K pc l S w ca sl :=
  fun p la e s m args below meth c A H locs ls C hl => h C.1 C.2.1 C.2.2.2.2.2.2.2.1 C.2.2.2.2.2.2.2.2.2.2.2.2.1 (k p la e s m args below meth c A H locs ls C hl)
/-- a store: what the row of the kit gives back -/
theorem y_store {a q0 : Nat} {w w1 : va_W} {pc' : Nat} {S' : List Value} (h : ∀ {p : Program} {la : Launch} {e : Env} {s : State} {m : MethodId} {args : Array Value} {below : List Frame} {meth : Method} {c : Code} {A : Nat → Prop} {H : Heap} {locs : List Loc} {ls : Array Slot} {Q : State → Prop}, p.tables.exec = Jvm.exec → c.code = kCode K → va_K (eD G) vwCl (eTy G) s → va_P (eD G) vwCl w H → va_D A w → va_S A s.heap H locs → xN0 s →
    (∀ (H1 : Heap) (locs1 : List Loc), va_P (eD G) vwCl w1 H1 → va_D A w1 → va_S A s.heap H1 locs1 → W p la e R s m args below meth c H1 locs1 ca sl Q (F0 m pc' ls S')) → W p la e R s m args below meth c H locs ca sl Q (F0 m pc ls S)) (hX : yXok X) (k : Ex X Z G R K pc' l S' w1 ca sl) : Ex X Z G R K pc l S w ca sl := by
  intro p la e s m args below meth c' A H locs ls C0 hl
  obtain ⟨h1, h2, h3, h4, h5, h6, h7, h8, h9, h10, h11, h12, h13, h14⟩ := C0
  exact h h1 h2 h8 h13 h14 h12 (hX _ _ _ _ h5.2) (fun H1 locs1 hP hD hS => k p la e s m args below meth c' A H1 locs1 ls ⟨h1, h2, h3, h4, h5, h6, h7, h8, h9, h10, h11, hS, hP, hD⟩ hl)
theorem y_iald {a N : Nat} {f : Nat → Int32} {i : Int32} (hdg : decode (kCode K) pc = .ok (.iaload, 1)) (he : H a = some (.inl (G.2.2.2 0, (N, .inl f)))) (hin : vp_in i N) (kk : Yx X Z G R K (pc + 1) l (.int (f i.toNatClampNeg) :: S) M H ca sl) : Yx X Z G R K pc l (.int i :: .ref a :: S) M H ca sl := fun Rr hR => by
  obtain ⟨q0, hq⟩ := List.mem_iff_getElem?.mp (hR a _ he)
  exact Ex.heap (fun h1 h2 h8 h13 k0 => va_iald h1 h2 h8 h13 _ 0 (yw_at hq) rfl hin hdg k0) (kk Rr hR)
theorem y_bald {a N : Nat} {f : Nat → Int32} {i : Int32} (hdg : decode (kCode K) pc = .ok (.baload, 1)) (he : H a = some (.inl (G.2.2.2 1, (N, .inl f)))) (hin : vp_in i N) (kk : Yx X Z G R K (pc + 1) l (.int (f i.toNatClampNeg) :: S) M H ca sl) : Yx X Z G R K pc l (.int i :: .ref a :: S) M H ca sl := fun Rr hR => by
  obtain ⟨q0, hq⟩ := List.mem_iff_getElem?.mp (hR a _ he)
  exact Ex.heap (fun h1 h2 h8 h13 k0 => va_bald h1 h2 h8 h13 _ 1 (yw_at hq) rfl hin hdg k0) (kk Rr hR)
theorem y_zald {a N : Nat} {f : Nat → Int32} {i : Int32} (hdg : decode (kCode K) pc = .ok (.baload, 1)) (he : H a = some (.inl (G.2.2.2 2, (N, .inl f)))) (hin : vp_in i N) (kk : Yx X Z G R K (pc + 1) l (.int (f i.toNatClampNeg) :: S) M H ca sl) : Yx X Z G R K pc l (.int i :: .ref a :: S) M H ca sl := fun Rr hR => by
  obtain ⟨q0, hq⟩ := List.mem_iff_getElem?.mp (hR a _ he)
  exact Ex.heap (fun h1 h2 h8 h13 k0 => va_zald h1 h2 h8 h13 _ 2 (yw_at hq) rfl hin hdg k0) (kk Rr hR)
/-- a reference out of an array -/
theorem y_aald {a N b t : Nat} {ty : FieldType} {f : Nat → Option Nat} {i : Int32} (hdg : decode (kCode K) pc = .ok (.aaload, 1)) (ht : (eTy G)[t]? = some (G.2.2.2 t, ty)) (hty : ty.isReference = true) (he : H a = some (.inl (G.2.2.2 t, (N, .inr (.inr (.inr (.inr f))))))) (hin : vp_in i N) (hb : f i.toNatClampNeg = some b) (kk : Yx X Z G R K (pc + 1) l (.ref b :: S) M H ca sl) : Yx X Z G R K pc l (.int i :: .ref a :: S) M H ca sl := fun Rr hR => by
  obtain ⟨q0, hq⟩ := List.mem_iff_getElem?.mp (hR a _ he)
  have hlt : i.toNatClampNeg < N := Nat.not_le.mp fun q => hin (Or.inr q)
  refine Ex.heap (fun h1 h2 h8 h13 k0 => ?_) (kk Rr hR)
  exact W.aald (v := .ref b) (ty := ty) h1 h2 (h13 _ _ (yw_at hq)) ((h8.2 t _ ht).1 N (fun j => va_rf (f j))) hty (fun q => by cases q) (by show ¬ (i < 0 ∨ (arrV _ _ _).slots.size ≤ _); rw [arrV_size]; exact hin) (by show (arrV _ _ _).slots[_]? = _; rw [arrV_read _ _ hlt]; show some (va_rf (f i.toNatClampNeg)) = _; rw [hb]; rfl) rfl rfl hdg k0
theorem y_iast (hX : yXok X) {a N : Nat} {f : Nat → Int32} {i v : Int32} (hdg : decode (kCode K) pc = .ok (.iastore, 1)) (he : H a = some (.inl (G.2.2.2 0, (N, .inl f)))) (hin : vp_in i N) (kk : Yx X Z G R K (pc + 1) l S M (yU H a (.inl (G.2.2.2 0, (N, .inl (upd f i.toNatClampNeg v))))) ca sl) : Yx X Z G R K pc l (.int v :: .int i :: .ref a :: S) M H ca sl := fun Rr hR => by
  obtain ⟨q0, hq⟩ := List.mem_iff_getElem?.mp (hR a _ he)
  refine y_store (a := a) (q0 := q0) (fun h1 h2 h8 h13 h14 h12 _ k0 => va_iast h1 h2 h8 h13 h14 h12 _ 0 (f := f) (yw_at hq) rfl hin hdg k0) hX ?_
  rw [yw_set]
  exact kk _ (hR.set hq _)
theorem y_bast (hX : yXok X) {a N : Nat} {f : Nat → Int32} {i v : Int32} (hdg : decode (kCode K) pc = .ok (.bastore, 1)) (he : H a = some (.inl (G.2.2.2 1, (N, .inl f)))) (hin : vp_in i N) (kk : Yx X Z G R K (pc + 1) l S M (yU H a (.inl (G.2.2.2 1, (N, .inl (upd f i.toNatClampNeg v.toInt8.toInt32))))) ca sl) : Yx X Z G R K pc l (.int v :: .int i :: .ref a :: S) M H ca sl := fun Rr hR => by
  obtain ⟨q0, hq⟩ := List.mem_iff_getElem?.mp (hR a _ he)
  refine y_store (a := a) (q0 := q0) (fun h1 h2 h8 h13 h14 h12 _ k0 => va_bast h1 h2 h8 h13 h14 h12 _ 1 (f := f) (yw_at hq) rfl hin hdg k0) hX ?_
  rw [yw_set]
  exact kk _ (hR.set hq _)
theorem y_zast (hX : yXok X) {a N : Nat} {f : Nat → Int32} {i v : Int32} (hdg : decode (kCode K) pc = .ok (.bastore, 1)) (he : H a = some (.inl (G.2.2.2 2, (N, .inl f)))) (hin : vp_in i N) (kk : Yx X Z G R K (pc + 1) l S M (yU H a (.inl (G.2.2.2 2, (N, .inl (upd f i.toNatClampNeg (v &&& 1)))))) ca sl) : Yx X Z G R K pc l (.int v :: .int i :: .ref a :: S) M H ca sl := fun Rr hR => by
  obtain ⟨q0, hq⟩ := List.mem_iff_getElem?.mp (hR a _ he)
  refine y_store (a := a) (q0 := q0) (fun h1 h2 h8 h13 h14 h12 _ k0 => va_zast h1 h2 h8 h13 h14 h12 _ 2 (f := f) (yw_at hq) rfl hin hdg k0) hX ?_
  rw [yw_set]
  exact kk _ (hR.set hq _)
/-- an object into an array of its class -/
theorem y_astq (hX : yXok X) {a v t ci N : Nat} {r : vw_C} {vs : List Value} {f : Nat → Option Nat} {i : Int32} (hdg : decode (kCode K) pc = .ok (.aastore, 1)) (he : H a = some (.inl (G.2.2.2 t, (N, .inr (.inr (.inr (.inr f))))))) (ht : (eTy G)[t]? = some (G.2.2.2 t, .object r.1)) (hv : H v = some (.inr (ci, vs))) (hc : vwCl[ci]? = some r) (hin : vp_in i N)
    (kk : Yx X Z G R K (pc + 1) l S M (yU H a (.inl (G.2.2.2 t, (N, .inr (.inr (.inr (.inr (va_up f i.toNatClampNeg (some v))))))))) ca sl) : Yx X Z G R K pc l (.ref v :: .int i :: .ref a :: S) M H ca sl := fun Rr hR => by
  obtain ⟨q0, hq⟩ := List.mem_iff_getElem?.mp (hR a _ he)
  obtain ⟨q1, hq1⟩ := List.mem_iff_getElem?.mp (hR v _ hv)
  refine y_store (a := a) (q0 := q0) (fun h1 h2 h8 h13 h14 h12 _ k0 => va_astq h1 h2 h8 h13 h14 h12 _ t _ ci (yw_at hq) ht (yw_at hq1) hc hin hdg k0) hX ?_
  rw [yw_set]
  exact kk _ (hR.set hq _)
theorem yAA.is {s : State} {G : eG} (h : yAA s) (hK : va_K (eD G) vwCl (eTy G) s) : ∃ k, s.vm.classes[G.2.2.2 5]? = some k ∧ k.kind = .array (G.2.2.2 0) (.array .int) := by
  obtain ⟨comp, c, k, h1, -, h3, h4, h5⟩ := arrayOverA_spec h
  have a5 : s.vm.findClass ("[" ++ (FieldType.array .int).toString) = some (G.2.2.2 5) := (hK.2 5 (G.2.2.2 5, .array .int) rfl).2
  have a0 : s.vm.findClass ("[" ++ FieldType.int.toString) = some (G.2.2.2 0) := (hK.2 0 (G.2.2.2 0, .int) rfl).2
  have e5 : c = G.2.2.2 5 := Option.some.inj (h5.symm.trans a5)
  have e0 : comp = G.2.2.2 0 := Option.some.inj (h1.symm.trans a0)
  subst e5; subst e0
  exact ⟨k, h3, h4⟩
theorem yAss (vm : Vm) (c : ClassId) : vm.assignable c c = true := by
  have h : ∀ n, vm.assignableAux (n + 1) c c = true := fun n => by
    unfold Vm.assignableAux
    rw [beq_self_eq_true, Bool.true_or]
  exact h 255
/-- an int array into an array of int arrays -/
theorem y_astI (hX : yXok X) {a v n N : Nat} {g : Nat → Int32} {f : Nat → Option Nat} {i : Int32} (hdg : decode (kCode K) pc = .ok (.aastore, 1)) (he : H a = some (.inl (G.2.2.2 5, (N, .inr (.inr (.inr (.inr f))))))) (hv : H v = some (.inl (G.2.2.2 0, (n, .inl g)))) (hin : vp_in i N)
    (kk : Yx X Z G R K (pc + 1) l S M (yU H a (.inl (G.2.2.2 5, (N, .inr (.inr (.inr (.inr (va_up f i.toNatClampNeg (some v))))))))) ca sl) : Yx X Z G R K pc l (.ref v :: .int i :: .ref a :: S) M H ca sl := fun Rr hR => by
  obtain ⟨q0, hq⟩ := List.mem_iff_getElem?.mp (hR a _ he)
  obtain ⟨q1, hq1⟩ := List.mem_iff_getElem?.mp (hR v _ hv)
  have hlt : i.toNatClampNeg < N := Nat.not_le.mp fun q => hin (Or.inr q)
  have h0 : ¬ i < 0 := fun q => hin (Or.inl q)
  refine y_store (a := a) (q0 := q0) (w1 := eW G 0 68 M ++ Rr.set q0 (a, .inl (G.2.2.2 5, (N, .inr (.inr (.inr (.inr (va_up f i.toNatClampNeg (some v))))))))) (fun {p la e s m args below meth c A Hh locs ls Q} h1 h2 h8 h13 h14 h12 hN k0 => ?_) hX (kk _ (hR.set hq _))
  obtain ⟨kA, f1, f2⟩ := hN.2.2.2.2.is h8
  obtain ⟨-, kv, f3, -, -⟩ := (h8.2 0 (G.2.2.2 0, .int) rfl).1 n (fun j => .int (g j))
  refine W.aast h1 h2 (h13 _ _ (yw_at hq)) (fun q h => by cases h) (fun h => by cases h) f1 f2 rfl f3 ⟨h0, by show _ < (arrV _ _ _).slots.size; rw [arrV_size]; exact hlt⟩ (h13 _ _ (yw_at hq1)) (fun q h => by cases h) f3 (yAss _ _) rfl rfl hdg fun H1 e z oq => ?_
  have hs := yw_set (G := G) (M := M) (R := Rr) q0 (a, .inl (G.2.2.2 5, (N, .inr (.inr (.inr (.inr (va_up f i.toNatClampNeg (some v))))))))
  have hP := h13.set h14 (e := .inl (G.2.2.2 5, (N, .inr (.inr (.inr (.inr (va_up f i.toNatClampNeg (some v)))))))) (yw_at (G := G) (M := M) hq) (by
    show H1[a]? = some (vp_cell _ _)
    rw [e]
    rw [vp_cell_q, vp_cell_q, arrV_store]
    congr 2
    funext q
    by_cases hq : q = i.toNatClampNeg
    · subst hq
      simp [updV, va_up, va_rf]
    · simp [updV, va_up, hq]) oq
  have hD := h14.set (e := .inl (G.2.2.2 5, (N, .inr (.inr (.inr (.inr (va_up f i.toNatClampNeg (some v)))))))) (yw_at (G := G) (M := M) hq)
  rw [hs] at hP hD
  exact k0 H1 _ hP hD (h12.put z oq (h14.2 _ _ (yw_at hq)))
theorem y_alen {a t : Nat} {ty : FieldType} {x : vp_A} {v : Int32} (hdg : decode (kCode K) pc = .ok (.arraylength, 1)) (ht : (eTy G)[t]? = some (G.2.2.2 t, ty)) (he : H a = some (.inl (G.2.2.2 t, x))) (hv : Int32.ofNat x.1 = v) (kk : Yx X Z G R K (pc + 1) l (.int v :: S) M H ca sl) : Yx X Z G R K pc l (.ref a :: S) M H ca sl := fun Rr hR => by
  obtain ⟨q0, hq⟩ := List.mem_iff_getElem?.mp (hR a _ he)
  exact Ex.heap (fun h1 h2 h8 h13 k0 => va_alen h1 h2 h8 h13 _ t (x := x) (yw_at hq) ht hv hdg k0) (kk Rr hR)
/-! cells that are made -/
theorem Ex.dup {w : va_W} {i j : Nat} {x y : Nat × va_E} (hi : w[i]? = some x) (hj : w[j]? = some y) (e : x.1 = y.1) (hij : i ≠ j) : Ex X Z G R K pc l S w ca sl := by
  intro p la e0 s m args below meth c A H locs ls C hl
  exact absurd (C.2.2.2.2.2.2.2.2.2.2.2.2.2.1 i j x y hi hj e) hij
theorem y_made {q : Nat} {e : va_E} {Rr : va_W} (hR : yHas Rr H) (kk : H q = none → Yx X Z G R K pc l S M (yU H q e) ca sl) : Ex X Z G R K pc l S (eW G 0 68 M ++ Rr ++ [(q, e)]) ca sl := by
  cases hq : H q with
  | none =>
    rw [List.append_assoc]
    exact kk hq _ (hR.app q e)
  | some e1 =>
    obtain ⟨i, hi⟩ := List.mem_iff_getElem?.mp (hR q e1 hq)
    have hlt : 68 + i < (eW G 0 68 M ++ Rr).length := (List.getElem?_eq_some_iff.mp (yw_at (G := G) (M := M) hi)).1
    refine Ex.dup (i := 68 + i) (j := (eW G 0 68 M ++ Rr).length) (x := (q, e1)) (y := (q, e)) ?_ ?_ rfl (by omega)
    · rw [List.getElem?_append_left hlt]; exact yw_at hi
    · rw [List.getElem?_append_right (Nat.le_refl _), Nat.sub_self]; rfl
theorem y_new {index ci N : Nat} {C : String} {T : u_T} {ty : Nat → FieldType} {fs : List Value} (hdg : decode (kCode K) pc = .ok (.new index, 3)) (hC : eCl ci C T N ty) (hcl : Cond.classLink (kOwn K) index C ∈ lw_tbl) (hinst : Cond.instantiable C N ∈ lw_tbl) (hini : Cond.initialized C ∈ lw_tbl) (hfs : ∀ j, j < N → defaultValue (ty j) = vp_V fs j) (hb : ca + 1 ≤ R.cells ∧ sl + N ≤ R.slots)
    (kk : ∀ q : Nat, H q = none → Yx X Z G R K (pc + 3) l (.ref q :: S) M (yU H q (.inr (ci, fs))) (ca + 1) (sl + N)) : Yx X Z G R K pc l S M H ca sl := fun Rr hR => by
  exact x_new hdg hC hcl hinst hini hfs hb (fun q => y_made hR (kk q))
theorem y_newi {n : Int32} {N : Nat} (hdg : decode (kCode K) pc = .ok (.newarray .int, 2)) (hn : ¬ n < 0) (hN : n.toNatClampNeg = N) (hbytes : N * 4 ≤ 536870912) (hb : ca + 1 ≤ R.cells ∧ sl + N ≤ R.slots)
    (kk : ∀ q : Nat, H q = none → Yx X Z G R K (pc + 2) l (.ref q :: S) M (yU H q (.inl (G.2.2.2 0, (N, .inl (fun _ => 0))))) (ca + 1) (sl + N)) : Yx X Z G R K pc l (.int n :: S) M H ca sl := fun Rr hR =>
  x_newi hdg xa_int hn hN hbytes hb (fun q => y_made hR (kk q))
theorem y_newb {n : Int32} {N : Nat} (hdg : decode (kCode K) pc = .ok (.newarray .byte, 2)) (hn : ¬ n < 0) (hN : n.toNatClampNeg = N) (hbytes : N * 1 ≤ 536870912) (hb : ca + 1 ≤ R.cells ∧ sl + N ≤ R.slots)
    (kk : ∀ q : Nat, H q = none → Yx X Z G R K (pc + 2) l (.ref q :: S) M (yU H q (.inl (G.2.2.2 1, (N, .inl (fun _ => 0))))) (ca + 1) (sl + N)) : Yx X Z G R K pc l (.int n :: S) M H ca sl := fun Rr hR =>
  x_newb hdg xa_byte hn hN hbytes hb (fun q => y_made hR (kk q))
theorem y_newz {n : Int32} {N : Nat} (hdg : decode (kCode K) pc = .ok (.newarray .boolean, 2)) (hn : ¬ n < 0) (hN : n.toNatClampNeg = N) (hbytes : N * 1 ≤ 536870912) (hb : ca + 1 ≤ R.cells ∧ sl + N ≤ R.slots)
    (kk : ∀ q : Nat, H q = none → Yx X Z G R K (pc + 2) l (.ref q :: S) M (yU H q (.inl (G.2.2.2 2, (N, .inl (fun _ => 0))))) (ca + 1) (sl + N)) : Yx X Z G R K pc l (.int n :: S) M H ca sl := fun Rr hR =>
  x_newz hdg xa_boolean hn hN hbytes hb (fun q => y_made hR (kk q))
theorem y_newq {index t N : Nat} {C : String} {n : Int32} (hover : ∀ s meth c A, X s meth c A → va_AO C s) (hdg : decode (kCode K) pc = .ok (.anewarray index, 3)) (hcl : Cond.classLink (kOwn K) index C ∈ lw_tbl) (ht : (eTy G)[t]? = some (G.2.2.2 t, .object C)) (hn : ¬ n < 0) (hN : n.toNatClampNeg = N) (hbytes : N * 4 ≤ 536870912) (hb : ca + 1 ≤ R.cells ∧ sl + N ≤ R.slots)
    (kk : ∀ q : Nat, H q = none → Yx X Z G R K (pc + 3) l (.ref q :: S) M (yU H q (.inl (G.2.2.2 t, (N, .inr (.inr (.inr (.inr (fun _ => none)))))))) (ca + 1) (sl + N)) : Yx X Z G R K pc l (.int n :: S) M H ca sl := fun Rr hR =>
  x_newq hdg hcl hover ht hn hN hbytes hb (fun q => y_made hR (kk q))
/-- an array of int arrays -/
theorem y_newA (hX : yXok X) {index N : Nat} {n : Int32} (hdg : decode (kCode K) pc = .ok (.anewarray index, 3)) (hcl : Cond.classLink (kOwn K) index "[I" ∈ lw_tbl) (hn : ¬ n < 0) (hN : n.toNatClampNeg = N) (hbytes : N * 4 ≤ 536870912) (hb : ca + 1 ≤ R.cells ∧ sl + N ≤ R.slots)
    (kk : ∀ q : Nat, H q = none → Yx X Z G R K (pc + 3) l (.ref q :: S) M (yU H q (.inl (G.2.2.2 5, (N, .inr (.inr (.inr (.inr (fun _ => none)))))))) (ca + 1) (sl + N)) : Yx X Z G R K pc l (.int n :: S) M H ca sl := fun Rr hR => by
  subst hN
  intro p la e s m args below meth c A Hh locs ls C0 hl
  obtain ⟨h1, h2, h3, h4, h5, h6, h7, h8, h9, h10, h11, h12, h13, h14⟩ := C0
  refine W.anewA (t := .int) h1 h2 h6 (h7 _ (eIn hcl rfl)) (hX _ _ _ _ h5.2).2.2.2.2.use rfl hdg rfl hn hbytes hb.1 hb.2 fun cA kA comp f1 f2 f3 f4 => ?_
  have e9 : cA = G.2.2.2 5 := Option.some.inj (f1.symm.trans (h8.2 5 (G.2.2.2 5, .array .int) rfl).2)
  subst e9
  generalize hH1 : Hh.push ({ cls := G.2.2.2 5, slots := Array.replicate n.toNatClampNeg .null, vm := .none } : Cell) = H1
  have z1 : H1.size = Hh.size + 1 := by rw [← hH1, Array.size_push]
  have e1 : H1[Hh.size]? = some (arrV (G.2.2.2 5) n.toNatClampNeg (fun _ => .null)) := by rw [← hH1, Array.getElem?_push_size, ← arrV_new]
  have o1 : ∀ q : Nat, q < Hh.size → H1[q]? = Hh[q]? := fun q hq => by rw [← hH1, Array.getElem?_push, if_neg (Nat.ne_of_lt hq)]
  have hk : ∀ (k : Nat) (x : Nat × va_E), (eW G 0 68 M ++ Rr)[k]? = some x → H1[x.1]? = Hh[x.1]? := fun k x hx => o1 x.1 ((h13 k x hx).lt)
  refine y_made (q := Hh.size) hR (kk Hh.size) p la e s m args below meth c A H1 locs ls ⟨h1, h2, h3, h4, h5, h6, h7, h8, h9, h10, h11, ⟨Nat.le_trans h12.1 (by omega), fun x z1 z2 => (o1 x (Nat.lt_of_lt_of_le z1 h12.1)).trans (h12.2.1 x z1 z2), h12.2.2⟩, (h13.kept hk).app (fun k x hx => ?_), h14.push h13 rfl (h10 _ h12.1)⟩ hl
  have hz : k < 1 := (List.getElem?_eq_some_iff.mp hx).1
  have hz0 : k = 0 := by omega
  subst hz0
  cases hx
  exact e1
theorem y_objInit {a index : Nat} (hdg : decode (kCode K) pc = .ok (.invokespecial index, 3)) (hlk : Cond.methodLink (kOwn K) index Lib.objectInit ∈ lw_tbl) (hb : 1 ≤ R.frames ∧ 20 ≤ R.locals) (hS : (S.map fun v => v.category).sum ≤ 8)
    (kk : Yx X Z G R K (pc + 3) l S M H ca sl) : Yx X Z G R K pc l (.ref a :: S) M H ca sl := fun Rr hR => x_objInit hdg hlk xo_in xo_co hb hS (kk Rr hR)
/-! calls -/
theorem y_ret {G : eG} {b' : eB} {Fin : Option Value → eM → yH → Prop} (kk : ∀ (v : Option Value) (M' : eM) (H' : yH), Fin v M' H' → Yx X Z G R K pc l (v.toList ++ S) M' H' (ca + b'.2.1) (sl + b'.2.2)) (v : Option Value) (w' : va_W) (h : yFin G Fin v w') : Ex X Z G R K pc l (v.toList ++ S) w' (ca + b'.2.1) (sl + b'.2.2) := by
  obtain ⟨M', H', Rr', rfl, h2, h3⟩ := h
  exact kk v M' H' h3 Rr' h2
theorem y_callV (hX : yXok X) {K' : eK} {b' : eB} {As : List Value} {a index ci k Nf : Nat} {fs : List Value} {C : String} {T : u_T} {ty : Nat → FieldType} {Fin : Option Value → eM → yH → Prop} (hdg : decode (kCode K) pc = .ok (.invokevirtual index, 3)) (hm : eMV K' k) (hlk : Cond.methodLink (kOwn K) index (kY K') ∈ lw_tbl) (hC : eCl ci C T Nf ty) (hcn : (kY K').cls = C) (he : H a = some (.inr (ci, fs))) (hk : As.length = k) (hb : xFit R b' K' ca sl) (hS : (S.map fun v => v.category).sum ≤ 8)
    (hcal : yCal G b' K' (.ref a :: As) M H Fin) (kk : ∀ (v : Option Value) (M' : eM) (H' : yH), Fin v M' H' → Yx X Z G R K (pc + 3) l (v.toList ++ S) M' H' (ca + b'.2.1) (sl + b'.2.2)) {S0 : List Value} (hS0 : S0 = As.reverse ++ .ref a :: S) : Yx X Z G R K pc l S0 M H ca sl := fun Rr hR => by
  obtain ⟨q0, hq⟩ := List.mem_iff_getElem?.mp (hR a _ he)
  exact x_callV xN0_m hX hdg hm hlk hC hcn (yw_at hq) hk hb hS (hcal Rr hR) (y_ret kk) hS0
/-- a call of the class's own object -/
theorem y_callM (hX : yXok X) {K' : eK} {b' : eB} {As : List Value} {index k : Nat} {Fin : Option Value → eM → yH → Prop} (hdg : decode (kCode K) pc = .ok (.invokevirtual index, 3)) (hm : eMV K' k) (hlk : Cond.methodLink (kOwn K) index (kY K') ∈ lw_tbl) (hcn : (kY K').cls = RX10) (hk : As.length = k) (hb : xFit R b' K' ca sl) (hS : (S.map fun v => v.category).sum ≤ 8)
    (hcal : yCal G b' K' (.ref (G.1 0) :: As) M H Fin) (kk : ∀ (v : Option Value) (M' : eM) (H' : yH), Fin v M' H' → Yx X Z G R K (pc + 3) l (v.toList ++ S) M' H' (ca + b'.2.1) (sl + b'.2.2)) {S0 : List Value} (hS0 : S0 = As.reverse ++ .ref (G.1 0) :: S) : Yx X Z G R K pc l S0 M H ca sl := fun Rr hR =>
  x_callV xN0_m hX (q0 := 0 - 0) (fs := eF G [3, 5, 10, 15, 16, 25, 18, 0] 0 (M 0)) hdg hm hlk clX10 hcn (by rw [xe_at iF0, sC0]; rfl) hk hb hS (hcal Rr hR) (y_ret kk) hS0
theorem y_callS (hX : yXok X) {K' : eK} {b' : eB} {As : List Value} {index k : Nat} {Fin : Option Value → eM → yH → Prop} (hdg : decode (kCode K) pc = .ok (.invokestatic index, 3)) (hm : eMS K' k) (hlk : Cond.methodLink (kOwn K) index (kY K') ∈ lw_tbl) (hk : As.length = k) (hb : xFit R b' K' ca sl) (hS : (S.map fun v => v.category).sum ≤ 8)
    (hcal : yCal G b' K' As M H Fin) (kk : ∀ (v : Option Value) (M' : eM) (H' : yH), Fin v M' H' → Yx X Z G R K (pc + 3) l (v.toList ++ S) M' H' (ca + b'.2.1) (sl + b'.2.2)) {S0 : List Value} (hS0 : S0 = As.reverse ++ S) : Yx X Z G R K pc l S0 M H ca sl := fun Rr hR =>
  x_callS xN0_m hX hdg hm hlk hk hb hS (hcal Rr hR) (y_ret kk) hS0
theorem y_callI (hX : yXok X) {K' : eK} {b' : eB} {As : List Value} {a index k : Nat} {Fin : Option Value → eM → yH → Prop} (hdg : decode (kCode K) pc = .ok (.invokespecial index, 3)) (hm : eMI K' k) (hlk : Cond.methodLink (kOwn K) index (kY K') ∈ lw_tbl) (hk : As.length = k) (hb : xFit R b' K' ca sl) (hS : (S.map fun v => v.category).sum ≤ 8)
    (hcal : yCal G b' K' (.ref a :: As) M H Fin) (kk : ∀ (v : Option Value) (M' : eM) (H' : yH), Fin v M' H' → Yx X Z G R K (pc + 3) l (v.toList ++ S) M' H' (ca + b'.2.1) (sl + b'.2.2)) {S0 : List Value} (hS0 : S0 = As.reverse ++ .ref a :: S) : Yx X Z G R K pc l S0 M H ca sl := fun Rr hR =>
  x_callI xN0_m hX hdg hm hlk hk hb hS (hcal Rr hR) (y_ret kk) hS0
theorem y_callIN (hX : yXok X) {K' : eK} {b' : eB} {As : List Value} {a index k : Nat} {host : String} {Fin : Option Value → eM → yH → Prop} (hdg : decode (kCode K) pc = .ok (.invokespecial index, 3)) (hm : eMI K' k) (hlk : Cond.methodLinkNest (kOwn K) index (kY K') host ∈ lw_tbl) (hk : As.length = k) (hb : xFit R b' K' ca sl) (hS : (S.map fun v => v.category).sum ≤ 8)
    (hcal : yCal G b' K' (.ref a :: As) M H Fin) (kk : ∀ (v : Option Value) (M' : eM) (H' : yH), Fin v M' H' → Yx X Z G R K (pc + 3) l (v.toList ++ S) M' H' (ca + b'.2.1) (sl + b'.2.2)) {S0 : List Value} (hS0 : S0 = As.reverse ++ .ref a :: S) : Yx X Z G R K pc l S0 M H ca sl := fun Rr hR =>
  x_callIN xN0_m hX hdg hm hlk hk hb hS (hcal Rr hR) (y_ret kk) hS0
/-! ends -/
theorem y_iret {mc ms : Nat} {Fin : Option Value → eM → yH → Prop} {v : Int32} (hdg : decode (kCode K) pc = .ok (.ireturn, 1)) (hr : kRet K = some .int) (h1 : ca ≤ mc) (h2 : sl ≤ ms) (hF : Fin (some (.int v)) M H) : Yx X (yZ G mc ms Fin) G R K pc l [.int v] M H ca sl := fun Rr hR =>
  x_iret hdg hr h1 h2 ⟨M, H, Rr, rfl, hR, hF⟩
theorem y_lret {mc ms : Nat} {Fin : Option Value → eM → yH → Prop} {v : Int64} (hdg : decode (kCode K) pc = .ok (.lreturn, 1)) (hr : kRet K = some .long) (h1 : ca ≤ mc) (h2 : sl ≤ ms) (hF : Fin (some (.long v)) M H) : Yx X (yZ G mc ms Fin) G R K pc l [.long v] M H ca sl := fun Rr hR =>
  x_lret hdg hr h1 h2 ⟨M, H, Rr, rfl, hR, hF⟩
theorem y_vret {mc ms : Nat} {Fin : Option Value → eM → yH → Prop} (hdg : decode (kCode K) pc = .ok (.return_, 1)) (hr : kRet K = none) (h1 : ca ≤ mc) (h2 : sl ≤ ms) (hF : Fin none M H) : Yx X (yZ G mc ms Fin) G R K pc l [] M H ca sl := fun Rr hR =>
  x_vret hdg hr h1 h2 ⟨M, H, Rr, rfl, hR, hF⟩
theorem y_zret {mc ms : Nat} {Fin : Option Value → eM → yH → Prop} {v : Int32} {ty : FieldType} (hdg : decode (kCode K) pc = .ok (.ireturn, 1)) (hr : kRet K = some ty) (hn : narrow ty (.int v) = .int v) (h1 : ca ≤ mc) (h2 : sl ≤ ms) (hF : Fin (some (.int v)) M H) : Yx X (yZ G mc ms Fin) G R K pc l [.int v] M H ca sl := fun Rr hR => by
  intro p la e s m args below meth c A Hh locs ls C0 hl
  obtain ⟨q1, q2, q3, q4, q5, q6, q7, q8, q9, q10, q11, q12, q13, q14⟩ := C0
  refine W.widen h1 h2 ?_
  exact W.zret q1 q2 (q4.trans hr) hn (fun t ht _ => ⟨⟨_, _, rfl, ⟨M, H, Rr, rfl, hR, hF⟩, by rw [ht]; exact q13, q14⟩, q12.F ht⟩) q12.2.2 hdg q5.1
theorem y_aret {mc ms : Nat} {Fin : Option Value → eM → yH → Prop} {a : Nat} {ty : FieldType} (hdg : decode (kCode K) pc = .ok (.areturn, 1)) (hr : kRet K = some ty) (hty : (∃ nm, ty = .object nm) ∨ ∃ t, ty = .array t) (h1 : ca ≤ mc) (h2 : sl ≤ ms) (hF : Fin (some (.ref a)) M H) : Yx X (yZ G mc ms Fin) G R K pc l [.ref a] M H ca sl := fun Rr hR => by
  intro p la e s m args below meth c A Hh locs ls C0 hl
  obtain ⟨q1, q2, q3, q4, q5, q6, q7, q8, q9, q10, q11, q12, q13, q14⟩ := C0
  refine W.widen h1 h2 ?_
  exact W.aret q1 q2 (q4.trans hr) hty (Or.inr ⟨_, rfl⟩) (fun t ht _ => ⟨⟨_, _, rfl, ⟨M, H, Rr, rfl, hR, hF⟩, by rw [ht]; exact q13, q14⟩, q12.F ht⟩) q12.2.2 hdg q5.1
end YHeap
