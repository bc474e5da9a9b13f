/-! ===== rows that make, call and end, over lists of cells ===== -/
/-- a contract holds over every list that has its cells -/
theorem xI.cutL {G : eG} {N : xN} {A : Nat → Prop} {w L R : va_W} {U : State} (h : xI G N A (L ++ (w ++ R)) U) : xI G N (fun q => A q ∧ ∀ x, x ∈ L ∨ x ∈ R → q ≠ x.1) w U := by
  obtain ⟨h1, h2, h3, h4, h5, h6⟩ := h
  refine ⟨h1, h2, h3.narrow (fun q z => z.1), fun q hq => ⟨h4 q hq, fun x hx e => ?_⟩, (xP_app.mp (xP_app.mp h5).2).1, xw_out h6⟩
  have hlt : x.1 < U.heap.size := by
    rcases hx with hx | hx
    · exact (xP_mem.mp (xP_app.mp h5).1 x hx).lt
    · exact (xP_mem.mp (xP_app.mp (xP_app.mp h5).2).2 x hx).lt
  omega
theorem xw_keptL {D : va_G} {A : Nat → Prop} {w w1 L R : va_W} {st t : State} (h : va_P D vwCl (L ++ (w ++ R)) st.heap) (hF : va_F (fun q => A q ∧ ∀ x, x ∈ L ∨ x ∈ R → q ≠ x.1) st t) (hP : va_P D vwCl w1 t.heap) : va_P D vwCl (L ++ (w1 ++ R)) t.heap := by
  obtain ⟨hL, hWR⟩ := xP_app.mp h
  obtain ⟨-, hR⟩ := xP_app.mp hWR
  have key : ∀ x, x ∈ L ∨ x ∈ R → va_at D vwCl x st.heap → va_at D vwCl x t.heap := fun x hx q => q.kept (hF.2 _ q.lt (fun z => z.2 x hx rfl))
  exact xP_app.mpr ⟨xP_mem.mpr (fun x hx => key x (Or.inl hx) (xP_mem.mp hL x hx)), xP_app.mpr ⟨hP, xP_mem.mpr (fun x hx => key x (Or.inr hx) (xP_mem.mp hR x hx))⟩⟩
theorem xw_newL {A : Nat → Prop} {w w1 L R : va_W} (h : va_D A (L ++ (w ++ R))) (h1 : va_D (fun q => A q ∧ ∀ x, x ∈ L ∨ x ∈ R → q ≠ x.1) w1) : va_D A (L ++ (w1 ++ R)) := by
  rw [xD_mem] at h h1 ⊢
  obtain ⟨a1, a2⟩ := h
  obtain ⟨b1, b2⟩ := h1
  rw [List.map_append, List.map_append] at a1 ⊢
  obtain ⟨n1, n2, n3⟩ := List.nodup_append.mp a1
  obtain ⟨m1, m2, m3⟩ := List.nodup_append.mp n2
  refine ⟨List.nodup_append.mpr ⟨n1, List.nodup_append.mpr ⟨b1, m2, fun x hx y hy e => ?_⟩, fun x hx y hy e => ?_⟩, fun x hx => ?_⟩
  · obtain ⟨x', hx', rfl⟩ := List.mem_map.mp hx
    obtain ⟨y', hy', rfl⟩ := List.mem_map.mp hy
    exact (b2 x' hx').2 y' (Or.inr hy') e
  · obtain ⟨x', hx', rfl⟩ := List.mem_map.mp hx
    rcases List.mem_append.mp hy with hy | hy
    · obtain ⟨y', hy', rfl⟩ := List.mem_map.mp hy
      exact (b2 y' hy').2 x' (Or.inl hx') e.symm
    · exact n3 _ hx _ (List.mem_append_right _ hy) e
  · rcases List.mem_append.mp hx with hx | hx
    · exact a2 x (List.mem_append_left _ hx)
    · rcases List.mem_append.mp hx with hx | hx
      · exact (b2 x hx).1
      · exact a2 x (List.mem_append_right _ (List.mem_append_right _ hx))
theorem xCal.list {G : eG} {N : xN} {b : eB} {K : eK} {av : List Value} {w : va_W} {Fin : Option Value → va_W → Prop} (h : xCal G N b K av w Fin) (L R : va_W) : xCal G N b K av (L ++ (w ++ R)) (fun v w' => ∃ w1, Fin v w1 ∧ w' = L ++ (w1 ++ R)) := by
  intro la hfl A p e ha hc hk s m args below hf happ hP hK
  obtain ⟨q0, hI⟩ := hP
  obtain ⟨k, o, z1, z2, z3, ⟨⟨v, w1, e1, e2, e3, e5⟩, e4⟩, L0, z5, z6⟩ := h la hfl (fun q => A q ∧ ∀ x, x ∈ L ∨ x ∈ R → q ≠ x.1) p e ha hc hk s m args below hf happ ⟨q0, hI.cutL⟩ hK
  obtain ⟨h1, h2, h3, h4, h5, h6⟩ := hI
  exact ⟨k, o, z1, z2, z3, ⟨⟨v, _, e1, ⟨w1, e2, rfl⟩, xw_keptL h5 e4 e3, xw_newL h6 e5⟩, ⟨e4.1, fun q hq hA => e4.2 q hq (fun z => hA z.1)⟩⟩, L0, z5, fun q hq => (z6 q hq).1⟩
/-! other addresses for the cells below 1000 -/
def xSame (G G' : eG) : Prop := G'.2 = G.2 ∧ ∀ c, 1000 ≤ c → G'.1 c = G.1 c
theorem xSame.symm {G G' : eG} (h : xSame G G') : xSame G' G := ⟨h.1.symm, fun c hc => (h.2 c hc).symm⟩
theorem xSame.str {G G' : eG} (h : xSame G G') {b : Nat} (hb : 1000 ≤ b) {tx : List (List Int32)} {A : Nat → Prop} {U : State} {H : Heap} (q : eStr G b tx A U H) : eStr G' b tx A U H := by
  intro k hk
  obtain ⟨q1, q2, q3, q4⟩ := q k hk
  rw [h.2 (b + k) (by omega), h.2 (b + 50 + k) (by omega)]
  exact ⟨q1, q2, q3, q4⟩
theorem xSame.tb {G G' : eG} (h : xSame G G') {c : Nat} (hc : 1000 ≤ c) {C n d : String} {ty : FieldType} {N : Nat} {f : Nat → Value} {A : Nat → Prop} {U : State} {H : Heap} (q : eTb G c C n d ty N f A U H) : eTb G' c C n d ty N f A U H := by
  unfold eTb at q ⊢
  rw [h.2 c hc]
  exact q
theorem xSame.wy {G G' : eG} (h : xSame G G') {A : Nat → Prop} {U : State} {H : Heap} (q : eWy G A U H) : eWy G' A U H := by
  refine ⟨?_, fun j hj => ?_⟩
  · have e0 : (fun j => Value.ref (G'.1 (1320 + j))) = fun j => Value.ref (G.1 (1320 + j)) := funext fun k => by rw [h.2 _ (by omega)]
    rw [e0]
    exact h.tb (by decide) q.1
  · rw [h.2 _ (by omega)]
    exact q.2 j hj
theorem xSame.st {G G' : eG} (h : xSame G G') {A : Nat → Prop} {U : State} {H : Heap} (q : eSt G A U H) : eSt G' A U H := by
  obtain ⟨h1, h2, h3, h4, h5, h6, h7, h8, h9, h10, h11, h12, h13, h14, h15, h16, h17, h18, h19⟩ := q
  have e0 : (fun k => G'.1 (1000 + k)) = fun k => G.1 (1000 + k) := funext fun k => h.2 _ (by omega)
  have e1 : (fun j => Value.ref (G'.1 (1000 + j))) = fun j => Value.ref (G.1 (1000 + j)) := funext fun k => by rw [h.2 _ (by omega)]
  have e2 : (fun j => Value.ref (G'.1 (1400 + j))) = fun j => Value.ref (G.1 (1400 + j)) := funext fun k => by rw [h.2 _ (by omega)]
  have e3 : (fun j => Value.ref (G'.1 (1500 + j))) = fun j => Value.ref (G.1 (1500 + j)) := funext fun k => by rw [h.2 _ (by omega)]
  refine ⟨by rw [e0]; exact h1, fun k hk => ?_, h.str (by decide) h3, h.str (by decide) h4, ?_, h.tb (by decide) h6, h.tb (by decide) h7, h.wy h8, ?_, ?_, h.tb (by decide) h11, h12, h13, h14, h15, h.str (by decide) h16, h.str (by decide) h17, h.tb (by decide) h18, h.tb (by decide) h19⟩
  · rw [h.2 (1000 + k) (by omega), h.2 (1100 + k) (by omega)]
    exact h2 k hk
  · rw [e1]; exact h.tb (by decide) h5
  · rw [e3]; exact h.tb (by decide) h9
  · rw [e2]; exact h.tb (by decide) h10
theorem xSame.ms {G G' : eG} (h : xSame G G') {U : State} (q : eMs G U) : eMs G' U := by
  intro x hx
  have h1 : 1000 ≤ x.2.2.2 := by
    have : ∀ y ∈ eMsg ++ eLw, 1000 ≤ y.2.2.2 := by decide
    exact this x hx
  rw [h.2 _ h1]
  exact q x hx
theorem xSame.d {G G' : eG} (h : xSame G G') : eD G' = eD G := by
  show (G'.2.1, G'.2.2.1) = (G.2.1, G.2.2.1)
  rw [h.1]
theorem xSame.ty {G G' : eG} (h : xSame G G') : eTy G' = eTy G := by
  unfold eTy
  rw [h.1]
theorem xSame.i {G G' : eG} (h : xSame G G') {N : xN} {A : Nat → Prop} {w : va_W} {U : State} (q : xI G N A w U) : xI G' N A w U := by
  obtain ⟨h1, h2, h3, h4, h5, h6⟩ := q
  refine ⟨⟨h1.1, h.ms h1.2.1, h1.2.2⟩, ?_, h.st h3, h4, ?_, h6⟩
  · rw [h.d, h.ty]; exact h2
  · rw [h.d]; exact h5
theorem xSame.cal {G G' : eG} (h : xSame G G') {N : xN} {b : eB} {K : eK} {av : List Value} {w : va_W} {Fin : Option Value → va_W → Prop} (q : xCal G' N b K av w Fin) : xCal G N b K av w Fin := by
  intro la hfl A p e ha hc hk s m args below hf happ hP hK
  obtain ⟨q0, hI⟩ := hP
  obtain ⟨k, o, z1, z2, z3, ⟨⟨v, w1, e1, e2, e3, e5⟩, e4⟩, L0⟩ := q la hfl A p e ha hc hk s m args below hf happ ⟨q0, h.i hI⟩ hK
  rw [h.d] at e3
  exact ⟨k, o, z1, z2, z3, ⟨⟨v, w1, e1, e2, e3, e5⟩, e4⟩, L0⟩
/-- a contract over fixed cells whose addresses are named later -/
theorem Cal.listG {G G' : eG} (h : xSame G G') {lo n : Nat} {b : eB} {K : eK} {av : List Value} {M : eM} {Fin : Option Value → eM → Prop} (q : Cal G' lo n b K av M Fin) (N : xN) (L R : va_W) : xCal G N b K av (L ++ (eW G' lo n M ++ R)) (fun v w' => ∃ M', Fin v M' ∧ w' = L ++ (eW G' lo n M' ++ R)) := h.cal (q.list N L R)
theorem Ex.g {X : xX} {Z : eZt} {G G' : eG} (h : xSame G G') {R : Room} {K : eK} {pc : Nat} {l : List (Nat × Value)} {S : List Value} {w : va_W} {ca sl : Nat} (k : Ex X Z G' R K pc l S w ca sl) : Ex X Z G R K pc l S w ca sl := by
  intro p la e s m args below meth c A H locs ls C hl
  obtain ⟨h1, h2, h3, h4, h5, h6, h7, h8, h9, h10, h11, h12, h13, h14⟩ := C
  refine k p la e s m args below meth c A H locs ls ⟨h1, h2, h3, h4, h5, h6, h7, ?_, h.st h9, h10, ⟨h11.1, h.ms h11.2⟩, h12, ?_, h14⟩ hl
  · rw [h.d, h.ty]; exact h8
  · rw [h.d]; exact h13
section XMake
variable {X : xX} {Z : eZt} {G : eG} {R : Room} {K : eK} {pc : Nat} {l l' : List (Nat × Value)} {S : List Value} {w : va_W} {ca sl : Nat}
theorem x_new {index ci N : Nat} {C : String} {T : u_T} {ty : Nat → FieldType} {fs : List Value} (hdg : decode (kCode K) pc = .ok (.new index, 3)) (hC : eCl ci C T N ty) (hcl : Cond.classLink (kOwn K) index C ∈ lw_tbl) (hinst : Cond.instantiable C N ∈ lw_tbl) (hini : Cond.initialized C ∈ lw_tbl) (hfs : ∀ j, j < N → defaultValue (ty j) = vp_V fs j) (hb : ca + 1 ≤ R.cells ∧ sl + N ≤ R.slots)
    (kk : ∀ q : Nat, Ex X Z G R K (pc + 3) l (.ref q :: S) (w ++ [(q, .inr (ci, fs))]) (ca + 1) (sl + N)) : Ex X Z G R K pc l S w ca sl := by
  intro p la e s m args below meth c' A H locs ls C0 hl
  obtain ⟨h1, h2, h3, h4, h5, h6, h7, h8, h9, h10, h11, h12, h13, h14⟩ := C0
  exact va_new h1 h2 h7 (eInU hC.2.1) ty hC.2.2.1 h6 (h7 _ (eIn hcl rfl)) (h7 _ (eIn hinst rfl)) (h7 _ (eIn hini rfl)) h8 h13 h14 h12 h10 hC.1 hfs hb.1 hb.2 hdg (fun q H1 hP hD hS => kk q p la e s m args below meth c' A H1 locs ls ⟨h1, h2, h3, h4, h5, h6, h7, h8, h9, h10, h11, hS, hP, hD⟩ hl)
theorem x_newa {atype : ArrayType} {ty : FieldType} {n : Int32} {N t : Nat} {a0 : vp_A} (hdg : decode (kCode K) pc = .ok (.newarray atype, 2)) (hty : newarray.typeOf atype = ty) (harr : Cond.arrayClass (newarray.typeOf atype) ∈ lw_tbl) (ht : (eTy G)[t]? = some (G.2.2.2 t, ty)) (hRA : ∀ (U : State) (cA : ClassId), va_RA U cA ty = (U.vm.findClass ("[" ++ ty.toString) = some cA)) (ha : ∀ cA : ClassId, vp_cell cA a0 = arrV cA N (fun _ => defaultValue ty)) (hn : ¬ n < 0) (hN : n.toNatClampNeg = N) (hbytes : N * componentBytes ty ≤ 536870912) (hb : ca + 1 ≤ R.cells ∧ sl + N ≤ R.slots)
    (kk : ∀ q : Nat, Ex X Z G R K (pc + 2) l (.ref q :: S) (w ++ [(q, .inl (G.2.2.2 t, a0))]) (ca + 1) (sl + N)) : Ex X Z G R K pc l (.int n :: S) w ca sl := by
  intro p la e s m args below meth c' A H locs ls C0 hl
  obtain ⟨h1, h2, h3, h4, h5, h6, h7, h8, h9, h10, h11, h12, h13, h14⟩ := C0
  refine va_newa h1 h2 (h7 _ (eIn harr rfl)) hty h8 h13 h14 h12 h10 ha hn hN hbytes hb.1 hb.2 hdg (fun q cA H1 hK hP hD hS => ?_)
  have e9 : cA = G.2.2.2 t := by
    have a1 := (hK.2 8 (cA, ty) rfl).2
    have a2 := (h8.2 t _ ht).2
    rw [hRA] at a1 a2
    exact Option.some.inj (a1.symm.trans a2)
  subst e9
  exact kk q p la e s m args below meth c' A H1 locs ls ⟨h1, h2, h3, h4, h5, h6, h7, h8, h9, h10, h11, hS, hP, hD⟩ hl
theorem x_newi {n : Int32} {N : Nat} (hdg : decode (kCode K) pc = .ok (.newarray .int, 2)) (harr : Cond.arrayClass .int ∈ lw_tbl) (hn : ¬ n < 0) (hN : n.toNatClampNeg = N) (hbytes : N * 4 ≤ 536870912) (hb : ca + 1 ≤ R.cells ∧ sl + N ≤ R.slots)
    (kk : ∀ q : Nat, Ex X Z G R K (pc + 2) l (.ref q :: S) (w ++ [(q, .inl (G.2.2.2 0, (N, .inl (fun _ => 0))))]) (ca + 1) (sl + N)) : Ex X Z G R K pc l (.int n :: S) w ca sl :=
  x_newa (ty := .int) (t := 0) hdg rfl harr rfl (fun _ _ => rfl) (fun cA => vp_cell_i cA N (fun _ => 0)) hn hN hbytes hb kk
theorem x_newb {n : Int32} {N : Nat} (hdg : decode (kCode K) pc = .ok (.newarray .byte, 2)) (harr : Cond.arrayClass .byte ∈ lw_tbl) (hn : ¬ n < 0) (hN : n.toNatClampNeg = N) (hbytes : N * 1 ≤ 536870912) (hb : ca + 1 ≤ R.cells ∧ sl + N ≤ R.slots)
    (kk : ∀ q : Nat, Ex X Z G R K (pc + 2) l (.ref q :: S) (w ++ [(q, .inl (G.2.2.2 1, (N, .inl (fun _ => 0))))]) (ca + 1) (sl + N)) : Ex X Z G R K pc l (.int n :: S) w ca sl :=
  x_newa (ty := .byte) (t := 1) hdg rfl harr rfl (fun _ _ => rfl) (fun cA => vp_cell_i cA N (fun _ => 0)) hn hN hbytes hb kk
theorem x_newz {n : Int32} {N : Nat} (hdg : decode (kCode K) pc = .ok (.newarray .boolean, 2)) (harr : Cond.arrayClass .boolean ∈ lw_tbl) (hn : ¬ n < 0) (hN : n.toNatClampNeg = N) (hbytes : N * 1 ≤ 536870912) (hb : ca + 1 ≤ R.cells ∧ sl + N ≤ R.slots)
    (kk : ∀ q : Nat, Ex X Z G R K (pc + 2) l (.ref q :: S) (w ++ [(q, .inl (G.2.2.2 2, (N, .inl (fun _ => 0))))]) (ca + 1) (sl + N)) : Ex X Z G R K pc l (.int n :: S) w ca sl :=
  x_newa (ty := .boolean) (t := 2) hdg rfl harr rfl (fun _ _ => rfl) (fun cA => vp_cell_i cA N (fun _ => 0)) hn hN hbytes hb kk
theorem x_newq {index t N : Nat} {C : String} {n : Int32} (hdg : decode (kCode K) pc = .ok (.anewarray index, 3)) (hcl : Cond.classLink (kOwn K) index C ∈ lw_tbl) (hover : ∀ s meth c A, X s meth c A → va_AO C s) (ht : (eTy G)[t]? = some (G.2.2.2 t, .object C)) (hn : ¬ n < 0) (hN : n.toNatClampNeg = N) (hbytes : N * 4 ≤ 536870912) (hb : ca + 1 ≤ R.cells ∧ sl + N ≤ R.slots)
    (kk : ∀ q : Nat, Ex X Z G R K (pc + 3) l (.ref q :: S) (w ++ [(q, .inl (G.2.2.2 t, (N, .inr (.inr (.inr (.inr (fun _ => none)))))))]) (ca + 1) (sl + N)) : Ex X Z G R K pc l (.int n :: S) w ca sl := by
  intro p la e s m args below meth c' A H locs ls C0 hl
  obtain ⟨h1, h2, h3, h4, h5, h6, h7, h8, h9, h10, h11, h12, h13, h14⟩ := C0
  refine va_newq h1 h2 h6 (h7 _ (eIn hcl rfl)) (hover _ _ _ _ h5.2) h8 h13 h14 h12 h10 hn hN hbytes hb.1 hb.2 hdg (fun q cA H1 hK hP hD hS => ?_)
  have e9 : cA = G.2.2.2 t := by
    obtain ⟨kA, comp, -, -, -, a1⟩ := (hK.2 8 (cA, .object C) rfl).2
    obtain ⟨kA', comp', -, -, -, a2⟩ := (h8.2 t _ ht).2
    exact Option.some.inj (a1.symm.trans a2)
  subst e9
  exact kk q p la e s m args below meth c' A H1 locs ls ⟨h1, h2, h3, h4, h5, h6, h7, h8, h9, h10, h11, hS, hP, hD⟩ hl
/-- an object into an array of references -/
theorem x_astq {a v q0 qk t ci N : Nat} {r : vw_C} {vs : List Value} {f : Nat → Option Nat} {i : Int32} (hdg : decode (kCode K) pc = .ok (.aastore, 1)) (he : w[q0]? = some (a, .inl (G.2.2.2 t, (N, .inr (.inr (.inr (.inr f))))))) (ht : (eTy G)[t]? = some (G.2.2.2 t, .object r.1)) (hv : w[qk]? = some (v, .inr (ci, vs))) (hc : vwCl[ci]? = some r) (hin : vp_in i N)
    (kk : Ex X Z G R K (pc + 1) l S (w.set q0 (a, .inl (G.2.2.2 t, (N, .inr (.inr (.inr (.inr (va_up f i.toNatClampNeg (some v)))))))) ) ca sl) : Ex X Z G R K pc l (.ref v :: .int i :: .ref a :: S) w ca sl := by
  intro p la e s m args below meth c' A H locs ls C0 hl
  obtain ⟨h1, h2, h3, h4, h5, h6, h7, h8, h9, h10, h11, h12, h13, h14⟩ := C0
  exact va_astq h1 h2 h8 h13 h14 h12 q0 t qk ci he ht hv hc hin hdg (fun H1 locs1 hP hD hS => kk p la e s m args below meth c' A H1 locs1 ls ⟨h1, h2, h3, h4, h5, h6, h7, h8, h9, h10, h11, hS, hP, hD⟩ hl)
theorem x_objInit {a index : Nat} (hdg : decode (kCode K) pc = .ok (.invokespecial index, 3)) (hlk : Cond.methodLink (kOwn K) index Lib.objectInit ∈ lw_tbl) (hin : Cond.instanceMethod Lib.objectInit ∈ lw_tbl) (hco : Cond.code Lib.objectInit ⟨#[0xb1]⟩ 1 none ∈ lw_tbl) (hb : 1 ≤ R.frames ∧ 20 ≤ R.locals) (hS : (S.map fun v => v.category).sum ≤ 8)
    (kk : Ex X Z G R K (pc + 3) l S w ca sl) : Ex X Z G R K pc l (.ref a :: S) w ca sl := by
  intro p la e s m args below meth c' A H locs ls C0 hl
  have C1 := C0
  obtain ⟨h1, h2, h3, h4, h5, h6, h7, h8, h9, h10, h11, h12, h13, h14⟩ := C1
  exact W.objInit h1 h2 h6 (h7 _ (eIn hlk rfl)) (h7 _ (eIn hin rfl)) (h7 _ (eIn hco rfl)) rfl (hl.1.trans h3.symm) rfl hdg hb.1 (by show 2 * 0 + (S.map fun v => v.category).sum + 12 ≤ R.locals; omega) (kk p la e s m args below meth c' A H locs ls C0 hl)
/-! calls -/
theorem Ex.after {b' : eB} {av rest : List Value} {S0 : List Value} {Fin : Option Value → va_W → Prop} {p : Program} {la : Launch} {e : Env} {s : State} {m : MethodId} {args : Array Value} {below : List Frame} {meth : Method} {c' : Code} {A : Nat → Prop} {H : Heap} {locs : List Loc} {ls : Array Slot} (C0 : xC X G K p la s m args meth c' A w H locs) (hl : lv_has ls (kMax K) l)
    (hr : va_Run p la e R s m args below meth c' H locs ca sl b'.2.1 b'.2.2 (F0 m pc ls S0) rest (xQ G A Fin av.toArray) A)
    (kk : ∀ (v : Option Value) (w' : va_W), Fin v w' → Ex X Z G R K (pc + 3) l (v.toList ++ rest) w' (ca + b'.2.1) (sl + b'.2.2)) : W p la e R s m args below meth c' H locs ca sl (Z below args s A) (F0 m pc ls S0) := by
  intro T hT X1
  obtain ⟨v, st₀, t, T', L, h0, X', hL, e1, e2, ⟨⟨v', w', hv, hF, hP1, hD1⟩, hz, hk⟩, st⟩ := hr T hT X1
  cases hv
  obtain ⟨q1, q2, q3, q4, q5, q6, q7, q8, q9, q10, q11, q12, q13, q14⟩ := C0
  rw [h0] at hz hk
  obtain ⟨t2, a1, b1⟩ := kk v w' hF p la e s m args below meth c' A T'.heap (locs ++ L) ls
    ⟨q1, q2, q3, q4, q5, q6, q7, q8, q9, q10, q11,
      ⟨Nat.le_trans q12.1 (by rw [e1]; exact hz), fun q h1 h2 => by rw [e1, hk q (Nat.lt_of_lt_of_le h1 q12.1) h2]; exact q12.2.1 q h1 h2, fun q hq => by
        rcases List.mem_append.mp hq with h | h
        · exact q12.2.2 q h
        · exact hL q h⟩, by rw [e1]; exact hP1, hD1⟩ hl T' rfl X'
  exact ⟨t2, st t2 a1, b1⟩
/-- the budget of a callee within the room that is left -/
abbrev xFit (R : Room) (b' : eB) (K' : eK) (ca sl : Nat) : Prop := (b'.1 + 1 ≤ R.frames ∧ 8 + (kMax K' + 11) + 64 * b'.1 ≤ R.locals) ∧ (ca + b'.2.1 ≤ R.cells ∧ sl + b'.2.2 ≤ R.slots)
variable {N : xN}
theorem x_callV (hN : xNm N) (hX : ∀ s meth c A, X s meth c A → N s) {K' : eK} {b' : eB} {As : List Value} {a index q0 ci k Nf : Nat} {fs : List Value} {C : String} {T : u_T} {ty : Nat → FieldType} {Fin : Option Value → va_W → Prop} (hdg : decode (kCode K) pc = .ok (.invokevirtual index, 3)) (hm : eMV K' k) (hlk : Cond.methodLink (kOwn K) index (kY K') ∈ lw_tbl) (hC : eCl ci C T Nf ty) (hcn : (kY K').cls = C) (he : w[q0]? = some (a, .inr (ci, fs))) (hk : As.length = k) (hb : xFit R b' K' ca sl) (hS : (S.map fun v => v.category).sum ≤ 8)
    (hcal : xCal G N b' K' (.ref a :: As) w Fin) (kk : ∀ (v : Option Value) (w' : va_W), Fin v w' → Ex X Z G R K (pc + 3) l (v.toList ++ S) w' (ca + b'.2.1) (sl + b'.2.2)) {S0 : List Value} (hS0 : S0 = As.reverse ++ .ref a :: S) : Ex X Z G R K pc l S0 w ca sl := by
  subst hS0
  intro p la e s m args below meth c' A H locs ls C0 hl
  have C1 := C0
  obtain ⟨q1, q2, q3, q4, q5, q6, q7, q8, q9, q10, q11, q12, q13, q14⟩ := C1
  obtain ⟨m1, m2, m3, m4, m5, m6, m8⟩ := hm
  have hcw : CallW R s args (kOwn K) C index (kY K') (kCode K') (kMax K') (kRet K') [kW K'] (eR b') b'.2.1 b'.2.2 k :=
    ⟨callB_of k q7 (eGood m1 m6) rfl rfl rfl (q7 _ (eIn m4 rfl)) (q7 _ (eIn hlk rfl)) m5 hb.1, q7 _ (eIn m2 rfl), by rw [← hcn]; exact q7 _ (eIn m3 rfl)⟩
  exact Ex.after C0 hl (va_runV (As := As) (rest := S) (nL := kMax K) ⟨q1, q2, q3, q6, q7⟩ (hcal la q11.1 A) hcw ⟨xI.blind hN, va_recv (q := (C, T, Nf)) q8 q13 hC.1 (q0 := q0) he, fun U hU hW => ⟨rfl, xC.pass hN hX C0 hU hW⟩⟩ rfl hk hl.1 rfl (lv_room hS) hdg hb.2) kk
theorem x_callS (hN : xNm N) (hX : ∀ s meth c A, X s meth c A → N s) {K' : eK} {b' : eB} {As : List Value} {index k : Nat} {Fin : Option Value → va_W → Prop} (hdg : decode (kCode K) pc = .ok (.invokestatic index, 3)) (hm : eMS K' k) (hlk : Cond.methodLink (kOwn K) index (kY K') ∈ lw_tbl) (hk : As.length = k) (hb : xFit R b' K' ca sl) (hS : (S.map fun v => v.category).sum ≤ 8)
    (hcal : xCal G N b' K' As w Fin) (kk : ∀ (v : Option Value) (w' : va_W), Fin v w' → Ex X Z G R K (pc + 3) l (v.toList ++ S) w' (ca + b'.2.1) (sl + b'.2.2)) {S0 : List Value} (hS0 : S0 = As.reverse ++ S) : Ex X Z G R K pc l S0 w ca sl := by
  subst hS0
  intro p la e s m args below meth c' A H locs ls C0 hl
  have C1 := C0
  obtain ⟨q1, q2, q3, q4, q5, q6, q7, q8, q9, q10, q11, q12, q13, q14⟩ := C1
  obtain ⟨m1, m2, m4, m5, m6, m8⟩ := hm
  exact Ex.after C0 hl (va_runS (As := As) (rest := S) (nL := kMax K) ⟨q1, q2, q3, q6, q7⟩ (hcal la q11.1 A) ⟨callB_of k q7 (eGood m1 m6) rfl rfl rfl (q7 _ (eIn m4 rfl)) (q7 _ (eIn hlk rfl)) m5 hb.1, q7 _ (eIn m2 rfl)⟩ ⟨xI.blind hN, fun U hU hW => ⟨rfl, xC.pass hN hX C0 hU hW⟩⟩ rfl hk hl.1 rfl (lv_room hS) hdg hb.2) kk
/-- what a static method with an exception table is called by -/
def eMT (K : eK) (hh : xHH) (k : Nat) : Prop := kT K hh ∈ lw_tbl ∧ Cond.static (kY K) ∈ lw_tbl ∧ Cond.initialized (kY K).cls ∈ lw_tbl ∧ ((kY K).cls ≠ "java/lang/invoke/MethodHandle" ∧ (kY K).cls ≠ "java/lang/invoke/VarHandle" ∧ (parseMethodDescriptor (kY K).desc).map (fun d => d.parameters.length) = some k) ∧ goodWord (kT K hh) = true
theorem x_callT (hN : xNm N) (hX : ∀ s meth c A, X s meth c A → N s) {K' : eK} {hh : xHH} {b' : eB} {As : List Value} {index k : Nat} {Fin : Option Value → va_W → Prop} (hdg : decode (kCode K) pc = .ok (.invokestatic index, 3)) (hm : eMT K' hh k) (hlk : Cond.methodLink (kOwn K) index (kY K') ∈ lw_tbl) (hk : As.length = k) (hb : xFit R b' K' ca sl) (hS : (S.map fun v => v.category).sum ≤ 8)
    (hcal : xCalT G N b' K' hh As w Fin) (kk : ∀ (v : Option Value) (w' : va_W), Fin v w' → Ex X Z G R K (pc + 3) l (v.toList ++ S) w' (ca + b'.2.1) (sl + b'.2.2)) {S0 : List Value} (hS0 : S0 = As.reverse ++ S) : Ex X Z G R K pc l S0 w ca sl := by
  subst hS0
  intro p la e s m args below meth c' A H locs ls C0 hl
  have C1 := C0
  obtain ⟨q1, q2, q3, q4, q5, q6, q7, q8, q9, q10, q11, q12, q13, q14⟩ := C1
  obtain ⟨m1, m2, m4, m5, m6⟩ := hm
  have hG : GoodIn eTbl [kT K' hh] := fun w hw => by
    have : w = kT K' hh := by simpa using hw
    subst this
    exact ⟨eIn m1 (by simp [eOk, m6]), good_of_word m6⟩
  have hp : ∀ w ∈ [kT K' hh], ∀ (a' : Array Value) (U : State), s.WarmedH U.vm → w.before a' U = true := pay_in q7 hG
  have hcw : vx_CSW R s args (kOwn K) index (kY K') (kCode K') (kMax K') (kRet K') hh [kT K' hh] (eR b') b'.2.1 b'.2.2 k :=
    ⟨⟨rfl, rfl, hb.1.1, hb.1.2, hp, List.mem_cons_self⟩, q7 _ (hG _ List.mem_cons_self).1, q7 _ (eIn m4 rfl), ⟨m5.1, m5.2.1⟩, fun sig h => by
      have h2 := m5.2.2
      rw [h] at h2
      exact (Option.some.inj h2).symm, q7 _ (eIn hlk rfl), q7 _ (eIn m2 rfl)⟩
  exact Ex.after C0 hl (vx_runSW (As := As) (rest := S) (nL := kMax K) ⟨q1, q2, q3, q6, q7⟩ (hcal la q11.1 A) hcw ⟨xI.blind hN, fun U hU hW => ⟨rfl, xC.pass hN hX C0 hU hW⟩⟩ rfl hk hl.1 rfl (lv_room hS) hdg hb.2) kk
/-- a constructor -/
def eMI (K : eK) (k : Nat) : Prop := kW K ∈ lw_tbl ∧ Cond.instanceMethod (kY K) ∈ lw_tbl ∧ Cond.initialized (kY K).cls ∈ lw_tbl ∧ eMD K k ∧ (kY K).name = "<init>" ∧ kRet K = none
theorem x_callI (hN : xNm N) (hX : ∀ s meth c A, X s meth c A → N s) {K' : eK} {b' : eB} {As : List Value} {a index k : Nat} {Fin : Option Value → va_W → Prop} (hdg : decode (kCode K) pc = .ok (.invokespecial index, 3)) (hm : eMI K' k) (hlk : Cond.methodLink (kOwn K) index (kY K') ∈ lw_tbl) (hk : As.length = k) (hb : xFit R b' K' ca sl) (hS : (S.map fun v => v.category).sum ≤ 8)
    (hcal : xCal G N b' K' (.ref a :: As) w Fin) (kk : ∀ (v : Option Value) (w' : va_W), Fin v w' → Ex X Z G R K (pc + 3) l (v.toList ++ S) w' (ca + b'.2.1) (sl + b'.2.2)) {S0 : List Value} (hS0 : S0 = As.reverse ++ .ref a :: S) : Ex X Z G R K pc l S0 w ca sl := by
  subst hS0
  intro p la e s m args below meth c' A H locs ls C0 hl
  have C1 := C0
  obtain ⟨q1, q2, q3, q4, q5, q6, q7, q8, q9, q10, q11, q12, q13, q14⟩ := C1
  obtain ⟨m1, m2, m4, ⟨m5, m6, m8⟩, m9, m10⟩ := hm
  have hcb := callB_of (rm := eR b') (R := R) (own := kOwn K) (index := index) (y := kY K') (bytes := kCode K') (maxL := kMax K') (ret := kRet K') (ws := [kW K']) (mc := b'.2.1) (ms := b'.2.2) k q7 (eGood m1 m6) rfl rfl rfl (q7 _ (eIn m4 rfl)) (q7 _ (eIn hlk rfl)) m5 hb.1
  rw [m10] at hcb
  exact Ex.after C0 hl (va_runI (As := As) (rest := S) (nL := kMax K) ⟨q1, q2, q3, q6, q7⟩ (hcal la q11.1 A) ⟨hcb, m9, q7 _ (eIn m2 rfl)⟩ ⟨xI.blind hN, fun U hU hW => ⟨rfl, xC.pass hN hX C0 hU hW⟩⟩ rfl hk hl.1 rfl (lv_room hS) hdg hb.2) kk
theorem x_callIN (hN : xNm N) (hX : ∀ s meth c A, X s meth c A → N s) {K' : eK} {b' : eB} {As : List Value} {a index k : Nat} {host : String} {Fin : Option Value → va_W → Prop} (hdg : decode (kCode K) pc = .ok (.invokespecial index, 3)) (hm : eMI K' k) (hlk : Cond.methodLinkNest (kOwn K) index (kY K') host ∈ lw_tbl) (hk : As.length = k) (hb : xFit R b' K' ca sl) (hS : (S.map fun v => v.category).sum ≤ 8)
    (hcal : xCal G N b' K' (.ref a :: As) w Fin) (kk : ∀ (v : Option Value) (w' : va_W), Fin v w' → Ex X Z G R K (pc + 3) l (v.toList ++ S) w' (ca + b'.2.1) (sl + b'.2.2)) {S0 : List Value} (hS0 : S0 = As.reverse ++ .ref a :: S) : Ex X Z G R K pc l S0 w ca sl := by
  subst hS0
  intro p la e s m args below meth c' A H locs ls C0 hl
  have C1 := C0
  obtain ⟨q1, q2, q3, q4, q5, q6, q7, q8, q9, q10, q11, q12, q13, q14⟩ := C1
  obtain ⟨m1, m2, m4, ⟨m5, m6, m8⟩, m9, m10⟩ := hm
  have hcb := va_cnB (host := host) (rm := eR b') (R := R) (own := kOwn K) (index := index) (y := kY K') (bytes := kCode K') (maxL := kMax K') (ret := kRet K') (ws := [kW K']) (mc := b'.2.1) (ms := b'.2.2) k q7 (eGood m1 m6) rfl rfl rfl (va_Nw.of rfl (q7 _ (eIn hlk rfl))) (q7 _ (eIn m4 rfl)) m5 hb.1
  rw [m10] at hcb
  exact Ex.after C0 hl (va_runIN (As := As) (rest := S) (nL := kMax K) ⟨q1, q2, q3, q6, q7⟩ (hcal la q11.1 A) ⟨hcb, m9, q7 _ (eIn m2 rfl)⟩ ⟨xI.blind hN, fun U hU hW => ⟨rfl, xC.pass hN hX C0 hU hW⟩⟩ rfl hk hl.1 rfl (lv_room hS) hdg hb.2) kk
/-- a call that throws, caught by a row of this method's table -/
theorem x_catchV (hN : xNm N) (hX : ∀ s meth c A, X s meth c A → N s) {K' : eK} {b' : eB} {As : List Value} {a index q0 ci k Nf : Nat} {fs : List Value} {C E name : String} {T : u_T} {ty : Nat → FieldType} (pre : List ExceptionTableEntry) (x : ExceptionTableEntry) (suf : List ExceptionTableEntry) (hsplit : ∀ s meth c A, X s meth c A → c.exceptionTable.toList = pre ++ x :: suf) (hpass : ∀ s meth c A, X s meth c A → ∀ z ∈ pre, covers z pc = false ∨ (z.catchType ≠ 0 ∧ ∃ nm : String, Cond.classLink (kOwn K) z.catchType nm ∈ lw_tbl ∧ va_Nc E nm s)) (hx : covers x pc = true) (h0 : x.catchType ≠ 0) (hcl : Cond.classLink (kOwn K) x.catchType name ∈ lw_tbl) (hcast : Cond.castable E name ∈ lw_tbl)
    (hdg : decode (kCode K) pc = .ok (.invokevirtual index, 3)) (hm : eMV K' k) (hlk : Cond.methodLink (kOwn K) index (kY K') ∈ lw_tbl) (hC : eCl ci C T Nf ty) (hcn : (kY K').cls = C) (he : w[q0]? = some (a, .inr (ci, fs))) (hk : As.length = k) (hb : xFit R b' K' ca sl) (hS : (S.map fun v => v.category).sum ≤ 8)
    (hcal : xCalX G N b' K' (.ref a :: As) w E) (kk : ∀ q : Nat, Ex X Z G R K x.handlerPc l [.ref q] w (ca + b'.2.1) (sl + b'.2.2)) {S0 : List Value} (hS0 : S0 = As.reverse ++ .ref a :: S) : Ex X Z G R K pc l S0 w ca sl := by
  subst hS0
  intro p la e s m args below meth c' A H locs ls C0 hl
  have C1 := C0
  obtain ⟨q1, q2, q3, q4, q5, q6, q7, q8, q9, q10, q11, q12, q13, q14⟩ := C1
  obtain ⟨m1, m2, m3, m4, m5, m6, m8⟩ := hm
  have hcw : CallW R s args (kOwn K) C index (kY K') (kCode K') (kMax K') (kRet K') [kW K'] (eR b') b'.2.1 b'.2.2 k :=
    ⟨callB_of k q7 (eGood m1 m6) rfl rfl rfl (q7 _ (eIn m4 rfl)) (q7 _ (eIn hlk rfl)) m5 hb.1, q7 _ (eIn m2 rfl), by rw [← hcn]; exact q7 _ (eIn m3 rfl)⟩
  have hr := vx_runV (As := As) (rest := S) (nL := kMax K) (g := F0 m pc ls (As.reverse ++ .ref a :: S)) (slots := sl) (cells := ca) (below := below) (meth := meth) (e := e) (locs := locs) ⟨q1, q2, q3, q6, q7⟩ (hcal la q11.1 A) hcw ⟨xI.blind hN, va_recv (q := (C, T, Nf)) q8 q13 hC.1 (q0 := q0) he, fun U hU hW => ⟨rfl, xC.pass hN hX C0 hU hW⟩⟩ rfl hk hl.1 rfl (lv_room hS) hdg hb.2
  intro T0 hT X1
  rcases hr T0 hT X1 with ⟨v, st₀, t, T', L, h0', X', hL, e1, e2, hno, st⟩ | ⟨q, st₀, t, T', L, E', ce, h0', X', hL, e1, e2, ⟨hE, hP1, hz, hk1⟩, hce, hcv, hcl', st⟩
  · exact hno.elim
  · subst hE
    rw [h0'] at hz hk1
    have hS1 : va_S A s.heap T'.heap (locs ++ L) := ⟨Nat.le_trans q12.1 (by rw [e1]; exact hz), fun q h1 h2 => by rw [e1, hk1 q (Nat.lt_of_lt_of_le h1 q12.1) h2]; exact q12.2.1 q h1 h2, fun z hz => by
        rcases List.mem_append.mp hz with h | h
        · exact q12.2.2 z h
        · exact hL z h⟩
    have hw := vx_catch (l := la) (R := R) (p := p) (e := e) (s := s) (m := m) (args := args) (below := below) (meth := meth) (c := c') (H := T'.heap) (locs := locs ++ L) (cells := ca + b'.2.1) (slots := sl + b'.2.2) (ls := ls) (rest := S) (pc := pc) (ce := ce) (q := q) (Q := Z below args s A) (E := E') (name := name) q6 pre x suf (hsplit _ _ _ _ q5.2)
      (fun z hz => by
        rcases hpass _ _ _ _ q5.2 z hz with h | ⟨h1, nm, h2, h3⟩
        · exact Or.inl h
        · exact Or.inr ⟨h1, nm, q7 _ (eIn h2 rfl), h3⟩) hx h0 (q7 _ (eIn hcl rfl)) (q7 _ (eIn hcast rfl)) (by rw [e1]; exact hce) hcv hcl'
      (kk q p la e s m args below meth c' A T'.heap (locs ++ L) ls ⟨q1, q2, q3, q4, q5, q6, q7, q8, q9, q10, q11, hS1, by rw [e1]; exact hP1, q14⟩ hl)
    obtain ⟨t2, a1, b1⟩ := hw T' rfl X'
    exact ⟨t2, st.trans a1, b1⟩
/-! ends -/
theorem x_iret {mc ms : Nat} {Fin : Option Value → va_W → Prop} {v : Int32} (hdg : decode (kCode K) pc = .ok (.ireturn, 1)) (hr : kRet K = some .int) (h1 : ca ≤ mc) (h2 : sl ≤ ms) (hF : Fin (some (.int v)) w) : Ex X (xZ G mc ms Fin) G R K pc l [.int v] w ca sl := by
  intro p la e s m args below meth c A H locs ls C0 hl
  obtain ⟨q1, q2, q3, q4, q5, q6, q7, q8, q9, q10, q11, q12, q13, q14⟩ := C0
  refine W.widen h1 h2 ?_
  exact W.iret q1 q2 (q4.trans hr) (fun t ht _ => ⟨⟨_, w, rfl, hF, by rw [ht]; exact q13, q14⟩, q12.F ht⟩) q12.2.2 hdg q5.1
theorem x_lret {mc ms : Nat} {Fin : Option Value → va_W → Prop} {v : Int64} (hdg : decode (kCode K) pc = .ok (.lreturn, 1)) (hr : kRet K = some .long) (h1 : ca ≤ mc) (h2 : sl ≤ ms) (hF : Fin (some (.long v)) w) : Ex X (xZ G mc ms Fin) G R K pc l [.long v] w ca sl := by
  intro p la e s m args below meth c A H locs ls C0 hl
  obtain ⟨q1, q2, q3, q4, q5, q6, q7, q8, q9, q10, q11, q12, q13, q14⟩ := C0
  refine W.widen h1 h2 ?_
  exact W.lret q1 q2 (q4.trans hr) (fun t ht _ => ⟨⟨_, w, rfl, hF, by rw [ht]; exact q13, q14⟩, q12.F ht⟩) q12.2.2 hdg q5.1
theorem x_vret {mc ms : Nat} {Fin : Option Value → va_W → Prop} (hdg : decode (kCode K) pc = .ok (.return_, 1)) (hr : kRet K = none) (h1 : ca ≤ mc) (h2 : sl ≤ ms) (hF : Fin none w) : Ex X (xZ G mc ms Fin) G R K pc l [] w ca sl := by
  intro p la e s m args below meth c A H locs ls C0 hl
  obtain ⟨q1, q2, q3, q4, q5, q6, q7, q8, q9, q10, q11, q12, q13, q14⟩ := C0
  refine W.widen h1 h2 ?_
  exact W.vret q1 q2 (q4.trans hr) (fun t ht _ => ⟨⟨_, w, rfl, hF, by rw [ht]; exact q13, q14⟩, q12.F ht⟩) q12.2.2 hdg q5.1
end XMake
/-- arrays of int arrays -/
def yAA (U : State) : Prop := (Cond.arrayOver (.array .int)).before #[] U = true
theorem yAA.use {A : Array Value} {U : State} (h : yAA U) : (Cond.arrayOver (.array .int)).before A U = true := h
theorem yAA.moved {u U : State} (hvm : u.vm.Alike U.vm) (h : yAA u) : yAA U := by
  obtain ⟨comp, c, k, h1, h2, h3, h4, h5⟩ := arrayOverA_spec h
  obtain ⟨k', hk', he⟩ := hvm.2.2 _ _ h3
  have hi : (U.vm.classes.findIdx? fun (x : Class) => match x.kind with | .array component _ => component == comp | _ => false) = some c := by
    rw [hvm.findIdx?_eq _ (fun _ => rfl)]
    exact h2
  have hkind : k'.kind = .array comp (.array .int) := by rw [he]; exact h4
  have f1 : U.vm.findClass (FieldType.array .int).toString = some comp := by rw [hvm.findClass]; exact h1
  have f2 : U.vm.findClass ("[" ++ (FieldType.array .int).toString) = some c := by rw [hvm.findClass]; exact h5
  unfold yAA Cond.before Cond.holds
  simp only [Cond.value]
  rw [f1, Option.bind_some]
  refine (congrArg (fun o : Option Nat => (o.bind (fun c => (U.vm.classes[c]?).map fun (k : Class) => match k.kind with | .array _ ty => decide (ty = FieldType.array .int) && decide (U.vm.findClass ("[" ++ (FieldType.array .int).toString) = some c) | _ => false) == some true)) hi).trans ?_
  simp [hk', hkind, f2]
/-- what the JVM's start gives beside the words -/
def xN0 : xN := fun s => va_AO "RingDomino$Kind" s ∧ va_AO "RingDomino$Order" s ∧ va_AO "RingDominoLaw$Order" s ∧ va_AO "RingDominoLaw$Node" s ∧ yAA s
theorem xN0_m : xNm xN0 := fun _ _ h q => ⟨q.1.moved h, q.2.1.moved h, q.2.2.1.moved h, q.2.2.2.1.moved h, q.2.2.2.2.moved h⟩
theorem xX0 {N : xN} {nm : String} : ∀ (s : State) (meth : Method) (c : Code) (A : Nat → Prop), (fun (s : State) (meth : Method) (_ : Code) (_ : Nat → Prop) => meth.name = nm ∧ N s) s meth c A → N s := fun _ _ _ _ h => h.2
theorem xXT {N : xN} {hh : xHH} : ∀ (s : State) (meth : Method) (c : Code) (A : Nat → Prop), (fun (s : State) (_ : Method) (c : Code) (_ : Nat → Prop) => c.exceptionTable.toList = tableOf hh ∧ N s) s meth c A → N s := fun _ _ _ _ h => h.2
theorem xLe.pick {w w' : va_W} (is : List Nat) (hn : va_nd is = true) (h1 : is.filterMap (fun i => w[i]?) = w') (h2 : is.map (fun i => w[i]?) = w'.map some) : xLe w w' := ⟨fun _ _ hP => hP.sub is h1, fun _ hD => hD.sub is hn h2⟩
theorem xLe.dropR (w g : va_W) : xLe (w ++ g) w := by
  refine ⟨fun D H q => (xP_app.mp q).1, fun A q => ?_⟩
  rw [xD_mem] at q ⊢
  obtain ⟨q1, q2⟩ := q
  rw [List.map_append] at q1
  exact ⟨(List.nodup_append.mp q1).1, fun x hx => q2 x (List.mem_append_left _ hx)⟩
/-- an array of references that says the same at its own places -/
theorem xq_at {D : va_G} {a N : Nat} {cA : ClassId} {f g : Nat → Option Nat} (h : ∀ j, j < N → f j = g j) {H : Heap} (q : va_at D vwCl (a, .inl (cA, (N, .inr (.inr (.inr (.inr f)))))) H) : va_at D vwCl (a, .inl (cA, (N, .inr (.inr (.inr (.inr g)))))) H := by
  have e : vp_cell cA (N, .inr (.inr (.inr (.inr f)))) = vp_cell cA (N, .inr (.inr (.inr (.inr g)))) := by
    show arrV cA N (fun j => va_rf (f j)) = arrV cA N (fun j => va_rf (g j))
    unfold arrV
    congr 2
    funext j
    show va_rf (f j.1) = va_rf (g j.1)
    rw [h j.1 j.2]
  show H[a]? = some (vp_cell cA (N, .inr (.inr (.inr (.inr g)))))
  rw [← e]
  exact q
/-- the cells that a cell names -/
def eshRef (s : eSh) : List Nat := match s with
  | .inl (0, _) => []
  | .inl (1, _) => []
  | .inl (2, _) => []
  | .inl (3, _) => []
  | .inl (t + 4, n) => (List.range n).map (fun j => t + j)
  | .inr (_, cs) => cs.filterMap (fun c => if 2 ≤ c then some (c - 2) else none)
theorem xS_kr {G G' : eG} (h : xSame G G') (v : Int32) : eKr G' v = eKr G v := by
  unfold eKr
  by_cases hv : 1 ≤ v ∧ v ≤ 44
  · rw [if_pos hv, if_pos hv]
    have h1 := Int32.le_iff_toInt_le.mp hv.1
    rw [show (1 : Int32).toInt = 1 from by decide] at h1
    rw [h.2 (999 + v.toNatClampNeg) (by show 1000 ≤ 999 + v.toInt.toNat; omega)]
  · rw [if_neg hv, if_neg hv]
theorem xS_ef {G G' : eG} (h : xSame G G') : ∀ (cs : List Nat) (k : Nat) (f : Nat → Int32), (∀ c ∈ cs, 2 ≤ c → G'.1 (c - 2) = G.1 (c - 2)) → eF G' cs k f = eF G cs k f
  | [], _, _, _ => rfl
  | c :: cs, k, f, hc => by
    have ih := xS_ef h cs (k + 1) f (fun d hd => hc d (List.mem_cons_of_mem _ hd))
    have h1 : eV G' c (f k) = eV G c (f k) := by
      match c, hc c List.mem_cons_self with
      | 0, _ => rfl
      | 1, _ => show va_rf (eKr G' (f k)) = va_rf (eKr G (f k)); rw [xS_kr h]
      | n + 2, q => show Value.ref (G'.1 n) = Value.ref (G.1 n); rw [show G'.1 n = G.1 n from q (by omega)]
    show eV G' c (f k) :: eF G' cs (k + 1) f = eV G c (f k) :: eF G cs (k + 1) f
    rw [h1, ih]
theorem xS_at {G G' : eG} (h : xSame G G') {s : eSh} (hs : ∀ r ∈ eshRef s, G'.1 r = G.1 r) {a : Nat} {f : Nat → Int32} {D : va_G} {H : Heap} (q : va_at D vwCl (a, eE G s f) H) : va_at D vwCl (a, eE G' s f) H := by
  match s, hs with
  | .inl (0, n), _ => show va_at D vwCl (a, .inl (G'.2.2.2 0, (n, .inl f))) H; rw [h.1]; exact q
  | .inl (1, n), _ => show va_at D vwCl (a, .inl (G'.2.2.2 1, (n, .inl f))) H; rw [h.1]; exact q
  | .inl (2, n), _ => show va_at D vwCl (a, .inl (G'.2.2.2 2, (n, .inl f))) H; rw [h.1]; exact q
  | .inl (3, n), _ =>
    show va_at D vwCl (a, .inl (G'.2.2.2 3, (n, .inr (.inr (.inr (.inr (fun j => eKr G' (f j)))))))) H
    rw [h.1]
    exact xq_at (fun j _ => (xS_kr h (f j)).symm) q
  | .inl (t + 4, n), hs =>
    show va_at D vwCl (a, .inl (G'.2.2.2 4, (n, .inr (.inr (.inr (.inr (fun j => some (G'.1 (t + j)))))))) ) H
    rw [h.1]
    refine xq_at (f := fun j => some (G.1 (t + j))) (fun j hj => ?_) q
    rw [hs (t + j) (List.mem_map.mpr ⟨j, List.mem_range.mpr hj, rfl⟩)]
  | .inr (ci, cs), hs =>
    have e : eE G' (.inr (ci, cs)) f = eE G (.inr (ci, cs)) f := by
      show (Sum.inr (ci, eF G' cs 0 f) : va_E) = .inr (ci, eF G cs 0 f)
      rw [xS_ef h cs 0 f (fun c hc h2 => hs (c - 2) (List.mem_filterMap.mpr ⟨c, hc, if_pos h2⟩))]
    rw [e]
    exact q
/-- the same cells under other addresses elsewhere -/
theorem xS_eW {G G' : eG} (h : xSame G G') {lo n : Nat} {M : eM} (hc : ∀ c, lo ≤ c → c < lo + n → G'.1 c = G.1 c ∧ ∀ r ∈ eshRef (esh c), G'.1 r = G.1 r) : xEq (eW G lo n M) (eW G' lo n M) := by
  unfold eW
  refine xEq.map (fun x hx => ?_) (fun x hx D H q => ?_)
  · have := List.mem_range.mp hx
    exact (hc (lo + x) (by omega) (by omega)).1.symm
  · have := List.mem_range.mp hx
    have h1 := hc (lo + x) (by omega) (by omega)
    have q1 := xS_at h h1.2 q
    show va_at D vwCl (G'.1 (lo + x), eE G' (esh (lo + x)) (M (lo + x))) H
    rw [h1.1]
    exact q1
/-! rows over fixed cells at the head of a list -/
section XEL
variable {X : xX} {Z : eZt} {G : eG} {R : Room} {K : eK} {pc : Nat} {l l' : List (Nat × Value)} {S : List Value} {ca sl : Nat} {lo n : Nat} {M : eM} {Rr : va_W}
theorem xe_at {c : Nat} (hc : lo ≤ c ∧ c < lo + n) : (eW G lo n M ++ Rr)[c - lo]? = some (G.1 c, eE G (esh c) (M c)) := by
  rw [List.getElem?_append_left (by rw [eW_len]; omega)]
  exact eW_get hc
theorem xe_end (x : Nat × va_E) (rs : va_W) : (eW G lo n M ++ x :: rs)[n]? = some x := by
  rw [List.getElem?_append_right (by rw [eW_len]; exact Nat.le_refl _), eW_len, Nat.sub_self]
  rfl
theorem xe_endset (x y : Nat × va_E) (rs : va_W) : (eW G lo n M ++ x :: rs).set n y = eW G lo n M ++ y :: rs := by
  rw [List.set_append_right _ _ (by rw [eW_len]; exact Nat.le_refl _), eW_len, Nat.sub_self]
  rfl
theorem x_getN {w : va_W} {a q0 index k ci N : Nat} {C ref host : String} {T : u_T} {ty : Nat → FieldType} {fs : List Value} {v : Value} (hdg : decode (kCode K) pc = .ok (.getfield index, 3)) (hC : eCl ci C T N ty) (hlk : Cond.fieldLinkNest (kOwn K) index ref (T k).2.1 (T k).2.2.1 host ∈ lw_tbl) (href : ref = (T k).1) (hk : k < N) (he : w[q0]? = some (a, .inr (ci, fs))) (hv : fs[k]? = some v)
    (kk : Ex X Z G R K (pc + 3) l (v :: S) w ca sl) : Ex X Z G R K pc l (.ref a :: S) w ca sl := by
  subst href
  refine Ex.step (fun {p la e s m args below meth c' A H locs ls Q} C0 hl k0 => ?_) kk
  obtain ⟨h1, h2, h3, h4, h5, h6, h7, h8, h9, h10, h11, h12, h13, h14⟩ := C0
  exact va_getN h1 h2 h7 (eInU hC.2.1) h6 h8 h13 q0 he hC.1 k hk (h7 _ (eIn hlk rfl)) (fun x h => h) hv hdg k0
theorem xe_getI {c index k ci N : Nat} {cs : List Nat} {C : String} {T : u_T} {ty : Nat → FieldType} (hdg : decode (kCode K) pc = .ok (.getfield index, 3)) (hC : eCl ci C T N ty) (hlk : Cond.fieldLink (kOwn K) index (T k).1 (T k).2.1 (T k).2.2.1 ∈ lw_tbl) (hk : k < N) (hc : lo ≤ c ∧ c < lo + n) (hs : esh c = .inr (ci, cs)) (hcs : cs[k]? = some 0)
    (kk : Ex X Z G R K (pc + 3) l (.int (M c k) :: S) (eW G lo n M ++ Rr) ca sl) : Ex X Z G R K pc l (.ref (G.1 c) :: S) (eW G lo n M ++ Rr) ca sl :=
  x_get (q0 := c - lo) (fs := eF G cs 0 (M c)) hdg hC hlk hk (by rw [xe_at hc, hs]; rfl) (by rw [eF_get G cs 0 _ k 0 hcs, Nat.zero_add]; rfl) kk
theorem xe_getR {c index k ci N : Nat} {cs : List Nat} {C : String} {T : u_T} {ty : Nat → FieldType} (d : Nat) (hdg : decode (kCode K) pc = .ok (.getfield index, 3)) (hC : eCl ci C T N ty) (hlk : Cond.fieldLink (kOwn K) index (T k).1 (T k).2.1 (T k).2.2.1 ∈ lw_tbl) (hk : k < N) (hc : lo ≤ c ∧ c < lo + n) (hs : esh c = .inr (ci, cs)) (hcs : cs[k]? = some (d + 2))
    (kk : Ex X Z G R K (pc + 3) l (.ref (G.1 d) :: S) (eW G lo n M ++ Rr) ca sl) : Ex X Z G R K pc l (.ref (G.1 c) :: S) (eW G lo n M ++ Rr) ca sl :=
  x_get (q0 := c - lo) (fs := eF G cs 0 (M c)) hdg hC hlk hk (by rw [xe_at hc, hs]; rfl) (by rw [eF_get G cs 0 _ k (d + 2) hcs]; rfl) kk
theorem xe_getNI {c index k ci N : Nat} {cs : List Nat} {C ref host : String} {T : u_T} {ty : Nat → FieldType} (hdg : decode (kCode K) pc = .ok (.getfield index, 3)) (hC : eCl ci C T N ty) (hlk : Cond.fieldLinkNest (kOwn K) index ref (T k).2.1 (T k).2.2.1 host ∈ lw_tbl) (href : ref = (T k).1) (hk : k < N) (hc : lo ≤ c ∧ c < lo + n) (hs : esh c = .inr (ci, cs)) (hcs : cs[k]? = some 0)
    (kk : Ex X Z G R K (pc + 3) l (.int (M c k) :: S) (eW G lo n M ++ Rr) ca sl) : Ex X Z G R K pc l (.ref (G.1 c) :: S) (eW G lo n M ++ Rr) ca sl :=
  x_getN (q0 := c - lo) (fs := eF G cs 0 (M c)) hdg hC hlk href hk (by rw [xe_at hc, hs]; rfl) (by rw [eF_get G cs 0 _ k 0 hcs, Nat.zero_add]; rfl) kk
theorem xe_getNR {c index k ci N : Nat} {cs : List Nat} {C ref host : String} {T : u_T} {ty : Nat → FieldType} (d : Nat) (hdg : decode (kCode K) pc = .ok (.getfield index, 3)) (hC : eCl ci C T N ty) (hlk : Cond.fieldLinkNest (kOwn K) index ref (T k).2.1 (T k).2.2.1 host ∈ lw_tbl) (href : ref = (T k).1) (hk : k < N) (hc : lo ≤ c ∧ c < lo + n) (hs : esh c = .inr (ci, cs)) (hcs : cs[k]? = some (d + 2))
    (kk : Ex X Z G R K (pc + 3) l (.ref (G.1 d) :: S) (eW G lo n M ++ Rr) ca sl) : Ex X Z G R K pc l (.ref (G.1 c) :: S) (eW G lo n M ++ Rr) ca sl :=
  x_getN (q0 := c - lo) (fs := eF G cs 0 (M c)) hdg hC hlk href hk (by rw [xe_at hc, hs]; rfl) (by rw [eF_get G cs 0 _ k (d + 2) hcs]; rfl) kk
theorem xe_set {c : Nat} {M' : eM} (hc : lo ≤ c ∧ c < lo + n) (hM : ∀ c', c' ≠ c → M' c' = M c') {e : va_E} (he : e = eE G (esh c) (M' c)) : (eW G lo n M ++ Rr).set (c - lo) (G.1 c, e) = eW G lo n M' ++ Rr := by
  rw [List.set_append_left _ _ (by rw [eW_len]; omega), eW_set hc hM he]
theorem xe_putI {c index k ci N : Nat} {cs : List Nat} {C : String} {T : u_T} {ty : Nat → FieldType} {v : Int32} (hdg : decode (kCode K) pc = .ok (.putfield index, 3)) (hC : eCl ci C T N ty) (hlk : Cond.fieldLink (kOwn K) index (T k).1 (T k).2.1 (T k).2.2.1 ∈ lw_tbl) (hk : k < N) (hc : lo ≤ c ∧ c < lo + n) (hs : esh c = .inr (ci, cs)) (hcs : cs[k]? = some 0)
    (hfin : (T k).2.2.2 = false) (hd : parseFieldDescriptor (T k).2.2.1 = some .int)
    (kk : Ex X Z G R K (pc + 3) l S (eW G lo n (eU M c k v) ++ Rr) ca sl) : Ex X Z G R K pc l (.int v :: .ref (G.1 c) :: S) (eW G lo n M ++ Rr) ca sl := by
  refine x_put (q0 := c - lo) (fs := eF G cs 0 (M c)) hdg hC hlk hk (by rw [xe_at hc, hs]; rfl) (by rw [eF_len]; exact (List.getElem?_eq_some_iff.mp hcs).1) hfin hd rfl rfl ?_
  refine Ex.ww ?_ kk
  refine xe_set hc (fun c' h => eU_other M k v h) ?_
  have h1 := eF_set G cs 0 (M c) k 0 v hcs
  rw [show eV G 0 v = .int v from rfl, Nat.zero_add] at h1
  rw [hs, h1, eU_row]
  rfl
theorem xe_iald {c N : Nat} {i : Int32} (hdg : decode (kCode K) pc = .ok (.iaload, 1)) (hc : lo ≤ c ∧ c < lo + n) (hs : esh c = .inl (0, N)) (hin : vp_in i N) (kk : Ex X Z G R K (pc + 1) l (.int (M c i.toNatClampNeg) :: S) (eW G lo n M ++ Rr) ca sl) : Ex X Z G R K pc l (.int i :: .ref (G.1 c) :: S) (eW G lo n M ++ Rr) ca sl :=
  x_iald (q0 := c - lo) (f := M c) hdg (by rw [xe_at hc, hs]; rfl) hin kk
theorem xe_iast {c N : Nat} {i v : Int32} (hdg : decode (kCode K) pc = .ok (.iastore, 1)) (hc : lo ≤ c ∧ c < lo + n) (hs : esh c = .inl (0, N)) (hin : vp_in i N) (kk : Ex X Z G R K (pc + 1) l S (eW G lo n (eU M c i.toNatClampNeg v) ++ Rr) ca sl) : Ex X Z G R K pc l (.int v :: .int i :: .ref (G.1 c) :: S) (eW G lo n M ++ Rr) ca sl := by
  refine x_iast (q0 := c - lo) (f := M c) hdg (by rw [xe_at hc, hs]; rfl) hin (Ex.ww ?_ kk)
  exact xe_set hc (fun c' h => eU_other M _ v h) (by rw [hs, eU_row]; rfl)
theorem x_alenq {w : va_W} {a q0 t N : Nat} {ty : FieldType} {f : Nat → Option Nat} {v : Int32} (hdg : decode (kCode K) pc = .ok (.arraylength, 1)) (he : w[q0]? = some (a, .inl (G.2.2.2 t, (N, .inr (.inr (.inr (.inr f))))))) (ht : (eTy G)[t]? = some (G.2.2.2 t, ty)) (hv : Int32.ofNat N = v) (kk : Ex X Z G R K (pc + 1) l (.int v :: S) w ca sl) : Ex X Z G R K pc l (.ref a :: S) w ca sl := by
  refine Ex.step (fun {p la e s m args below meth c' A H locs ls Q} C0 hl k0 => ?_) kk
  obtain ⟨h1, h2, h3, h4, h5, h6, h7, h8, h9, h10, h11, h12, h13, h14⟩ := C0
  exact va_alen h1 h2 h8 h13 q0 t (x := (N, .inr (.inr (.inr (.inr f))))) he ht hv hdg k0
/-- a call over the fixed cells -/
theorem xe_callV {N : xN} (hN : xNm N) (hX : ∀ s meth c A, X s meth c A → N s) {K' : eK} {b' : eB} {As : List Value} {index c ci k Nf : Nat} {cs : List Nat} {C : String} {T : u_T} {ty : Nat → FieldType} {Fin : Option Value → eM → Prop} (hdg : decode (kCode K) pc = .ok (.invokevirtual index, 3)) (hm : eMV K' k) (hlk : Cond.methodLink (kOwn K) index (kY K') ∈ lw_tbl) (hC : eCl ci C T Nf ty) (hcn : (kY K').cls = C) (hc : lo ≤ c ∧ c < lo + n) (hs : esh c = .inr (ci, cs)) (hk : As.length = k) (hb : xFit R b' K' ca sl) (hS : (S.map fun v => v.category).sum ≤ 8)
    (hcal : Cal G lo n b' K' (.ref (G.1 c) :: As) M Fin) (kk : ∀ (v : Option Value) (M' : eM), Fin v M' → Ex X Z G R K (pc + 3) l (v.toList ++ S) (eW G lo n M' ++ Rr) (ca + b'.2.1) (sl + b'.2.2)) {S0 : List Value} (hS0 : S0 = As.reverse ++ .ref (G.1 c) :: S) : Ex X Z G R K pc l S0 (eW G lo n M ++ Rr) ca sl :=
  x_callV hN hX (q0 := c - lo) (fs := eF G cs 0 (M c)) hdg hm hlk hC hcn (by show (eW G lo n M ++ Rr)[c - lo]? = _; rw [xe_at hc, hs]; rfl) hk hb hS (hcal.list N [] Rr) (fun v w' h => by obtain ⟨M', h1, rfl⟩ := h; exact kk v M' h1) hS0
end XEL
/-- a method that makes cells which nobody sees behind it -/
theorem Cal.ofX {G : eG} {lo n : Nat} {b : eB} {K : eK} {av : List Value} {M : eM} {Fin : Option Value → eM → Prop} (h : xCal G (fun _ => True) b K av (eW G lo n M) (fun v w' => ∃ M', Fin v M' ∧ w' = eW G lo n M')) : Cal G lo n b K av M Fin := by
  intro la hfl A p e ha hc hk s m args below hf happ hP hK
  obtain ⟨q0, h1, h2⟩ := hP
  obtain ⟨k, o, z1, z2, z3, ⟨⟨v, w', e1, ⟨M', e2, rfl⟩, e3, e5⟩, e4⟩, L0⟩ := h la hfl A p e ha hc hk s m args below hf happ ⟨q0, ⟨h1.1, h1.2, trivial⟩, h2⟩ hK
  exact ⟨k, o, z1, z2, z3, ⟨⟨v, M', e1, e2, e3⟩, e4⟩, L0⟩

