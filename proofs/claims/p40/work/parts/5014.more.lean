section EMore
variable {Z : eZt} {G : eG} {lo n : Nat} {b : eB} {K : eK} {pc : Nat} {l l' : List (Nat × Value)} {S : List Value} {M : eM} {ca sl : Nat}
variable {index c k ci N t : Nat} {C host : String} {T : u_T} {ty : Nat → FieldType} {cs : List Nat} {v : Int32} {nm : String}
theorem r_getI (hdg : decode (kCode K) pc = .ok (.getfield index, 3)) (hC : eCl ci C T N ty) (hlk : Cond.fieldLink (kOwn K) index (T k).1 (T k).2.1 (T k).2.2.1 ∈ lw_tbl) (hk : k < N) (hc : lo ≤ c ∧ c < lo + n) (hs : esh c = .inr (ci, cs)) (hcs : cs[k]? = some 0)
    (kk : Ev Z G lo n b K (pc + 3) l (.int (M c k) :: S) M ca sl) : Ev Z G lo n b K pc l (.ref (G.1 c) :: S) M ca sl := r_get hdg hC hlk hk hc hs hcs kk
theorem r_getK (hdg : decode (kCode K) pc = .ok (.getfield index, 3)) (hC : eCl ci C T N ty) (hlk : Cond.fieldLink (kOwn K) index (T k).1 (T k).2.1 (T k).2.2.1 ∈ lw_tbl) (hk : k < N) (hc : lo ≤ c ∧ c < lo + n) (hs : esh c = .inr (ci, cs)) (hcs : cs[k]? = some 1)
    (kk : Ev Z G lo n b K (pc + 3) l (eV G 1 (M c k) :: S) M ca sl) : Ev Z G lo n b K pc l (.ref (G.1 c) :: S) M ca sl := r_get hdg hC hlk hk hc hs hcs kk
theorem r_getR (t : Nat) (hdg : decode (kCode K) pc = .ok (.getfield index, 3)) (hC : eCl ci C T N ty) (hlk : Cond.fieldLink (kOwn K) index (T k).1 (T k).2.1 (T k).2.2.1 ∈ lw_tbl) (hk : k < N) (hc : lo ≤ c ∧ c < lo + n) (hs : esh c = .inr (ci, cs)) (hcs : cs[k]? = some (t + 2))
    (kk : Ev Z G lo n b K (pc + 3) l (.ref (G.1 t) :: S) M ca sl) : Ev Z G lo n b K pc l (.ref (G.1 c) :: S) M ca sl := r_get hdg hC hlk hk hc hs hcs kk
theorem r_getNI (hdg : decode (kCode K) pc = .ok (.getfield index, 3)) (hC : eCl ci C T N ty) (hlk : Cond.fieldLinkNest (kOwn K) index (T k).1 (T k).2.1 (T k).2.2.1 host ∈ lw_tbl) (hk : k < N) (hc : lo ≤ c ∧ c < lo + n) (hs : esh c = .inr (ci, cs)) (hcs : cs[k]? = some 0)
    (kk : Ev Z G lo n b K (pc + 3) l (.int (M c k) :: S) M ca sl) : Ev Z G lo n b K pc l (.ref (G.1 c) :: S) M ca sl := r_getN hdg hC hlk hk hc hs hcs kk
theorem r_getNR (t : Nat) (hdg : decode (kCode K) pc = .ok (.getfield index, 3)) (hC : eCl ci C T N ty) (hlk : Cond.fieldLinkNest (kOwn K) index (T k).1 (T k).2.1 (T k).2.2.1 host ∈ lw_tbl) (hk : k < N) (hc : lo ≤ c ∧ c < lo + n) (hs : esh c = .inr (ci, cs)) (hcs : cs[k]? = some (t + 2))
    (kk : Ev Z G lo n b K (pc + 3) l (.ref (G.1 t) :: S) M ca sl) : Ev Z G lo n b K pc l (.ref (G.1 c) :: S) M ca sl := r_getN hdg hC hlk hk hc hs hcs kk
theorem r_putI (hdg : decode (kCode K) pc = .ok (.putfield index, 3)) (hC : eCl ci C T N ty) (hlk : Cond.fieldLink (kOwn K) index (T k).1 (T k).2.1 (T k).2.2.1 ∈ lw_tbl) (hk : k < N) (hc : lo ≤ c ∧ c < lo + n) (hs : esh c = .inr (ci, cs)) (hcs : cs[k]? = some 0) (hfin : (T k).2.2.2 = false) (hd : parseFieldDescriptor (T k).2.2.1 = some .int)
    (kk : Ev Z G lo n b K (pc + 3) l S (eU M c k v) ca sl) : Ev Z G lo n b K pc l (.int v :: .ref (G.1 c) :: S) M ca sl := r_put hdg hC hlk hk hc hs hcs hfin hd rfl rfl kk
theorem r_putZ (hdg : decode (kCode K) pc = .ok (.putfield index, 3)) (hC : eCl ci C T N ty) (hlk : Cond.fieldLink (kOwn K) index (T k).1 (T k).2.1 (T k).2.2.1 ∈ lw_tbl) (hk : k < N) (hc : lo ≤ c ∧ c < lo + n) (hs : esh c = .inr (ci, cs)) (hcs : cs[k]? = some 0) (hfin : (T k).2.2.2 = false) (hd : parseFieldDescriptor (T k).2.2.1 = some .boolean) (hv : eBo v)
    (kk : Ev Z G lo n b K (pc + 3) l S (eU M c k v) ca sl) : Ev Z G lo n b K pc l (.int v :: .ref (G.1 c) :: S) M ca sl := r_put hdg hC hlk hk hc hs hcs hfin hd (eBo_fits G hv).1 (eBo_fits G hv).2 kk
theorem r_putK (hdg : decode (kCode K) pc = .ok (.putfield index, 3)) (hC : eCl ci C T N ty) (hlk : Cond.fieldLink (kOwn K) index (T k).1 (T k).2.1 (T k).2.2.1 ∈ lw_tbl) (hk : k < N) (hc : lo ≤ c ∧ c < lo + n) (hs : esh c = .inr (ci, cs)) (hcs : cs[k]? = some 1) (hfin : (T k).2.2.2 = false) (hd : parseFieldDescriptor (T k).2.2.1 = some (.object nm))
    (kk : Ev Z G lo n b K (pc + 3) l S (eU M c k v) ca sl) : Ev Z G lo n b K pc l (eV G 1 v :: .ref (G.1 c) :: S) M ca sl := r_put hdg hC hlk hk hc hs hcs hfin hd (eKr_fits G v nm).1 (eKr_fits G v nm).2 kk
theorem r_putNI (hdg : decode (kCode K) pc = .ok (.putfield index, 3)) (hC : eCl ci C T N ty) (hlk : Cond.fieldLinkNest (kOwn K) index (T k).1 (T k).2.1 (T k).2.2.1 host ∈ lw_tbl) (hk : k < N) (hc : lo ≤ c ∧ c < lo + n) (hs : esh c = .inr (ci, cs)) (hcs : cs[k]? = some 0) (hfin : (T k).2.2.2 = false) (hd : parseFieldDescriptor (T k).2.2.1 = some .int)
    (kk : Ev Z G lo n b K (pc + 3) l S (eU M c k v) ca sl) : Ev Z G lo n b K pc l (.int v :: .ref (G.1 c) :: S) M ca sl := r_putN hdg hC hlk hk hc hs hcs hfin hd rfl rfl kk
/-- the Orders' cells -/
theorem esh_ord (j : Nat) (h : j < 32) : esh (36 + j) = .inr (4, [1, 0, 0, 0, 0]) := by
  have : ∀ j, j < 32 → esh (36 + j) = .inr (4, [1, 0, 0, 0, 0]) := by decide +kernel
  exact this j h
/-! the switch -/
theorem r_tableAt {dflt lo' hi : Int} {offs : Array Int} {len : Nat} {x kx : Int32} {off : Int} {tg : Nat} (hdg : decode (kCode K) pc = .ok (.tableswitch dflt lo' hi offs, len)) (hx : x = kx) (h1 : ¬ kx.toInt < lo') (h2 : ¬ hi < kx.toInt) (ho : offs[(kx.toInt - lo').toNat]? = some off) (ht : (pc : Int) + off = (tg : Int))
    (kk : Ev Z G lo n b K tg l S M ca sl) : Ev Z G lo n b K pc l (.int x :: S) M ca sl := by
  subst hx
  exact Ev.step (fun C _ k => lv_tableIn C.1 C.2.1 hdg h1 h2 ho ht k) kk
theorem r_tableOut {dflt lo' hi : Int} {offs : Array Int} {len : Nat} {x : Int32} {tg : Nat} (hdg : decode (kCode K) pc = .ok (.tableswitch dflt lo' hi offs, len)) (h : x.toInt < lo' ∨ hi < x.toInt) (ht : (pc : Int) + dflt = (tg : Int))
    (kk : Ev Z G lo n b K tg l S M ca sl) : Ev Z G lo n b K pc l (.int x :: S) M ca sl := Ev.step (fun C _ k => lv_tableOut C.1 C.2.1 hdg h ht k) kk
/-! Math.max, Math.min -/
theorem r_mmax {x y : Int32} (hdg : decode (kCode K) pc = .ok (.invokestatic index, 3)) (hlk : Cond.methodLink (kOwn K) index Lib.Math.max.name ∈ lw_tbl) (h2 : Cond.static Lib.Math.max.name ∈ lw_tbl) (h3 : Cond.initialized "java/lang/Math" ∈ lw_tbl) (h4 : Cond.code Lib.Math.max.name Lib.Math.max.code 2 (some .int) ∈ lw_tbl) (hb : 1 ≤ b.1) (hS : (S.map fun v => v.category).sum ≤ 8) (hcs : ca ≤ b.2.1 ∧ sl ≤ b.2.2)
    (kk : Ev Z G lo n b K (pc + 3) l (.int (if x < y then y else x) :: S) M ca sl) : Ev Z G lo n b K pc l (.int y :: .int x :: S) M ca sl := by
  intro p la e s m args below meth c A H locs ls C hl
  obtain ⟨q1, q2, q3, q4, q5, q6, q7, q8, q9, q10, q11, q12, q13, q14⟩ := C
  exact va_mmax q1 q2 (q3.trans hl.1.symm) q6 (q7 _ (eIn hlk rfl)) (q7 _ (eIn h2 rfl)) (q7 _ (eIn h3 rfl)) (q7 _ (eIn h4 rfl)) hb (by show _ + 13 ≤ 64 * b.1; omega) hcs.1 hcs.2 hdg (kk p la e s m args below meth c A H locs ls ⟨q1, q2, q3, q4, q5, q6, q7, q8, q9, q10, q11, q12, q13, q14⟩ hl)
theorem r_mmin {x y : Int32} (hdg : decode (kCode K) pc = .ok (.invokestatic index, 3)) (hlk : Cond.methodLink (kOwn K) index Lib.Math.min.name ∈ lw_tbl) (h2 : Cond.static Lib.Math.min.name ∈ lw_tbl) (h3 : Cond.initialized "java/lang/Math" ∈ lw_tbl) (h4 : Cond.code Lib.Math.min.name Lib.Math.min.code 2 (some .int) ∈ lw_tbl) (hb : 1 ≤ b.1) (hS : (S.map fun v => v.category).sum ≤ 8) (hcs : ca ≤ b.2.1 ∧ sl ≤ b.2.2)
    (kk : Ev Z G lo n b K (pc + 3) l (.int (if y < x then y else x) :: S) M ca sl) : Ev Z G lo n b K pc l (.int y :: .int x :: S) M ca sl := by
  intro p la e s m args below meth c A H locs ls C hl
  obtain ⟨q1, q2, q3, q4, q5, q6, q7, q8, q9, q10, q11, q12, q13, q14⟩ := C
  exact va_mmin q1 q2 (q3.trans hl.1.symm) q6 (q7 _ (eIn hlk rfl)) (q7 _ (eIn h2 rfl)) (q7 _ (eIn h3 rfl)) (q7 _ (eIn h4 rfl)) hb (by show _ + 13 ≤ 64 * b.1; omega) hcs.1 hcs.2 hdg (kk p la e s m args below meth c A H locs ls ⟨q1, q2, q3, q4, q5, q6, q7, q8, q9, q10, q11, q12, q13, q14⟩ hl)
/-! statics: constants, tables of ints -/
theorem eKr_lit (G : eG) (j : Nat) (h : j < 44) : eV G 1 (nI (j + 1)) = .ref (G.1 (1000 + j)) := by
  have h1 : (1 : Int32) ≤ nI (j + 1) ∧ nI (j + 1) ≤ 44 := ⟨nI_le (a := 1) (by omega) (by omega), nI_le (b := 44) (by omega) (by omega)⟩
  show va_rf (eKr G (nI (j + 1))) = _
  unfold eKr
  rw [if_pos h1, nI_clamp (by omega)]
  show Value.ref (G.1 (999 + (j + 1))) = _
  rw [show 999 + (j + 1) = 1000 + j by omega]
theorem r_gets {c0 n0 d0 : String} {w : Value} (hdg : decode (kCode K) pc = .ok (.getstatic index, 3)) (hlk : Cond.fieldLink (kOwn K) index c0 n0 d0 ∈ lw_tbl) (hZ : ∀ {A : Nat → Prop} {U : State} {H : Heap}, eSt G A U H → va_Z c0 n0 d0 w A U H)
    (kk : Ev Z G lo n b K (pc + 3) l (w :: S) M ca sl) : Ev Z G lo n b K pc l S M ca sl :=
  Ev.step (fun C _ k => va_gets C.1 C.2.1 (hZ C.2.2.2.2.2.2.2.2.1) C.2.2.2.2.2.2.2.2.2.2.2.1 C.2.2.2.2.2.1 (C.2.2.2.2.2.2.1 _ (eIn hlk rfl)) (fun x h => h) hdg k) kk
theorem r_getsK (j : Nat) {n0 : String} {w : Int32} (hdg : decode (kCode K) pc = .ok (.getstatic index, 3)) (hlk : Cond.fieldLink (kOwn K) index "RingDomino$Kind" n0 "LRingDomino$Kind;" ∈ lw_tbl) (hj : j < 44) (hn : eKn.getD j "" = n0) (hw : nI (j + 1) = w)
    (kk : Ev Z G lo n b K (pc + 3) l (eV G 1 w :: S) M ca sl) : Ev Z G lo n b K pc l S M ca sl := by
  subst hw
  rw [eKr_lit G j hj] at kk
  refine r_gets hdg hlk (fun {A U H} h => ?_) kk
  have h1 := (h.1.1 j hj).1
  rw [hn] at h1
  exact h1
/-- a static table of ints -/
theorem r_tald {tc : Nat} {f : Nat → Int32} {c0 n0 d0 : String} {i : Int32} (hdg : decode (kCode K) pc = .ok (.iaload, 1)) (hT : ∀ {A : Nat → Prop} {U : State} {H : Heap}, eSt G A U H → eTb G tc c0 n0 d0 .int N (fun j => .int (f j)) A U H) (hin : vp_in i N)
    (kk : Ev Z G lo n b K (pc + 1) l (.int (f i.toNatClampNeg) :: S) M ca sl) : Ev Z G lo n b K pc l (.int i :: .ref (G.1 tc) :: S) M ca sl :=
  Ev.step (fun C _ k => va_ti C.1 C.2.1 (hT C.2.2.2.2.2.2.2.2.1).2 C.2.2.2.2.2.2.2.2.2.2.2.1 hin rfl hdg k) kk
/-! two constants compared -/
theorem eKr_inj {G : eG} {A : Nat → Prop} {U : State} {H : Heap} (hs : eSt G A U H) {x y : Int32} : eKr G x = eKr G y ↔ eKn1 x = eKn1 y := by
  have key : ∀ {v : Int32}, (1 ≤ v ∧ v ≤ 44) → ∃ j, j < 44 ∧ v = nI (j + 1) ∧ eKr G v = some (G.1 (1000 + j)) := by
    intro v h
    obtain ⟨j, hj, e⟩ := eKr_nat h
    refine ⟨j, hj, e, ?_⟩
    unfold eKr
    rw [if_pos h, e, nI_clamp (by omega), show 999 + (j + 1) = 1000 + j by omega]
  by_cases hx : 1 ≤ x ∧ x ≤ 44 <;> by_cases hy : 1 ≤ y ∧ y ≤ 44
  · obtain ⟨i, hi, e1, e2⟩ := key hx
    obtain ⟨j, hj, e3, e4⟩ := key hy
    simp only [eKn1, if_pos hx, if_pos hy]
    rw [e2, e4]
    constructor
    · intro h
      have := hs.1.2 i j hi hj (Option.some.inj h)
      rw [e1, e3, this]
    · intro h
      have h2 : nI (i + 1) = nI (j + 1) := by rw [← e1, ← e3]; exact h
      have h3 := (nI_eq (a := i + 1) (b := j + 1) (by omega) (by omega)).mp h2
      rw [show i = j by omega]
  · obtain ⟨i, hi, e1, e2⟩ := key hx
    have e4 : eKr G y = none := by unfold eKr; rw [if_neg hy]
    simp only [eKn1, if_pos hx, if_neg hy]
    rw [e2, e4]
    constructor
    · intro h; cases h
    · intro h; rw [h] at hx; exact absurd hx (by decide)
  · obtain ⟨j, hj, e3, e4⟩ := key hy
    have e2 : eKr G x = none := by unfold eKr; rw [if_neg hx]
    simp only [eKn1, if_neg hx, if_pos hy]
    rw [e2, e4]
    constructor
    · intro h; cases h
    · intro h; rw [← h] at hy; exact absurd hy (by decide)
  · have e2 : eKr G x = none := by unfold eKr; rw [if_neg hx]
    have e4 : eKr G y = none := by unfold eKr; rw [if_neg hy]
    simp only [eKn1, if_neg hx, if_neg hy]
    rw [e2, e4]
    exact ⟨fun _ => trivial, fun _ => rfl⟩
theorem r_kcmp_eq {x y : Int32} {off : Int} {tg : Nat} (hdg : decode (kCode K) pc = .ok (.if_acmp .eq off, 3)) (ht : (pc : Int) + off = (tg : Int)) (kt : eKn1 x = eKn1 y → Ev Z G lo n b K tg l S M ca sl) (kf : ¬ eKn1 x = eKn1 y → Ev Z G lo n b K (pc + 3) l S M ca sl) : Ev Z G lo n b K pc l (eV G 1 y :: eV G 1 x :: S) M ca sl :=
  fun p la e s m args below meth c A H locs ls C hl => lv_acmp_eq (rx := eKr G x) (ry := eKr G y) C.1 C.2.1 hdg ht (fun q => kt ((eKr_inj C.2.2.2.2.2.2.2.2.1).mp q) p la e s m args below meth c A H locs ls C hl) (fun q => kf (fun z => q ((eKr_inj C.2.2.2.2.2.2.2.2.1).mpr z)) p la e s m args below meth c A H locs ls C hl)
theorem r_kcmp_ne {x y : Int32} {off : Int} {tg : Nat} (hdg : decode (kCode K) pc = .ok (.if_acmp .ne off, 3)) (ht : (pc : Int) + off = (tg : Int)) (kt : ¬ eKn1 x = eKn1 y → Ev Z G lo n b K tg l S M ca sl) (kf : eKn1 x = eKn1 y → Ev Z G lo n b K (pc + 3) l S M ca sl) : Ev Z G lo n b K pc l (eV G 1 y :: eV G 1 x :: S) M ca sl :=
  fun p la e s m args below meth c A H locs ls C hl => lv_acmp_ne (rx := eKr G x) (ry := eKr G y) C.1 C.2.1 hdg ht (fun q => kt (fun z => q ((eKr_inj C.2.2.2.2.2.2.2.2.1).mpr z)) p la e s m args below meth c A H locs ls C hl) (fun q => kf ((eKr_inj C.2.2.2.2.2.2.2.2.1).mp q) p la e s m args below meth c A H locs ls C hl)
end EMore
