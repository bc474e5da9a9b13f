/-! ===== typed ends, what is read, the six ways ===== -/
abbrev yFI (F : Int32 → eM → yH → Prop) : Option Value → eM → yH → Prop := fun v M H => ∃ r : Int32, v = some (.int r) ∧ F r M H
abbrev yFZ (F : Bool → eM → yH → Prop) : Option Value → eM → yH → Prop := fun v M H => ∃ r : Bool, v = some (.int (eZi r)) ∧ F r M H
abbrev yFV (F : eM → yH → Prop) : Option Value → eM → yH → Prop := fun v M H => v = none ∧ F M H
abbrev yFR (F : Nat → eM → yH → Prop) : Option Value → eM → yH → Prop := fun v M H => ∃ r : Nat, v = some (.ref r) ∧ F r M H
abbrev yFL (F : Int64 → eM → yH → Prop) : Option Value → eM → yH → Prop := fun v M H => ∃ r : Int64, v = some (.long r) ∧ F r M H
abbrev yFD (F : UInt64 → eM → yH → Prop) : Option Value → eM → yH → Prop := fun v M H => ∃ r : UInt64, v = some (.double r) ∧ F r M H
/-- an object of a class -/
def yIs (H : yH) (a ci : Nat) : Prop := ∃ fs, H a = some (.inr (ci, fs))
/-- a field's value -/
def yG (H : yH) (a ci k : Nat) (v : Value) : Prop := ∃ fs, H a = some (.inr (ci, fs)) ∧ fs[k]? = some v
/-- an element -/
def yEI (G : eG) (H : yH) (a : Nat) (i x : Int32) : Prop := ∃ (N : Nat) (f : Nat → Int32), H a = some (.inl (G.2.2.2 0, (N, .inl f))) ∧ vp_in i N ∧ f i.toNatClampNeg = x
def yEB (G : eG) (H : yH) (a : Nat) (i x : Int32) : Prop := ∃ (N : Nat) (f : Nat → Int32), H a = some (.inl (G.2.2.2 1, (N, .inl f))) ∧ vp_in i N ∧ f i.toNatClampNeg = x
def yEZ (G : eG) (H : yH) (a : Nat) (i x : Int32) : Prop := ∃ (N : Nat) (f : Nat → Int32), H a = some (.inl (G.2.2.2 2, (N, .inl f))) ∧ vp_in i N ∧ f i.toNatClampNeg = x
def yER (G : eG) (t : Nat) (H : yH) (a : Nat) (i : Int32) (b : Nat) : Prop := ∃ (N : Nat) (f : Nat → Option Nat), H a = some (.inl (G.2.2.2 t, (N, .inr (.inr (.inr (.inr f)))))) ∧ vp_in i N ∧ f i.toNatClampNeg = some b
def yLn (G : eG) (t : Nat) (H : yH) (a n : Nat) : Prop := ∃ v : vp_A, H a = some (.inl (G.2.2.2 t, v)) ∧ v.1 = n
theorem yIs.of {H : yH} {a ci : Nat} {fs : List Value} (h : H a = some (.inr (ci, fs))) : yIs H a ci := ⟨fs, h⟩
theorem yG.of {H : yH} {a ci k : Nat} {fs : List Value} {v : Value} (h : H a = some (.inr (ci, fs))) (hv : fs[k]? = some v) : yG H a ci k v := ⟨fs, h, hv⟩
def yWy (j i : Nat) : Int32 := if i = 0 then eCol j else eRow j
section YTyped
variable {X : xX} {Z : eZt} {G : eG} {R : Room} {K : eK} {pc : Nat} {l l' : List (Nat × Value)} {S : List Value} {M : eM} {H : yH} {ca sl index : Nat}
theorem y_wayA {i : Int32} (hdg : decode (kCode K) pc = .ok (.aaload, 1)) (hin : vp_in i 6) (kk : Yx X Z G R K (pc + 1) l (.ref (G.1 (1320 + i.toNatClampNeg)) :: S) M H ca sl) : Yx X Z G R K pc l (.int i :: .ref (G.1 1303) :: S) M H ca sl := by
  refine Yx.step (fun {w p la e s m args below meth c A Hh locs ls Q} C _ k => ?_) kk
  obtain ⟨cell, h1, h2, h3, h4, h5, h6, h7⟩ := C.2.2.2.2.2.2.2.2.1.2.2.2.2.2.2.2.1.1.2
  have hlt : i.toNatClampNeg < 6 := Nat.not_le.mp fun q => hin (Or.inr q)
  have hin' : ¬ (i < 0 ∨ cell.slots.size ≤ i.toNatClampNeg) := by
    intro q
    rcases q with q | q
    · exact hin (Or.inl q)
    · omega
  have hS := C.2.2.2.2.2.2.2.2.2.2.2.1
  exact W.aald (v := .ref (G.1 (1320 + i.toNatClampNeg))) (ty := .array .int) C.1 C.2.1 (by rw [hS.2.1 _ (Array.getElem?_eq_some_iff.mp h1).1 h7]; exact h1) h2 rfl h3 hin' (by rw [h6 _ hlt]) rfl rfl hdg k
theorem y_way {i j : Int32} (hdg : decode (kCode K) pc = .ok (.iaload, 1)) (hj : vp_in j 6) (hin : vp_in i 2) (kk : Yx X Z G R K (pc + 1) l (.int (yWy j.toNatClampNeg i.toNatClampNeg) :: S) M H ca sl) : Yx X Z G R K pc l (.int i :: .ref (G.1 (1320 + j.toNatClampNeg)) :: S) M H ca sl :=
  Yx.step (fun C _ k => va_ti C.1 C.2.1 (C.2.2.2.2.2.2.2.2.1.2.2.2.2.2.2.2.1.2 _ (eVi hj)) C.2.2.2.2.2.2.2.2.2.2.2.1 hin rfl hdg k) kk
theorem y_callSN (hX : yXok X) {K' : eK} {b' : eB} {As : List Value} {k : Nat} {host : String} {Fin : Option Value → eM → yH → Prop} (hdg : decode (kCode K) pc = .ok (.invokestatic index, 3)) (hm : eMS K' k) (hlk : Cond.methodLinkNest (kOwn K) index (kY K') host ∈ lw_tbl) (hk : As.length = k) (hb : xFit R b' K' ca sl) (hS : (S.map fun v => v.category).sum ≤ 8)
    (hcal : yCal G b' K' As M H Fin) (kk : ∀ (v : Option Value) (M' : eM) (H' : yH), Fin v M' H' → Yx X Z G R K (pc + 3) l (v.toList ++ S) M' H' (ca + b'.2.1) (sl + b'.2.2)) {S0 : List Value} (hS0 : S0 = As.reverse ++ S) : Yx X Z G R K pc l S0 M H ca sl := fun Rr hR => by
  subst hS0
  intro p la e s m args below meth c' A Hh locs ls C0 hl
  have C1 := C0
  obtain ⟨q1, q2, q3, q4, q5, q6, q7, q8, q9, q10, q11, q12, q13, q14⟩ := C1
  obtain ⟨m1, m2, m4, m5, m6, m8⟩ := hm
  exact Ex.after C0 hl (va_runSN (As := As) (rest := S) (nL := kMax K) ⟨q1, q2, q3, q6, q7⟩ (hcal Rr hR la q11.1 A) ⟨va_cnB (host := host) k q7 (eGood m1 m6) rfl rfl rfl (va_Nw.of rfl (q7 _ (eIn hlk rfl))) (q7 _ (eIn m4 rfl)) m5 hb.1, q7 _ (eIn m2 rfl), trivial⟩ ⟨xI.blind xN0_m, fun U hU hW => ⟨rfl, xC.pass xN0_m hX C0 hU hW⟩⟩ rfl hk hl.1 rfl (lv_room hS) hdg hb.2) (y_ret kk)
theorem yQ_cat (o : Option Nat) : (va_rf o).category = 1 := by cases o <;> rfl
theorem yQ_nar (o : Option Nat) (nm : String) : narrow (.object nm) (va_rf o) = va_rf o ∧ fits (.object nm) (va_rf o) = true := by cases o <;> exact ⟨rfl, rfl⟩
theorem y_aload_nQ {q : Fin 4} {i : Nat} (j : Nat) {o : Option Nat} (hdg : decode (kCode K) pc = .ok (.aload_n q, 1)) (hi : (q : Nat) = i) (hj : l[j]? = some (i, va_rf o)) (k : Yx X Z G R K (pc + 1) l (va_rf o :: S) M H ca sl) : Yx X Z G R K pc l S M H ca sl := by
  cases o with
  | none => exact y_aload_nN j hdg hi hj k
  | some a => exact y_aload_n j hdg hi hj k
theorem y_aloadQ {i : Nat} (j : Nat) {o : Option Nat} (hdg : decode (kCode K) pc = .ok (.aload i, 2)) (hj : l[j]? = some (i, va_rf o)) (k : Yx X Z G R K (pc + 2) l (va_rf o :: S) M H ca sl) : Yx X Z G R K pc l S M H ca sl := by
  cases o with
  | none => exact y_aloadN j hdg hj k
  | some a => exact y_aload j hdg hj k
end YTyped
