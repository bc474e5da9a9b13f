/-! ===== act: a method with a table of its own ===== -/
def hhA : xHH := [(87, 294, 297, 118)]
def kL_act : eK := (RL, yL_act, cL_act, 13, (some .boolean))
theorem mL_act : eMT kL_act hhA 3 := ⟨tb7 _ (List.mem_of_getElem? (i := 203) rfl), tb7 _ (List.mem_of_getElem? (i := 202) rfl), tb1 _ (List.mem_of_getElem? (i := 0) rfl), by decide +kernel, by decide +kernel⟩
abbrev yXA : xX := fun s _ c _ => c.exceptionTable.toList = tableOf hhA ∧ xN0 s
theorem yXAk : yXok yXA := fun _ _ _ _ h => h.2
def yCalT (G : eG) (b : eB) (K : eK) (hh : xHH) (av : List Value) (M : eM) (H : yH) (Fin : Option Value → eM → yH → Prop) : Prop := ∀ Rr : va_W, yHas Rr H → xCalT G xN0 b K hh av (eW G 0 68 M ++ Rr) (yFin G Fin)
theorem yCalT.of {G : eG} {b : eB} {K : eK} {av : List Value} {M : eM} {H : yH} {Fin : Option Value → eM → yH → Prop} (hpl : plainName (kY K).cls = true) (hown : kOwn K = (kY K).cls) (hlen : (lg_sl av).length ≤ kMax K)
    (body : Yx yXA (yZ G b.2.1 b.2.2 Fin) G (eR b) K 0 (lv_args 0 av) [] M H 0 0) : yCalT G b K hhA av M H Fin := fun Rr hR => xCalT.of hpl hown hlen (body Rr hR)
section YAct
variable {X : xX} {Z : eZt} {G : eG} {R : Room} {K : eK} {pc : Nat} {l l' : List (Nat × Value)} {S : List Value} {M : eM} {H : yH} {ca sl index : Nat}
theorem y_callA (hX : yXok X) {K' : eK} {hh : xHH} {b' : eB} {As : List Value} {k : Nat} {Fin : Option Value → eM → yH → Prop} (hdg : decode (kCode K) pc = .ok (.invokestatic index, 3)) (hm : eMT K' hh k) (hlk : Cond.methodLink (kOwn K) index (kY K') ∈ lw_tbl) (hk : As.length = k) (hb : xFit R b' K' ca sl) (hS : (S.map fun v => v.category).sum ≤ 8)
    (hcal : yCalT G b' K' hh As M H Fin) (kk : ∀ (v : Option Value) (M' : eM) (H' : yH), Fin v M' H' → Yx X Z G R K (pc + 3) l (v.toList ++ S) M' H' (ca + b'.2.1) (sl + b'.2.2)) {S0 : List Value} (hS0 : S0 = As.reverse ++ S) : Yx X Z G R K pc l S0 M H ca sl := fun Rr hR =>
  x_callT xN0_m hX hdg hm hlk hk hb hS (hcal Rr hR) (y_ret kk) hS0
theorem y_catchM {K' : eK} {b' : eB} {As : List Value} {k : Nat} (hdg : decode (kCode kL_act) pc = .ok (.invokevirtual index, 3)) (hm : eMV K' k) (hlk : Cond.methodLink (kOwn kL_act) index (kY K') ∈ lw_tbl) (hcn : (kY K').cls = RX10) (hk : As.length = k) (hb : xFit R b' K' ca sl) (hS : (S.map fun v => v.category).sum ≤ 8)
    (hcal : CalX G 0 68 b' K' (.ref (G.1 0) :: As) M "java/lang/IllegalStateException") (hcov : covers ⟨87, 294, 297, 118⟩ pc = true) (kk : ∀ q : Nat, Yx yXA Z G R kL_act 297 l [.ref q] M H (ca + b'.2.1) (sl + b'.2.2)) {S0 : List Value} (hS0 : S0 = As.reverse ++ .ref (G.1 0) :: S) : Yx yXA Z G R kL_act pc l S0 M H ca sl := fun Rr hR =>
  x_catchV xN0_m yXAk (q0 := 0 - 0) (fs := eF G [3, 5, 10, 15, 16, 25, 18, 0] 0 (M 0)) [] ⟨87, 294, 297, 118⟩ [] (fun _ _ _ _ h => h.1) (fun _ _ _ _ _ z hz => absurd hz List.not_mem_nil) hcov (by decide) (show Cond.classLink RL 118 "java/lang/IllegalStateException" ∈ lw_tbl from tb7 _ (List.mem_of_getElem? (i := 204) rfl)) (show Cond.castable "java/lang/IllegalStateException" "java/lang/IllegalStateException" ∈ lw_tbl from tb3 _ (List.mem_of_getElem? (i := 50) rfl)) hdg hm hlk clX10 hcn (by rw [List.nil_append, xe_at iF0, sC0]; rfl) hk hb hS (hcal.list xN0 [] Rr) (fun q => kk q Rr hR) hS0
end YAct
