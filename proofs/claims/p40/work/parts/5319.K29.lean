/-! the claim out of one walk -/
def R_law : String := "RingDominoLaw"
def lw_P (b : Addr) (xs : List Int32) (args : Array Value) (s : State) : Prop := args = #[.ref b] ∧ s.IntsAt b xs ∧ xs.length ≤ 260 ∧ (Jvm.Cond.and given_1 narrow_1).before args s = true
/-- what a walk over the start with the record d0 says of its end, said of the start itself -/
theorem lw_closed {s t : State} {o : Outcome} {d0 : Drawn} {L : List Loc} {k n : Nat} (hd0 : s.drawn.sameBut d0 lw_cs) (hv : ∃ v, o = .returned v) (hW : (s.setDrawn d0).WarmedH t.vm) (hs : (s.setDrawn d0).sameButNew ({ t with vm := s.vm } : State) L k n) : State.butDraws s t lw_cs (fun t1 => Framed s o t1 L k n) := by
  have h2 : t.drawn = d0 := congrArg State.drawn hs.1
  refine ⟨⟨hv, hW, State.sameButNew.setDrawn hs s.drawn⟩, ?_, by decide⟩
  rw [h2]
  exact hd0
def lw_Q (_ : Array Value) (s : State) (o : Outcome) (t : State) : Prop := o = .returned (some (.int 1)) ∧ State.butDraws s t lw_cs (fun t1 => Framed s o t1 [] room_1.cells room_1.slots)
def lw_Z (below : List Frame) (a : Array Value) (s : State) : State → Prop := fun t => ∃ o, t.status = .running ∧ Ended t below o ∧ lw_Q a s o t
/-- the law's own end, with 1 on the stack, nothing written that was there before, its room as the claim has it; d0: the record of draws at this point (at the entry s.drawn: begin with 'refine W.base ?_' and 'have hd0 := Drawn.sameBut.refl s.drawn lw_cs') -/
theorem lw_ret {p : Program} {l : Launch} {e : Env} {s : State} {m : MethodId} {below : List Frame} {meth : Method} {c : Code} {b : Nat} {d0 : Drawn} (hd0 : s.drawn.sameBut d0 lw_cs) (hx : p.tables.exec = Jvm.exec) (hb : c.code = code) (hr : meth.sig.returnType = ret) (hlocks : meth.locks = false) {pc : Nat} {H : Heap} {ls : Array Slot} (hdg : decode code pc = .ok (.ireturn, 1)) : W p l e room_1 (s.setDrawn d0) m #[Value.ref b] below meth c H [] room_1.cells room_1.slots (lw_Z below #[Value.ref b] s) (F0 m pc ls [.int 1]) := by
  intro T hT X
  obtain ⟨fs, hret, hrun, hended, hW, hframe⟩ := X.leave (v := some (.int 1)) (hlocks := hlocks) (fun h => by rw [hr] at h; cases h)
  have hmeth' : T.vm.method? m = some meth := X.method'
  refine ⟨T.setFrames fs, ?_, .returned (some (.int 1)), hrun, hended, rfl, lw_closed hd0 ⟨_, rfl⟩ hW hframe⟩
  jvm_step X.here [X.here.top, hx, hb, hdg, hmeth', hr, ret, narrow_b1]
  (try refine ⟨rfl, ?_⟩); (try refine ⟨rfl, ?_⟩)
  first | (intro acts; rw [hret _ acts rfl rfl rfl]) | rw [hret _ _ rfl rfl rfl]
  exact Steps.refl _
/-- what holds at the law's entry: the machine, the code, the tables' words (any of lw_tbl by 'hts w (by decide +kernel)'), the script of L ints xs at the cell b, what the Statement gives of the start (any of its parts by flat_of_before) -/
def lw_At (p : Program) (s : State) (m : MethodId) (meth : Method) (c : Code) (b L : Nat) (xs : Nat → Int32) : Prop :=
  p.tables.exec = Jvm.exec ∧ c.code = code ∧ meth.sig.returnType = ret ∧ c.maxLocals = 27 ∧ s.vm.findClass R_law = some m.cls ∧ (∀ w ∈ lw_tbl, w.before #[Value.ref b] s = true) ∧ va_X b L xs s s.heap ∧ b < s.heap.size ∧ meth.locks = false ∧ (Jvm.Cond.and given_1 narrow_1).before #[Value.ref b] s = true
theorem lw_retA {p : Program} {l : Launch} {e : Env} {s : State} {m : MethodId} {below : List Frame} {meth : Method} {c : Code} {args : Array Value} {d0 : Drawn} (hd0 : s.drawn.sameBut d0 lw_cs) (hx : p.tables.exec = Jvm.exec) (hb : c.code = code) (hr : meth.sig.returnType = ret) (hlocks : meth.locks = false) {pc : Nat} {H : Heap} {ls : Array Slot} (hdg : decode code pc = .ok (.ireturn, 1)) : W p l e room_1 (s.setDrawn d0) m args below meth c H [] room_1.cells room_1.slots (lw_Z below args s) (F0 m pc ls [.int 1]) := by
  intro T hT X
  obtain ⟨fs, hret, hrun, hended, hW, hframe⟩ := X.leave (v := some (.int 1)) (hlocks := hlocks) (fun h => by rw [hr] at h; cases h)
  have hmeth' : T.vm.method? m = some meth := X.method'
  refine ⟨T.setFrames fs, ?_, .returned (some (.int 1)), hrun, hended, rfl, lw_closed hd0 ⟨_, rfl⟩ hW hframe⟩
  jvm_step X.here [X.here.top, hx, hb, hdg, hmeth', hr, ret, narrow_b1]
  (try refine ⟨rfl, ?_⟩); (try refine ⟨rfl, ?_⟩)
  first | (intro acts; rw [hret _ acts rfl rfl rfl]) | rw [hret _ _ rfl rfl rfl]
  exact Steps.refl _
/-! ===== the script, the law's end, its cell ===== -/
def kL_law : eK := (RL, yL_law, cL_law, 27, some .boolean)
abbrev yXL (b L : Nat) (xs : Nat → Int32) : xX := fun s _ _ A => ((A = fun q => s.heap.size ≤ q) ∧ va_X b L xs s s.heap ∧ b < s.heap.size ∧ L ≤ 260) ∧ xN0 s
theorem yXLk {b L : Nat} {xs : Nat → Int32} : yXok (yXL b L xs) := fun _ _ _ _ h => h.2
abbrev lwZ : eZt := fun below args s _ => lw_Z below args s
def zCell (L : Nat) (xs : Nat → Int32) (i : Int32) : Int32 := if nI L ≤ i then 790386105 * (i + 3) else xs i.toNatClampNeg
theorem yl_true {b L : Nat} {xs : Nat → Int32} {G : eG} {l : List (Nat × Value)} {M : eM} {H : yH} {ca sl : Nat} (h1 : ca ≤ room_1.cells) (h2 : sl ≤ room_1.slots) : Yx (yXL b L xs) lwZ G room_1 kL_law 1138 l [.int 1] M H ca sl := by
  intro Rr hR p la e s m args below meth c A H locs ls C hl
  obtain ⟨q1, q2, q3, q4, ⟨q5, ⟨q15, q16, q17, -⟩, q18⟩, q6, q7, q8, q9, q10, q11, q12, q13, q14⟩ := C
  refine W.widen h1 h2 ?_
  refine va_forget (fun q hq => ?_) ?_
  · have := q12.2.2 q hq
    rw [q15] at this
    exact this
  refine W.base ?_
  exact lw_retA (Drawn.sameBut.refl s.drawn lw_cs) q1 q2 q4 q5 dL_law_1138
abbrev yXC (b L : Nat) (xs : Nat → Int32) : xX := fun s _ _ A => (¬ A b ∧ va_X b L xs s s.heap ∧ b < s.heap.size) ∧ xN0 s
section YCell
variable {b L : Nat} {xs : Nat → Int32} {G : eG}
theorem yc_sld {Z : eZt} {R : Room} {K : eK} {pc : Nat} {l : List (Nat × Value)} {S : List Value} {w : va_W} {ca sl : Nat} (j : Nat) (hdg : decode (kCode K) pc = .ok (.iaload, 1)) (hj : j < L) (hL : L ≤ 260) (kk : Ex (yXC b L xs) Z G R K (pc + 1) l (.int (xs j) :: S) w ca sl) : Ex (yXC b L xs) Z G R K pc l (.int (nI j) :: .ref b :: S) w ca sl := by
  refine Ex.step (fun {p la e s m args below meth c' A H locs ls Q} C0 hl k0 => ?_) kk
  obtain ⟨h1, h2, h3, h4, ⟨h5, ⟨h15, h16, h17⟩, h18⟩, h6, h7, h8, h9, h10, h11, h12, h13, h14⟩ := C0
  refine va_sld h1 h2 h16 h17 h15 h12 (vp_in_nI hj (by omega)) hdg ?_
  rw [nI_clamp (show j < 2 ^ 31 by omega)]
  exact k0
theorem yc_slen {Z : eZt} {R : Room} {K : eK} {pc : Nat} {l : List (Nat × Value)} {S : List Value} {w : va_W} {ca sl : Nat} (hdg : decode (kCode K) pc = .ok (.arraylength, 1)) (kk : Ex (yXC b L xs) Z G R K (pc + 1) l (.int (nI L) :: S) w ca sl) : Ex (yXC b L xs) Z G R K pc l (.ref b :: S) w ca sl := by
  refine Ex.step (fun {p la e s m args below meth c' A H locs ls Q} C0 hl k0 => ?_) kk
  obtain ⟨h1, h2, h3, h4, ⟨h5, ⟨h15, h16, h17⟩, h18⟩, h6, h7, h8, h9, h10, h11, h12, h13, h14⟩ := C0
  exact va_slen h1 h2 h16 h17 h15 h12 hdg k0
theorem yc_body (hL : L ≤ 260) (j : Nat) (hj : j ≤ 300) (w : va_W) : Ex (yXC b L xs) (xZ G 0 0 (fun v w' => v = some (.int (zCell L xs (nI j))) ∧ w' = w)) G (eR (0, 0, 0)) kL_cell 0 [(0, .ref b), (1, .int (nI j))] [] w 0 0 := by
  refine x_iload_n 1 dL_cell_0 rfl rfl ?_
  refine x_aload_n 0 dL_cell_1 rfl rfl ?_
  refine yc_slen dL_cell_2 ?_
  refine x_icmp_ge (t := 12) dL_cell_3 (by decide) (fun q => ?_) (fun q => ?_)
  · refine Ex.step (fun C _ k => lv_ldc C.1 C.2.1 C.2.2.2.2.2.1 (C.2.2.2.2.2.2.1 _ (eIn lCL_8 rfl)) dL_cell_12 k) ?_
    refine x_iload_n 1 dL_cell_14 rfl rfl ?_
    refine x_iconst (v := 3) dL_cell_15 rfl ?_
    refine x_iadd dL_cell_16 ?_
    refine x_imul dL_cell_17 ?_
    exact x_iret dL_cell_18 rfl (Nat.zero_le _) (Nat.zero_le _) ⟨by unfold zCell; rw [if_pos q], rfl⟩
  · have hjL : j < L := by
      rcases Nat.lt_or_ge j L with z | z
      · exact z
      · exact absurd (Int32.not_lt.mp (nI_nlt z (by omega))) q
    refine x_aload_n 0 dL_cell_6 rfl rfl ?_
    refine x_iload_n 1 dL_cell_7 rfl rfl ?_
    refine yc_sld j dL_cell_8 hjL hL ?_
    refine x_goto (t := 18) dL_cell_9 (by decide) ?_
    exact x_iret dL_cell_18 rfl (Nat.zero_le _) (Nat.zero_le _) ⟨by unfold zCell; rw [if_neg q, nI_clamp (show j < 2 ^ 31 by omega)], rfl⟩
theorem yc_met (hL : L ≤ 260) (j : Nat) (hj : j ≤ 300) (w : va_W) (la : Launch) (hfl : la.flags = flags0) (A : Nat → Prop) : Met la (kY kL_cell) [kW kL_cell] (eR (0, 0, 0)) (va_Pc [.ref b, .int (nI j)] (fun U => xI G xN0 A w U ∧ (¬ A b ∧ va_X b L xs U U.heap ∧ b < U.heap.size))) (xQ G A (fun v w' => v = some (.int (zCell L xs (nI j))) ∧ w' = w)) 0 0 A := by
  refine Met.ofW (cc := kCode kL_cell) (maxL := kMax kL_cell) (ret := kRet kL_cell) (by decide +kernel) rfl ?_
  intro p e s m args below meth c s₁ B hml hv
  obtain ⟨rfl, ⟨h1, h2, h3, h4, h5, h6⟩, hx⟩ := hv
  rw [lg_entry_eq]
  exact yc_body (b := b) (xs := xs) (G := G) hL j hj w p la e s m _ below meth c A s.heap [] _ ⟨B.exec, B.bytes, hml, B.returns, ⟨B.notSynchronized, hx, h1.2.2⟩, findClass_of_methodNamed B.named, h1.1.at _, h2, h3, h4, ⟨hfl, h1.2.1⟩, va_S.rf, h5, h6⟩ (lv_entry [.ref b, .int (nI j)] (Nat.le_of_ble_eq_true rfl))
theorem yc_blind {A : Nat → Prop} {w : va_W} {av : List Value} : FrameBlind (va_Pc av (fun U => xI G xN0 A w U ∧ (¬ A b ∧ va_X b L xs U U.heap ∧ b < U.heap.size))) := by
  intro a U g mk h
  obtain ⟨h0, hI, hA, hX, hb⟩ := h
  have z := xI.blind (G := G) xN0_m (A := A) (w := w) (av := av) a U g mk ⟨h0, hI⟩
  exact ⟨h0, z.2, hA, hX.moved (U := U.calling g mk a) (Vm.Alike.refl U.vm), hb⟩
theorem y_callCell {l : List (Nat × Value)} {S : List Value} {M : eM} {H : yH} {ca sl index pc : Nat} {i : Int32} (hdg : decode (kCode kL_law) pc = .ok (.invokestatic index, 3)) (hm : eMS kL_cell 2) (hlk : Cond.methodLink (kOwn kL_law) index (kY kL_cell) ∈ lw_tbl) (hb : xFit room_1 (0, 0, 0) kL_cell ca sl) (hS : (S.map fun v => v.category).sum ≤ 8) (hi : ∃ j : Nat, j ≤ 300 ∧ i = nI j)
    (kk : Yx (yXL b L xs) lwZ G room_1 kL_law (pc + 3) l (.int (zCell L xs i) :: S) M H ca sl) : Yx (yXL b L xs) lwZ G room_1 kL_law pc l (.int i :: .ref b :: S) M H ca sl := by
  obtain ⟨j, hj, rfl⟩ := hi
  intro Rr hR p la e s m args below meth c' A H0 locs ls C0 hl
  have C1 := C0
  obtain ⟨q1, q2, q3, q4, q5, q6, q7, q8, q9, q10, q11, q12, q13, q14⟩ := C1
  obtain ⟨m1, m2, m4, m5, m6, m8⟩ := hm
  obtain ⟨-, ⟨qA, qX, qb, qL⟩, -⟩ := q5
  have hnA : ¬ A b := by rw [qA]; exact Nat.not_le.mpr qb
  exact Ex.after C0 hl (b' := (0, 0, 0)) (va_runS (As := [.ref b, .int (nI j)]) (rest := S) (nL := kMax kL_law) ⟨q1, q2, q3, q6, q7⟩ (yc_met (b := b) (xs := xs) (G := G) qL j hj (eW G 0 68 M ++ Rr) la q11.1 A) ⟨callB_of 2 q7 (eGood m1 m6) rfl rfl rfl (q7 _ (eIn m4 rfl)) (q7 _ (eIn hlk rfl)) m5 hb.1, q7 _ (eIn m2 rfl)⟩ ⟨yc_blind, fun U hU hW => ⟨rfl, xC.pass xN0_m yXLk C0 hU hW, hnA, by rw [hU]; exact (qX.kept (q12.2.1 b qb hnA)).moved hW.alike, by rw [hU]; exact Nat.lt_of_lt_of_le qb q12.1⟩⟩ rfl rfl hl.1 rfl (lv_room hS) hdg hb.2) (fun v w' h => by
    obtain ⟨rfl, rfl⟩ := h
    exact kk Rr hR)
end YCell
