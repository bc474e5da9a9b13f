/-! ===== the law, from its entry ===== -/
set_option maxRecDepth 100000 in
theorem y_selW {args : Array Value} {s : State} (h : ∀ w ∈ tables_1, w.before args s = true) : ∀ w ∈ ySelW, w.before args s = true := by
  intro w hw
  obtain ⟨y, hy, rfl⟩ := List.mem_map.mp hw
  have key : ∀ y ∈ yPv, y.cls = "java/lang/AbstractStringBuilder" ∧ Cond.privateMethod y ∈ tables_1 ∧ Cond.instanceMethod y ∈ tables_1 := by decide +kernel
  obtain ⟨k1, k2, k3⟩ := key y hy
  exact y_selP k1 (h _ (by decide +kernel)) (h _ k2) (h _ k3)
theorem otx_all : zOtx := fun _ _ _ _ _ _ ha ho h => S_otext ha ho h
set_option maxHeartbeats 4000000 in
set_option maxRecDepth 100000 in
theorem lw_body {b L : Nat} {xs : Nat → Int32} {G : eG} : Ex (yXL b L xs) lwZ G room_1 kL_law 0 [(0, .ref b)] [] [] 0 0 := by
  refine x_new dL_law_0 clX10 (tb1 _ (List.mem_of_getElem? (i := 35) rfl)) (tb1 _ (List.mem_of_getElem? (i := 36) rfl)) (tb1 _ (List.mem_of_getElem? (i := 1) rfl)) xd_X10 ⟨Nat.le_of_ble_eq_true rfl, Nat.le_of_ble_eq_true rfl⟩ (fun q1 => ?_)
  refine x_dup dL_law_3 rfl ?_
  refine Ex.ww (w' := [] ++ ([(q1, .inr (8, [.null, .null, .null, .null, .null, .null, .null, .int 0]))] ++ [])) rfl ?_
  refine x_callI (K := kL_law) (R := room_1) (ca := 1) (sl := 8) (w := [] ++ ([(q1, .inr (8, [.null, .null, .null, .null, .null, .null, .null, .int 0]))] ++ [])) xN0_m yXLk (b' := (5, 67, 7840)) (As := []) (S := [.ref q1]) dL_law_4 miX10_init lML_120 rfl (by exact ⟨⟨Nat.le_of_ble_eq_true rfl, Nat.le_of_ble_eq_true rfl⟩, ⟨Nat.le_of_ble_eq_true rfl, Nat.le_of_ble_eq_true rfl⟩⟩) (Nat.le_of_ble_eq_true rfl) ((I_X10_init G q1).list [] []) (fun v w' h => ?_) rfl
  obtain ⟨w1, ⟨rfl, G1, M, hG1, hq1, rfl, hc⟩, rfl⟩ := h
  refine Ex.ww (w' := eW G1 0 68 M) (List.append_nil _) ?_
  refine x_astore_n (l' := [(1, .ref q1), (0, .ref b)]) dL_law_7 rfl (by decide) rfl ?_
  refine x_iconst (v := 0) dL_law_8 rfl ?_
  refine x_istore_n (l' := [(2, .int 0), (1, .ref q1), (0, .ref b)]) dL_law_9 rfl (by decide) rfl ?_
  refine Ex.g hG1 ?_
  have go := L_10 (b := b) (L := L) (xs := xs) (G := G1) otx_all 2 0 M (fun _ => none) xS0 200 18000 (by omega) hc xS0_ok rfl (Nat.le_of_ble_eq_true rfl) (Nat.le_of_ble_eq_true rfl) [] (yHas.nil [])
  rw [hq1] at go
  refine Ex.ww (w' := eW G1 0 68 M ++ []) (List.append_nil _).symm ?_
  exact Ex.wide (Nat.le_of_ble_eq_true rfl) (Nat.le_of_ble_eq_true rfl) (Ex.sub (ks := [2, 1, 0]) rfl go)
/-- from the entry, for every script of at most 260 ints, the law comes to its end with true -/
theorem whole_start {p : Program} {e : Env} {s : State} {m : MethodId} {below : List Frame} {meth : Method} {c : Code} (l : Launch) (hflags : l.flags = flags0) {b L : Nat} {xs : Nat → Int32} (hL : L ≤ 260) (C0 : lw_At p s m meth c b L xs) : W p l e room_1 s m #[Value.ref b] below meth c s.heap [] 0 0 (lw_Z below #[Value.ref b] s) (entryFrame m ([Value.ref b] : List Value).toArray 27) := by
  obtain ⟨hx, hb, hr, hml, hown, hts, hX, hbl, hlocks, hgv⟩ := C0
  have hs := flat_of_before _ hgv
  have n1 : ∀ c ∈ flatC narrow_1_1, c.before #[Value.ref b] s = true := fun c hc => hs c (List.mem_append_right _ (List.mem_append_left _ (List.mem_append_left _ hc)))
  have n2 : ∀ c ∈ flatC narrow_1_2, c.before #[Value.ref b] s = true := fun c hc => hs c (List.mem_append_right _ (List.mem_append_left _ (List.mem_append_right _ hc)))
  have n3 : ∀ c ∈ flatC narrow_1_3, c.before #[Value.ref b] s = true := fun c hc => hs c (List.mem_append_right _ (List.mem_append_right _ (List.mem_append_left _ hc)))
  have n4 : ∀ c ∈ flatC narrow_1_4, c.before #[Value.ref b] s = true := fun c hc => hs c (List.mem_append_right _ (List.mem_append_right _ (List.mem_append_right _ (List.mem_append_left _ hc))))
  have n5 : ∀ c ∈ flatC narrow_1_5, c.before #[Value.ref b] s = true := fun c hc => hs c (List.mem_append_right _ (List.mem_append_right _ (List.mem_append_right _ (List.mem_append_right _ hc))))
  have hA : ∀ a : Nat, a < s.heap.size → ¬ (fun q : Nat => s.heap.size ≤ q) a := fun a h => Nat.not_le.mpr h
  obtain ⟨G, hK, hSt, hMs⟩ := n_G n1 n2 n3 n4 n5 hts hA
  rw [lg_entry_eq]
  exact lw_body (b := b) (L := L) (xs := xs) (G := G) p l e s m #[Value.ref b] below meth c (fun q => s.heap.size ≤ q) s.heap [] _ ⟨hx, hb, hml, hr, ⟨hlocks, ⟨rfl, hX, hbl, hL⟩, n_xN n1 n2 n3 n4 n5 hts hA⟩, hown, fun w hw => hts w (List.mem_filter.mp hw).1, hK, hSt, fun q h => h, ⟨hflags, hMs⟩, va_S.rf, fun k q h => by simp at h, ⟨fun i j p q h => by simp at h, fun k q h => by simp at h⟩⟩ (lv_entry [.ref b] (n := 27) (Nat.le_of_ble_eq_true rfl))
set_option maxHeartbeats 4000000 in
theorem lw_walk (l : Launch) (hflags : l.flags = flags0) (b : Addr) (xs : List Int32) : MetFree l x (headSpec (Jvm.Cond.code x code maxLocals ret :: tables_1) room_1) (lw_P b xs) (fun _ _ _ _ _ => True) lw_Q := by
  refine MetFree.of_bodyS (code := code) (maxLocals := maxLocals) (ret := ret) (by decide) ?_ ?_
  · intro args s m h hn
    obtain ⟨meth, c, h1, h2, h3, h4, h5, h6, -, -⟩ := Cond.code_spec hn (atoms_spec (ws := Jvm.Cond.code x code maxLocals ret :: tables_1) h _ List.mem_cons_self)
    exact ⟨meth, c, h1, h2, h3, h4, h5, h6⟩
  · intro p e s m args below meth c s₁ B hml0 hP _
    obtain ⟨rfl, hx, hbd, hgv⟩ := hP
    obtain ⟨scr, harrAt, hlist, hof, hsmall⟩ := hx
    obtain ⟨hcb, hkn, -, -⟩ := State.arrayAt?_spec harrAt
    have hown : s.vm.findClass R_law = some m.cls := findClass_of_methodNamed B.named
    have hts0 : ∀ c ∈ (Jvm.Cond.code x code maxLocals ret :: tables_1), c.before #[Value.ref b] s = true := atoms_spec (ws := Jvm.Cond.code x code maxLocals ret :: tables_1) B.pre
    have hts1 : ∀ w ∈ k2_sels lw_privs ++ tables_1, w.before #[Value.ref b] s = true := k2_hts_sels lw_privs (fun w hw => hts0 w (List.mem_cons_of_mem _ hw)) lw_privs_ok
    have hts : ∀ w ∈ lw_tbl, w.before #[Value.ref b] s = true := fun w hw => by
      rcases List.mem_append.mp hw with h | h
      · exact hts1 w (List.mem_append_left _ h)
      · rcases List.mem_append.mp h with h | h
        · exact y_selW (fun w hw => hts0 w (List.mem_cons_of_mem _ hw)) w h
        · exact hts1 w (List.mem_append_right _ h)
    have hml : c.maxLocals = 27 := B.maxLocals_eq (hts0 _ List.mem_cons_self)
    have X₀ : Stand p l e room_1 s m #[Value.ref b] below meth c s₁ [] 0 0 := Stand.of_body B
    have hh0 : s₁.heap = s.heap := by rw [B.state]; rfl
    have hsz : scr.slots.size = xs.length := by rw [← Array.length_toList, hlist, List.length_map]
    have hval : ∀ j : Nat, j < xs.length → scr.slots[j]? = some (.int (xs.getD j 0)) := fun j hj => by
      rw [← Array.getElem?_toList, hlist]
      simp [hj]
    have hbl : b < s.heap.size := (Array.getElem?_eq_some_iff.mp hcb).1
    have hX : va_X b xs.length (fun j => xs.getD j 0) s s.heap := ⟨scr, hcb, hof, hkn, hsz, hval⟩
    have K : W p l e room_1 s m #[Value.ref b] below meth c s₁.heap [] 0 0 (lw_Z below #[Value.ref b] s) (entryFrame m ([Value.ref b] : List Value).toArray 27) := by
      rw [hh0]
      exact whole_start l hflags hbd ⟨B.exec, B.bytes, B.returns, hml, hown, hts, hX, hbl, B.notSynchronized, hgv⟩
    obtain ⟨t, a1, o, b1, b2, b3⟩ := K s₁ rfl X₀
    exact ⟨t, o, a1, b1, b2, b3⟩
theorem lw_pre_spec {args : Array Value} {s : State} (h : (Jvm.Cond.and given_1 narrow_1).before args s = true) (hr : rest_1_c.before args s = true) : ∃ (b : Addr) (xs : List Int32), lw_P b xs args s := by
  have hs := flat_of_before _ h
  have hq := flat_of_before _ hr
  have hc : (Cond.count 1).before args s = true := hs _ (by decide +kernel)
  have harr : (Cond.arrayOf (.arg 0) .int).before args s = true := hs _ (by decide +kernel)
  have hle : (Cond.le (.length (.arg 0)) (.int 260)).before args s = true := hs _ (by decide +kernel)
  have hlen : (Cond.isInt (.length (.arg 0))).before args s = true := hq _ (by decide +kernel)
  have hall : (Cond.all (.arg 0) (.isInt (.elem (.arg 0) (.index 0)))).before args s = true := hq _ (by decide +kernel)
  obtain ⟨b, xs, hb, hx⟩ := State.ints_of_pre rfl harr hlen hall
  have hsm : xs.length < 2 ^ 31 := hx.choose_spec.2.2.2
  have hev : (Term.length (.arg 0)).eval args s none [] s = some (.int xs.length.toInt32) := hx.length_eval hb
  have hv := Cond.le_ints hev (show (Term.int 260).eval args s none [] s = some (.int 260) from rfl)
  have hd : xs.length.toInt32 ≤ 260 := by
    simpa [Cond.before, Cond.holds, hv] using hle
  have hN : xs.length ≤ 260 := (Int32.ofNat_le_ofNat hsm (by decide)).mp (show Int32.ofNat xs.length ≤ Int32.ofNat 260 from hd)
  exact ⟨b, xs, Cond.one_arg hc (show args[0]? = some (.ref b) from hb), hx, hN, h⟩
theorem lw_comes (l : Launch) (hflags : l.flags = flags0) : Comes l x (Jvm.Cond.code x code maxLocals ret :: tables_1) room_1 (fun tb e args s => Calls_1 tb e args s ∧ rest_1 tb e args s ∧ Pre_1 tb e args s)
    (fun _ _ args s o t => lw_Q args s o t) := by
  intro p e ha hc hk s m args below hf hfit hheap happ hpre
  obtain ⟨b, xs, hP⟩ := lw_pre_spec hpre.2.2 hpre.2.1
  obtain ⟨k, o, h1, h2, h3, hQ⟩ := lw_walk l hflags b xs p e ha hc hk s m args below hf ((Spec.applies_iff_loose hf).mp happ).1 hP trivial
  exact ⟨k, o, h1, h2, h3, hQ⟩
theorem lw_frame {s t : State} {o : Outcome} {args : Array Value} (h : State.butDraws s t lw_cs (fun t1 => Framed s o t1 [] room_1.cells room_1.slots)) :
    State.butDraws s t [Jvm.Choice.named "NaN.bits"] (fun t1 => Framed s o t1 (fieldLocs frame_1_writes args s ++ arrayLocs frame_1_arrays args s ++ staticLocs frame_1_statics s) room_1.cells room_1.slots) := h
theorem lw_limb (L : Cond) (hL : ∀ (args : Array Value) (s t : State), L.after args s (.returned (some (.int 1))) t = true) :
    ArmFor flags0 classFile x code maxLocals ret World_1 tables_1 room_1 Calls_1 rest_1 Pre_1
      (fun tb e a s o t => postC L tb e a s o t ∧ State.butDraws s t [Jvm.Choice.named "NaN.bits"] (fun t1 => Framed s o t1 (fieldLocs frame_1_writes a s ++ arrayLocs frame_1_arrays a s ++ staticLocs frame_1_statics s) room_1.cells room_1.slots)) := by
  intro l hflags _ _ p e ha hc hk s m args below hf hfit hheap happ hpre
  obtain ⟨k, o, h1, h2, h3, rfl, hF⟩ := lw_comes l hflags p e ha hc hk s m args below hf hfit hheap happ hpre
  exact ⟨k, _, h1, h2, h3, hL args s _, lw_frame hF⟩
theorem i_vc : Claimed_1_1 ∧ Claimed_1_2 := ⟨lw_limb limb_1_1 (fun args s t => by simp [limb_1_1, Cond.after, Cond.holds, Cond.value]), lw_limb limb_1_2 (fun args s t => Cond.after_iff.mpr (by
  first | (rw [show limb_1_2 = Cond.eq .result (.int 1) from rfl, Cond.eq_ints (x := 1) (y := 1) rfl rfl]; simp; done) | (simp [limb_1_2, Cond.value, Term.eval]; done)))⟩
