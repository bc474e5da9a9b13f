/-! ===== the law's own methods ===== -/
theorem vp_updL_0 (f : Nat → Int64) (v : Int64) : vp_updL f (0 : Int32).toNatClampNeg v 0 = v := by
  rw [show (0 : Int32).toNatClampNeg = 0 from by decide]
  exact if_pos rfl
/-- the world of the law: its long, the class's cells, the model's -/
abbrev wL (G : eG) (o : Nat) (f : Nat → Int64) (M Mm : eM) : va_W := (o, .inl (G.2.2.2 5, (1, .inr (.inl f)))) :: (eW G 0 68 M ++ eW G 100 40 Mm)
section WL
variable {X : xX} {Z : eZt} {G : eG} {R : Room} {K : eK} {pc : Nat} {l l' : List (Nat × Value)} {S : List Value} {ca sl o : Nat} {f : Nat → Int64} {M Mm : eM} {N : xN}
theorem wL_0 : (wL G o f M Mm)[1]? = some (G.1 0, .inr (8, eF G [3, 5, 10, 15, 16, 25, 18, 0] 0 (M 0))) := by
  have h := xe_at (G := G) (M := M) (Rr := eW G 100 40 Mm) iF0
  rw [sC0] at h
  exact h
theorem wL_100 : (wL G o f M Mm)[69]? = some (G.1 100, .inr (11, eF G [0, 103, 0, 0, 104, 105, 106, 107, 0, 0, 0, 0, 0, 108, 109, 120, 131, 132, 136, 140, 141, 0, 0, 0] 0 (Mm 100))) := by
  have h := eW_get (G := G) (M := Mm) iM100
  rw [sC100] at h
  show (eW G 0 68 M ++ eW G 100 40 Mm)[68]? = _
  rw [List.getElem?_append_right (by rw [eW_len]; exact Nat.le_refl _), eW_len]
  exact h
/-- a call of the class -/
theorem xl_callC (hN : xNm N) (hX : ∀ s meth c A, X s meth c A → N s) {K' : eK} {b' : eB} {As : List Value} {index k : Nat} {Fin : Option Value → eM → Prop} (hdg : decode (kCode K) pc = .ok (.invokevirtual index, 3)) (hm : eMV K' k) (hlk : Cond.methodLink (kOwn K) index (kY K') ∈ lw_tbl) (hcn : (kY K').cls = RX10) (hk : As.length = k) (hb : xFit R b' K' ca sl) (hS : (S.map fun v => v.category).sum ≤ 8)
    (hcal : Cal G 0 68 b' K' (.ref (G.1 0) :: As) M Fin) (kk : ∀ (v : Option Value) (M' : eM), Fin v M' → Ex X Z G R K (pc + 3) l (v.toList ++ S) (wL G o f M' Mm) (ca + b'.2.1) (sl + b'.2.2)) {S0 : List Value} (hS0 : S0 = As.reverse ++ .ref (G.1 0) :: S) : Ex X Z G R K pc l S0 (wL G o f M Mm) ca sl :=
  x_callV hN hX (q0 := 1) hdg hm hlk clX10 hcn wL_0 hk hb hS (hcal.list N [(o, .inl (G.2.2.2 5, (1, .inr (.inl f))))] (eW G 100 40 Mm)) (fun v w' h => by obtain ⟨M', h1, rfl⟩ := h; exact kk v M' h1) hS0
/-- a call of the model -/
theorem xl_callM (hN : xNm N) (hX : ∀ s meth c A, X s meth c A → N s) {K' : eK} {b' : eB} {As : List Value} {index k : Nat} {Fin : Option Value → eM → Prop} (hdg : decode (kCode K) pc = .ok (.invokevirtual index, 3)) (hm : eMV K' k) (hlk : Cond.methodLink (kOwn K) index (kY K') ∈ lw_tbl) (hcn : (kY K').cls = RX13) (hk : As.length = k) (hb : xFit R b' K' ca sl) (hS : (S.map fun v => v.category).sum ≤ 8)
    (hcal : Cal G 100 40 b' K' (.ref (G.1 100) :: As) Mm Fin) (kk : ∀ (v : Option Value) (M' : eM), Fin v M' → Ex X Z G R K (pc + 3) l (v.toList ++ S) (wL G o f M M') (ca + b'.2.1) (sl + b'.2.2)) {S0 : List Value} (hS0 : S0 = As.reverse ++ .ref (G.1 100) :: S) : Ex X Z G R K pc l S0 (wL G o f M Mm) ca sl := by
  have e : ∀ m : eM, wL G o f M m = ((o, .inl (G.2.2.2 5, (1, .inr (.inl f)))) :: eW G 0 68 M) ++ (eW G 100 40 m ++ []) := fun m => by
    rw [List.append_nil]
    rfl
  have hc := hcal.list N ((o, .inl (G.2.2.2 5, (1, .inr (.inl f)))) :: eW G 0 68 M) []
  rw [← e] at hc
  exact x_callV hN hX (q0 := 69) hdg hm hlk clX13 hcn wL_100 hk hb hS hc (fun v w' h => by
    obtain ⟨M', h1, rfl⟩ := h
    rw [← e]
    exact kk v M' h1) hS0
/-- a call of the class that throws, caught -/
theorem xl_catchC (hN : xNm N) (hX : ∀ s meth c A, X s meth c A → N s) {K' : eK} {b' : eB} {As : List Value} {index k : Nat} {E name : String} (pre : List ExceptionTableEntry) (x : ExceptionTableEntry) (suf : List ExceptionTableEntry) (hsplit : ∀ s meth c A, X s meth c A → c.exceptionTable.toList = pre ++ x :: suf) (hpass : ∀ s meth c A, X s meth c A → ∀ z ∈ pre, covers z pc = false ∨ (z.catchType ≠ 0 ∧ ∃ nm : String, Cond.classLink (kOwn K) z.catchType nm ∈ lw_tbl ∧ va_Nc E nm s)) (hx : covers x pc = true) (h0 : x.catchType ≠ 0) (hcl : Cond.classLink (kOwn K) x.catchType name ∈ lw_tbl) (hcast : Cond.castable E name ∈ lw_tbl)
    (hdg : decode (kCode K) pc = .ok (.invokevirtual index, 3)) (hm : eMV K' k) (hlk : Cond.methodLink (kOwn K) index (kY K') ∈ lw_tbl) (hcn : (kY K').cls = RX10) (hk : As.length = k) (hb : xFit R b' K' ca sl) (hS : (S.map fun v => v.category).sum ≤ 8)
    (hcal : CalX G 0 68 b' K' (.ref (G.1 0) :: As) M E) (kk : ∀ q : Nat, Ex X Z G R K x.handlerPc l [.ref q] (wL G o f M Mm) (ca + b'.2.1) (sl + b'.2.2)) {S0 : List Value} (hS0 : S0 = As.reverse ++ .ref (G.1 0) :: S) : Ex X Z G R K pc l S0 (wL G o f M Mm) ca sl :=
  x_catchV hN hX (q0 := 1) pre x suf hsplit hpass hx h0 hcl hcast hdg hm hlk clX10 hcn wL_0 hk hb hS (hcal.list N [(o, .inl (G.2.2.2 5, (1, .inr (.inl f))))] (eW G 100 40 Mm)) kk hS0
end WL
abbrev xXt (hh : xHH) : xX := fun s _ c _ => c.exceptionTable.toList = tableOf hh ∧ xN0 s
theorem zTwo {z : Nat} (h : z = 0 ∨ z = 1 ∨ z = 2) : z = 0 ∨ z = 1 ∨ z = 2 := h
theorem zc_feed (S : gS) (a1 a2 a3 a4 a5 : Int32) : ((z_feed S a1 a2 a3 a4 a5).1 = 0 ∨ (z_feed S a1 a2 a3 a4 a5).1 = 1) ∧ ((z_feed S a1 a2 a3 a4 a5).1 ≠ 0 → (z_feed S a1 a2 a3 a4 a5).2.2 = S) := by
  unfold z_feed
  repeat' split
  all_goals first | exact ⟨Or.inl rfl, fun h => absurd rfl h⟩ | exact ⟨Or.inr rfl, fun _ => rfl⟩
theorem zc_trim (S : gS) (a1 : Int32) : ((z_trim S a1).1 = 0 ∨ (z_trim S a1).1 = 1) ∧ ((z_trim S a1).1 ≠ 0 → (z_trim S a1).2.2 = S) := by
  unfold z_trim
  repeat' split
  all_goals first | exact ⟨Or.inl rfl, fun h => absurd rfl h⟩ | exact ⟨Or.inr rfl, fun _ => rfl⟩
theorem zc_hasTile (S : gS) (a1 : Int32) : ((z_hasTile S a1).1 = 0 ∨ (z_hasTile S a1).1 = 1) ∧ ((z_hasTile S a1).1 ≠ 0 → (z_hasTile S a1).2.2 = S) := by
  unfold z_hasTile
  repeat' split
  all_goals first | exact ⟨Or.inl rfl, fun h => absurd rfl h⟩ | exact ⟨Or.inr rfl, fun _ => rfl⟩
theorem zc_tileAt (S : gS) (a1 : Int32) : ((z_tileAt S a1).1 = 0 ∨ (z_tileAt S a1).1 = 1 ∨ (z_tileAt S a1).1 = 2) ∧ ((z_tileAt S a1).1 ≠ 0 → (z_tileAt S a1).2.2 = S) := by
  unfold z_tileAt
  repeat' split
  all_goals first | exact ⟨Or.inl rfl, fun h => absurd rfl h⟩ | exact ⟨Or.inr (Or.inl rfl), fun _ => rfl⟩ | exact ⟨Or.inr (Or.inr rfl), fun _ => rfl⟩
theorem zc_numberAt (S : gS) (a1 a2 : Int32) : ((z_numberAt S a1 a2).1 = 0 ∨ (z_numberAt S a1 a2).1 = 1 ∨ (z_numberAt S a1 a2).1 = 2) ∧ ((z_numberAt S a1 a2).1 ≠ 0 → (z_numberAt S a1 a2).2.2 = S) := by
  unfold z_numberAt
  repeat' split
  all_goals first | exact ⟨Or.inl rfl, fun h => absurd rfl h⟩ | exact ⟨Or.inr (Or.inl rfl), fun _ => rfl⟩ | exact ⟨Or.inr (Or.inr rfl), fun _ => rfl⟩
theorem zc_matchesOf (S : gS) (a1 : Int32) : ((z_matchesOf S a1).1 = 0 ∨ (z_matchesOf S a1).1 = 1) ∧ ((z_matchesOf S a1).1 ≠ 0 → (z_matchesOf S a1).2.2 = S) := by
  unfold z_matchesOf
  repeat' split
  all_goals first | exact ⟨Or.inl rfl, fun h => absurd rfl h⟩ | exact ⟨Or.inr rfl, fun _ => rfl⟩
theorem zc_isRing (S : gS) (a1 : Int32) : ((z_isRing S a1).1 = 0 ∨ (z_isRing S a1).1 = 1) ∧ ((z_isRing S a1).1 ≠ 0 → (z_isRing S a1).2.2 = S) := by
  unfold z_isRing
  repeat' split
  all_goals first | exact ⟨Or.inl rfl, fun h => absurd rfl h⟩ | exact ⟨Or.inr rfl, fun _ => rfl⟩
theorem zc_isPlaced (S : gS) (a1 : Int32) : ((z_isPlaced S a1).1 = 0 ∨ (z_isPlaced S a1).1 = 1) ∧ ((z_isPlaced S a1).1 ≠ 0 → (z_isPlaced S a1).2.2 = S) := by
  unfold z_isPlaced
  repeat' split
  all_goals first | exact ⟨Or.inl rfl, fun h => absurd rfl h⟩ | exact ⟨Or.inr rfl, fun _ => rfl⟩
theorem zc_cellOf (S : gS) (a1 : Int32) : ((z_cellOf S a1).1 = 0 ∨ (z_cellOf S a1).1 = 1 ∨ (z_cellOf S a1).1 = 2) ∧ ((z_cellOf S a1).1 ≠ 0 → (z_cellOf S a1).2.2 = S) := by
  unfold z_cellOf
  repeat' split
  all_goals first | exact ⟨Or.inl rfl, fun h => absurd rfl h⟩ | exact ⟨Or.inr (Or.inl rfl), fun _ => rfl⟩ | exact ⟨Or.inr (Or.inr rfl), fun _ => rfl⟩
theorem zc_turnOf (S : gS) (a1 : Int32) : ((z_turnOf S a1).1 = 0 ∨ (z_turnOf S a1).1 = 1 ∨ (z_turnOf S a1).1 = 2) ∧ ((z_turnOf S a1).1 ≠ 0 → (z_turnOf S a1).2.2 = S) := by
  unfold z_turnOf
  repeat' split
  all_goals first | exact ⟨Or.inl rfl, fun h => absurd rfl h⟩ | exact ⟨Or.inr (Or.inl rfl), fun _ => rfl⟩ | exact ⟨Or.inr (Or.inr rfl), fun _ => rfl⟩
theorem zc_fits (S : gS) (a1 a2 a3 : Int32) : ((z_fits S a1 a2 a3).1 = 0 ∨ (z_fits S a1 a2 a3).1 = 1) ∧ ((z_fits S a1 a2 a3).1 ≠ 0 → (z_fits S a1 a2 a3).2.2 = S) := by
  unfold z_fits
  repeat' split
  all_goals first | exact ⟨Or.inl rfl, fun h => absurd rfl h⟩ | exact ⟨Or.inr rfl, fun _ => rfl⟩
theorem zc_edgeAgainst (S : gS) (a1 a2 a3 : Int32) : ((z_edgeAgainst S a1 a2 a3).1 = 0 ∨ (z_edgeAgainst S a1 a2 a3).1 = 1) ∧ ((z_edgeAgainst S a1 a2 a3).1 ≠ 0 → (z_edgeAgainst S a1 a2 a3).2.2 = S) := by
  unfold z_edgeAgainst
  repeat' split
  all_goals first | exact ⟨Or.inl rfl, fun h => absurd rfl h⟩ | exact ⟨Or.inr rfl, fun _ => rfl⟩
theorem zc_waysOf (S : gS) (a1 : Int32) : ((z_waysOf S a1).1 = 0 ∨ (z_waysOf S a1).1 = 1) ∧ ((z_waysOf S a1).1 ≠ 0 → (z_waysOf S a1).2.2 = S) := by
  unfold z_waysOf
  repeat' split
  all_goals first | exact ⟨Or.inl rfl, fun h => absurd rfl h⟩ | exact ⟨Or.inr rfl, fun _ => rfl⟩
theorem zc_isLeftover (S : gS) (a1 : Int32) : ((z_isLeftover S a1).1 = 0 ∨ (z_isLeftover S a1).1 = 1) ∧ ((z_isLeftover S a1).1 ≠ 0 → (z_isLeftover S a1).2.2 = S) := by
  unfold z_isLeftover
  repeat' split
  all_goals first | exact ⟨Or.inl rfl, fun h => absurd rfl h⟩ | exact ⟨Or.inr rfl, fun _ => rfl⟩
theorem zc_looksToProve (S : gS) (a1 : Int32) : ((z_looks S a1).1 = 0 ∨ (z_looks S a1).1 = 1 ∨ (z_looks S a1).1 = 2) ∧ ((z_looks S a1).1 ≠ 0 → (z_looks S a1).2.2 = S) := by
  unfold z_looks
  repeat' split
  all_goals first | exact ⟨Or.inl rfl, fun h => absurd rfl h⟩ | exact ⟨Or.inr (Or.inl rfl), fun _ => rfl⟩ | exact ⟨Or.inr (Or.inr rfl), fun _ => rfl⟩
theorem zc_putTile (S : gS) (a1 a2 a3 : Int32) : ((z_putTile S a1 a2 a3).1 = 0 ∨ (z_putTile S a1 a2 a3).1 = 1 ∨ (z_putTile S a1 a2 a3).1 = 2) ∧ ((z_putTile S a1 a2 a3).1 ≠ 0 → (z_putTile S a1 a2 a3).2.2 = S) := by
  unfold z_putTile
  repeat' split
  all_goals first | exact ⟨Or.inl rfl, fun h => absurd rfl h⟩ | exact ⟨Or.inr (Or.inl rfl), fun _ => rfl⟩ | exact ⟨Or.inr (Or.inr rfl), fun _ => rfl⟩
theorem zc_takeTile (S : gS) (a1 : Int32) : ((z_takeTile S a1).1 = 0 ∨ (z_takeTile S a1).1 = 1 ∨ (z_takeTile S a1).1 = 2) ∧ ((z_takeTile S a1).1 ≠ 0 → (z_takeTile S a1).2.2 = S) := by
  unfold z_takeTile
  repeat' split
  all_goals first | exact ⟨Or.inl rfl, fun h => absurd rfl h⟩ | exact ⟨Or.inr (Or.inl rfl), fun _ => rfl⟩ | exact ⟨Or.inr (Or.inr rfl), fun _ => rfl⟩
theorem zc_fitTile (S : gS) (a1 : Int32) : ((z_fitTile S a1).1 = 0 ∨ (z_fitTile S a1).1 = 1 ∨ (z_fitTile S a1).1 = 2) ∧ ((z_fitTile S a1).1 ≠ 0 → (z_fitTile S a1).2.2 = S) := by
  unfold z_fitTile
  repeat' split
  all_goals first | exact ⟨Or.inl rfl, fun h => absurd rfl h⟩ | exact ⟨Or.inr (Or.inl rfl), fun _ => rfl⟩ | exact ⟨Or.inr (Or.inr rfl), fun _ => rfl⟩
theorem zc_playRounds (S : gS) (a1 : Int32) : ((z_playRounds S a1).1 = 0 ∨ (z_playRounds S a1).1 = 1) ∧ ((z_playRounds S a1).1 ≠ 0 → (z_playRounds S a1).2.2 = S) := by
  unfold z_playRounds
  repeat' split
  all_goals first | exact ⟨Or.inl rfl, fun h => absurd rfl h⟩ | exact ⟨Or.inr rfl, fun _ => rfl⟩
theorem zc_pointsAfter (S : gS) (a1 : Int32) : ((z_pointsAfter S a1).1 = 0 ∨ (z_pointsAfter S a1).1 = 1) ∧ ((z_pointsAfter S a1).1 ≠ 0 → (z_pointsAfter S a1).2.2 = S) := by
  unfold z_pointsAfter
  repeat' split
  all_goals first | exact ⟨Or.inl rfl, fun h => absurd rfl h⟩ | exact ⟨Or.inr rfl, fun _ => rfl⟩
theorem zc_bestCell (S : gS) (a1 : Int32) : ((z_bestCell S a1).1 = 0 ∨ (z_bestCell S a1).1 = 1 ∨ (z_bestCell S a1).1 = 2) ∧ ((z_bestCell S a1).1 ≠ 0 → (z_bestCell S a1).2.2 = S) := by
  unfold z_bestCell
  repeat' split
  all_goals first | exact ⟨Or.inl rfl, fun h => absurd rfl h⟩ | exact ⟨Or.inr (Or.inl rfl), fun _ => rfl⟩ | exact ⟨Or.inr (Or.inr rfl), fun _ => rfl⟩
theorem zc_bestTurn (S : gS) (a1 : Int32) : ((z_bestTurn S a1).1 = 0 ∨ (z_bestTurn S a1).1 = 1 ∨ (z_bestTurn S a1).1 = 2) ∧ ((z_bestTurn S a1).1 ≠ 0 → (z_bestTurn S a1).2.2 = S) := by
  unfold z_bestTurn
  repeat' split
  all_goals first | exact ⟨Or.inl rfl, fun h => absurd rfl h⟩ | exact ⟨Or.inr (Or.inl rfl), fun _ => rfl⟩ | exact ⟨Or.inr (Or.inr rfl), fun _ => rfl⟩
section Wrap
variable {G : eG}
set_option maxHeartbeats 4000000 in
set_option maxRecDepth 100000 in
theorem T_feed {M Mm : eM} {S : gS} (hs : sOk S) (hc : sC M S) (o : Nat) (f : Nat → Int64) (a1 a2 a3 a4 a5 : Int32) : xCalT G xN0 (12, 1, 6) kL_feed hhL_feed [.ref (G.1 0), .int a1, .int a2, .int a3, .int a4, .int a5, .ref o] (wL G o f M Mm) (fun v w' => ∃ f' M', v = some (.int (nI (z_feed S a1 a2 a3 a4 a5).1)) ∧ sC M' (z_feed S a1 a2 a3 a4 a5).2.2 ∧ ((z_feed S a1 a2 a3 a4 a5).1 = 0 → f' 0 = (z_feed S a1 a2 a3 a4 a5).2.1.toInt64) ∧ w' = wL G o f' M' Mm) := by
  refine xCalT.of (by decide +kernel) rfl (Nat.le_of_ble_eq_true rfl) ?_
  show Ex _ _ _ _ _ _ [(0, .ref (G.1 0)), (1, .int a1), (2, .int a2), (3, .int a3), (4, .int a4), (5, .int a5), (6, .ref o)] _ _ _ _
  have hP := P_feed (G := G) hs hc a1 a2 a3 a4 a5
  obtain ⟨hz, hst⟩ := zc_feed S a1 a2 a3 a4 a5
  refine x_aload 6 dL_feed_0 rfl ?_
  refine x_iconst (v := 0) dL_feed_2 rfl ?_
  refine x_aload_n 0 dL_feed_3 rfl rfl ?_
  refine x_iload_n 1 dL_feed_4 rfl rfl ?_
  refine x_iload_n 2 dL_feed_5 rfl rfl ?_
  refine x_iload_n 3 dL_feed_6 rfl rfl ?_
  refine x_iload 4 dL_feed_7 rfl ?_
  refine x_iload 5 dL_feed_9 rfl ?_
  rcases hz with hz | hz
  · refine xl_callC (X := xXt hhL_feed) (K := kL_feed) (R := eR (12, 1, 6)) (ca := 0) (sl := 0) (o := o) (f := f) (M := M) (Mm := Mm) xN0_m xXT (b' := (2, 0, 0)) (As := [.int a1, .int a2, .int a3, .int a4, .int a5]) (S := [.int 0, .ref o]) dL_feed_11 mX10_feed lML_7 rfl rfl (by exact ⟨⟨Nat.le_of_ble_eq_true rfl, Nat.le_of_ble_eq_true rfl⟩, ⟨Nat.le_of_ble_eq_true rfl, Nat.le_of_ble_eq_true rfl⟩⟩) (Nat.le_of_ble_eq_true rfl) (hP.1 hz (fun r M' => r = (z_feed S a1 a2 a3 a4 a5).2.1 ∧ sC M' (z_feed S a1 a2 a3 a4 a5).2.2) (fun M' h => ⟨rfl, h⟩)) (fun v M' h => ?_) rfl
    obtain ⟨r, rfl, rfl, h⟩ := h
    refine x_i2l dL_feed_14 ?_
    refine x_last (q0 := 0) (N := 1) (f := f) dL_feed_15 rfl (vp_in_nI (n := 0) (by decide) (by decide)) ?_
    refine x_goto (t := 23) dL_feed_16 (by decide) ?_
    refine x_iconst (v := 0) dL_feed_23 rfl ?_
    exact x_iret dL_feed_24 rfl (Nat.le_of_ble_eq_true rfl) (Nat.le_of_ble_eq_true rfl) ⟨vp_updL f (0 : Int32).toNatClampNeg (z_feed S a1 a2 a3 a4 a5).2.1.toInt64, M', by rw [hz]; rfl, h, fun _ => vp_updL_0 _ _, rfl⟩
  · refine xl_catchC (X := xXt hhL_feed) (K := kL_feed) (R := eR (12, 1, 6)) (ca := 0) (sl := 0) (o := o) (f := f) (M := M) (Mm := Mm) xN0_m xXT (b' := (10, 1, 6)) (As := [.int a1, .int a2, .int a3, .int a4, .int a5]) (S := [.int 0, .ref o]) (E := "java/lang/IllegalStateException") [] ⟨0, 16, 19, 13⟩ [] (fun _ _ _ _ h => h.1) (fun _ _ _ _ _ z hz => absurd hz List.not_mem_nil) (by decide) (by decide) xcl_13 xcast_ISE dL_feed_11 mX10_feed lML_7 rfl rfl (by exact ⟨⟨Nat.le_of_ble_eq_true rfl, Nat.le_of_ble_eq_true rfl⟩, ⟨Nat.le_of_ble_eq_true rfl, Nat.le_of_ble_eq_true rfl⟩⟩) (Nat.le_of_ble_eq_true rfl) (hP.2 hz) (fun q => ?_) rfl
    refine x_astore (l' := [(7, .ref q), (0, .ref (G.1 0)), (1, .int a1), (2, .int a2), (3, .int a3), (4, .int a4), (5, .int a5), (6, .ref o)]) dL_feed_19 (by decide) rfl ?_
    refine x_iconst (v := 1) dL_feed_21 rfl ?_
    exact x_iret dL_feed_22 rfl (Nat.le_of_ble_eq_true rfl) (Nat.le_of_ble_eq_true rfl) ⟨f, M, by rw [hz]; rfl, by rw [hst (by rw [hz]; decide)]; exact hc, fun h => absurd (hz.symm.trans h) (by decide), rfl⟩
set_option maxHeartbeats 4000000 in
set_option maxRecDepth 100000 in
theorem T_trim {M Mm : eM} {S : gS} (hs : sOk S) (hc : sC M S) (o : Nat) (f : Nat → Int64) (a1 : Int32) : xCalT G xN0 (12, 1, 6) kL_trim hhL_trim [.ref (G.1 0), .int a1, .ref o] (wL G o f M Mm) (fun v w' => ∃ f' M', v = some (.int (nI (z_trim S a1).1)) ∧ sC M' (z_trim S a1).2.2 ∧ ((z_trim S a1).1 = 0 → f' 0 = (z_trim S a1).2.1.toInt64) ∧ w' = wL G o f' M' Mm) := by
  refine xCalT.of (by decide +kernel) rfl (Nat.le_of_ble_eq_true rfl) ?_
  show Ex _ _ _ _ _ _ [(0, .ref (G.1 0)), (1, .int a1), (2, .ref o)] _ _ _ _
  have hP := P_trim (G := G) hs hc a1
  obtain ⟨hz, hst⟩ := zc_trim S a1
  refine x_aload_n 2 dL_trim_0 rfl rfl ?_
  refine x_iconst (v := 0) dL_trim_1 rfl ?_
  refine x_aload_n 0 dL_trim_2 rfl rfl ?_
  refine x_iload_n 1 dL_trim_3 rfl rfl ?_
  rcases hz with hz | hz
  · refine xl_callC (X := xXt hhL_trim) (K := kL_trim) (R := eR (12, 1, 6)) (ca := 0) (sl := 0) (o := o) (f := f) (M := M) (Mm := Mm) xN0_m xXT (b' := (1, 0, 0)) (As := [.int a1]) (S := [.int 0, .ref o]) dL_trim_4 mX10_trim lML_15 rfl rfl (by exact ⟨⟨Nat.le_of_ble_eq_true rfl, Nat.le_of_ble_eq_true rfl⟩, ⟨Nat.le_of_ble_eq_true rfl, Nat.le_of_ble_eq_true rfl⟩⟩) (Nat.le_of_ble_eq_true rfl) (hP.1 hz (fun r M' => r = (z_trim S a1).2.1 ∧ sC M' (z_trim S a1).2.2) (fun M' h => ⟨rfl, h⟩)) (fun v M' h => ?_) rfl
    obtain ⟨r, rfl, rfl, h⟩ := h
    refine x_i2l dL_trim_7 ?_
    refine x_last (q0 := 0) (N := 1) (f := f) dL_trim_8 rfl (vp_in_nI (n := 0) (by decide) (by decide)) ?_
    refine x_goto (t := 15) dL_trim_9 (by decide) ?_
    refine x_iconst (v := 0) dL_trim_15 rfl ?_
    exact x_iret dL_trim_16 rfl (Nat.le_of_ble_eq_true rfl) (Nat.le_of_ble_eq_true rfl) ⟨vp_updL f (0 : Int32).toNatClampNeg (z_trim S a1).2.1.toInt64, M', by rw [hz]; rfl, h, fun _ => vp_updL_0 _ _, rfl⟩
  · refine xl_catchC (X := xXt hhL_trim) (K := kL_trim) (R := eR (12, 1, 6)) (ca := 0) (sl := 0) (o := o) (f := f) (M := M) (Mm := Mm) xN0_m xXT (b' := (10, 1, 6)) (As := [.int a1]) (S := [.int 0, .ref o]) (E := "java/lang/IllegalArgumentException") [] ⟨0, 9, 12, 19⟩ [] (fun _ _ _ _ h => h.1) (fun _ _ _ _ _ z hz => absurd hz List.not_mem_nil) (by decide) (by decide) xcl_19 xcast_IAE dL_trim_4 mX10_trim lML_15 rfl rfl (by exact ⟨⟨Nat.le_of_ble_eq_true rfl, Nat.le_of_ble_eq_true rfl⟩, ⟨Nat.le_of_ble_eq_true rfl, Nat.le_of_ble_eq_true rfl⟩⟩) (Nat.le_of_ble_eq_true rfl) (hP.2 hz) (fun q => ?_) rfl
    refine x_astore_n (l' := [(3, .ref q), (0, .ref (G.1 0)), (1, .int a1), (2, .ref o)]) dL_trim_12 rfl (by decide) rfl ?_
    refine x_iconst (v := 1) dL_trim_13 rfl ?_
    exact x_iret dL_trim_14 rfl (Nat.le_of_ble_eq_true rfl) (Nat.le_of_ble_eq_true rfl) ⟨f, M, by rw [hz]; rfl, by rw [hst (by rw [hz]; decide)]; exact hc, fun h => absurd (hz.symm.trans h) (by decide), rfl⟩
set_option maxHeartbeats 4000000 in
set_option maxRecDepth 100000 in
theorem T_hasTile {M Mm : eM} {S : gS} (hs : sOk S) (hc : sC M S) (o : Nat) (f : Nat → Int64) (a1 : Int32) : xCalT G xN0 (12, 1, 6) kL_hasTile hhL_hasTile [.ref (G.1 0), .int a1, .ref o] (wL G o f M Mm) (fun v w' => ∃ f' M', v = some (.int (nI (z_hasTile S a1).1)) ∧ sC M' (z_hasTile S a1).2.2 ∧ ((z_hasTile S a1).1 = 0 → f' 0 = (if (z_hasTile S a1).2.1 then 1 else 0)) ∧ w' = wL G o f' M' Mm) := by
  refine xCalT.of (by decide +kernel) rfl (Nat.le_of_ble_eq_true rfl) ?_
  show Ex _ _ _ _ _ _ [(0, .ref (G.1 0)), (1, .int a1), (2, .ref o)] _ _ _ _
  have hP := P_hasTile (G := G) hs hc a1
  obtain ⟨hz, hst⟩ := zc_hasTile S a1
  refine x_aload_n 2 dL_hasTile_0 rfl rfl ?_
  refine x_iconst (v := 0) dL_hasTile_1 rfl ?_
  refine x_aload_n 0 dL_hasTile_2 rfl rfl ?_
  refine x_iload_n 1 dL_hasTile_3 rfl rfl ?_
  rcases hz with hz | hz
  · refine xl_callC (X := xXt hhL_hasTile) (K := kL_hasTile) (R := eR (12, 1, 6)) (ca := 0) (sl := 0) (o := o) (f := f) (M := M) (Mm := Mm) xN0_m xXT (b' := (2, 0, 0)) (As := [.int a1]) (S := [.int 0, .ref o]) dL_hasTile_4 mX10_hasTile lML_21 rfl rfl (by exact ⟨⟨Nat.le_of_ble_eq_true rfl, Nat.le_of_ble_eq_true rfl⟩, ⟨Nat.le_of_ble_eq_true rfl, Nat.le_of_ble_eq_true rfl⟩⟩) (Nat.le_of_ble_eq_true rfl) (hP.1 hz (fun r M' => r = (z_hasTile S a1).2.1 ∧ sC M' (z_hasTile S a1).2.2) (fun M' h => ⟨rfl, h⟩)) (fun v M' h => ?_) rfl
    obtain ⟨r, rfl, rfl, h⟩ := h
    refine x_zif_eq (t := 14) dL_hasTile_7 (by decide) (fun zz => ?_) (fun zz => ?_)
    · refine x_lconst (v := 0) dL_hasTile_14 rfl ?_
      refine x_last (q0 := 0) (N := 1) (f := f) dL_hasTile_15 rfl (vp_in_nI (n := 0) (by decide) (by decide)) ?_
      refine x_goto (t := 22) dL_hasTile_16 (by decide) ?_
      refine x_iconst (v := 0) dL_hasTile_22 rfl ?_
      exact x_iret dL_hasTile_23 rfl (Nat.le_of_ble_eq_true rfl) (Nat.le_of_ble_eq_true rfl) ⟨vp_updL f (0 : Int32).toNatClampNeg 0, M', by rw [hz]; rfl, h, fun _ => (vp_updL_0 _ _).trans (by rw [zz]; rfl), rfl⟩
    · refine x_lconst (v := 1) dL_hasTile_10 rfl ?_
      refine x_goto (t := 15) dL_hasTile_11 (by decide) ?_
      refine x_last (q0 := 0) (N := 1) (f := f) dL_hasTile_15 rfl (vp_in_nI (n := 0) (by decide) (by decide)) ?_
      refine x_goto (t := 22) dL_hasTile_16 (by decide) ?_
      refine x_iconst (v := 0) dL_hasTile_22 rfl ?_
      exact x_iret dL_hasTile_23 rfl (Nat.le_of_ble_eq_true rfl) (Nat.le_of_ble_eq_true rfl) ⟨vp_updL f (0 : Int32).toNatClampNeg 1, M', by rw [hz]; rfl, h, fun _ => (vp_updL_0 _ _).trans (by rw [zz]; rfl), rfl⟩
  · refine xl_catchC (X := xXt hhL_hasTile) (K := kL_hasTile) (R := eR (12, 1, 6)) (ca := 0) (sl := 0) (o := o) (f := f) (M := M) (Mm := Mm) xN0_m xXT (b' := (10, 1, 6)) (As := [.int a1]) (S := [.int 0, .ref o]) (E := "java/lang/IndexOutOfBoundsException") [] ⟨0, 16, 19, 25⟩ [] (fun _ _ _ _ h => h.1) (fun _ _ _ _ _ z hz => absurd hz List.not_mem_nil) (by decide) (by decide) xcl_25 xcast_IOE dL_hasTile_4 mX10_hasTile lML_21 rfl rfl (by exact ⟨⟨Nat.le_of_ble_eq_true rfl, Nat.le_of_ble_eq_true rfl⟩, ⟨Nat.le_of_ble_eq_true rfl, Nat.le_of_ble_eq_true rfl⟩⟩) (Nat.le_of_ble_eq_true rfl) (hP.2 hz) (fun q => ?_) rfl
    refine x_astore_n (l' := [(3, .ref q), (0, .ref (G.1 0)), (1, .int a1), (2, .ref o)]) dL_hasTile_19 rfl (by decide) rfl ?_
    refine x_iconst (v := 1) dL_hasTile_20 rfl ?_
    exact x_iret dL_hasTile_21 rfl (Nat.le_of_ble_eq_true rfl) (Nat.le_of_ble_eq_true rfl) ⟨f, M, by rw [hz]; rfl, by rw [hst (by rw [hz]; decide)]; exact hc, fun h => absurd (hz.symm.trans h) (by decide), rfl⟩
set_option maxHeartbeats 4000000 in
set_option maxRecDepth 100000 in
theorem T_tileAt {M Mm : eM} {S : gS} (hs : sOk S) (hc : sC M S) (o : Nat) (f : Nat → Int64) (a1 : Int32) : xCalT G xN0 (12, 1, 6) kL_tileAt hhL_tileAt [.ref (G.1 0), .int a1, .ref o] (wL G o f M Mm) (fun v w' => ∃ f' M', v = some (.int (nI (z_tileAt S a1).1)) ∧ sC M' (z_tileAt S a1).2.2 ∧ ((z_tileAt S a1).1 = 0 → f' 0 = (z_tileAt S a1).2.1.toInt64) ∧ w' = wL G o f' M' Mm) := by
  refine xCalT.of (by decide +kernel) rfl (Nat.le_of_ble_eq_true rfl) ?_
  show Ex _ _ _ _ _ _ [(0, .ref (G.1 0)), (1, .int a1), (2, .ref o)] _ _ _ _
  have hP := P_tileAt (G := G) hs hc a1
  obtain ⟨hz, hst⟩ := zc_tileAt S a1
  refine x_aload_n 2 dL_tileAt_0 rfl rfl ?_
  refine x_iconst (v := 0) dL_tileAt_1 rfl ?_
  refine x_aload_n 0 dL_tileAt_2 rfl rfl ?_
  refine x_iload_n 1 dL_tileAt_3 rfl rfl ?_
  rcases hz with hz | hz | hz
  · refine xl_callC (X := xXt hhL_tileAt) (K := kL_tileAt) (R := eR (12, 1, 6)) (ca := 0) (sl := 0) (o := o) (f := f) (M := M) (Mm := Mm) xN0_m xXT (b' := (2, 0, 0)) (As := [.int a1]) (S := [.int 0, .ref o]) dL_tileAt_4 mX10_tileAt lML_27 rfl rfl (by exact ⟨⟨Nat.le_of_ble_eq_true rfl, Nat.le_of_ble_eq_true rfl⟩, ⟨Nat.le_of_ble_eq_true rfl, Nat.le_of_ble_eq_true rfl⟩⟩) (Nat.le_of_ble_eq_true rfl) (hP.1 hz (fun r M' => r = (z_tileAt S a1).2.1 ∧ sC M' (z_tileAt S a1).2.2) (fun M' h => ⟨rfl, h⟩)) (fun v M' h => ?_) rfl
    obtain ⟨r, rfl, rfl, h⟩ := h
    refine x_i2l dL_tileAt_7 ?_
    refine x_last (q0 := 0) (N := 1) (f := f) dL_tileAt_8 rfl (vp_in_nI (n := 0) (by decide) (by decide)) ?_
    refine x_goto (t := 18) dL_tileAt_9 (by decide) ?_
    refine x_iconst (v := 0) dL_tileAt_18 rfl ?_
    exact x_iret dL_tileAt_19 rfl (Nat.le_of_ble_eq_true rfl) (Nat.le_of_ble_eq_true rfl) ⟨vp_updL f (0 : Int32).toNatClampNeg (z_tileAt S a1).2.1.toInt64, M', by rw [hz]; rfl, h, fun _ => vp_updL_0 _ _, rfl⟩
  · refine xl_catchC (X := xXt hhL_tileAt) (K := kL_tileAt) (R := eR (12, 1, 6)) (ca := 0) (sl := 0) (o := o) (f := f) (M := M) (Mm := Mm) xN0_m xXT (b' := (10, 1, 6)) (As := [.int a1]) (S := [.int 0, .ref o]) (E := "java/lang/IndexOutOfBoundsException") [] ⟨0, 9, 12, 25⟩ [⟨0, 9, 15, 13⟩] (fun _ _ _ _ h => h.1) (fun _ _ _ _ _ z hz => absurd hz List.not_mem_nil) (by decide) (by decide) xcl_25 xcast_IOE dL_tileAt_4 mX10_tileAt lML_27 rfl rfl (by exact ⟨⟨Nat.le_of_ble_eq_true rfl, Nat.le_of_ble_eq_true rfl⟩, ⟨Nat.le_of_ble_eq_true rfl, Nat.le_of_ble_eq_true rfl⟩⟩) (Nat.le_of_ble_eq_true rfl) (hP.2.1 hz) (fun q => ?_) rfl
    refine x_astore_n (l' := [(3, .ref q), (0, .ref (G.1 0)), (1, .int a1), (2, .ref o)]) dL_tileAt_12 rfl (by decide) rfl ?_
    refine x_iconst (v := 1) dL_tileAt_13 rfl ?_
    exact x_iret dL_tileAt_14 rfl (Nat.le_of_ble_eq_true rfl) (Nat.le_of_ble_eq_true rfl) ⟨f, M, by rw [hz]; rfl, by rw [hst (by rw [hz]; decide)]; exact hc, fun h => absurd (hz.symm.trans h) (by decide), rfl⟩
  · refine xl_catchC (X := xXt hhL_tileAt) (K := kL_tileAt) (R := eR (12, 1, 6)) (ca := 0) (sl := 0) (o := o) (f := f) (M := M) (Mm := Mm) xN0_m xXT (b' := (10, 1, 6)) (As := [.int a1]) (S := [.int 0, .ref o]) (E := "java/lang/IllegalStateException") [⟨0, 9, 12, 25⟩] ⟨0, 9, 15, 13⟩ [] (fun _ _ _ _ h => h.1) (fun s _ _ _ hX z hz => by rw [List.mem_singleton.mp hz]; exact Or.inr ⟨by decide, _, xcl_25, hX.2.2.2⟩) (by decide) (by decide) xcl_13 xcast_ISE dL_tileAt_4 mX10_tileAt lML_27 rfl rfl (by exact ⟨⟨Nat.le_of_ble_eq_true rfl, Nat.le_of_ble_eq_true rfl⟩, ⟨Nat.le_of_ble_eq_true rfl, Nat.le_of_ble_eq_true rfl⟩⟩) (Nat.le_of_ble_eq_true rfl) (hP.2.2 hz) (fun q => ?_) rfl
    refine x_astore_n (l' := [(3, .ref q), (0, .ref (G.1 0)), (1, .int a1), (2, .ref o)]) dL_tileAt_15 rfl (by decide) rfl ?_
    refine x_iconst (v := 2) dL_tileAt_16 rfl ?_
    exact x_iret dL_tileAt_17 rfl (Nat.le_of_ble_eq_true rfl) (Nat.le_of_ble_eq_true rfl) ⟨f, M, by rw [hz]; rfl, by rw [hst (by rw [hz]; decide)]; exact hc, fun h => absurd (hz.symm.trans h) (by decide), rfl⟩
set_option maxHeartbeats 4000000 in
set_option maxRecDepth 100000 in
theorem T_numberAt {M Mm : eM} {S : gS} (hs : sOk S) (hc : sC M S) (o : Nat) (f : Nat → Int64) (a1 a2 : Int32) : xCalT G xN0 (12, 1, 6) kL_numberAt hhL_numberAt [.ref (G.1 0), .int a1, .int a2, .ref o] (wL G o f M Mm) (fun v w' => ∃ f' M', v = some (.int (nI (z_numberAt S a1 a2).1)) ∧ sC M' (z_numberAt S a1 a2).2.2 ∧ ((z_numberAt S a1 a2).1 = 0 → f' 0 = (z_numberAt S a1 a2).2.1.toInt64) ∧ w' = wL G o f' M' Mm) := by
  refine xCalT.of (by decide +kernel) rfl (Nat.le_of_ble_eq_true rfl) ?_
  show Ex _ _ _ _ _ _ [(0, .ref (G.1 0)), (1, .int a1), (2, .int a2), (3, .ref o)] _ _ _ _
  have hP := P_numberAt (G := G) hs hc a1 a2
  obtain ⟨hz, hst⟩ := zc_numberAt S a1 a2
  refine x_aload_n 3 dL_numberAt_0 rfl rfl ?_
  refine x_iconst (v := 0) dL_numberAt_1 rfl ?_
  refine x_aload_n 0 dL_numberAt_2 rfl rfl ?_
  refine x_iload_n 1 dL_numberAt_3 rfl rfl ?_
  refine x_iload_n 2 dL_numberAt_4 rfl rfl ?_
  rcases hz with hz | hz | hz
  · refine xl_callC (X := xXt hhL_numberAt) (K := kL_numberAt) (R := eR (12, 1, 6)) (ca := 0) (sl := 0) (o := o) (f := f) (M := M) (Mm := Mm) xN0_m xXT (b' := (2, 0, 0)) (As := [.int a1, .int a2]) (S := [.int 0, .ref o]) dL_numberAt_5 mX10_numberAt lML_30 rfl rfl (by exact ⟨⟨Nat.le_of_ble_eq_true rfl, Nat.le_of_ble_eq_true rfl⟩, ⟨Nat.le_of_ble_eq_true rfl, Nat.le_of_ble_eq_true rfl⟩⟩) (Nat.le_of_ble_eq_true rfl) (hP.1 hz (fun r M' => r = (z_numberAt S a1 a2).2.1 ∧ sC M' (z_numberAt S a1 a2).2.2) (fun M' h => ⟨rfl, h⟩)) (fun v M' h => ?_) rfl
    obtain ⟨r, rfl, rfl, h⟩ := h
    refine x_i2l dL_numberAt_8 ?_
    refine x_last (q0 := 0) (N := 1) (f := f) dL_numberAt_9 rfl (vp_in_nI (n := 0) (by decide) (by decide)) ?_
    refine x_goto (t := 21) dL_numberAt_10 (by decide) ?_
    refine x_iconst (v := 0) dL_numberAt_21 rfl ?_
    exact x_iret dL_numberAt_22 rfl (Nat.le_of_ble_eq_true rfl) (Nat.le_of_ble_eq_true rfl) ⟨vp_updL f (0 : Int32).toNatClampNeg (z_numberAt S a1 a2).2.1.toInt64, M', by rw [hz]; rfl, h, fun _ => vp_updL_0 _ _, rfl⟩
  · refine xl_catchC (X := xXt hhL_numberAt) (K := kL_numberAt) (R := eR (12, 1, 6)) (ca := 0) (sl := 0) (o := o) (f := f) (M := M) (Mm := Mm) xN0_m xXT (b' := (10, 1, 6)) (As := [.int a1, .int a2]) (S := [.int 0, .ref o]) (E := "java/lang/IndexOutOfBoundsException") [] ⟨0, 10, 13, 25⟩ [⟨0, 10, 17, 13⟩] (fun _ _ _ _ h => h.1) (fun _ _ _ _ _ z hz => absurd hz List.not_mem_nil) (by decide) (by decide) xcl_25 xcast_IOE dL_numberAt_5 mX10_numberAt lML_30 rfl rfl (by exact ⟨⟨Nat.le_of_ble_eq_true rfl, Nat.le_of_ble_eq_true rfl⟩, ⟨Nat.le_of_ble_eq_true rfl, Nat.le_of_ble_eq_true rfl⟩⟩) (Nat.le_of_ble_eq_true rfl) (hP.2.1 hz) (fun q => ?_) rfl
    refine x_astore (l' := [(4, .ref q), (0, .ref (G.1 0)), (1, .int a1), (2, .int a2), (3, .ref o)]) dL_numberAt_13 (by decide) rfl ?_
    refine x_iconst (v := 1) dL_numberAt_15 rfl ?_
    exact x_iret dL_numberAt_16 rfl (Nat.le_of_ble_eq_true rfl) (Nat.le_of_ble_eq_true rfl) ⟨f, M, by rw [hz]; rfl, by rw [hst (by rw [hz]; decide)]; exact hc, fun h => absurd (hz.symm.trans h) (by decide), rfl⟩
  · refine xl_catchC (X := xXt hhL_numberAt) (K := kL_numberAt) (R := eR (12, 1, 6)) (ca := 0) (sl := 0) (o := o) (f := f) (M := M) (Mm := Mm) xN0_m xXT (b' := (10, 1, 6)) (As := [.int a1, .int a2]) (S := [.int 0, .ref o]) (E := "java/lang/IllegalStateException") [⟨0, 10, 13, 25⟩] ⟨0, 10, 17, 13⟩ [] (fun _ _ _ _ h => h.1) (fun s _ _ _ hX z hz => by rw [List.mem_singleton.mp hz]; exact Or.inr ⟨by decide, _, xcl_25, hX.2.2.2⟩) (by decide) (by decide) xcl_13 xcast_ISE dL_numberAt_5 mX10_numberAt lML_30 rfl rfl (by exact ⟨⟨Nat.le_of_ble_eq_true rfl, Nat.le_of_ble_eq_true rfl⟩, ⟨Nat.le_of_ble_eq_true rfl, Nat.le_of_ble_eq_true rfl⟩⟩) (Nat.le_of_ble_eq_true rfl) (hP.2.2 hz) (fun q => ?_) rfl
    refine x_astore (l' := [(4, .ref q), (0, .ref (G.1 0)), (1, .int a1), (2, .int a2), (3, .ref o)]) dL_numberAt_17 (by decide) rfl ?_
    refine x_iconst (v := 2) dL_numberAt_19 rfl ?_
    exact x_iret dL_numberAt_20 rfl (Nat.le_of_ble_eq_true rfl) (Nat.le_of_ble_eq_true rfl) ⟨f, M, by rw [hz]; rfl, by rw [hst (by rw [hz]; decide)]; exact hc, fun h => absurd (hz.symm.trans h) (by decide), rfl⟩
set_option maxHeartbeats 4000000 in
set_option maxRecDepth 100000 in
theorem T_matchesOf {M Mm : eM} {S : gS} (hs : sOk S) (hc : sC M S) (o : Nat) (f : Nat → Int64) (a1 : Int32) : xCalT G xN0 (12, 1, 6) kL_matchesOf hhL_matchesOf [.ref (G.1 0), .int a1, .ref o] (wL G o f M Mm) (fun v w' => ∃ f' M', v = some (.int (nI (z_matchesOf S a1).1)) ∧ sC M' (z_matchesOf S a1).2.2 ∧ ((z_matchesOf S a1).1 = 0 → f' 0 = (z_matchesOf S a1).2.1.toInt64) ∧ w' = wL G o f' M' Mm) := by
  refine xCalT.of (by decide +kernel) rfl (Nat.le_of_ble_eq_true rfl) ?_
  show Ex _ _ _ _ _ _ [(0, .ref (G.1 0)), (1, .int a1), (2, .ref o)] _ _ _ _
  have hP := P_matchesOf (G := G) hs hc a1
  obtain ⟨hz, hst⟩ := zc_matchesOf S a1
  refine x_aload_n 2 dL_matchesOf_0 rfl rfl ?_
  refine x_iconst (v := 0) dL_matchesOf_1 rfl ?_
  refine x_aload_n 0 dL_matchesOf_2 rfl rfl ?_
  refine x_iload_n 1 dL_matchesOf_3 rfl rfl ?_
  rcases hz with hz | hz
  · refine xl_callC (X := xXt hhL_matchesOf) (K := kL_matchesOf) (R := eR (12, 1, 6)) (ca := 0) (sl := 0) (o := o) (f := f) (M := M) (Mm := Mm) xN0_m xXT (b' := (2, 0, 0)) (As := [.int a1]) (S := [.int 0, .ref o]) dL_matchesOf_4 mX10_matchesOf lML_34 rfl rfl (by exact ⟨⟨Nat.le_of_ble_eq_true rfl, Nat.le_of_ble_eq_true rfl⟩, ⟨Nat.le_of_ble_eq_true rfl, Nat.le_of_ble_eq_true rfl⟩⟩) (Nat.le_of_ble_eq_true rfl) (hP.1 hz (fun r M' => r = (z_matchesOf S a1).2.1 ∧ sC M' (z_matchesOf S a1).2.2) (fun M' h => ⟨rfl, h⟩)) (fun v M' h => ?_) rfl
    obtain ⟨r, rfl, rfl, h⟩ := h
    refine x_i2l dL_matchesOf_7 ?_
    refine x_last (q0 := 0) (N := 1) (f := f) dL_matchesOf_8 rfl (vp_in_nI (n := 0) (by decide) (by decide)) ?_
    refine x_goto (t := 15) dL_matchesOf_9 (by decide) ?_
    refine x_iconst (v := 0) dL_matchesOf_15 rfl ?_
    exact x_iret dL_matchesOf_16 rfl (Nat.le_of_ble_eq_true rfl) (Nat.le_of_ble_eq_true rfl) ⟨vp_updL f (0 : Int32).toNatClampNeg (z_matchesOf S a1).2.1.toInt64, M', by rw [hz]; rfl, h, fun _ => vp_updL_0 _ _, rfl⟩
  · refine xl_catchC (X := xXt hhL_matchesOf) (K := kL_matchesOf) (R := eR (12, 1, 6)) (ca := 0) (sl := 0) (o := o) (f := f) (M := M) (Mm := Mm) xN0_m xXT (b' := (10, 1, 6)) (As := [.int a1]) (S := [.int 0, .ref o]) (E := "java/lang/IndexOutOfBoundsException") [] ⟨0, 9, 12, 25⟩ [] (fun _ _ _ _ h => h.1) (fun _ _ _ _ _ z hz => absurd hz List.not_mem_nil) (by decide) (by decide) xcl_25 xcast_IOE dL_matchesOf_4 mX10_matchesOf lML_34 rfl rfl (by exact ⟨⟨Nat.le_of_ble_eq_true rfl, Nat.le_of_ble_eq_true rfl⟩, ⟨Nat.le_of_ble_eq_true rfl, Nat.le_of_ble_eq_true rfl⟩⟩) (Nat.le_of_ble_eq_true rfl) (hP.2 hz) (fun q => ?_) rfl
    refine x_astore_n (l' := [(3, .ref q), (0, .ref (G.1 0)), (1, .int a1), (2, .ref o)]) dL_matchesOf_12 rfl (by decide) rfl ?_
    refine x_iconst (v := 1) dL_matchesOf_13 rfl ?_
    exact x_iret dL_matchesOf_14 rfl (Nat.le_of_ble_eq_true rfl) (Nat.le_of_ble_eq_true rfl) ⟨f, M, by rw [hz]; rfl, by rw [hst (by rw [hz]; decide)]; exact hc, fun h => absurd (hz.symm.trans h) (by decide), rfl⟩
set_option maxHeartbeats 4000000 in
set_option maxRecDepth 100000 in
theorem T_isRing {M Mm : eM} {S : gS} (hs : sOk S) (hc : sC M S) (o : Nat) (f : Nat → Int64) (a1 : Int32) : xCalT G xN0 (12, 1, 6) kL_isRing hhL_isRing [.ref (G.1 0), .int a1, .ref o] (wL G o f M Mm) (fun v w' => ∃ f' M', v = some (.int (nI (z_isRing S a1).1)) ∧ sC M' (z_isRing S a1).2.2 ∧ ((z_isRing S a1).1 = 0 → f' 0 = (if (z_isRing S a1).2.1 then 1 else 0)) ∧ w' = wL G o f' M' Mm) := by
  refine xCalT.of (by decide +kernel) rfl (Nat.le_of_ble_eq_true rfl) ?_
  show Ex _ _ _ _ _ _ [(0, .ref (G.1 0)), (1, .int a1), (2, .ref o)] _ _ _ _
  have hP := P_isRing (G := G) hs hc a1
  obtain ⟨hz, hst⟩ := zc_isRing S a1
  refine x_aload_n 2 dL_isRing_0 rfl rfl ?_
  refine x_iconst (v := 0) dL_isRing_1 rfl ?_
  refine x_aload_n 0 dL_isRing_2 rfl rfl ?_
  refine x_iload_n 1 dL_isRing_3 rfl rfl ?_
  rcases hz with hz | hz
  · refine xl_callC (X := xXt hhL_isRing) (K := kL_isRing) (R := eR (12, 1, 6)) (ca := 0) (sl := 0) (o := o) (f := f) (M := M) (Mm := Mm) xN0_m xXT (b' := (2, 0, 0)) (As := [.int a1]) (S := [.int 0, .ref o]) dL_isRing_4 mX10_isRing lML_37 rfl rfl (by exact ⟨⟨Nat.le_of_ble_eq_true rfl, Nat.le_of_ble_eq_true rfl⟩, ⟨Nat.le_of_ble_eq_true rfl, Nat.le_of_ble_eq_true rfl⟩⟩) (Nat.le_of_ble_eq_true rfl) (hP.1 hz (fun r M' => r = (z_isRing S a1).2.1 ∧ sC M' (z_isRing S a1).2.2) (fun M' h => ⟨rfl, h⟩)) (fun v M' h => ?_) rfl
    obtain ⟨r, rfl, rfl, h⟩ := h
    refine x_zif_eq (t := 14) dL_isRing_7 (by decide) (fun zz => ?_) (fun zz => ?_)
    · refine x_lconst (v := 0) dL_isRing_14 rfl ?_
      refine x_last (q0 := 0) (N := 1) (f := f) dL_isRing_15 rfl (vp_in_nI (n := 0) (by decide) (by decide)) ?_
      refine x_goto (t := 22) dL_isRing_16 (by decide) ?_
      refine x_iconst (v := 0) dL_isRing_22 rfl ?_
      exact x_iret dL_isRing_23 rfl (Nat.le_of_ble_eq_true rfl) (Nat.le_of_ble_eq_true rfl) ⟨vp_updL f (0 : Int32).toNatClampNeg 0, M', by rw [hz]; rfl, h, fun _ => (vp_updL_0 _ _).trans (by rw [zz]; rfl), rfl⟩
    · refine x_lconst (v := 1) dL_isRing_10 rfl ?_
      refine x_goto (t := 15) dL_isRing_11 (by decide) ?_
      refine x_last (q0 := 0) (N := 1) (f := f) dL_isRing_15 rfl (vp_in_nI (n := 0) (by decide) (by decide)) ?_
      refine x_goto (t := 22) dL_isRing_16 (by decide) ?_
      refine x_iconst (v := 0) dL_isRing_22 rfl ?_
      exact x_iret dL_isRing_23 rfl (Nat.le_of_ble_eq_true rfl) (Nat.le_of_ble_eq_true rfl) ⟨vp_updL f (0 : Int32).toNatClampNeg 1, M', by rw [hz]; rfl, h, fun _ => (vp_updL_0 _ _).trans (by rw [zz]; rfl), rfl⟩
  · refine xl_catchC (X := xXt hhL_isRing) (K := kL_isRing) (R := eR (12, 1, 6)) (ca := 0) (sl := 0) (o := o) (f := f) (M := M) (Mm := Mm) xN0_m xXT (b' := (10, 1, 6)) (As := [.int a1]) (S := [.int 0, .ref o]) (E := "java/lang/IndexOutOfBoundsException") [] ⟨0, 16, 19, 25⟩ [] (fun _ _ _ _ h => h.1) (fun _ _ _ _ _ z hz => absurd hz List.not_mem_nil) (by decide) (by decide) xcl_25 xcast_IOE dL_isRing_4 mX10_isRing lML_37 rfl rfl (by exact ⟨⟨Nat.le_of_ble_eq_true rfl, Nat.le_of_ble_eq_true rfl⟩, ⟨Nat.le_of_ble_eq_true rfl, Nat.le_of_ble_eq_true rfl⟩⟩) (Nat.le_of_ble_eq_true rfl) (hP.2 hz) (fun q => ?_) rfl
    refine x_astore_n (l' := [(3, .ref q), (0, .ref (G.1 0)), (1, .int a1), (2, .ref o)]) dL_isRing_19 rfl (by decide) rfl ?_
    refine x_iconst (v := 1) dL_isRing_20 rfl ?_
    exact x_iret dL_isRing_21 rfl (Nat.le_of_ble_eq_true rfl) (Nat.le_of_ble_eq_true rfl) ⟨f, M, by rw [hz]; rfl, by rw [hst (by rw [hz]; decide)]; exact hc, fun h => absurd (hz.symm.trans h) (by decide), rfl⟩
set_option maxHeartbeats 4000000 in
set_option maxRecDepth 100000 in
theorem T_isPlaced {M Mm : eM} {S : gS} (hs : sOk S) (hc : sC M S) (o : Nat) (f : Nat → Int64) (a1 : Int32) : xCalT G xN0 (12, 1, 6) kL_isPlaced hhL_isPlaced [.ref (G.1 0), .int a1, .ref o] (wL G o f M Mm) (fun v w' => ∃ f' M', v = some (.int (nI (z_isPlaced S a1).1)) ∧ sC M' (z_isPlaced S a1).2.2 ∧ ((z_isPlaced S a1).1 = 0 → f' 0 = (if (z_isPlaced S a1).2.1 then 1 else 0)) ∧ w' = wL G o f' M' Mm) := by
  refine xCalT.of (by decide +kernel) rfl (Nat.le_of_ble_eq_true rfl) ?_
  show Ex _ _ _ _ _ _ [(0, .ref (G.1 0)), (1, .int a1), (2, .ref o)] _ _ _ _
  have hP := P_isPlaced (G := G) hs hc a1
  obtain ⟨hz, hst⟩ := zc_isPlaced S a1
  refine x_aload_n 2 dL_isPlaced_0 rfl rfl ?_
  refine x_iconst (v := 0) dL_isPlaced_1 rfl ?_
  refine x_aload_n 0 dL_isPlaced_2 rfl rfl ?_
  refine x_iload_n 1 dL_isPlaced_3 rfl rfl ?_
  rcases hz with hz | hz
  · refine xl_callC (X := xXt hhL_isPlaced) (K := kL_isPlaced) (R := eR (12, 1, 6)) (ca := 0) (sl := 0) (o := o) (f := f) (M := M) (Mm := Mm) xN0_m xXT (b' := (3, 0, 0)) (As := [.int a1]) (S := [.int 0, .ref o]) dL_isPlaced_4 mX10_isPlaced lML_40 rfl rfl (by exact ⟨⟨Nat.le_of_ble_eq_true rfl, Nat.le_of_ble_eq_true rfl⟩, ⟨Nat.le_of_ble_eq_true rfl, Nat.le_of_ble_eq_true rfl⟩⟩) (Nat.le_of_ble_eq_true rfl) (hP.1 hz (fun r M' => r = (z_isPlaced S a1).2.1 ∧ sC M' (z_isPlaced S a1).2.2) (fun M' h => ⟨rfl, h⟩)) (fun v M' h => ?_) rfl
    obtain ⟨r, rfl, rfl, h⟩ := h
    refine x_zif_eq (t := 14) dL_isPlaced_7 (by decide) (fun zz => ?_) (fun zz => ?_)
    · refine x_lconst (v := 0) dL_isPlaced_14 rfl ?_
      refine x_last (q0 := 0) (N := 1) (f := f) dL_isPlaced_15 rfl (vp_in_nI (n := 0) (by decide) (by decide)) ?_
      refine x_goto (t := 22) dL_isPlaced_16 (by decide) ?_
      refine x_iconst (v := 0) dL_isPlaced_22 rfl ?_
      exact x_iret dL_isPlaced_23 rfl (Nat.le_of_ble_eq_true rfl) (Nat.le_of_ble_eq_true rfl) ⟨vp_updL f (0 : Int32).toNatClampNeg 0, M', by rw [hz]; rfl, h, fun _ => (vp_updL_0 _ _).trans (by rw [zz]; rfl), rfl⟩
    · refine x_lconst (v := 1) dL_isPlaced_10 rfl ?_
      refine x_goto (t := 15) dL_isPlaced_11 (by decide) ?_
      refine x_last (q0 := 0) (N := 1) (f := f) dL_isPlaced_15 rfl (vp_in_nI (n := 0) (by decide) (by decide)) ?_
      refine x_goto (t := 22) dL_isPlaced_16 (by decide) ?_
      refine x_iconst (v := 0) dL_isPlaced_22 rfl ?_
      exact x_iret dL_isPlaced_23 rfl (Nat.le_of_ble_eq_true rfl) (Nat.le_of_ble_eq_true rfl) ⟨vp_updL f (0 : Int32).toNatClampNeg 1, M', by rw [hz]; rfl, h, fun _ => (vp_updL_0 _ _).trans (by rw [zz]; rfl), rfl⟩
  · refine xl_catchC (X := xXt hhL_isPlaced) (K := kL_isPlaced) (R := eR (12, 1, 6)) (ca := 0) (sl := 0) (o := o) (f := f) (M := M) (Mm := Mm) xN0_m xXT (b' := (10, 1, 6)) (As := [.int a1]) (S := [.int 0, .ref o]) (E := "java/lang/IndexOutOfBoundsException") [] ⟨0, 16, 19, 25⟩ [] (fun _ _ _ _ h => h.1) (fun _ _ _ _ _ z hz => absurd hz List.not_mem_nil) (by decide) (by decide) xcl_25 xcast_IOE dL_isPlaced_4 mX10_isPlaced lML_40 rfl rfl (by exact ⟨⟨Nat.le_of_ble_eq_true rfl, Nat.le_of_ble_eq_true rfl⟩, ⟨Nat.le_of_ble_eq_true rfl, Nat.le_of_ble_eq_true rfl⟩⟩) (Nat.le_of_ble_eq_true rfl) (hP.2 hz) (fun q => ?_) rfl
    refine x_astore_n (l' := [(3, .ref q), (0, .ref (G.1 0)), (1, .int a1), (2, .ref o)]) dL_isPlaced_19 rfl (by decide) rfl ?_
    refine x_iconst (v := 1) dL_isPlaced_20 rfl ?_
    exact x_iret dL_isPlaced_21 rfl (Nat.le_of_ble_eq_true rfl) (Nat.le_of_ble_eq_true rfl) ⟨f, M, by rw [hz]; rfl, by rw [hst (by rw [hz]; decide)]; exact hc, fun h => absurd (hz.symm.trans h) (by decide), rfl⟩
set_option maxHeartbeats 4000000 in
set_option maxRecDepth 100000 in
theorem T_cellOf {M Mm : eM} {S : gS} (hs : sOk S) (hc : sC M S) (o : Nat) (f : Nat → Int64) (a1 : Int32) : xCalT G xN0 (12, 1, 6) kL_cellOf hhL_cellOf [.ref (G.1 0), .int a1, .ref o] (wL G o f M Mm) (fun v w' => ∃ f' M', v = some (.int (nI (z_cellOf S a1).1)) ∧ sC M' (z_cellOf S a1).2.2 ∧ ((z_cellOf S a1).1 = 0 → f' 0 = (z_cellOf S a1).2.1.toInt64) ∧ w' = wL G o f' M' Mm) := by
  refine xCalT.of (by decide +kernel) rfl (Nat.le_of_ble_eq_true rfl) ?_
  show Ex _ _ _ _ _ _ [(0, .ref (G.1 0)), (1, .int a1), (2, .ref o)] _ _ _ _
  have hP := P_cellOf (G := G) hs hc a1
  obtain ⟨hz, hst⟩ := zc_cellOf S a1
  refine x_aload_n 2 dL_cellOf_0 rfl rfl ?_
  refine x_iconst (v := 0) dL_cellOf_1 rfl ?_
  refine x_aload_n 0 dL_cellOf_2 rfl rfl ?_
  refine x_iload_n 1 dL_cellOf_3 rfl rfl ?_
  rcases hz with hz | hz | hz
  · refine xl_callC (X := xXt hhL_cellOf) (K := kL_cellOf) (R := eR (12, 1, 6)) (ca := 0) (sl := 0) (o := o) (f := f) (M := M) (Mm := Mm) xN0_m xXT (b' := (4, 0, 0)) (As := [.int a1]) (S := [.int 0, .ref o]) dL_cellOf_4 mX10_cellOf lML_43 rfl rfl (by exact ⟨⟨Nat.le_of_ble_eq_true rfl, Nat.le_of_ble_eq_true rfl⟩, ⟨Nat.le_of_ble_eq_true rfl, Nat.le_of_ble_eq_true rfl⟩⟩) (Nat.le_of_ble_eq_true rfl) (hP.1 hz (fun r M' => r = (z_cellOf S a1).2.1 ∧ sC M' (z_cellOf S a1).2.2) (fun M' h => ⟨rfl, h⟩)) (fun v M' h => ?_) rfl
    obtain ⟨r, rfl, rfl, h⟩ := h
    refine x_i2l dL_cellOf_7 ?_
    refine x_last (q0 := 0) (N := 1) (f := f) dL_cellOf_8 rfl (vp_in_nI (n := 0) (by decide) (by decide)) ?_
    refine x_goto (t := 18) dL_cellOf_9 (by decide) ?_
    refine x_iconst (v := 0) dL_cellOf_18 rfl ?_
    exact x_iret dL_cellOf_19 rfl (Nat.le_of_ble_eq_true rfl) (Nat.le_of_ble_eq_true rfl) ⟨vp_updL f (0 : Int32).toNatClampNeg (z_cellOf S a1).2.1.toInt64, M', by rw [hz]; rfl, h, fun _ => vp_updL_0 _ _, rfl⟩
  · refine xl_catchC (X := xXt hhL_cellOf) (K := kL_cellOf) (R := eR (12, 1, 6)) (ca := 0) (sl := 0) (o := o) (f := f) (M := M) (Mm := Mm) xN0_m xXT (b' := (10, 1, 6)) (As := [.int a1]) (S := [.int 0, .ref o]) (E := "java/lang/IndexOutOfBoundsException") [] ⟨0, 9, 12, 25⟩ [⟨0, 9, 15, 13⟩] (fun _ _ _ _ h => h.1) (fun _ _ _ _ _ z hz => absurd hz List.not_mem_nil) (by decide) (by decide) xcl_25 xcast_IOE dL_cellOf_4 mX10_cellOf lML_43 rfl rfl (by exact ⟨⟨Nat.le_of_ble_eq_true rfl, Nat.le_of_ble_eq_true rfl⟩, ⟨Nat.le_of_ble_eq_true rfl, Nat.le_of_ble_eq_true rfl⟩⟩) (Nat.le_of_ble_eq_true rfl) (hP.2.1 hz) (fun q => ?_) rfl
    refine x_astore_n (l' := [(3, .ref q), (0, .ref (G.1 0)), (1, .int a1), (2, .ref o)]) dL_cellOf_12 rfl (by decide) rfl ?_
    refine x_iconst (v := 1) dL_cellOf_13 rfl ?_
    exact x_iret dL_cellOf_14 rfl (Nat.le_of_ble_eq_true rfl) (Nat.le_of_ble_eq_true rfl) ⟨f, M, by rw [hz]; rfl, by rw [hst (by rw [hz]; decide)]; exact hc, fun h => absurd (hz.symm.trans h) (by decide), rfl⟩
  · refine xl_catchC (X := xXt hhL_cellOf) (K := kL_cellOf) (R := eR (12, 1, 6)) (ca := 0) (sl := 0) (o := o) (f := f) (M := M) (Mm := Mm) xN0_m xXT (b' := (10, 1, 6)) (As := [.int a1]) (S := [.int 0, .ref o]) (E := "java/lang/IllegalStateException") [⟨0, 9, 12, 25⟩] ⟨0, 9, 15, 13⟩ [] (fun _ _ _ _ h => h.1) (fun s _ _ _ hX z hz => by rw [List.mem_singleton.mp hz]; exact Or.inr ⟨by decide, _, xcl_25, hX.2.2.2⟩) (by decide) (by decide) xcl_13 xcast_ISE dL_cellOf_4 mX10_cellOf lML_43 rfl rfl (by exact ⟨⟨Nat.le_of_ble_eq_true rfl, Nat.le_of_ble_eq_true rfl⟩, ⟨Nat.le_of_ble_eq_true rfl, Nat.le_of_ble_eq_true rfl⟩⟩) (Nat.le_of_ble_eq_true rfl) (hP.2.2 hz) (fun q => ?_) rfl
    refine x_astore_n (l' := [(3, .ref q), (0, .ref (G.1 0)), (1, .int a1), (2, .ref o)]) dL_cellOf_15 rfl (by decide) rfl ?_
    refine x_iconst (v := 2) dL_cellOf_16 rfl ?_
    exact x_iret dL_cellOf_17 rfl (Nat.le_of_ble_eq_true rfl) (Nat.le_of_ble_eq_true rfl) ⟨f, M, by rw [hz]; rfl, by rw [hst (by rw [hz]; decide)]; exact hc, fun h => absurd (hz.symm.trans h) (by decide), rfl⟩
set_option maxHeartbeats 4000000 in
set_option maxRecDepth 100000 in
theorem T_turnOf {M Mm : eM} {S : gS} (hs : sOk S) (hc : sC M S) (o : Nat) (f : Nat → Int64) (a1 : Int32) : xCalT G xN0 (12, 1, 6) kL_turnOf hhL_turnOf [.ref (G.1 0), .int a1, .ref o] (wL G o f M Mm) (fun v w' => ∃ f' M', v = some (.int (nI (z_turnOf S a1).1)) ∧ sC M' (z_turnOf S a1).2.2 ∧ ((z_turnOf S a1).1 = 0 → f' 0 = (z_turnOf S a1).2.1.toInt64) ∧ w' = wL G o f' M' Mm) := by
  refine xCalT.of (by decide +kernel) rfl (Nat.le_of_ble_eq_true rfl) ?_
  show Ex _ _ _ _ _ _ [(0, .ref (G.1 0)), (1, .int a1), (2, .ref o)] _ _ _ _
  have hP := P_turnOf (G := G) hs hc a1
  obtain ⟨hz, hst⟩ := zc_turnOf S a1
  refine x_aload_n 2 dL_turnOf_0 rfl rfl ?_
  refine x_iconst (v := 0) dL_turnOf_1 rfl ?_
  refine x_aload_n 0 dL_turnOf_2 rfl rfl ?_
  refine x_iload_n 1 dL_turnOf_3 rfl rfl ?_
  rcases hz with hz | hz | hz
  · refine xl_callC (X := xXt hhL_turnOf) (K := kL_turnOf) (R := eR (12, 1, 6)) (ca := 0) (sl := 0) (o := o) (f := f) (M := M) (Mm := Mm) xN0_m xXT (b' := (4, 0, 0)) (As := [.int a1]) (S := [.int 0, .ref o]) dL_turnOf_4 mX10_turnOf lML_46 rfl rfl (by exact ⟨⟨Nat.le_of_ble_eq_true rfl, Nat.le_of_ble_eq_true rfl⟩, ⟨Nat.le_of_ble_eq_true rfl, Nat.le_of_ble_eq_true rfl⟩⟩) (Nat.le_of_ble_eq_true rfl) (hP.1 hz (fun r M' => r = (z_turnOf S a1).2.1 ∧ sC M' (z_turnOf S a1).2.2) (fun M' h => ⟨rfl, h⟩)) (fun v M' h => ?_) rfl
    obtain ⟨r, rfl, rfl, h⟩ := h
    refine x_i2l dL_turnOf_7 ?_
    refine x_last (q0 := 0) (N := 1) (f := f) dL_turnOf_8 rfl (vp_in_nI (n := 0) (by decide) (by decide)) ?_
    refine x_goto (t := 18) dL_turnOf_9 (by decide) ?_
    refine x_iconst (v := 0) dL_turnOf_18 rfl ?_
    exact x_iret dL_turnOf_19 rfl (Nat.le_of_ble_eq_true rfl) (Nat.le_of_ble_eq_true rfl) ⟨vp_updL f (0 : Int32).toNatClampNeg (z_turnOf S a1).2.1.toInt64, M', by rw [hz]; rfl, h, fun _ => vp_updL_0 _ _, rfl⟩
  · refine xl_catchC (X := xXt hhL_turnOf) (K := kL_turnOf) (R := eR (12, 1, 6)) (ca := 0) (sl := 0) (o := o) (f := f) (M := M) (Mm := Mm) xN0_m xXT (b' := (10, 1, 6)) (As := [.int a1]) (S := [.int 0, .ref o]) (E := "java/lang/IndexOutOfBoundsException") [] ⟨0, 9, 12, 25⟩ [⟨0, 9, 15, 13⟩] (fun _ _ _ _ h => h.1) (fun _ _ _ _ _ z hz => absurd hz List.not_mem_nil) (by decide) (by decide) xcl_25 xcast_IOE dL_turnOf_4 mX10_turnOf lML_46 rfl rfl (by exact ⟨⟨Nat.le_of_ble_eq_true rfl, Nat.le_of_ble_eq_true rfl⟩, ⟨Nat.le_of_ble_eq_true rfl, Nat.le_of_ble_eq_true rfl⟩⟩) (Nat.le_of_ble_eq_true rfl) (hP.2.1 hz) (fun q => ?_) rfl
    refine x_astore_n (l' := [(3, .ref q), (0, .ref (G.1 0)), (1, .int a1), (2, .ref o)]) dL_turnOf_12 rfl (by decide) rfl ?_
    refine x_iconst (v := 1) dL_turnOf_13 rfl ?_
    exact x_iret dL_turnOf_14 rfl (Nat.le_of_ble_eq_true rfl) (Nat.le_of_ble_eq_true rfl) ⟨f, M, by rw [hz]; rfl, by rw [hst (by rw [hz]; decide)]; exact hc, fun h => absurd (hz.symm.trans h) (by decide), rfl⟩
  · refine xl_catchC (X := xXt hhL_turnOf) (K := kL_turnOf) (R := eR (12, 1, 6)) (ca := 0) (sl := 0) (o := o) (f := f) (M := M) (Mm := Mm) xN0_m xXT (b' := (10, 1, 6)) (As := [.int a1]) (S := [.int 0, .ref o]) (E := "java/lang/IllegalStateException") [⟨0, 9, 12, 25⟩] ⟨0, 9, 15, 13⟩ [] (fun _ _ _ _ h => h.1) (fun s _ _ _ hX z hz => by rw [List.mem_singleton.mp hz]; exact Or.inr ⟨by decide, _, xcl_25, hX.2.2.2⟩) (by decide) (by decide) xcl_13 xcast_ISE dL_turnOf_4 mX10_turnOf lML_46 rfl rfl (by exact ⟨⟨Nat.le_of_ble_eq_true rfl, Nat.le_of_ble_eq_true rfl⟩, ⟨Nat.le_of_ble_eq_true rfl, Nat.le_of_ble_eq_true rfl⟩⟩) (Nat.le_of_ble_eq_true rfl) (hP.2.2 hz) (fun q => ?_) rfl
    refine x_astore_n (l' := [(3, .ref q), (0, .ref (G.1 0)), (1, .int a1), (2, .ref o)]) dL_turnOf_15 rfl (by decide) rfl ?_
    refine x_iconst (v := 2) dL_turnOf_16 rfl ?_
    exact x_iret dL_turnOf_17 rfl (Nat.le_of_ble_eq_true rfl) (Nat.le_of_ble_eq_true rfl) ⟨f, M, by rw [hz]; rfl, by rw [hst (by rw [hz]; decide)]; exact hc, fun h => absurd (hz.symm.trans h) (by decide), rfl⟩
set_option maxHeartbeats 4000000 in
set_option maxRecDepth 100000 in
theorem T_fits {M Mm : eM} {S : gS} (hs : sOk S) (hc : sC M S) (o : Nat) (f : Nat → Int64) (a1 a2 a3 : Int32) : xCalT G xN0 (12, 1, 6) kL_fits hhL_fits [.ref (G.1 0), .int a1, .int a2, .int a3, .ref o] (wL G o f M Mm) (fun v w' => ∃ f' M', v = some (.int (nI (z_fits S a1 a2 a3).1)) ∧ sC M' (z_fits S a1 a2 a3).2.2 ∧ ((z_fits S a1 a2 a3).1 = 0 → f' 0 = (if (z_fits S a1 a2 a3).2.1 then 1 else 0)) ∧ w' = wL G o f' M' Mm) := by
  refine xCalT.of (by decide +kernel) rfl (Nat.le_of_ble_eq_true rfl) ?_
  show Ex _ _ _ _ _ _ [(0, .ref (G.1 0)), (1, .int a1), (2, .int a2), (3, .int a3), (4, .ref o)] _ _ _ _
  have hP := P_fits (G := G) hs hc a1 a2 a3
  obtain ⟨hz, hst⟩ := zc_fits S a1 a2 a3
  refine x_aload 4 dL_fits_0 rfl ?_
  refine x_iconst (v := 0) dL_fits_2 rfl ?_
  refine x_aload_n 0 dL_fits_3 rfl rfl ?_
  refine x_iload_n 1 dL_fits_4 rfl rfl ?_
  refine x_iload_n 2 dL_fits_5 rfl rfl ?_
  refine x_iload_n 3 dL_fits_6 rfl rfl ?_
  rcases hz with hz | hz
  · refine xl_callC (X := xXt hhL_fits) (K := kL_fits) (R := eR (12, 1, 6)) (ca := 0) (sl := 0) (o := o) (f := f) (M := M) (Mm := Mm) xN0_m xXT (b' := (4, 0, 0)) (As := [.int a1, .int a2, .int a3]) (S := [.int 0, .ref o]) dL_fits_7 mX10_fits lML_49 rfl rfl (by exact ⟨⟨Nat.le_of_ble_eq_true rfl, Nat.le_of_ble_eq_true rfl⟩, ⟨Nat.le_of_ble_eq_true rfl, Nat.le_of_ble_eq_true rfl⟩⟩) (Nat.le_of_ble_eq_true rfl) (hP.1 hz (fun r M' => r = (z_fits S a1 a2 a3).2.1 ∧ sC M' (z_fits S a1 a2 a3).2.2) (fun M' h => ⟨rfl, h⟩)) (fun v M' h => ?_) rfl
    obtain ⟨r, rfl, rfl, h⟩ := h
    refine x_zif_eq (t := 17) dL_fits_10 (by decide) (fun zz => ?_) (fun zz => ?_)
    · refine x_lconst (v := 0) dL_fits_17 rfl ?_
      refine x_last (q0 := 0) (N := 1) (f := f) dL_fits_18 rfl (vp_in_nI (n := 0) (by decide) (by decide)) ?_
      refine x_goto (t := 26) dL_fits_19 (by decide) ?_
      refine x_iconst (v := 0) dL_fits_26 rfl ?_
      exact x_iret dL_fits_27 rfl (Nat.le_of_ble_eq_true rfl) (Nat.le_of_ble_eq_true rfl) ⟨vp_updL f (0 : Int32).toNatClampNeg 0, M', by rw [hz]; rfl, h, fun _ => (vp_updL_0 _ _).trans (by rw [zz]; rfl), rfl⟩
    · refine x_lconst (v := 1) dL_fits_13 rfl ?_
      refine x_goto (t := 18) dL_fits_14 (by decide) ?_
      refine x_last (q0 := 0) (N := 1) (f := f) dL_fits_18 rfl (vp_in_nI (n := 0) (by decide) (by decide)) ?_
      refine x_goto (t := 26) dL_fits_19 (by decide) ?_
      refine x_iconst (v := 0) dL_fits_26 rfl ?_
      exact x_iret dL_fits_27 rfl (Nat.le_of_ble_eq_true rfl) (Nat.le_of_ble_eq_true rfl) ⟨vp_updL f (0 : Int32).toNatClampNeg 1, M', by rw [hz]; rfl, h, fun _ => (vp_updL_0 _ _).trans (by rw [zz]; rfl), rfl⟩
  · refine xl_catchC (X := xXt hhL_fits) (K := kL_fits) (R := eR (12, 1, 6)) (ca := 0) (sl := 0) (o := o) (f := f) (M := M) (Mm := Mm) xN0_m xXT (b' := (10, 1, 6)) (As := [.int a1, .int a2, .int a3]) (S := [.int 0, .ref o]) (E := "java/lang/IndexOutOfBoundsException") [] ⟨0, 19, 22, 25⟩ [] (fun _ _ _ _ h => h.1) (fun _ _ _ _ _ z hz => absurd hz List.not_mem_nil) (by decide) (by decide) xcl_25 xcast_IOE dL_fits_7 mX10_fits lML_49 rfl rfl (by exact ⟨⟨Nat.le_of_ble_eq_true rfl, Nat.le_of_ble_eq_true rfl⟩, ⟨Nat.le_of_ble_eq_true rfl, Nat.le_of_ble_eq_true rfl⟩⟩) (Nat.le_of_ble_eq_true rfl) (hP.2 hz) (fun q => ?_) rfl
    refine x_astore (l' := [(5, .ref q), (0, .ref (G.1 0)), (1, .int a1), (2, .int a2), (3, .int a3), (4, .ref o)]) dL_fits_22 (by decide) rfl ?_
    refine x_iconst (v := 1) dL_fits_24 rfl ?_
    exact x_iret dL_fits_25 rfl (Nat.le_of_ble_eq_true rfl) (Nat.le_of_ble_eq_true rfl) ⟨f, M, by rw [hz]; rfl, by rw [hst (by rw [hz]; decide)]; exact hc, fun h => absurd (hz.symm.trans h) (by decide), rfl⟩
set_option maxHeartbeats 4000000 in
set_option maxRecDepth 100000 in
theorem T_edgeAgainst {M Mm : eM} {S : gS} (hs : sOk S) (hc : sC M S) (o : Nat) (f : Nat → Int64) (a1 a2 a3 : Int32) : xCalT G xN0 (12, 1, 6) kL_edgeAgainst hhL_edgeAgainst [.ref (G.1 0), .int a1, .int a2, .int a3, .ref o] (wL G o f M Mm) (fun v w' => ∃ f' M', v = some (.int (nI (z_edgeAgainst S a1 a2 a3).1)) ∧ sC M' (z_edgeAgainst S a1 a2 a3).2.2 ∧ ((z_edgeAgainst S a1 a2 a3).1 = 0 → f' 0 = (z_edgeAgainst S a1 a2 a3).2.1.toInt64) ∧ w' = wL G o f' M' Mm) := by
  refine xCalT.of (by decide +kernel) rfl (Nat.le_of_ble_eq_true rfl) ?_
  show Ex _ _ _ _ _ _ [(0, .ref (G.1 0)), (1, .int a1), (2, .int a2), (3, .int a3), (4, .ref o)] _ _ _ _
  have hP := P_edgeAgainst (G := G) hs hc a1 a2 a3
  obtain ⟨hz, hst⟩ := zc_edgeAgainst S a1 a2 a3
  refine x_aload 4 dL_edgeAgainst_0 rfl ?_
  refine x_iconst (v := 0) dL_edgeAgainst_2 rfl ?_
  refine x_aload_n 0 dL_edgeAgainst_3 rfl rfl ?_
  refine x_iload_n 1 dL_edgeAgainst_4 rfl rfl ?_
  refine x_iload_n 2 dL_edgeAgainst_5 rfl rfl ?_
  refine x_iload_n 3 dL_edgeAgainst_6 rfl rfl ?_
  rcases hz with hz | hz
  · refine xl_callC (X := xXt hhL_edgeAgainst) (K := kL_edgeAgainst) (R := eR (12, 1, 6)) (ca := 0) (sl := 0) (o := o) (f := f) (M := M) (Mm := Mm) xN0_m xXT (b' := (4, 0, 0)) (As := [.int a1, .int a2, .int a3]) (S := [.int 0, .ref o]) dL_edgeAgainst_7 mX10_edgeAgainst lML_53 rfl rfl (by exact ⟨⟨Nat.le_of_ble_eq_true rfl, Nat.le_of_ble_eq_true rfl⟩, ⟨Nat.le_of_ble_eq_true rfl, Nat.le_of_ble_eq_true rfl⟩⟩) (Nat.le_of_ble_eq_true rfl) (hP.1 hz (fun r M' => r = (z_edgeAgainst S a1 a2 a3).2.1 ∧ sC M' (z_edgeAgainst S a1 a2 a3).2.2) (fun M' h => ⟨rfl, h⟩)) (fun v M' h => ?_) rfl
    obtain ⟨r, rfl, rfl, h⟩ := h
    refine x_i2l dL_edgeAgainst_10 ?_
    refine x_last (q0 := 0) (N := 1) (f := f) dL_edgeAgainst_11 rfl (vp_in_nI (n := 0) (by decide) (by decide)) ?_
    refine x_goto (t := 19) dL_edgeAgainst_12 (by decide) ?_
    refine x_iconst (v := 0) dL_edgeAgainst_19 rfl ?_
    exact x_iret dL_edgeAgainst_20 rfl (Nat.le_of_ble_eq_true rfl) (Nat.le_of_ble_eq_true rfl) ⟨vp_updL f (0 : Int32).toNatClampNeg (z_edgeAgainst S a1 a2 a3).2.1.toInt64, M', by rw [hz]; rfl, h, fun _ => vp_updL_0 _ _, rfl⟩
  · refine xl_catchC (X := xXt hhL_edgeAgainst) (K := kL_edgeAgainst) (R := eR (12, 1, 6)) (ca := 0) (sl := 0) (o := o) (f := f) (M := M) (Mm := Mm) xN0_m xXT (b' := (10, 1, 6)) (As := [.int a1, .int a2, .int a3]) (S := [.int 0, .ref o]) (E := "java/lang/IndexOutOfBoundsException") [] ⟨0, 12, 15, 25⟩ [] (fun _ _ _ _ h => h.1) (fun _ _ _ _ _ z hz => absurd hz List.not_mem_nil) (by decide) (by decide) xcl_25 xcast_IOE dL_edgeAgainst_7 mX10_edgeAgainst lML_53 rfl rfl (by exact ⟨⟨Nat.le_of_ble_eq_true rfl, Nat.le_of_ble_eq_true rfl⟩, ⟨Nat.le_of_ble_eq_true rfl, Nat.le_of_ble_eq_true rfl⟩⟩) (Nat.le_of_ble_eq_true rfl) (hP.2 hz) (fun q => ?_) rfl
    refine x_astore (l' := [(5, .ref q), (0, .ref (G.1 0)), (1, .int a1), (2, .int a2), (3, .int a3), (4, .ref o)]) dL_edgeAgainst_15 (by decide) rfl ?_
    refine x_iconst (v := 1) dL_edgeAgainst_17 rfl ?_
    exact x_iret dL_edgeAgainst_18 rfl (Nat.le_of_ble_eq_true rfl) (Nat.le_of_ble_eq_true rfl) ⟨f, M, by rw [hz]; rfl, by rw [hst (by rw [hz]; decide)]; exact hc, fun h => absurd (hz.symm.trans h) (by decide), rfl⟩
set_option maxHeartbeats 4000000 in
set_option maxRecDepth 100000 in
theorem T_waysOf {M Mm : eM} {S : gS} (hs : sOk S) (hc : sC M S) (o : Nat) (f : Nat → Int64) (a1 : Int32) : xCalT G xN0 (12, 1, 6) kL_waysOf hhL_waysOf [.ref (G.1 0), .int a1, .ref o] (wL G o f M Mm) (fun v w' => ∃ f' M', v = some (.int (nI (z_waysOf S a1).1)) ∧ sC M' (z_waysOf S a1).2.2 ∧ ((z_waysOf S a1).1 = 0 → f' 0 = (z_waysOf S a1).2.1.toInt64) ∧ w' = wL G o f' M' Mm) := by
  refine xCalT.of (by decide +kernel) rfl (Nat.le_of_ble_eq_true rfl) ?_
  show Ex _ _ _ _ _ _ [(0, .ref (G.1 0)), (1, .int a1), (2, .ref o)] _ _ _ _
  have hP := P_waysOf (G := G) hs hc a1
  obtain ⟨hz, hst⟩ := zc_waysOf S a1
  refine x_aload_n 2 dL_waysOf_0 rfl rfl ?_
  refine x_iconst (v := 0) dL_waysOf_1 rfl ?_
  refine x_aload_n 0 dL_waysOf_2 rfl rfl ?_
  refine x_iload_n 1 dL_waysOf_3 rfl rfl ?_
  rcases hz with hz | hz
  · refine xl_callC (X := xXt hhL_waysOf) (K := kL_waysOf) (R := eR (12, 1, 6)) (ca := 0) (sl := 0) (o := o) (f := f) (M := M) (Mm := Mm) xN0_m xXT (b' := (3, 0, 0)) (As := [.int a1]) (S := [.int 0, .ref o]) dL_waysOf_4 mX10_waysOf lML_57 rfl rfl (by exact ⟨⟨Nat.le_of_ble_eq_true rfl, Nat.le_of_ble_eq_true rfl⟩, ⟨Nat.le_of_ble_eq_true rfl, Nat.le_of_ble_eq_true rfl⟩⟩) (Nat.le_of_ble_eq_true rfl) (hP.1 hz (fun r M' => r = (z_waysOf S a1).2.1 ∧ sC M' (z_waysOf S a1).2.2) (fun M' h => ⟨rfl, h⟩)) (fun v M' h => ?_) rfl
    obtain ⟨r, rfl, rfl, h⟩ := h
    refine x_i2l dL_waysOf_7 ?_
    refine x_last (q0 := 0) (N := 1) (f := f) dL_waysOf_8 rfl (vp_in_nI (n := 0) (by decide) (by decide)) ?_
    refine x_goto (t := 15) dL_waysOf_9 (by decide) ?_
    refine x_iconst (v := 0) dL_waysOf_15 rfl ?_
    exact x_iret dL_waysOf_16 rfl (Nat.le_of_ble_eq_true rfl) (Nat.le_of_ble_eq_true rfl) ⟨vp_updL f (0 : Int32).toNatClampNeg (z_waysOf S a1).2.1.toInt64, M', by rw [hz]; rfl, h, fun _ => vp_updL_0 _ _, rfl⟩
  · refine xl_catchC (X := xXt hhL_waysOf) (K := kL_waysOf) (R := eR (12, 1, 6)) (ca := 0) (sl := 0) (o := o) (f := f) (M := M) (Mm := Mm) xN0_m xXT (b' := (10, 1, 6)) (As := [.int a1]) (S := [.int 0, .ref o]) (E := "java/lang/IndexOutOfBoundsException") [] ⟨0, 9, 12, 25⟩ [] (fun _ _ _ _ h => h.1) (fun _ _ _ _ _ z hz => absurd hz List.not_mem_nil) (by decide) (by decide) xcl_25 xcast_IOE dL_waysOf_4 mX10_waysOf lML_57 rfl rfl (by exact ⟨⟨Nat.le_of_ble_eq_true rfl, Nat.le_of_ble_eq_true rfl⟩, ⟨Nat.le_of_ble_eq_true rfl, Nat.le_of_ble_eq_true rfl⟩⟩) (Nat.le_of_ble_eq_true rfl) (hP.2 hz) (fun q => ?_) rfl
    refine x_astore_n (l' := [(3, .ref q), (0, .ref (G.1 0)), (1, .int a1), (2, .ref o)]) dL_waysOf_12 rfl (by decide) rfl ?_
    refine x_iconst (v := 1) dL_waysOf_13 rfl ?_
    exact x_iret dL_waysOf_14 rfl (Nat.le_of_ble_eq_true rfl) (Nat.le_of_ble_eq_true rfl) ⟨f, M, by rw [hz]; rfl, by rw [hst (by rw [hz]; decide)]; exact hc, fun h => absurd (hz.symm.trans h) (by decide), rfl⟩
set_option maxHeartbeats 4000000 in
set_option maxRecDepth 100000 in
theorem T_isLeftover {M Mm : eM} {S : gS} (hs : sOk S) (hc : sC M S) (o : Nat) (f : Nat → Int64) (a1 : Int32) : xCalT G xN0 (12, 1, 6) kL_isLeftover hhL_isLeftover [.ref (G.1 0), .int a1, .ref o] (wL G o f M Mm) (fun v w' => ∃ f' M', v = some (.int (nI (z_isLeftover S a1).1)) ∧ sC M' (z_isLeftover S a1).2.2 ∧ ((z_isLeftover S a1).1 = 0 → f' 0 = (if (z_isLeftover S a1).2.1 then 1 else 0)) ∧ w' = wL G o f' M' Mm) := by
  refine xCalT.of (by decide +kernel) rfl (Nat.le_of_ble_eq_true rfl) ?_
  show Ex _ _ _ _ _ _ [(0, .ref (G.1 0)), (1, .int a1), (2, .ref o)] _ _ _ _
  have hP := P_isLeftover (G := G) hs hc a1
  obtain ⟨hz, hst⟩ := zc_isLeftover S a1
  refine x_aload_n 2 dL_isLeftover_0 rfl rfl ?_
  refine x_iconst (v := 0) dL_isLeftover_1 rfl ?_
  refine x_aload_n 0 dL_isLeftover_2 rfl rfl ?_
  refine x_iload_n 1 dL_isLeftover_3 rfl rfl ?_
  rcases hz with hz | hz
  · refine xl_callC (X := xXt hhL_isLeftover) (K := kL_isLeftover) (R := eR (12, 1, 6)) (ca := 0) (sl := 0) (o := o) (f := f) (M := M) (Mm := Mm) xN0_m xXT (b' := (3, 0, 0)) (As := [.int a1]) (S := [.int 0, .ref o]) dL_isLeftover_4 mX10_isLeftover lML_60 rfl rfl (by exact ⟨⟨Nat.le_of_ble_eq_true rfl, Nat.le_of_ble_eq_true rfl⟩, ⟨Nat.le_of_ble_eq_true rfl, Nat.le_of_ble_eq_true rfl⟩⟩) (Nat.le_of_ble_eq_true rfl) (hP.1 hz (fun r M' => r = (z_isLeftover S a1).2.1 ∧ sC M' (z_isLeftover S a1).2.2) (fun M' h => ⟨rfl, h⟩)) (fun v M' h => ?_) rfl
    obtain ⟨r, rfl, rfl, h⟩ := h
    refine x_zif_eq (t := 14) dL_isLeftover_7 (by decide) (fun zz => ?_) (fun zz => ?_)
    · refine x_lconst (v := 0) dL_isLeftover_14 rfl ?_
      refine x_last (q0 := 0) (N := 1) (f := f) dL_isLeftover_15 rfl (vp_in_nI (n := 0) (by decide) (by decide)) ?_
      refine x_goto (t := 22) dL_isLeftover_16 (by decide) ?_
      refine x_iconst (v := 0) dL_isLeftover_22 rfl ?_
      exact x_iret dL_isLeftover_23 rfl (Nat.le_of_ble_eq_true rfl) (Nat.le_of_ble_eq_true rfl) ⟨vp_updL f (0 : Int32).toNatClampNeg 0, M', by rw [hz]; rfl, h, fun _ => (vp_updL_0 _ _).trans (by rw [zz]; rfl), rfl⟩
    · refine x_lconst (v := 1) dL_isLeftover_10 rfl ?_
      refine x_goto (t := 15) dL_isLeftover_11 (by decide) ?_
      refine x_last (q0 := 0) (N := 1) (f := f) dL_isLeftover_15 rfl (vp_in_nI (n := 0) (by decide) (by decide)) ?_
      refine x_goto (t := 22) dL_isLeftover_16 (by decide) ?_
      refine x_iconst (v := 0) dL_isLeftover_22 rfl ?_
      exact x_iret dL_isLeftover_23 rfl (Nat.le_of_ble_eq_true rfl) (Nat.le_of_ble_eq_true rfl) ⟨vp_updL f (0 : Int32).toNatClampNeg 1, M', by rw [hz]; rfl, h, fun _ => (vp_updL_0 _ _).trans (by rw [zz]; rfl), rfl⟩
  · refine xl_catchC (X := xXt hhL_isLeftover) (K := kL_isLeftover) (R := eR (12, 1, 6)) (ca := 0) (sl := 0) (o := o) (f := f) (M := M) (Mm := Mm) xN0_m xXT (b' := (10, 1, 6)) (As := [.int a1]) (S := [.int 0, .ref o]) (E := "java/lang/IndexOutOfBoundsException") [] ⟨0, 16, 19, 25⟩ [] (fun _ _ _ _ h => h.1) (fun _ _ _ _ _ z hz => absurd hz List.not_mem_nil) (by decide) (by decide) xcl_25 xcast_IOE dL_isLeftover_4 mX10_isLeftover lML_60 rfl rfl (by exact ⟨⟨Nat.le_of_ble_eq_true rfl, Nat.le_of_ble_eq_true rfl⟩, ⟨Nat.le_of_ble_eq_true rfl, Nat.le_of_ble_eq_true rfl⟩⟩) (Nat.le_of_ble_eq_true rfl) (hP.2 hz) (fun q => ?_) rfl
    refine x_astore_n (l' := [(3, .ref q), (0, .ref (G.1 0)), (1, .int a1), (2, .ref o)]) dL_isLeftover_19 rfl (by decide) rfl ?_
    refine x_iconst (v := 1) dL_isLeftover_20 rfl ?_
    exact x_iret dL_isLeftover_21 rfl (Nat.le_of_ble_eq_true rfl) (Nat.le_of_ble_eq_true rfl) ⟨f, M, by rw [hz]; rfl, by rw [hst (by rw [hz]; decide)]; exact hc, fun h => absurd (hz.symm.trans h) (by decide), rfl⟩
set_option maxHeartbeats 4000000 in
set_option maxRecDepth 100000 in
theorem T_looksToProve {M Mm : eM} {S : gS} (hs : sOk S) (hc : sC M S) (o : Nat) (f : Nat → Int64) (a1 : Int32) : xCalT G xN0 (12, 1, 6) kL_looksToProve hhL_looksToProve [.ref (G.1 0), .int a1, .ref o] (wL G o f M Mm) (fun v w' => ∃ f' M', v = some (.int (nI (z_looks S a1).1)) ∧ sC M' (z_looks S a1).2.2 ∧ ((z_looks S a1).1 = 0 → f' 0 = (z_looks S a1).2.1.toInt64) ∧ w' = wL G o f' M' Mm) := by
  refine xCalT.of (by decide +kernel) rfl (Nat.le_of_ble_eq_true rfl) ?_
  show Ex _ _ _ _ _ _ [(0, .ref (G.1 0)), (1, .int a1), (2, .ref o)] _ _ _ _
  have hP := P_looks (G := G) hs hc a1
  obtain ⟨hz, hst⟩ := zc_looksToProve S a1
  refine x_aload_n 2 dL_looksToProve_0 rfl rfl ?_
  refine x_iconst (v := 0) dL_looksToProve_1 rfl ?_
  refine x_aload_n 0 dL_looksToProve_2 rfl rfl ?_
  refine x_iload_n 1 dL_looksToProve_3 rfl rfl ?_
  rcases hz with hz | hz | hz
  · refine xl_callC (X := xXt hhL_looksToProve) (K := kL_looksToProve) (R := eR (12, 1, 6)) (ca := 0) (sl := 0) (o := o) (f := f) (M := M) (Mm := Mm) xN0_m xXT (b' := (3, 0, 0)) (As := [.int a1]) (S := [.int 0, .ref o]) dL_looksToProve_4 mX10_looksToProve lML_63 rfl rfl (by exact ⟨⟨Nat.le_of_ble_eq_true rfl, Nat.le_of_ble_eq_true rfl⟩, ⟨Nat.le_of_ble_eq_true rfl, Nat.le_of_ble_eq_true rfl⟩⟩) (Nat.le_of_ble_eq_true rfl) (hP.1 hz (fun r M' => r = (z_looks S a1).2.1 ∧ sC M' (z_looks S a1).2.2) (fun M' h => ⟨rfl, h⟩)) (fun v M' h => ?_) rfl
    obtain ⟨r, rfl, rfl, h⟩ := h
    refine x_i2l dL_looksToProve_7 ?_
    refine x_last (q0 := 0) (N := 1) (f := f) dL_looksToProve_8 rfl (vp_in_nI (n := 0) (by decide) (by decide)) ?_
    refine x_goto (t := 18) dL_looksToProve_9 (by decide) ?_
    refine x_iconst (v := 0) dL_looksToProve_18 rfl ?_
    exact x_iret dL_looksToProve_19 rfl (Nat.le_of_ble_eq_true rfl) (Nat.le_of_ble_eq_true rfl) ⟨vp_updL f (0 : Int32).toNatClampNeg (z_looks S a1).2.1.toInt64, M', by rw [hz]; rfl, h, fun _ => vp_updL_0 _ _, rfl⟩
  · refine xl_catchC (X := xXt hhL_looksToProve) (K := kL_looksToProve) (R := eR (12, 1, 6)) (ca := 0) (sl := 0) (o := o) (f := f) (M := M) (Mm := Mm) xN0_m xXT (b' := (10, 1, 6)) (As := [.int a1]) (S := [.int 0, .ref o]) (E := "java/lang/IndexOutOfBoundsException") [] ⟨0, 9, 12, 25⟩ [⟨0, 9, 15, 13⟩] (fun _ _ _ _ h => h.1) (fun _ _ _ _ _ z hz => absurd hz List.not_mem_nil) (by decide) (by decide) xcl_25 xcast_IOE dL_looksToProve_4 mX10_looksToProve lML_63 rfl rfl (by exact ⟨⟨Nat.le_of_ble_eq_true rfl, Nat.le_of_ble_eq_true rfl⟩, ⟨Nat.le_of_ble_eq_true rfl, Nat.le_of_ble_eq_true rfl⟩⟩) (Nat.le_of_ble_eq_true rfl) (hP.2.1 hz) (fun q => ?_) rfl
    refine x_astore_n (l' := [(3, .ref q), (0, .ref (G.1 0)), (1, .int a1), (2, .ref o)]) dL_looksToProve_12 rfl (by decide) rfl ?_
    refine x_iconst (v := 1) dL_looksToProve_13 rfl ?_
    exact x_iret dL_looksToProve_14 rfl (Nat.le_of_ble_eq_true rfl) (Nat.le_of_ble_eq_true rfl) ⟨f, M, by rw [hz]; rfl, by rw [hst (by rw [hz]; decide)]; exact hc, fun h => absurd (hz.symm.trans h) (by decide), rfl⟩
  · refine xl_catchC (X := xXt hhL_looksToProve) (K := kL_looksToProve) (R := eR (12, 1, 6)) (ca := 0) (sl := 0) (o := o) (f := f) (M := M) (Mm := Mm) xN0_m xXT (b' := (10, 1, 6)) (As := [.int a1]) (S := [.int 0, .ref o]) (E := "java/lang/IllegalStateException") [⟨0, 9, 12, 25⟩] ⟨0, 9, 15, 13⟩ [] (fun _ _ _ _ h => h.1) (fun s _ _ _ hX z hz => by rw [List.mem_singleton.mp hz]; exact Or.inr ⟨by decide, _, xcl_25, hX.2.2.2⟩) (by decide) (by decide) xcl_13 xcast_ISE dL_looksToProve_4 mX10_looksToProve lML_63 rfl rfl (by exact ⟨⟨Nat.le_of_ble_eq_true rfl, Nat.le_of_ble_eq_true rfl⟩, ⟨Nat.le_of_ble_eq_true rfl, Nat.le_of_ble_eq_true rfl⟩⟩) (Nat.le_of_ble_eq_true rfl) (hP.2.2 hz) (fun q => ?_) rfl
    refine x_astore_n (l' := [(3, .ref q), (0, .ref (G.1 0)), (1, .int a1), (2, .ref o)]) dL_looksToProve_15 rfl (by decide) rfl ?_
    refine x_iconst (v := 2) dL_looksToProve_16 rfl ?_
    exact x_iret dL_looksToProve_17 rfl (Nat.le_of_ble_eq_true rfl) (Nat.le_of_ble_eq_true rfl) ⟨f, M, by rw [hz]; rfl, by rw [hst (by rw [hz]; decide)]; exact hc, fun h => absurd (hz.symm.trans h) (by decide), rfl⟩
set_option maxHeartbeats 4000000 in
set_option maxRecDepth 100000 in
theorem T_putTile {M Mm : eM} {S : gS} (hs : sOk S) (hc : sC M S) (o : Nat) (f : Nat → Int64) (a1 a2 a3 : Int32) : xCalT G xN0 (12, 1, 6) kL_putTile hhL_putTile [.ref (G.1 0), .int a1, .int a2, .int a3, .ref o] (wL G o f M Mm) (fun v w' => ∃ f' M', v = some (.int (nI (z_putTile S a1 a2 a3).1)) ∧ sC M' (z_putTile S a1 a2 a3).2.2 ∧ ((z_putTile S a1 a2 a3).1 = 0 → f' 0 = (z_putTile S a1 a2 a3).2.1.toInt64) ∧ w' = wL G o f' M' Mm) := by
  refine xCalT.of (by decide +kernel) rfl (Nat.le_of_ble_eq_true rfl) ?_
  show Ex _ _ _ _ _ _ [(0, .ref (G.1 0)), (1, .int a1), (2, .int a2), (3, .int a3), (4, .ref o)] _ _ _ _
  have hP := P_putTile (G := G) hs hc a1 a2 a3
  obtain ⟨hz, hst⟩ := zc_putTile S a1 a2 a3
  refine x_aload 4 dL_putTile_0 rfl ?_
  refine x_iconst (v := 0) dL_putTile_2 rfl ?_
  refine x_aload_n 0 dL_putTile_3 rfl rfl ?_
  refine x_iload_n 1 dL_putTile_4 rfl rfl ?_
  refine x_iload_n 2 dL_putTile_5 rfl rfl ?_
  refine x_iload_n 3 dL_putTile_6 rfl rfl ?_
  rcases hz with hz | hz | hz
  · refine xl_callC (X := xXt hhL_putTile) (K := kL_putTile) (R := eR (12, 1, 6)) (ca := 0) (sl := 0) (o := o) (f := f) (M := M) (Mm := Mm) xN0_m xXT (b' := (4, 0, 0)) (As := [.int a1, .int a2, .int a3]) (S := [.int 0, .ref o]) dL_putTile_7 mX10_putTile lML_66 rfl rfl (by exact ⟨⟨Nat.le_of_ble_eq_true rfl, Nat.le_of_ble_eq_true rfl⟩, ⟨Nat.le_of_ble_eq_true rfl, Nat.le_of_ble_eq_true rfl⟩⟩) (Nat.le_of_ble_eq_true rfl) (hP.1 hz (fun r M' => r = (z_putTile S a1 a2 a3).2.1 ∧ sC M' (z_putTile S a1 a2 a3).2.2) (fun M' h => ⟨rfl, h⟩)) (fun v M' h => ?_) rfl
    obtain ⟨r, rfl, rfl, h⟩ := h
    refine x_i2l dL_putTile_10 ?_
    refine x_last (q0 := 0) (N := 1) (f := f) dL_putTile_11 rfl (vp_in_nI (n := 0) (by decide) (by decide)) ?_
    refine x_goto (t := 23) dL_putTile_12 (by decide) ?_
    refine x_iconst (v := 0) dL_putTile_23 rfl ?_
    exact x_iret dL_putTile_24 rfl (Nat.le_of_ble_eq_true rfl) (Nat.le_of_ble_eq_true rfl) ⟨vp_updL f (0 : Int32).toNatClampNeg (z_putTile S a1 a2 a3).2.1.toInt64, M', by rw [hz]; rfl, h, fun _ => vp_updL_0 _ _, rfl⟩
  · refine xl_catchC (X := xXt hhL_putTile) (K := kL_putTile) (R := eR (12, 1, 6)) (ca := 0) (sl := 0) (o := o) (f := f) (M := M) (Mm := Mm) xN0_m xXT (b' := (10, 1, 6)) (As := [.int a1, .int a2, .int a3]) (S := [.int 0, .ref o]) (E := "java/lang/IndexOutOfBoundsException") [] ⟨0, 12, 15, 25⟩ [⟨0, 12, 19, 13⟩] (fun _ _ _ _ h => h.1) (fun _ _ _ _ _ z hz => absurd hz List.not_mem_nil) (by decide) (by decide) xcl_25 xcast_IOE dL_putTile_7 mX10_putTile lML_66 rfl rfl (by exact ⟨⟨Nat.le_of_ble_eq_true rfl, Nat.le_of_ble_eq_true rfl⟩, ⟨Nat.le_of_ble_eq_true rfl, Nat.le_of_ble_eq_true rfl⟩⟩) (Nat.le_of_ble_eq_true rfl) (hP.2.1 hz) (fun q => ?_) rfl
    refine x_astore (l' := [(5, .ref q), (0, .ref (G.1 0)), (1, .int a1), (2, .int a2), (3, .int a3), (4, .ref o)]) dL_putTile_15 (by decide) rfl ?_
    refine x_iconst (v := 1) dL_putTile_17 rfl ?_
    exact x_iret dL_putTile_18 rfl (Nat.le_of_ble_eq_true rfl) (Nat.le_of_ble_eq_true rfl) ⟨f, M, by rw [hz]; rfl, by rw [hst (by rw [hz]; decide)]; exact hc, fun h => absurd (hz.symm.trans h) (by decide), rfl⟩
  · refine xl_catchC (X := xXt hhL_putTile) (K := kL_putTile) (R := eR (12, 1, 6)) (ca := 0) (sl := 0) (o := o) (f := f) (M := M) (Mm := Mm) xN0_m xXT (b' := (10, 1, 6)) (As := [.int a1, .int a2, .int a3]) (S := [.int 0, .ref o]) (E := "java/lang/IllegalStateException") [⟨0, 12, 15, 25⟩] ⟨0, 12, 19, 13⟩ [] (fun _ _ _ _ h => h.1) (fun s _ _ _ hX z hz => by rw [List.mem_singleton.mp hz]; exact Or.inr ⟨by decide, _, xcl_25, hX.2.2.2⟩) (by decide) (by decide) xcl_13 xcast_ISE dL_putTile_7 mX10_putTile lML_66 rfl rfl (by exact ⟨⟨Nat.le_of_ble_eq_true rfl, Nat.le_of_ble_eq_true rfl⟩, ⟨Nat.le_of_ble_eq_true rfl, Nat.le_of_ble_eq_true rfl⟩⟩) (Nat.le_of_ble_eq_true rfl) (hP.2.2 hz) (fun q => ?_) rfl
    refine x_astore (l' := [(5, .ref q), (0, .ref (G.1 0)), (1, .int a1), (2, .int a2), (3, .int a3), (4, .ref o)]) dL_putTile_19 (by decide) rfl ?_
    refine x_iconst (v := 2) dL_putTile_21 rfl ?_
    exact x_iret dL_putTile_22 rfl (Nat.le_of_ble_eq_true rfl) (Nat.le_of_ble_eq_true rfl) ⟨f, M, by rw [hz]; rfl, by rw [hst (by rw [hz]; decide)]; exact hc, fun h => absurd (hz.symm.trans h) (by decide), rfl⟩
set_option maxHeartbeats 4000000 in
set_option maxRecDepth 100000 in
theorem T_takeTile {M Mm : eM} {S : gS} (hs : sOk S) (hc : sC M S) (o : Nat) (f : Nat → Int64) (a1 : Int32) : xCalT G xN0 (12, 1, 6) kL_takeTile hhL_takeTile [.ref (G.1 0), .int a1, .ref o] (wL G o f M Mm) (fun v w' => ∃ f' M', v = some (.int (nI (z_takeTile S a1).1)) ∧ sC M' (z_takeTile S a1).2.2 ∧ ((z_takeTile S a1).1 = 0 → f' 0 = (z_takeTile S a1).2.1.toInt64) ∧ w' = wL G o f' M' Mm) := by
  refine xCalT.of (by decide +kernel) rfl (Nat.le_of_ble_eq_true rfl) ?_
  show Ex _ _ _ _ _ _ [(0, .ref (G.1 0)), (1, .int a1), (2, .ref o)] _ _ _ _
  have hP := P_takeTile (G := G) hs hc a1
  obtain ⟨hz, hst⟩ := zc_takeTile S a1
  refine x_aload_n 2 dL_takeTile_0 rfl rfl ?_
  refine x_iconst (v := 0) dL_takeTile_1 rfl ?_
  refine x_aload_n 0 dL_takeTile_2 rfl rfl ?_
  refine x_iload_n 1 dL_takeTile_3 rfl rfl ?_
  rcases hz with hz | hz | hz
  · refine xl_callC (X := xXt hhL_takeTile) (K := kL_takeTile) (R := eR (12, 1, 6)) (ca := 0) (sl := 0) (o := o) (f := f) (M := M) (Mm := Mm) xN0_m xXT (b' := (4, 0, 0)) (As := [.int a1]) (S := [.int 0, .ref o]) dL_takeTile_4 mX10_takeTile lML_69 rfl rfl (by exact ⟨⟨Nat.le_of_ble_eq_true rfl, Nat.le_of_ble_eq_true rfl⟩, ⟨Nat.le_of_ble_eq_true rfl, Nat.le_of_ble_eq_true rfl⟩⟩) (Nat.le_of_ble_eq_true rfl) (hP.1 hz (fun r M' => r = (z_takeTile S a1).2.1 ∧ sC M' (z_takeTile S a1).2.2) (fun M' h => ⟨rfl, h⟩)) (fun v M' h => ?_) rfl
    obtain ⟨r, rfl, rfl, h⟩ := h
    refine x_i2l dL_takeTile_7 ?_
    refine x_last (q0 := 0) (N := 1) (f := f) dL_takeTile_8 rfl (vp_in_nI (n := 0) (by decide) (by decide)) ?_
    refine x_goto (t := 18) dL_takeTile_9 (by decide) ?_
    refine x_iconst (v := 0) dL_takeTile_18 rfl ?_
    exact x_iret dL_takeTile_19 rfl (Nat.le_of_ble_eq_true rfl) (Nat.le_of_ble_eq_true rfl) ⟨vp_updL f (0 : Int32).toNatClampNeg (z_takeTile S a1).2.1.toInt64, M', by rw [hz]; rfl, h, fun _ => vp_updL_0 _ _, rfl⟩
  · refine xl_catchC (X := xXt hhL_takeTile) (K := kL_takeTile) (R := eR (12, 1, 6)) (ca := 0) (sl := 0) (o := o) (f := f) (M := M) (Mm := Mm) xN0_m xXT (b' := (10, 1, 6)) (As := [.int a1]) (S := [.int 0, .ref o]) (E := "java/lang/IndexOutOfBoundsException") [] ⟨0, 9, 12, 25⟩ [⟨0, 9, 15, 13⟩] (fun _ _ _ _ h => h.1) (fun _ _ _ _ _ z hz => absurd hz List.not_mem_nil) (by decide) (by decide) xcl_25 xcast_IOE dL_takeTile_4 mX10_takeTile lML_69 rfl rfl (by exact ⟨⟨Nat.le_of_ble_eq_true rfl, Nat.le_of_ble_eq_true rfl⟩, ⟨Nat.le_of_ble_eq_true rfl, Nat.le_of_ble_eq_true rfl⟩⟩) (Nat.le_of_ble_eq_true rfl) (hP.2.1 hz) (fun q => ?_) rfl
    refine x_astore_n (l' := [(3, .ref q), (0, .ref (G.1 0)), (1, .int a1), (2, .ref o)]) dL_takeTile_12 rfl (by decide) rfl ?_
    refine x_iconst (v := 1) dL_takeTile_13 rfl ?_
    exact x_iret dL_takeTile_14 rfl (Nat.le_of_ble_eq_true rfl) (Nat.le_of_ble_eq_true rfl) ⟨f, M, by rw [hz]; rfl, by rw [hst (by rw [hz]; decide)]; exact hc, fun h => absurd (hz.symm.trans h) (by decide), rfl⟩
  · refine xl_catchC (X := xXt hhL_takeTile) (K := kL_takeTile) (R := eR (12, 1, 6)) (ca := 0) (sl := 0) (o := o) (f := f) (M := M) (Mm := Mm) xN0_m xXT (b' := (10, 1, 6)) (As := [.int a1]) (S := [.int 0, .ref o]) (E := "java/lang/IllegalStateException") [⟨0, 9, 12, 25⟩] ⟨0, 9, 15, 13⟩ [] (fun _ _ _ _ h => h.1) (fun s _ _ _ hX z hz => by rw [List.mem_singleton.mp hz]; exact Or.inr ⟨by decide, _, xcl_25, hX.2.2.2⟩) (by decide) (by decide) xcl_13 xcast_ISE dL_takeTile_4 mX10_takeTile lML_69 rfl rfl (by exact ⟨⟨Nat.le_of_ble_eq_true rfl, Nat.le_of_ble_eq_true rfl⟩, ⟨Nat.le_of_ble_eq_true rfl, Nat.le_of_ble_eq_true rfl⟩⟩) (Nat.le_of_ble_eq_true rfl) (hP.2.2 hz) (fun q => ?_) rfl
    refine x_astore_n (l' := [(3, .ref q), (0, .ref (G.1 0)), (1, .int a1), (2, .ref o)]) dL_takeTile_15 rfl (by decide) rfl ?_
    refine x_iconst (v := 2) dL_takeTile_16 rfl ?_
    exact x_iret dL_takeTile_17 rfl (Nat.le_of_ble_eq_true rfl) (Nat.le_of_ble_eq_true rfl) ⟨f, M, by rw [hz]; rfl, by rw [hst (by rw [hz]; decide)]; exact hc, fun h => absurd (hz.symm.trans h) (by decide), rfl⟩
set_option maxHeartbeats 4000000 in
set_option maxRecDepth 100000 in
theorem T_fitTile {M Mm : eM} {S : gS} (hs : sOk S) (hc : sC M S) (o : Nat) (f : Nat → Int64) (a1 : Int32) : xCalT G xN0 (12, 1, 6) kL_fitTile hhL_fitTile [.ref (G.1 0), .int a1, .ref o] (wL G o f M Mm) (fun v w' => ∃ f' M', v = some (.int (nI (z_fitTile S a1).1)) ∧ sC M' (z_fitTile S a1).2.2 ∧ ((z_fitTile S a1).1 = 0 → f' 0 = (z_fitTile S a1).2.1.toInt64) ∧ w' = wL G o f' M' Mm) := by
  refine xCalT.of (by decide +kernel) rfl (Nat.le_of_ble_eq_true rfl) ?_
  show Ex _ _ _ _ _ _ [(0, .ref (G.1 0)), (1, .int a1), (2, .ref o)] _ _ _ _
  have hP := P_fitTile (G := G) hs hc a1
  obtain ⟨hz, hst⟩ := zc_fitTile S a1
  refine x_aload_n 2 dL_fitTile_0 rfl rfl ?_
  refine x_iconst (v := 0) dL_fitTile_1 rfl ?_
  refine x_aload_n 0 dL_fitTile_2 rfl rfl ?_
  refine x_iload_n 1 dL_fitTile_3 rfl rfl ?_
  rcases hz with hz | hz | hz
  · refine xl_callC (X := xXt hhL_fitTile) (K := kL_fitTile) (R := eR (12, 1, 6)) (ca := 0) (sl := 0) (o := o) (f := f) (M := M) (Mm := Mm) xN0_m xXT (b' := (3, 0, 0)) (As := [.int a1]) (S := [.int 0, .ref o]) dL_fitTile_4 mX10_fitTile lML_72 rfl rfl (by exact ⟨⟨Nat.le_of_ble_eq_true rfl, Nat.le_of_ble_eq_true rfl⟩, ⟨Nat.le_of_ble_eq_true rfl, Nat.le_of_ble_eq_true rfl⟩⟩) (Nat.le_of_ble_eq_true rfl) (hP.1 hz (fun r M' => r = (z_fitTile S a1).2.1 ∧ sC M' (z_fitTile S a1).2.2) (fun M' h => ⟨rfl, h⟩)) (fun v M' h => ?_) rfl
    obtain ⟨r, rfl, rfl, h⟩ := h
    refine x_i2l dL_fitTile_7 ?_
    refine x_last (q0 := 0) (N := 1) (f := f) dL_fitTile_8 rfl (vp_in_nI (n := 0) (by decide) (by decide)) ?_
    refine x_goto (t := 18) dL_fitTile_9 (by decide) ?_
    refine x_iconst (v := 0) dL_fitTile_18 rfl ?_
    exact x_iret dL_fitTile_19 rfl (Nat.le_of_ble_eq_true rfl) (Nat.le_of_ble_eq_true rfl) ⟨vp_updL f (0 : Int32).toNatClampNeg (z_fitTile S a1).2.1.toInt64, M', by rw [hz]; rfl, h, fun _ => vp_updL_0 _ _, rfl⟩
  · refine xl_catchC (X := xXt hhL_fitTile) (K := kL_fitTile) (R := eR (12, 1, 6)) (ca := 0) (sl := 0) (o := o) (f := f) (M := M) (Mm := Mm) xN0_m xXT (b' := (10, 1, 6)) (As := [.int a1]) (S := [.int 0, .ref o]) (E := "java/lang/IndexOutOfBoundsException") [] ⟨0, 9, 12, 25⟩ [⟨0, 9, 15, 13⟩] (fun _ _ _ _ h => h.1) (fun _ _ _ _ _ z hz => absurd hz List.not_mem_nil) (by decide) (by decide) xcl_25 xcast_IOE dL_fitTile_4 mX10_fitTile lML_72 rfl rfl (by exact ⟨⟨Nat.le_of_ble_eq_true rfl, Nat.le_of_ble_eq_true rfl⟩, ⟨Nat.le_of_ble_eq_true rfl, Nat.le_of_ble_eq_true rfl⟩⟩) (Nat.le_of_ble_eq_true rfl) (hP.2.1 hz) (fun q => ?_) rfl
    refine x_astore_n (l' := [(3, .ref q), (0, .ref (G.1 0)), (1, .int a1), (2, .ref o)]) dL_fitTile_12 rfl (by decide) rfl ?_
    refine x_iconst (v := 1) dL_fitTile_13 rfl ?_
    exact x_iret dL_fitTile_14 rfl (Nat.le_of_ble_eq_true rfl) (Nat.le_of_ble_eq_true rfl) ⟨f, M, by rw [hz]; rfl, by rw [hst (by rw [hz]; decide)]; exact hc, fun h => absurd (hz.symm.trans h) (by decide), rfl⟩
  · refine xl_catchC (X := xXt hhL_fitTile) (K := kL_fitTile) (R := eR (12, 1, 6)) (ca := 0) (sl := 0) (o := o) (f := f) (M := M) (Mm := Mm) xN0_m xXT (b' := (10, 1, 6)) (As := [.int a1]) (S := [.int 0, .ref o]) (E := "java/lang/IllegalStateException") [⟨0, 9, 12, 25⟩] ⟨0, 9, 15, 13⟩ [] (fun _ _ _ _ h => h.1) (fun s _ _ _ hX z hz => by rw [List.mem_singleton.mp hz]; exact Or.inr ⟨by decide, _, xcl_25, hX.2.2.2⟩) (by decide) (by decide) xcl_13 xcast_ISE dL_fitTile_4 mX10_fitTile lML_72 rfl rfl (by exact ⟨⟨Nat.le_of_ble_eq_true rfl, Nat.le_of_ble_eq_true rfl⟩, ⟨Nat.le_of_ble_eq_true rfl, Nat.le_of_ble_eq_true rfl⟩⟩) (Nat.le_of_ble_eq_true rfl) (hP.2.2 hz) (fun q => ?_) rfl
    refine x_astore_n (l' := [(3, .ref q), (0, .ref (G.1 0)), (1, .int a1), (2, .ref o)]) dL_fitTile_15 rfl (by decide) rfl ?_
    refine x_iconst (v := 2) dL_fitTile_16 rfl ?_
    exact x_iret dL_fitTile_17 rfl (Nat.le_of_ble_eq_true rfl) (Nat.le_of_ble_eq_true rfl) ⟨f, M, by rw [hz]; rfl, by rw [hst (by rw [hz]; decide)]; exact hc, fun h => absurd (hz.symm.trans h) (by decide), rfl⟩
set_option maxHeartbeats 4000000 in
set_option maxRecDepth 100000 in
theorem T_playRounds {M Mm : eM} {S : gS} (hs : sOk S) (hc : sC M S) (o : Nat) (f : Nat → Int64) (a1 : Int32) : xCalT G xN0 (12, 1, 6) kL_playRounds hhL_playRounds [.ref (G.1 0), .int a1, .ref o] (wL G o f M Mm) (fun v w' => ∃ f' M', v = some (.int (nI (z_playRounds S a1).1)) ∧ sC M' (z_playRounds S a1).2.2 ∧ ((z_playRounds S a1).1 = 0 → f' 0 = (z_playRounds S a1).2.1.toInt64) ∧ w' = wL G o f' M' Mm) := by
  refine xCalT.of (by decide +kernel) rfl (Nat.le_of_ble_eq_true rfl) ?_
  show Ex _ _ _ _ _ _ [(0, .ref (G.1 0)), (1, .int a1), (2, .ref o)] _ _ _ _
  have hP := P_playRounds (G := G) hs hc a1
  obtain ⟨hz, hst⟩ := zc_playRounds S a1
  refine x_aload_n 2 dL_playRounds_0 rfl rfl ?_
  refine x_iconst (v := 0) dL_playRounds_1 rfl ?_
  refine x_aload_n 0 dL_playRounds_2 rfl rfl ?_
  refine x_iload_n 1 dL_playRounds_3 rfl rfl ?_
  rcases hz with hz | hz
  · refine xl_callC (X := xXt hhL_playRounds) (K := kL_playRounds) (R := eR (12, 1, 6)) (ca := 0) (sl := 0) (o := o) (f := f) (M := M) (Mm := Mm) xN0_m xXT (b' := (8, 0, 0)) (As := [.int a1]) (S := [.int 0, .ref o]) dL_playRounds_4 mX10_playRounds lML_75 rfl rfl (by exact ⟨⟨Nat.le_of_ble_eq_true rfl, Nat.le_of_ble_eq_true rfl⟩, ⟨Nat.le_of_ble_eq_true rfl, Nat.le_of_ble_eq_true rfl⟩⟩) (Nat.le_of_ble_eq_true rfl) (hP.1 hz (fun r M' => r = (z_playRounds S a1).2.1 ∧ sC M' (z_playRounds S a1).2.2) (fun M' h => ⟨rfl, h⟩)) (fun v M' h => ?_) rfl
    obtain ⟨r, rfl, rfl, h⟩ := h
    refine x_i2l dL_playRounds_7 ?_
    refine x_last (q0 := 0) (N := 1) (f := f) dL_playRounds_8 rfl (vp_in_nI (n := 0) (by decide) (by decide)) ?_
    refine x_goto (t := 15) dL_playRounds_9 (by decide) ?_
    refine x_iconst (v := 0) dL_playRounds_15 rfl ?_
    exact x_iret dL_playRounds_16 rfl (Nat.le_of_ble_eq_true rfl) (Nat.le_of_ble_eq_true rfl) ⟨vp_updL f (0 : Int32).toNatClampNeg (z_playRounds S a1).2.1.toInt64, M', by rw [hz]; rfl, h, fun _ => vp_updL_0 _ _, rfl⟩
  · refine xl_catchC (X := xXt hhL_playRounds) (K := kL_playRounds) (R := eR (12, 1, 6)) (ca := 0) (sl := 0) (o := o) (f := f) (M := M) (Mm := Mm) xN0_m xXT (b' := (10, 1, 6)) (As := [.int a1]) (S := [.int 0, .ref o]) (E := "java/lang/IllegalArgumentException") [] ⟨0, 9, 12, 19⟩ [] (fun _ _ _ _ h => h.1) (fun _ _ _ _ _ z hz => absurd hz List.not_mem_nil) (by decide) (by decide) xcl_19 xcast_IAE dL_playRounds_4 mX10_playRounds lML_75 rfl rfl (by exact ⟨⟨Nat.le_of_ble_eq_true rfl, Nat.le_of_ble_eq_true rfl⟩, ⟨Nat.le_of_ble_eq_true rfl, Nat.le_of_ble_eq_true rfl⟩⟩) (Nat.le_of_ble_eq_true rfl) (hP.2 hz) (fun q => ?_) rfl
    refine x_astore_n (l' := [(3, .ref q), (0, .ref (G.1 0)), (1, .int a1), (2, .ref o)]) dL_playRounds_12 rfl (by decide) rfl ?_
    refine x_iconst (v := 1) dL_playRounds_13 rfl ?_
    exact x_iret dL_playRounds_14 rfl (Nat.le_of_ble_eq_true rfl) (Nat.le_of_ble_eq_true rfl) ⟨f, M, by rw [hz]; rfl, by rw [hst (by rw [hz]; decide)]; exact hc, fun h => absurd (hz.symm.trans h) (by decide), rfl⟩
set_option maxHeartbeats 4000000 in
set_option maxRecDepth 100000 in
theorem T_pointsAfter {M Mm : eM} {S : gS} (hs : sOk S) (hc : sC M S) (o : Nat) (f : Nat → Int64) (a1 : Int32) : xCalT G xN0 (12, 1, 6) kL_pointsAfter hhL_pointsAfter [.ref (G.1 0), .int a1, .ref o] (wL G o f M Mm) (fun v w' => ∃ f' M', v = some (.int (nI (z_pointsAfter S a1).1)) ∧ sC M' (z_pointsAfter S a1).2.2 ∧ ((z_pointsAfter S a1).1 = 0 → f' 0 = (z_pointsAfter S a1).2.1.toInt64) ∧ w' = wL G o f' M' Mm) := by
  refine xCalT.of (by decide +kernel) rfl (Nat.le_of_ble_eq_true rfl) ?_
  show Ex _ _ _ _ _ _ [(0, .ref (G.1 0)), (1, .int a1), (2, .ref o)] _ _ _ _
  have hP := P_pointsAfter (G := G) hs hc a1
  obtain ⟨hz, hst⟩ := zc_pointsAfter S a1
  refine x_aload_n 2 dL_pointsAfter_0 rfl rfl ?_
  refine x_iconst (v := 0) dL_pointsAfter_1 rfl ?_
  refine x_aload_n 0 dL_pointsAfter_2 rfl rfl ?_
  refine x_iload_n 1 dL_pointsAfter_3 rfl rfl ?_
  rcases hz with hz | hz
  · refine xl_callC (X := xXt hhL_pointsAfter) (K := kL_pointsAfter) (R := eR (12, 1, 6)) (ca := 0) (sl := 0) (o := o) (f := f) (M := M) (Mm := Mm) xN0_m xXT (b' := (8, 0, 0)) (As := [.int a1]) (S := [.int 0, .ref o]) dL_pointsAfter_4 mX10_pointsAfter lML_78 rfl rfl (by exact ⟨⟨Nat.le_of_ble_eq_true rfl, Nat.le_of_ble_eq_true rfl⟩, ⟨Nat.le_of_ble_eq_true rfl, Nat.le_of_ble_eq_true rfl⟩⟩) (Nat.le_of_ble_eq_true rfl) (hP.1 hz (fun r M' => r = (z_pointsAfter S a1).2.1 ∧ sC M' (z_pointsAfter S a1).2.2) (fun M' h => ⟨rfl, h⟩)) (fun v M' h => ?_) rfl
    obtain ⟨r, rfl, rfl, h⟩ := h
    refine x_i2l dL_pointsAfter_7 ?_
    refine x_last (q0 := 0) (N := 1) (f := f) dL_pointsAfter_8 rfl (vp_in_nI (n := 0) (by decide) (by decide)) ?_
    refine x_goto (t := 15) dL_pointsAfter_9 (by decide) ?_
    refine x_iconst (v := 0) dL_pointsAfter_15 rfl ?_
    exact x_iret dL_pointsAfter_16 rfl (Nat.le_of_ble_eq_true rfl) (Nat.le_of_ble_eq_true rfl) ⟨vp_updL f (0 : Int32).toNatClampNeg (z_pointsAfter S a1).2.1.toInt64, M', by rw [hz]; rfl, h, fun _ => vp_updL_0 _ _, rfl⟩
  · refine xl_catchC (X := xXt hhL_pointsAfter) (K := kL_pointsAfter) (R := eR (12, 1, 6)) (ca := 0) (sl := 0) (o := o) (f := f) (M := M) (Mm := Mm) xN0_m xXT (b' := (10, 1, 6)) (As := [.int a1]) (S := [.int 0, .ref o]) (E := "java/lang/IllegalArgumentException") [] ⟨0, 9, 12, 19⟩ [] (fun _ _ _ _ h => h.1) (fun _ _ _ _ _ z hz => absurd hz List.not_mem_nil) (by decide) (by decide) xcl_19 xcast_IAE dL_pointsAfter_4 mX10_pointsAfter lML_78 rfl rfl (by exact ⟨⟨Nat.le_of_ble_eq_true rfl, Nat.le_of_ble_eq_true rfl⟩, ⟨Nat.le_of_ble_eq_true rfl, Nat.le_of_ble_eq_true rfl⟩⟩) (Nat.le_of_ble_eq_true rfl) (hP.2 hz) (fun q => ?_) rfl
    refine x_astore_n (l' := [(3, .ref q), (0, .ref (G.1 0)), (1, .int a1), (2, .ref o)]) dL_pointsAfter_12 rfl (by decide) rfl ?_
    refine x_iconst (v := 1) dL_pointsAfter_13 rfl ?_
    exact x_iret dL_pointsAfter_14 rfl (Nat.le_of_ble_eq_true rfl) (Nat.le_of_ble_eq_true rfl) ⟨f, M, by rw [hz]; rfl, by rw [hst (by rw [hz]; decide)]; exact hc, fun h => absurd (hz.symm.trans h) (by decide), rfl⟩
set_option maxHeartbeats 4000000 in
set_option maxRecDepth 100000 in
theorem T_bestCell {M Mm : eM} {S : gS} (hs : sOk S) (hc : sC M S) (o : Nat) (f : Nat → Int64) (a1 : Int32) : xCalT G xN0 (12, 1, 6) kL_bestCell hhL_bestCell [.ref (G.1 0), .int a1, .ref o] (wL G o f M Mm) (fun v w' => ∃ f' M', v = some (.int (nI (z_bestCell S a1).1)) ∧ sC M' (z_bestCell S a1).2.2 ∧ ((z_bestCell S a1).1 = 0 → f' 0 = (z_bestCell S a1).2.1.toInt64) ∧ w' = wL G o f' M' Mm) := by
  refine xCalT.of (by decide +kernel) rfl (Nat.le_of_ble_eq_true rfl) ?_
  show Ex _ _ _ _ _ _ [(0, .ref (G.1 0)), (1, .int a1), (2, .ref o)] _ _ _ _
  have hP := P_bestCell (G := G) hs hc a1
  obtain ⟨hz, hst⟩ := zc_bestCell S a1
  refine x_aload_n 2 dL_bestCell_0 rfl rfl ?_
  refine x_iconst (v := 0) dL_bestCell_1 rfl ?_
  refine x_aload_n 0 dL_bestCell_2 rfl rfl ?_
  refine x_iload_n 1 dL_bestCell_3 rfl rfl ?_
  rcases hz with hz | hz | hz
  · refine xl_callC (X := xXt hhL_bestCell) (K := kL_bestCell) (R := eR (12, 1, 6)) (ca := 0) (sl := 0) (o := o) (f := f) (M := M) (Mm := Mm) xN0_m xXT (b' := (4, 0, 0)) (As := [.int a1]) (S := [.int 0, .ref o]) dL_bestCell_4 mX10_bestCell lML_81 rfl rfl (by exact ⟨⟨Nat.le_of_ble_eq_true rfl, Nat.le_of_ble_eq_true rfl⟩, ⟨Nat.le_of_ble_eq_true rfl, Nat.le_of_ble_eq_true rfl⟩⟩) (Nat.le_of_ble_eq_true rfl) (hP.1 hz (fun r M' => r = (z_bestCell S a1).2.1 ∧ sC M' (z_bestCell S a1).2.2) (fun M' h => ⟨rfl, h⟩)) (fun v M' h => ?_) rfl
    obtain ⟨r, rfl, rfl, h⟩ := h
    refine x_i2l dL_bestCell_7 ?_
    refine x_last (q0 := 0) (N := 1) (f := f) dL_bestCell_8 rfl (vp_in_nI (n := 0) (by decide) (by decide)) ?_
    refine x_goto (t := 18) dL_bestCell_9 (by decide) ?_
    refine x_iconst (v := 0) dL_bestCell_18 rfl ?_
    exact x_iret dL_bestCell_19 rfl (Nat.le_of_ble_eq_true rfl) (Nat.le_of_ble_eq_true rfl) ⟨vp_updL f (0 : Int32).toNatClampNeg (z_bestCell S a1).2.1.toInt64, M', by rw [hz]; rfl, h, fun _ => vp_updL_0 _ _, rfl⟩
  · refine xl_catchC (X := xXt hhL_bestCell) (K := kL_bestCell) (R := eR (12, 1, 6)) (ca := 0) (sl := 0) (o := o) (f := f) (M := M) (Mm := Mm) xN0_m xXT (b' := (10, 1, 6)) (As := [.int a1]) (S := [.int 0, .ref o]) (E := "java/lang/IndexOutOfBoundsException") [] ⟨0, 9, 12, 25⟩ [⟨0, 9, 15, 13⟩] (fun _ _ _ _ h => h.1) (fun _ _ _ _ _ z hz => absurd hz List.not_mem_nil) (by decide) (by decide) xcl_25 xcast_IOE dL_bestCell_4 mX10_bestCell lML_81 rfl rfl (by exact ⟨⟨Nat.le_of_ble_eq_true rfl, Nat.le_of_ble_eq_true rfl⟩, ⟨Nat.le_of_ble_eq_true rfl, Nat.le_of_ble_eq_true rfl⟩⟩) (Nat.le_of_ble_eq_true rfl) (hP.2.1 hz) (fun q => ?_) rfl
    refine x_astore_n (l' := [(3, .ref q), (0, .ref (G.1 0)), (1, .int a1), (2, .ref o)]) dL_bestCell_12 rfl (by decide) rfl ?_
    refine x_iconst (v := 1) dL_bestCell_13 rfl ?_
    exact x_iret dL_bestCell_14 rfl (Nat.le_of_ble_eq_true rfl) (Nat.le_of_ble_eq_true rfl) ⟨f, M, by rw [hz]; rfl, by rw [hst (by rw [hz]; decide)]; exact hc, fun h => absurd (hz.symm.trans h) (by decide), rfl⟩
  · refine xl_catchC (X := xXt hhL_bestCell) (K := kL_bestCell) (R := eR (12, 1, 6)) (ca := 0) (sl := 0) (o := o) (f := f) (M := M) (Mm := Mm) xN0_m xXT (b' := (10, 1, 6)) (As := [.int a1]) (S := [.int 0, .ref o]) (E := "java/lang/IllegalStateException") [⟨0, 9, 12, 25⟩] ⟨0, 9, 15, 13⟩ [] (fun _ _ _ _ h => h.1) (fun s _ _ _ hX z hz => by rw [List.mem_singleton.mp hz]; exact Or.inr ⟨by decide, _, xcl_25, hX.2.2.2⟩) (by decide) (by decide) xcl_13 xcast_ISE dL_bestCell_4 mX10_bestCell lML_81 rfl rfl (by exact ⟨⟨Nat.le_of_ble_eq_true rfl, Nat.le_of_ble_eq_true rfl⟩, ⟨Nat.le_of_ble_eq_true rfl, Nat.le_of_ble_eq_true rfl⟩⟩) (Nat.le_of_ble_eq_true rfl) (hP.2.2 hz) (fun q => ?_) rfl
    refine x_astore_n (l' := [(3, .ref q), (0, .ref (G.1 0)), (1, .int a1), (2, .ref o)]) dL_bestCell_15 rfl (by decide) rfl ?_
    refine x_iconst (v := 2) dL_bestCell_16 rfl ?_
    exact x_iret dL_bestCell_17 rfl (Nat.le_of_ble_eq_true rfl) (Nat.le_of_ble_eq_true rfl) ⟨f, M, by rw [hz]; rfl, by rw [hst (by rw [hz]; decide)]; exact hc, fun h => absurd (hz.symm.trans h) (by decide), rfl⟩
set_option maxHeartbeats 4000000 in
set_option maxRecDepth 100000 in
theorem T_bestTurn {M Mm : eM} {S : gS} (hs : sOk S) (hc : sC M S) (o : Nat) (f : Nat → Int64) (a1 : Int32) : xCalT G xN0 (12, 1, 6) kL_bestTurn hhL_bestTurn [.ref (G.1 0), .int a1, .ref o] (wL G o f M Mm) (fun v w' => ∃ f' M', v = some (.int (nI (z_bestTurn S a1).1)) ∧ sC M' (z_bestTurn S a1).2.2 ∧ ((z_bestTurn S a1).1 = 0 → f' 0 = (z_bestTurn S a1).2.1.toInt64) ∧ w' = wL G o f' M' Mm) := by
  refine xCalT.of (by decide +kernel) rfl (Nat.le_of_ble_eq_true rfl) ?_
  show Ex _ _ _ _ _ _ [(0, .ref (G.1 0)), (1, .int a1), (2, .ref o)] _ _ _ _
  have hP := P_bestTurn (G := G) hs hc a1
  obtain ⟨hz, hst⟩ := zc_bestTurn S a1
  refine x_aload_n 2 dL_bestTurn_0 rfl rfl ?_
  refine x_iconst (v := 0) dL_bestTurn_1 rfl ?_
  refine x_aload_n 0 dL_bestTurn_2 rfl rfl ?_
  refine x_iload_n 1 dL_bestTurn_3 rfl rfl ?_
  rcases hz with hz | hz | hz
  · refine xl_callC (X := xXt hhL_bestTurn) (K := kL_bestTurn) (R := eR (12, 1, 6)) (ca := 0) (sl := 0) (o := o) (f := f) (M := M) (Mm := Mm) xN0_m xXT (b' := (4, 0, 0)) (As := [.int a1]) (S := [.int 0, .ref o]) dL_bestTurn_4 mX10_bestTurn lML_84 rfl rfl (by exact ⟨⟨Nat.le_of_ble_eq_true rfl, Nat.le_of_ble_eq_true rfl⟩, ⟨Nat.le_of_ble_eq_true rfl, Nat.le_of_ble_eq_true rfl⟩⟩) (Nat.le_of_ble_eq_true rfl) (hP.1 hz (fun r M' => r = (z_bestTurn S a1).2.1 ∧ sC M' (z_bestTurn S a1).2.2) (fun M' h => ⟨rfl, h⟩)) (fun v M' h => ?_) rfl
    obtain ⟨r, rfl, rfl, h⟩ := h
    refine x_i2l dL_bestTurn_7 ?_
    refine x_last (q0 := 0) (N := 1) (f := f) dL_bestTurn_8 rfl (vp_in_nI (n := 0) (by decide) (by decide)) ?_
    refine x_goto (t := 18) dL_bestTurn_9 (by decide) ?_
    refine x_iconst (v := 0) dL_bestTurn_18 rfl ?_
    exact x_iret dL_bestTurn_19 rfl (Nat.le_of_ble_eq_true rfl) (Nat.le_of_ble_eq_true rfl) ⟨vp_updL f (0 : Int32).toNatClampNeg (z_bestTurn S a1).2.1.toInt64, M', by rw [hz]; rfl, h, fun _ => vp_updL_0 _ _, rfl⟩
  · refine xl_catchC (X := xXt hhL_bestTurn) (K := kL_bestTurn) (R := eR (12, 1, 6)) (ca := 0) (sl := 0) (o := o) (f := f) (M := M) (Mm := Mm) xN0_m xXT (b' := (10, 1, 6)) (As := [.int a1]) (S := [.int 0, .ref o]) (E := "java/lang/IndexOutOfBoundsException") [] ⟨0, 9, 12, 25⟩ [⟨0, 9, 15, 13⟩] (fun _ _ _ _ h => h.1) (fun _ _ _ _ _ z hz => absurd hz List.not_mem_nil) (by decide) (by decide) xcl_25 xcast_IOE dL_bestTurn_4 mX10_bestTurn lML_84 rfl rfl (by exact ⟨⟨Nat.le_of_ble_eq_true rfl, Nat.le_of_ble_eq_true rfl⟩, ⟨Nat.le_of_ble_eq_true rfl, Nat.le_of_ble_eq_true rfl⟩⟩) (Nat.le_of_ble_eq_true rfl) (hP.2.1 hz) (fun q => ?_) rfl
    refine x_astore_n (l' := [(3, .ref q), (0, .ref (G.1 0)), (1, .int a1), (2, .ref o)]) dL_bestTurn_12 rfl (by decide) rfl ?_
    refine x_iconst (v := 1) dL_bestTurn_13 rfl ?_
    exact x_iret dL_bestTurn_14 rfl (Nat.le_of_ble_eq_true rfl) (Nat.le_of_ble_eq_true rfl) ⟨f, M, by rw [hz]; rfl, by rw [hst (by rw [hz]; decide)]; exact hc, fun h => absurd (hz.symm.trans h) (by decide), rfl⟩
  · refine xl_catchC (X := xXt hhL_bestTurn) (K := kL_bestTurn) (R := eR (12, 1, 6)) (ca := 0) (sl := 0) (o := o) (f := f) (M := M) (Mm := Mm) xN0_m xXT (b' := (10, 1, 6)) (As := [.int a1]) (S := [.int 0, .ref o]) (E := "java/lang/IllegalStateException") [⟨0, 9, 12, 25⟩] ⟨0, 9, 15, 13⟩ [] (fun _ _ _ _ h => h.1) (fun s _ _ _ hX z hz => by rw [List.mem_singleton.mp hz]; exact Or.inr ⟨by decide, _, xcl_25, hX.2.2.2⟩) (by decide) (by decide) xcl_13 xcast_ISE dL_bestTurn_4 mX10_bestTurn lML_84 rfl rfl (by exact ⟨⟨Nat.le_of_ble_eq_true rfl, Nat.le_of_ble_eq_true rfl⟩, ⟨Nat.le_of_ble_eq_true rfl, Nat.le_of_ble_eq_true rfl⟩⟩) (Nat.le_of_ble_eq_true rfl) (hP.2.2 hz) (fun q => ?_) rfl
    refine x_astore_n (l' := [(3, .ref q), (0, .ref (G.1 0)), (1, .int a1), (2, .ref o)]) dL_bestTurn_15 rfl (by decide) rfl ?_
    refine x_iconst (v := 2) dL_bestTurn_16 rfl ?_
    exact x_iret dL_bestTurn_17 rfl (Nat.le_of_ble_eq_true rfl) (Nat.le_of_ble_eq_true rfl) ⟨f, M, by rw [hz]; rfl, by rw [hst (by rw [hz]; decide)]; exact hc, fun h => absurd (hz.symm.trans h) (by decide), rfl⟩
end Wrap
