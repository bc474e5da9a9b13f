/-! ===== the law: each call ===== -/
theorem zInt (x : Int64) : lg_cmp x x = 0 := by
  unfold lg_cmp
  rw [if_neg (fun h => absurd (Int64.lt_iff_toInt_lt.mp h) (Int.lt_irrefl _)), if_pos rfl]
def kL_law : eK := (RL, yL_law, cL_law, 9, some .boolean)
/-- what holds at the law's start, beside the words: the script -/
abbrev lwX (b L : Nat) (xs : Nat → Int32) : xX := fun s _ _ A => ((A = fun q => s.heap.size ≤ q) ∧ va_X b L xs s s.heap ∧ b < s.heap.size) ∧ xN0 s
theorem lwX_n {b L : Nat} {xs : Nat → Int32} : ∀ s meth c A, lwX b L xs s meth c A → xN0 s := fun _ _ _ _ h => h.2
abbrev lwZ : eZt := fun below args s _ => lw_Z below args s
abbrev lE (b L : Nat) (xs : Nat → Int32) (G : eG) (pc : Nat) (l : List (Nat × Value)) (S : List Value) (w : va_W) (ca sl : Nat) : Prop := Ex (lwX b L xs) lwZ G room_1 kL_law pc l S w ca sl
abbrev lLoc (b o : Nat) (G : eG) (i : Int32) : List (Nat × Value) := [(4, .int i), (3, .ref o), (2, .ref (G.1 100)), (1, .ref (G.1 0)), (0, .ref b)]
section LawRows
variable {b L : Nat} {xs : Nat → Int32} {G : eG} {pc : Nat} {l l' : List (Nat × Value)} {S : List Value} {w : va_W} {ca sl : Nat}
theorem xl_sld (j : Nat) {v : Int32} (hdg : decode (kCode kL_law) pc = .ok (.iaload, 1)) (hv : v = nI j) (hj : j < L) (hL : L ≤ 3072) (kk : lE b L xs G (pc + 1) l (.int (xs j) :: S) w ca sl) : lE b L xs G pc l (.int v :: .ref b :: S) w ca sl := by
  subst hv
  refine Ex.step (fun {p la e s m args below meth c' A H locs ls Q} C0 hl k0 => ?_) kk
  obtain ⟨h1, h2, h3, h4, ⟨h5, ⟨h15, h16, h17⟩, h18⟩, h6, h7, h8, h9, h10, h11, h12, h13, h14⟩ := C0
  refine va_sld h1 h2 h16 h17 (by rw [h15]; exact Nat.not_le.mpr h17) h12 (vp_in_nI hj (by omega)) hdg ?_
  rw [nI_clamp (show j < 2 ^ 31 by omega)]
  exact k0
theorem xl_slen (hdg : decode (kCode kL_law) pc = .ok (.arraylength, 1)) (kk : lE b L xs G (pc + 1) l (.int (nI L) :: S) w ca sl) : lE b L xs G pc l (.ref b :: S) w ca sl := by
  refine Ex.step (fun {p la e s m args below meth c' A H locs ls Q} C0 hl k0 => ?_) kk
  obtain ⟨h1, h2, h3, h4, ⟨h5, ⟨h15, h16, h17⟩, h18⟩, h6, h7, h8, h9, h10, h11, h12, h13, h14⟩ := C0
  exact va_slen h1 h2 h16 h17 (by rw [h15]; exact Nat.not_le.mpr h17) h12 hdg k0
theorem xl_lcmp {x y : Int64} (hdg : decode (kCode kL_law) pc = .ok (.lcmp, 1)) (kk : lE b L xs G (pc + 1) l (.int (lg_cmp x y) :: S) w ca sl) : lE b L xs G pc l (.long y :: .long x :: S) w ca sl :=
  Ex.step (fun C _ k => W.lcmp C.1 C.2.1 hdg k) kk
theorem xl_dcmp {op : CmpOp} {x y : UInt64} (hdg : decode (kCode kL_law) pc = .ok (.dcmp op, 1)) (kk : lE b L xs G (pc + 1) l (.int (Op.cmpValue (FP.dcmp x y) op) :: S) w ca sl) : lE b L xs G pc l (.double y :: .double x :: S) w ca sl :=
  Ex.step (fun C _ k => lv_dcmp C.1 C.2.1 hdg k) kk
end LawRows
theorem nI_p (i k : Nat) {c : Int32} (hc : c = nI k) : nI i + c = nI (i + k) := by rw [hc, nI_add]
theorem zc0 {z : Nat} (h : z = 0 ∨ z = 1 ∨ z = 2) (q : nI z = 0) : z = 0 := by
  rcases h with h | h | h
  · exact h
  · rw [h] at q; exact absurd q (by decide)
  · rw [h] at q; exact absurd q (by decide)
/-- the state is as it should be behind each call -/
theorem zk_b {S : gS} (hs : sOk S) {B : eBd} {r : Int32} (hg : bGm B) (hz : bSz (gB S) B) : sOk (gWB S B r) := hs.b hg hz
theorem zk_hasTile {S : gS} (hs : sOk S) (a1 : Int32) : sOk (z_hasTile S a1).2.2 := by
  unfold z_hasTile
  repeat' split
  all_goals exact hs
theorem zk_tileAt {S : gS} (hs : sOk S) (a1 : Int32) : sOk (z_tileAt S a1).2.2 := by
  unfold z_tileAt
  repeat' split
  all_goals exact hs
theorem zk_numberAt {S : gS} (hs : sOk S) (a1 a2 : Int32) : sOk (z_numberAt S a1 a2).2.2 := by
  unfold z_numberAt
  repeat' split
  all_goals exact hs
theorem zk_matchesOf {S : gS} (hs : sOk S) (a1 : Int32) : sOk (z_matchesOf S a1).2.2 := by
  unfold z_matchesOf
  repeat' split
  all_goals exact hs
theorem zk_isRing {S : gS} (hs : sOk S) (a1 : Int32) : sOk (z_isRing S a1).2.2 := by
  unfold z_isRing
  repeat' split
  all_goals exact hs
theorem zk_isPlaced {S : gS} (hs : sOk S) (a1 : Int32) : sOk (z_isPlaced S a1).2.2 := by
  unfold z_isPlaced
  repeat' split
  all_goals exact hs
theorem zk_cellOf {S : gS} (hs : sOk S) (a1 : Int32) : sOk (z_cellOf S a1).2.2 := by
  unfold z_cellOf
  repeat' split
  all_goals exact hs
theorem zk_turnOf {S : gS} (hs : sOk S) (a1 : Int32) : sOk (z_turnOf S a1).2.2 := by
  unfold z_turnOf
  repeat' split
  all_goals exact hs
theorem zk_fits {S : gS} (hs : sOk S) (a1 a2 a3 : Int32) : sOk (z_fits S a1 a2 a3).2.2 := by
  unfold z_fits
  repeat' split
  all_goals exact hs
theorem zk_edgeAgainst {S : gS} (hs : sOk S) (a1 a2 a3 : Int32) : sOk (z_edgeAgainst S a1 a2 a3).2.2 := by
  unfold z_edgeAgainst
  repeat' split
  all_goals exact hs
theorem zk_waysOf {S : gS} (hs : sOk S) (a1 : Int32) : sOk (z_waysOf S a1).2.2 := by
  unfold z_waysOf
  repeat' split
  all_goals exact hs
theorem zk_isLeftover {S : gS} (hs : sOk S) (a1 : Int32) : sOk (z_isLeftover S a1).2.2 := by
  unfold z_isLeftover
  repeat' split
  all_goals exact hs
theorem zk_looksToProve {S : gS} (hs : sOk S) (a1 : Int32) : sOk (z_looks S a1).2.2 := by
  unfold z_looks
  repeat' split
  all_goals exact hs
theorem zk_pointsAfter {S : gS} (hs : sOk S) (a1 : Int32) : sOk (z_pointsAfter S a1).2.2 := by
  unfold z_pointsAfter
  repeat' split
  all_goals exact hs
theorem zk_bestCell {S : gS} (hs : sOk S) (a1 : Int32) : sOk (z_bestCell S a1).2.2 := by
  unfold z_bestCell
  repeat' split
  all_goals exact hs
theorem zk_bestTurn {S : gS} (hs : sOk S) (a1 : Int32) : sOk (z_bestTurn S a1).2.2 := by
  unfold z_bestTurn
  repeat' split
  all_goals exact hs
theorem zk_feed {S : gS} (hs : sOk S) (a1 a2 a3 a4 a5 : Int32) : sOk (z_feed S a1 a2 a3 a4 a5).2.2 := by
  unfold z_feed
  split
  · rename_i h
    exact ⟨h, fW5_lt hs.2.1, hs.2.2⟩
  · exact hs
theorem zk_trim {S : gS} (hs : sOk S) (a1 : Int32) : sOk (z_trim S a1).2.2 := by
  unfold z_trim
  split
  · rename_i h
    obtain ⟨k, hk, rfl⟩ := dTrim (show gSz S < 2 ^ 31 by have := hs.1; omega) h
    rw [nI_clamp (show k < 2 ^ 31 by have := hs.1; omega)]
    exact ⟨Nat.le_trans hk hs.1, hs.2.1, hs.2.2⟩
  · exact hs
theorem zk_putTile {S : gS} (hs : sOk S) (a1 a2 a3 : Int32) : sOk (z_putTile S a1 a2 a3).2.2 := by
  have hb := hs.2.2.1.1
  have h49 := hb.c49
  have h16 := hb.2.2.1
  unfold z_putTile
  split
  · rename_i h
    split
    · rename_i hf
      obtain ⟨ik, hk, rfl⟩ := dIn_nat (by omega) h.1
      obtain ⟨ic, hcc, rfl⟩ := dIn_nat (by omega) h.2.1
      obtain ⟨iu, hu, rfl⟩ := dIn_nat (by decide) h.2.2
      rw [nI_clamp (show ik < 2 ^ 31 by omega), nI_clamp (show ic < 2 ^ 31 by omega), nI_clamp (show iu < 2 ^ 31 by omega)] at hf ⊢
      exact hs.b (bGm.put hs.2.2.1 hk hcc hu hf) ⟨rfl, rfl, rfl, rfl⟩
    · exact hs
  · exact hs
theorem zk_takeTile {S : gS} (hs : sOk S) (a1 : Int32) : sOk (z_takeTile S a1).2.2 := by
  have hb := hs.2.2.1.1
  have h16 := hb.2.2.1
  unfold z_takeTile
  split
  · rename_i h
    obtain ⟨k, hk, rfl⟩ := dIn_nat (by omega) h
    rw [nI_clamp (show k < 2 ^ 31 by omega)]
    split
    · exact hs
    · rename_i c h1
      exact hs.b (bGm.lift hs.2.2.1 hk h1) ⟨rfl, rfl, rfl, rfl⟩
  · exact hs
theorem zk_fitTile {S : gS} (hs : sOk S) (a1 : Int32) : sOk (z_fitTile S a1).2.2 := by
  have hb := hs.2.2.1.1
  have h16 := hb.2.2.1
  unfold z_fitTile
  split
  · rename_i h
    obtain ⟨k, hk, rfl⟩ := dIn_nat (by omega) h
    rw [nI_clamp (show k < 2 ^ 31 by omega)]
    split
    · exact hs
    · rename_i c h1
      obtain ⟨hcc, u, hu, hu6, hf⟩ := bFirst_some h1
      rw [hu]
      exact hs.b (bGm.put hs.2.2.1 hk hcc hu6 hf) ⟨rfl, rfl, rfl, rfl⟩
  · exact hs
theorem zk_playRounds {S : gS} (hs : sOk S) (a1 : Int32) : sOk (z_playRounds S a1).2.2 := by
  unfold z_playRounds
  split
  · obtain ⟨h1, h2⟩ := gPl_gm (tv := gTv S) (os := gOs S) a1.toNatClampNeg (gB S, gR S) hs.2.2.1 hs.2.2.2
    exact hs.b h1 h2
  · exact hs
set_option maxHeartbeats 4000000 in
set_option maxRecDepth 100000 in
theorem KL_feed {b L o : Nat} {xs : Nat → Int32} {G : eG} {f : Nat → Int64} {M Mm : eM} {S : gS} (hs : sOk S) (hc : sC M S) (hm : sM Mm S) {i : Nat} (hi : i + 6 ≤ L) (hL : L ≤ 3072) {ca sl : Nat} (hr : ca + 2 ≤ 601024 ∧ sl + 16 ≤ 7293034)
    (kk : ∀ (f' : Nat → Int64) (M' Mm' : eM) (S' : gS), sOk S' → sC M' S' → sM Mm' S' → lE b L xs G 1827 (lLoc b o G (nI i)) [] (wL G o f' M' Mm') (ca + 2) (sl + 16)) : lE b L xs G 204 (lLoc b o G (nI i)) [] (wL G o f M Mm) ca sl := by
  refine x_aload_n 3 dL_law_204 rfl rfl ?_
  refine x_aload_n 4 dL_law_205 rfl rfl ?_
  refine x_iload 0 dL_law_206 rfl ?_
  refine x_iconst (v := 1) dL_law_208 rfl ?_
  refine x_iadd dL_law_209 ?_
  refine xl_sld (i + 1) dL_law_210 (nI_p i 1 rfl) (by omega) hL ?_
  refine x_aload_n 4 dL_law_211 rfl rfl ?_
  refine x_iload 0 dL_law_212 rfl ?_
  refine x_iconst (v := 2) dL_law_214 rfl ?_
  refine x_iadd dL_law_215 ?_
  refine xl_sld (i + 2) dL_law_216 (nI_p i 2 rfl) (by omega) hL ?_
  refine x_aload_n 4 dL_law_217 rfl rfl ?_
  refine x_iload 0 dL_law_218 rfl ?_
  refine x_iconst (v := 3) dL_law_220 rfl ?_
  refine x_iadd dL_law_221 ?_
  refine xl_sld (i + 3) dL_law_222 (nI_p i 3 rfl) (by omega) hL ?_
  refine x_aload_n 4 dL_law_223 rfl rfl ?_
  refine x_iload 0 dL_law_224 rfl ?_
  refine x_iconst (v := 4) dL_law_226 rfl ?_
  refine x_iadd dL_law_227 ?_
  refine xl_sld (i + 4) dL_law_228 (nI_p i 4 rfl) (by omega) hL ?_
  refine x_aload_n 4 dL_law_229 rfl rfl ?_
  refine x_iload 0 dL_law_230 rfl ?_
  refine x_iconst (v := 5) dL_law_232 rfl ?_
  refine x_iadd dL_law_233 ?_
  refine xl_sld (i + 5) dL_law_234 (nI_p i 5 rfl) (by omega) hL ?_
  refine x_aload_n 1 dL_law_235 rfl rfl ?_
  obtain ⟨hz, hst⟩ := zc_feed S (xs (i + 1)) (xs (i + 2)) (xs (i + 3)) (xs (i + 4)) (xs (i + 5))
  have hz3 : (z_feed S (xs (i + 1)) (xs (i + 2)) (xs (i + 3)) (xs (i + 4)) (xs (i + 5))).1 = 0 ∨ (z_feed S (xs (i + 1)) (xs (i + 2)) (xs (i + 3)) (xs (i + 4)) (xs (i + 5))).1 = 1 ∨ (z_feed S (xs (i + 1)) (xs (i + 2)) (xs (i + 3)) (xs (i + 4)) (xs (i + 5))).1 = 2 := hz.elim Or.inl (fun h => Or.inr (Or.inl h))
  refine x_callT (K := kL_law) (R := room_1) (ca := ca) (sl := sl) (w := wL G o f M Mm) xN0_m lwX_n (b' := (12, 1, 6)) (As := [.ref (G.1 0), .int (xs (i + 1)), .int (xs (i + 2)), .int (xs (i + 3)), .int (xs (i + 4)), .int (xs (i + 5)), .ref o]) (S := []) dL_law_236 mtL_feed lML_91 rfl (by exact ⟨⟨Nat.le_of_ble_eq_true rfl, Nat.le_of_ble_eq_true rfl⟩, ⟨by show ca + 1 ≤ 601024; omega, by show sl + 6 ≤ 7293034; omega⟩⟩) (Nat.le_of_ble_eq_true rfl) (T_feed hs hc o f (xs (i + 1)) (xs (i + 2)) (xs (i + 3)) (xs (i + 4)) (xs (i + 5))) (fun v w' h => ?_) rfl
  obtain ⟨f1, M1, rfl, c1, hf, rfl⟩ := h
  refine x_istore (l' := [(5, .int (nI (z_feed S (xs (i + 1)) (xs (i + 2)) (xs (i + 3)) (xs (i + 4)) (xs (i + 5))).1)), (4, .int (nI i)), (3, .ref o), (2, .ref (G.1 100)), (1, .ref (G.1 0)), (0, .ref b)]) dL_law_239 (by decide) rfl ?_
  refine x_aload_n 3 dL_law_241 rfl rfl ?_
  refine x_aload_n 5 dL_law_242 rfl rfl ?_
  refine x_iload 1 dL_law_243 rfl ?_
  refine x_iconst (v := 1) dL_law_245 rfl ?_
  refine x_iadd dL_law_246 ?_
  refine xl_sld (i + 1) dL_law_247 (nI_p i 1 rfl) (by omega) hL ?_
  refine x_aload_n 5 dL_law_248 rfl rfl ?_
  refine x_iload 1 dL_law_249 rfl ?_
  refine x_iconst (v := 2) dL_law_251 rfl ?_
  refine x_iadd dL_law_252 ?_
  refine xl_sld (i + 2) dL_law_253 (nI_p i 2 rfl) (by omega) hL ?_
  refine x_aload_n 5 dL_law_254 rfl rfl ?_
  refine x_iload 1 dL_law_255 rfl ?_
  refine x_iconst (v := 3) dL_law_257 rfl ?_
  refine x_iadd dL_law_258 ?_
  refine xl_sld (i + 3) dL_law_259 (nI_p i 3 rfl) (by omega) hL ?_
  refine x_aload_n 5 dL_law_260 rfl rfl ?_
  refine x_iload 1 dL_law_261 rfl ?_
  refine x_iconst (v := 4) dL_law_263 rfl ?_
  refine x_iadd dL_law_264 ?_
  refine xl_sld (i + 4) dL_law_265 (nI_p i 4 rfl) (by omega) hL ?_
  refine x_aload_n 5 dL_law_266 rfl rfl ?_
  refine x_iload 1 dL_law_267 rfl ?_
  refine x_iconst (v := 5) dL_law_269 rfl ?_
  refine x_iadd dL_law_270 ?_
  refine xl_sld (i + 5) dL_law_271 (nI_p i 5 rfl) (by omega) hL ?_
  refine xl_callM (K := kL_law) (R := room_1) (ca := ca + 1) (sl := sl + 6) (o := o) (f := f1) (M := M1) (Mm := Mm) xN0_m lwX_n (b' := (3, 1, 5)) (As := [.int (xs (i + 1)), .int (xs (i + 2)), .int (xs (i + 3)), .int (xs (i + 4)), .int (xs (i + 5))]) (S := []) dL_law_272 mX13_feed lML_96 rfl rfl (by exact ⟨⟨Nat.le_of_ble_eq_true rfl, Nat.le_of_ble_eq_true rfl⟩, ⟨by show ca + 1 + 1 ≤ 601024; omega, by show sl + 6 + 5 ≤ 7293034; omega⟩⟩) (Nat.le_of_ble_eq_true rfl) (U_feed hs hm (xs (i + 1)) (xs (i + 2)) (xs (i + 3)) (xs (i + 4)) (xs (i + 5)) (fun r M' => sM M' (z_feed S (xs (i + 1)) (xs (i + 2)) (xs (i + 3)) (xs (i + 4)) (xs (i + 5))).2.2 ∧ M' 100 0 = nI (z_feed S (xs (i + 1)) (xs (i + 2)) (xs (i + 3)) (xs (i + 4)) (xs (i + 5))).1 ∧ ((z_feed S (xs (i + 1)) (xs (i + 2)) (xs (i + 3)) (xs (i + 4)) (xs (i + 5))).1 = 0 → r = (z_feed S (xs (i + 1)) (xs (i + 2)) (xs (i + 3)) (xs (i + 4)) (xs (i + 5))).2.1)) (fun r M' h1 h2 h3 => ⟨h1, h2, h3⟩)) (fun v Mm1 h => ?_) rfl
  obtain ⟨r, rfl, m1, ht, hrv⟩ := h
  refine x_istore (l' := [(6, .int r), (5, .int (nI (z_feed S (xs (i + 1)) (xs (i + 2)) (xs (i + 3)) (xs (i + 4)) (xs (i + 5))).1)), (4, .int (nI i)), (3, .ref o), (2, .ref (G.1 100)), (1, .ref (G.1 0)), (0, .ref b)]) dL_law_275 (by decide) rfl ?_
  refine x_aload_n 4 dL_law_277 rfl rfl ?_
  refine xl_callM (K := kL_law) (R := room_1) (ca := ca + 1 + 1) (sl := sl + 6 + 5) (o := o) (f := f1) (M := M1) (Mm := Mm1) xN0_m lwX_n (b' := (1, 0, 0)) (As := []) (S := []) dL_law_278 mX13_thrown lML_97 rfl rfl (by exact ⟨⟨Nat.le_of_ble_eq_true rfl, Nat.le_of_ble_eq_true rfl⟩, ⟨by show ca + 1 + 1 + 0 ≤ 601024; omega, by show sl + 6 + 5 + 0 ≤ 7293034; omega⟩⟩) (Nat.le_of_ble_eq_true rfl) (C_X13_thrown G _ (fun r M' => Mm1 100 0 = r ∧ Mm1 = M') ⟨rfl, rfl⟩) (fun v Mm2 h => ?_) rfl
  obtain ⟨_, rfl, rfl, rfl⟩ := h
  refine x_iload 1 dL_law_281 rfl ?_
  refine x_icmp_eq (t := 288) dL_law_283 (by decide) (fun _ => ?_) (fun q => absurd ht q)
  refine x_iload 1 dL_law_288 rfl ?_
  have hok : sOk (z_feed S (xs (i + 1)) (xs (i + 2)) (xs (i + 3)) (xs (i + 4)) (xs (i + 5))).2.2 := zk_feed hs (xs (i + 1)) (xs (i + 2)) (xs (i + 3)) (xs (i + 4)) (xs (i + 5))
  refine x_if_ne (t := 305) dL_law_290 (by decide) (fun q => ?_) (fun q => ?_)
  · refine x_goto (t := 1827) dL_law_305 (by decide) ?_
    refine Ex.sub (ks := [2, 3, 4, 5, 6]) rfl ?_
    exact Ex.wide (by show ca + 1 + 1 + 0 ≤ ca + 2; omega) (by show sl + 6 + 5 + 0 ≤ sl + 16; omega) (kk f1 M1 Mm1 _ hok c1 m1)
  · have hz0 := zc0 hz3 q
    have e1 := hf hz0
    have e2 := hrv hz0
    refine x_aload_n 3 dL_law_293 rfl rfl ?_
    refine x_iconst (v := 0) dL_law_294 rfl ?_
    refine x_lald (q0 := 0) (N := 1) (f := f1) dL_law_295 rfl (vp_in_nI (n := 0) (by decide) (by decide)) ?_
    rw [show (0 : Int32).toNatClampNeg = 0 from by decide, e1]
    refine x_iload 0 dL_law_296 rfl ?_
    refine x_i2l dL_law_298 ?_
    rw [e2]
    refine xl_lcmp dL_law_299 ?_
    rw [zInt]
    refine x_if_eq (t := 305) dL_law_300 (by decide) (fun _ => ?_) (fun q => absurd rfl q)
    refine x_goto (t := 1827) dL_law_305 (by decide) ?_
    refine Ex.sub (ks := [2, 3, 4, 5, 6]) rfl ?_
    exact Ex.wide (by show ca + 1 + 1 + 0 ≤ ca + 2; omega) (by show sl + 6 + 5 + 0 ≤ sl + 16; omega) (kk f1 M1 Mm1 _ hok c1 m1)
set_option maxHeartbeats 4000000 in
set_option maxRecDepth 100000 in
theorem KL_trim {b L o : Nat} {xs : Nat → Int32} {G : eG} {f : Nat → Int64} {M Mm : eM} {S : gS} (hs : sOk S) (hc : sC M S) (hm : sM Mm S) {i : Nat} (hi : i + 6 ≤ L) (hL : L ≤ 3072) {ca sl : Nat} (hr : ca + 2 ≤ 601024 ∧ sl + 16 ≤ 7293034)
    (kk : ∀ (f' : Nat → Int64) (M' Mm' : eM) (S' : gS), sOk S' → sC M' S' → sM Mm' S' → lE b L xs G 1827 (lLoc b o G (nI i)) [] (wL G o f' M' Mm') (ca + 2) (sl + 16)) : lE b L xs G 308 (lLoc b o G (nI i)) [] (wL G o f M Mm) ca sl := by
  refine x_aload_n 3 dL_law_308 rfl rfl ?_
  refine x_aload_n 4 dL_law_309 rfl rfl ?_
  refine x_iload 0 dL_law_310 rfl ?_
  refine x_iconst (v := 1) dL_law_312 rfl ?_
  refine x_iadd dL_law_313 ?_
  refine xl_sld (i + 1) dL_law_314 (nI_p i 1 rfl) (by omega) hL ?_
  refine x_aload_n 1 dL_law_315 rfl rfl ?_
  obtain ⟨hz, hst⟩ := zc_trim S (xs (i + 1))
  have hz3 : (z_trim S (xs (i + 1))).1 = 0 ∨ (z_trim S (xs (i + 1))).1 = 1 ∨ (z_trim S (xs (i + 1))).1 = 2 := hz.elim Or.inl (fun h => Or.inr (Or.inl h))
  refine x_callT (K := kL_law) (R := room_1) (ca := ca) (sl := sl) (w := wL G o f M Mm) xN0_m lwX_n (b' := (12, 1, 6)) (As := [.ref (G.1 0), .int (xs (i + 1)), .ref o]) (S := []) dL_law_316 mtL_trim lML_101 rfl (by exact ⟨⟨Nat.le_of_ble_eq_true rfl, Nat.le_of_ble_eq_true rfl⟩, ⟨by show ca + 1 ≤ 601024; omega, by show sl + 6 ≤ 7293034; omega⟩⟩) (Nat.le_of_ble_eq_true rfl) (T_trim hs hc o f (xs (i + 1))) (fun v w' h => ?_) rfl
  obtain ⟨f1, M1, rfl, c1, hf, rfl⟩ := h
  refine x_istore (l' := [(5, .int (nI (z_trim S (xs (i + 1))).1)), (4, .int (nI i)), (3, .ref o), (2, .ref (G.1 100)), (1, .ref (G.1 0)), (0, .ref b)]) dL_law_319 (by decide) rfl ?_
  refine x_aload_n 3 dL_law_321 rfl rfl ?_
  refine x_aload_n 5 dL_law_322 rfl rfl ?_
  refine x_iload 1 dL_law_323 rfl ?_
  refine x_iconst (v := 1) dL_law_325 rfl ?_
  refine x_iadd dL_law_326 ?_
  refine xl_sld (i + 1) dL_law_327 (nI_p i 1 rfl) (by omega) hL ?_
  refine xl_callM (K := kL_law) (R := room_1) (ca := ca + 1) (sl := sl + 6) (o := o) (f := f1) (M := M1) (Mm := Mm) xN0_m lwX_n (b' := (2, 0, 0)) (As := [.int (xs (i + 1))]) (S := []) dL_law_328 mX13_trim lML_104 rfl rfl (by exact ⟨⟨Nat.le_of_ble_eq_true rfl, Nat.le_of_ble_eq_true rfl⟩, ⟨by show ca + 1 + 0 ≤ 601024; omega, by show sl + 6 + 0 ≤ 7293034; omega⟩⟩) (Nat.le_of_ble_eq_true rfl) (U_trim hs hm (xs (i + 1)) (fun r M' => sM M' (z_trim S (xs (i + 1))).2.2 ∧ M' 100 0 = nI (z_trim S (xs (i + 1))).1 ∧ ((z_trim S (xs (i + 1))).1 = 0 → r = (z_trim S (xs (i + 1))).2.1)) (fun r M' h1 h2 h3 => ⟨h1, h2, h3⟩)) (fun v Mm1 h => ?_) rfl
  obtain ⟨r, rfl, m1, ht, hrv⟩ := h
  refine x_istore (l' := [(6, .int r), (5, .int (nI (z_trim S (xs (i + 1))).1)), (4, .int (nI i)), (3, .ref o), (2, .ref (G.1 100)), (1, .ref (G.1 0)), (0, .ref b)]) dL_law_331 (by decide) rfl ?_
  refine x_aload_n 4 dL_law_333 rfl rfl ?_
  refine xl_callM (K := kL_law) (R := room_1) (ca := ca + 1 + 0) (sl := sl + 6 + 0) (o := o) (f := f1) (M := M1) (Mm := Mm1) xN0_m lwX_n (b' := (1, 0, 0)) (As := []) (S := []) dL_law_334 mX13_thrown lML_97 rfl rfl (by exact ⟨⟨Nat.le_of_ble_eq_true rfl, Nat.le_of_ble_eq_true rfl⟩, ⟨by show ca + 1 + 0 + 0 ≤ 601024; omega, by show sl + 6 + 0 + 0 ≤ 7293034; omega⟩⟩) (Nat.le_of_ble_eq_true rfl) (C_X13_thrown G _ (fun r M' => Mm1 100 0 = r ∧ Mm1 = M') ⟨rfl, rfl⟩) (fun v Mm2 h => ?_) rfl
  obtain ⟨_, rfl, rfl, rfl⟩ := h
  refine x_iload 1 dL_law_337 rfl ?_
  refine x_icmp_eq (t := 344) dL_law_339 (by decide) (fun _ => ?_) (fun q => absurd ht q)
  refine x_iload 1 dL_law_344 rfl ?_
  have hok : sOk (z_trim S (xs (i + 1))).2.2 := zk_trim hs (xs (i + 1))
  refine x_if_ne (t := 361) dL_law_346 (by decide) (fun q => ?_) (fun q => ?_)
  · refine x_goto (t := 1827) dL_law_361 (by decide) ?_
    refine Ex.sub (ks := [2, 3, 4, 5, 6]) rfl ?_
    exact Ex.wide (by show ca + 1 + 0 + 0 ≤ ca + 2; omega) (by show sl + 6 + 0 + 0 ≤ sl + 16; omega) (kk f1 M1 Mm1 _ hok c1 m1)
  · have hz0 := zc0 hz3 q
    have e1 := hf hz0
    have e2 := hrv hz0
    refine x_aload_n 3 dL_law_349 rfl rfl ?_
    refine x_iconst (v := 0) dL_law_350 rfl ?_
    refine x_lald (q0 := 0) (N := 1) (f := f1) dL_law_351 rfl (vp_in_nI (n := 0) (by decide) (by decide)) ?_
    rw [show (0 : Int32).toNatClampNeg = 0 from by decide, e1]
    refine x_iload 0 dL_law_352 rfl ?_
    refine x_i2l dL_law_354 ?_
    rw [e2]
    refine xl_lcmp dL_law_355 ?_
    rw [zInt]
    refine x_if_eq (t := 361) dL_law_356 (by decide) (fun _ => ?_) (fun q => absurd rfl q)
    refine x_goto (t := 1827) dL_law_361 (by decide) ?_
    refine Ex.sub (ks := [2, 3, 4, 5, 6]) rfl ?_
    exact Ex.wide (by show ca + 1 + 0 + 0 ≤ ca + 2; omega) (by show sl + 6 + 0 + 0 ≤ sl + 16; omega) (kk f1 M1 Mm1 _ hok c1 m1)
set_option maxHeartbeats 4000000 in
set_option maxRecDepth 100000 in
theorem KL_teach {b L o : Nat} {xs : Nat → Int32} {G : eG} {f : Nat → Int64} {M Mm : eM} {S : gS} (hs : sOk S) (hc : sC M S) (hm : sM Mm S) {i : Nat} (hi : i + 6 ≤ L) (hL : L ≤ 3072) {ca sl : Nat} (hr : ca + 2 ≤ 601024 ∧ sl + 16 ≤ 7293034)
    (kk : ∀ (f' : Nat → Int64) (M' Mm' : eM) (S' : gS), sOk S' → sC M' S' → sM Mm' S' → lE b L xs G 1827 (lLoc b o G (nI i)) [] (wL G o f' M' Mm') (ca + 2) (sl + 16)) : lE b L xs G 364 (lLoc b o G (nI i)) [] (wL G o f M Mm) ca sl := by
  refine x_aload_n 3 dL_law_364 rfl rfl ?_
  refine xl_callC (K := kL_law) (R := room_1) (ca := ca) (sl := sl) (o := o) (f := f) (M := M) (Mm := Mm) xN0_m lwX_n (b' := (103, 0, 0)) (As := []) (S := []) dL_law_365 mX10_teach lML_105 rfl rfl (by exact ⟨⟨Nat.le_of_ble_eq_true rfl, Nat.le_of_ble_eq_true rfl⟩, ⟨by show ca + 0 ≤ 601024; omega, by show sl + 0 ≤ 7293034; omega⟩⟩) (Nat.le_of_ble_eq_true rfl) (P_teach hc (fun r M' => z_taughtV S = r ∧ sC M' (z_taught S)) (fun M' h => ⟨rfl, h⟩)) (fun v M1 h => ?_) rfl
  obtain ⟨_, rfl, rfl, c1⟩ := h
  refine x_aload_n 2 dL_law_368 rfl rfl ?_
  refine xl_callM (K := kL_law) (R := room_1) (ca := ca + 0) (sl := sl + 0) (o := o) (f := f) (M := M1) (Mm := Mm) xN0_m lwX_n (b' := (104, 0, 0)) (As := []) (S := [.int (z_taughtV S)]) dL_law_369 mX13_teach lML_108 rfl rfl (by exact ⟨⟨Nat.le_of_ble_eq_true rfl, Nat.le_of_ble_eq_true rfl⟩, ⟨by show ca + 0 + 0 ≤ 601024; omega, by show sl + 0 + 0 ≤ 7293034; omega⟩⟩) (Nat.le_of_ble_eq_true rfl) (U_teach' hs hm (fun r M' => z_taughtV S = r ∧ sM M' (z_taught S)) (fun M' h => ⟨rfl, h⟩)) (fun v Mm1 h => ?_) rfl
  obtain ⟨_, rfl, rfl, m1⟩ := h
  refine x_icmp_eq (t := 1827) dL_law_372 (by decide) (fun _ => ?_) (fun q => absurd rfl q)
  refine Ex.sub (ks := [0, 1, 2, 3, 4]) rfl ?_
  exact Ex.wide (by show ca + 0 + 0 ≤ ca + 2; omega) (by show sl + 0 + 0 ≤ sl + 16; omega) (kk f M1 Mm1 (z_taught S) hs.taught c1 m1)
set_option maxHeartbeats 4000000 in
set_option maxRecDepth 100000 in
theorem KL_errorAt {b L o : Nat} {xs : Nat → Int32} {G : eG} {f : Nat → Int64} {M Mm : eM} {S : gS} (hs : sOk S) (hc : sC M S) (hm : sM Mm S) {i : Nat} (hi : i + 6 ≤ L) (hL : L ≤ 3072) {ca sl : Nat} (hr : ca + 2 ≤ 601024 ∧ sl + 16 ≤ 7293034)
    (kk : ∀ (f' : Nat → Int64) (M' Mm' : eM) (S' : gS), sOk S' → sC M' S' → sM Mm' S' → lE b L xs G 1827 (lLoc b o G (nI i)) [] (wL G o f' M' Mm') (ca + 2) (sl + 16)) : lE b L xs G 377 (lLoc b o G (nI i)) [] (wL G o f M Mm) ca sl := by
  refine x_aload_n 3 dL_law_377 rfl rfl ?_
  refine xl_callC (K := kL_law) (R := room_1) (ca := ca) (sl := sl) (o := o) (f := f) (M := M) (Mm := Mm) xN0_m lwX_n (b' := (1, 0, 0)) (As := []) (S := []) dL_law_378 mX10_errorAt lML_109 rfl rfl (by exact ⟨⟨Nat.le_of_ble_eq_true rfl, Nat.le_of_ble_eq_true rfl⟩, ⟨by show ca + 0 ≤ 601024; omega, by show sl + 0 ≤ 7293034; omega⟩⟩) (Nat.le_of_ble_eq_true rfl) (P_errorAt hc (fun r M' => gEr S = r ∧ sC M' S) (fun M' h => ⟨rfl, h⟩)) (fun v M1 h => ?_) rfl
  obtain ⟨_, rfl, rfl, c1⟩ := h
  refine x_aload_n 2 dL_law_381 rfl rfl ?_
  refine xl_callM (K := kL_law) (R := room_1) (ca := ca + 0) (sl := sl + 0) (o := o) (f := f) (M := M1) (Mm := Mm) xN0_m lwX_n (b' := (2, 0, 0)) (As := []) (S := [.int (gEr S)]) dL_law_382 mX13_errorAt lML_112 rfl rfl (by exact ⟨⟨Nat.le_of_ble_eq_true rfl, Nat.le_of_ble_eq_true rfl⟩, ⟨by show ca + 0 + 0 ≤ 601024; omega, by show sl + 0 + 0 ≤ 7293034; omega⟩⟩) (Nat.le_of_ble_eq_true rfl) (U_errorAt hs hm (fun r M' => gEr S = r ∧ sM M' S) (fun M' h => ⟨rfl, h⟩)) (fun v Mm1 h => ?_) rfl
  obtain ⟨_, rfl, rfl, m1⟩ := h
  refine x_icmp_eq (t := 1827) dL_law_385 (by decide) (fun _ => ?_) (fun q => absurd rfl q)
  refine Ex.sub (ks := [0, 1, 2, 3, 4]) rfl ?_
  exact Ex.wide (by show ca + 0 + 0 ≤ ca + 2; omega) (by show sl + 0 + 0 ≤ sl + 16; omega) (kk f M1 Mm1 S hs c1 m1)
set_option maxHeartbeats 4000000 in
set_option maxRecDepth 100000 in
theorem KL_columns {b L o : Nat} {xs : Nat → Int32} {G : eG} {f : Nat → Int64} {M Mm : eM} {S : gS} (hs : sOk S) (hc : sC M S) (hm : sM Mm S) {i : Nat} (hi : i + 6 ≤ L) (hL : L ≤ 3072) {ca sl : Nat} (hr : ca + 2 ≤ 601024 ∧ sl + 16 ≤ 7293034)
    (kk : ∀ (f' : Nat → Int64) (M' Mm' : eM) (S' : gS), sOk S' → sC M' S' → sM Mm' S' → lE b L xs G 1827 (lLoc b o G (nI i)) [] (wL G o f' M' Mm') (ca + 2) (sl + 16)) : lE b L xs G 390 (lLoc b o G (nI i)) [] (wL G o f M Mm) ca sl := by
  refine x_aload_n 3 dL_law_390 rfl rfl ?_
  refine xl_callC (K := kL_law) (R := room_1) (ca := ca) (sl := sl) (o := o) (f := f) (M := M) (Mm := Mm) xN0_m lwX_n (b' := (1, 0, 0)) (As := []) (S := []) dL_law_391 mX10_columns lML_113 rfl rfl (by exact ⟨⟨Nat.le_of_ble_eq_true rfl, Nat.le_of_ble_eq_true rfl⟩, ⟨by show ca + 0 ≤ 601024; omega, by show sl + 0 ≤ 7293034; omega⟩⟩) (Nat.le_of_ble_eq_true rfl) (P_columns hc (fun r M' => nI (bW (gB S)) = r ∧ sC M' S) (fun M' h => ⟨rfl, h⟩)) (fun v M1 h => ?_) rfl
  obtain ⟨_, rfl, rfl, c1⟩ := h
  refine x_aload_n 2 dL_law_394 rfl rfl ?_
  refine xl_callM (K := kL_law) (R := room_1) (ca := ca + 0) (sl := sl + 0) (o := o) (f := f) (M := M1) (Mm := Mm) xN0_m lwX_n (b' := (2, 0, 0)) (As := []) (S := [.int (nI (bW (gB S)))]) dL_law_395 mX13_columns lML_116 rfl rfl (by exact ⟨⟨Nat.le_of_ble_eq_true rfl, Nat.le_of_ble_eq_true rfl⟩, ⟨by show ca + 0 + 0 ≤ 601024; omega, by show sl + 0 + 0 ≤ 7293034; omega⟩⟩) (Nat.le_of_ble_eq_true rfl) (U_columns hs hm (fun r M' => nI (bW (gB S)) = r ∧ sM M' S) (fun M' h => ⟨rfl, h⟩)) (fun v Mm1 h => ?_) rfl
  obtain ⟨_, rfl, rfl, m1⟩ := h
  refine x_icmp_eq (t := 1827) dL_law_398 (by decide) (fun _ => ?_) (fun q => absurd rfl q)
  refine Ex.sub (ks := [0, 1, 2, 3, 4]) rfl ?_
  exact Ex.wide (by show ca + 0 + 0 ≤ ca + 2; omega) (by show sl + 0 + 0 ≤ sl + 16; omega) (kk f M1 Mm1 S hs c1 m1)
set_option maxHeartbeats 4000000 in
set_option maxRecDepth 100000 in
theorem KL_rows {b L o : Nat} {xs : Nat → Int32} {G : eG} {f : Nat → Int64} {M Mm : eM} {S : gS} (hs : sOk S) (hc : sC M S) (hm : sM Mm S) {i : Nat} (hi : i + 6 ≤ L) (hL : L ≤ 3072) {ca sl : Nat} (hr : ca + 2 ≤ 601024 ∧ sl + 16 ≤ 7293034)
    (kk : ∀ (f' : Nat → Int64) (M' Mm' : eM) (S' : gS), sOk S' → sC M' S' → sM Mm' S' → lE b L xs G 1827 (lLoc b o G (nI i)) [] (wL G o f' M' Mm') (ca + 2) (sl + 16)) : lE b L xs G 403 (lLoc b o G (nI i)) [] (wL G o f M Mm) ca sl := by
  refine x_aload_n 3 dL_law_403 rfl rfl ?_
  refine xl_callC (K := kL_law) (R := room_1) (ca := ca) (sl := sl) (o := o) (f := f) (M := M) (Mm := Mm) xN0_m lwX_n (b' := (1, 0, 0)) (As := []) (S := []) dL_law_404 mX10_rows lML_117 rfl rfl (by exact ⟨⟨Nat.le_of_ble_eq_true rfl, Nat.le_of_ble_eq_true rfl⟩, ⟨by show ca + 0 ≤ 601024; omega, by show sl + 0 ≤ 7293034; omega⟩⟩) (Nat.le_of_ble_eq_true rfl) (P_rows hc (fun r M' => nI (bR (gB S)) = r ∧ sC M' S) (fun M' h => ⟨rfl, h⟩)) (fun v M1 h => ?_) rfl
  obtain ⟨_, rfl, rfl, c1⟩ := h
  refine x_aload_n 2 dL_law_407 rfl rfl ?_
  refine xl_callM (K := kL_law) (R := room_1) (ca := ca + 0) (sl := sl + 0) (o := o) (f := f) (M := M1) (Mm := Mm) xN0_m lwX_n (b' := (2, 0, 0)) (As := []) (S := [.int (nI (bR (gB S)))]) dL_law_408 mX13_rows lML_120 rfl rfl (by exact ⟨⟨Nat.le_of_ble_eq_true rfl, Nat.le_of_ble_eq_true rfl⟩, ⟨by show ca + 0 + 0 ≤ 601024; omega, by show sl + 0 + 0 ≤ 7293034; omega⟩⟩) (Nat.le_of_ble_eq_true rfl) (U_rows hs hm (fun r M' => nI (bR (gB S)) = r ∧ sM M' S) (fun M' h => ⟨rfl, h⟩)) (fun v Mm1 h => ?_) rfl
  obtain ⟨_, rfl, rfl, m1⟩ := h
  refine x_icmp_eq (t := 1827) dL_law_411 (by decide) (fun _ => ?_) (fun q => absurd rfl q)
  refine Ex.sub (ks := [0, 1, 2, 3, 4]) rfl ?_
  exact Ex.wide (by show ca + 0 + 0 ≤ ca + 2; omega) (by show sl + 0 + 0 ≤ sl + 16; omega) (kk f M1 Mm1 S hs c1 m1)
set_option maxHeartbeats 4000000 in
set_option maxRecDepth 100000 in
theorem KL_tiles {b L o : Nat} {xs : Nat → Int32} {G : eG} {f : Nat → Int64} {M Mm : eM} {S : gS} (hs : sOk S) (hc : sC M S) (hm : sM Mm S) {i : Nat} (hi : i + 6 ≤ L) (hL : L ≤ 3072) {ca sl : Nat} (hr : ca + 2 ≤ 601024 ∧ sl + 16 ≤ 7293034)
    (kk : ∀ (f' : Nat → Int64) (M' Mm' : eM) (S' : gS), sOk S' → sC M' S' → sM Mm' S' → lE b L xs G 1827 (lLoc b o G (nI i)) [] (wL G o f' M' Mm') (ca + 2) (sl + 16)) : lE b L xs G 416 (lLoc b o G (nI i)) [] (wL G o f M Mm) ca sl := by
  refine x_aload_n 3 dL_law_416 rfl rfl ?_
  refine xl_callC (K := kL_law) (R := room_1) (ca := ca) (sl := sl) (o := o) (f := f) (M := M) (Mm := Mm) xN0_m lwX_n (b' := (1, 0, 0)) (As := []) (S := []) dL_law_417 mX10_tiles lML_121 rfl rfl (by exact ⟨⟨Nat.le_of_ble_eq_true rfl, Nat.le_of_ble_eq_true rfl⟩, ⟨by show ca + 0 ≤ 601024; omega, by show sl + 0 ≤ 7293034; omega⟩⟩) (Nat.le_of_ble_eq_true rfl) (P_tiles hc (fun r M' => nI (bN (gB S)) = r ∧ sC M' S) (fun M' h => ⟨rfl, h⟩)) (fun v M1 h => ?_) rfl
  obtain ⟨_, rfl, rfl, c1⟩ := h
  refine x_aload_n 2 dL_law_420 rfl rfl ?_
  refine xl_callM (K := kL_law) (R := room_1) (ca := ca + 0) (sl := sl + 0) (o := o) (f := f) (M := M1) (Mm := Mm) xN0_m lwX_n (b' := (2, 0, 0)) (As := []) (S := [.int (nI (bN (gB S)))]) dL_law_421 mX13_tiles lML_124 rfl rfl (by exact ⟨⟨Nat.le_of_ble_eq_true rfl, Nat.le_of_ble_eq_true rfl⟩, ⟨by show ca + 0 + 0 ≤ 601024; omega, by show sl + 0 + 0 ≤ 7293034; omega⟩⟩) (Nat.le_of_ble_eq_true rfl) (U_tiles hs hm (fun r M' => nI (bN (gB S)) = r ∧ sM M' S) (fun M' h => ⟨rfl, h⟩)) (fun v Mm1 h => ?_) rfl
  obtain ⟨_, rfl, rfl, m1⟩ := h
  refine x_icmp_eq (t := 1827) dL_law_424 (by decide) (fun _ => ?_) (fun q => absurd rfl q)
  refine Ex.sub (ks := [0, 1, 2, 3, 4]) rfl ?_
  exact Ex.wide (by show ca + 0 + 0 ≤ ca + 2; omega) (by show sl + 0 + 0 ≤ sl + 16; omega) (kk f M1 Mm1 S hs c1 m1)
set_option maxHeartbeats 4000000 in
set_option maxRecDepth 100000 in
theorem KL_rounds {b L o : Nat} {xs : Nat → Int32} {G : eG} {f : Nat → Int64} {M Mm : eM} {S : gS} (hs : sOk S) (hc : sC M S) (hm : sM Mm S) {i : Nat} (hi : i + 6 ≤ L) (hL : L ≤ 3072) {ca sl : Nat} (hr : ca + 2 ≤ 601024 ∧ sl + 16 ≤ 7293034)
    (kk : ∀ (f' : Nat → Int64) (M' Mm' : eM) (S' : gS), sOk S' → sC M' S' → sM Mm' S' → lE b L xs G 1827 (lLoc b o G (nI i)) [] (wL G o f' M' Mm') (ca + 2) (sl + 16)) : lE b L xs G 429 (lLoc b o G (nI i)) [] (wL G o f M Mm) ca sl := by
  refine x_aload_n 3 dL_law_429 rfl rfl ?_
  refine xl_callC (K := kL_law) (R := room_1) (ca := ca) (sl := sl) (o := o) (f := f) (M := M) (Mm := Mm) xN0_m lwX_n (b' := (1, 0, 0)) (As := []) (S := []) dL_law_430 mX10_rounds lML_125 rfl rfl (by exact ⟨⟨Nat.le_of_ble_eq_true rfl, Nat.le_of_ble_eq_true rfl⟩, ⟨by show ca + 0 ≤ 601024; omega, by show sl + 0 ≤ 7293034; omega⟩⟩) (Nat.le_of_ble_eq_true rfl) (P_rounds hc (fun r M' => gR S = r ∧ sC M' S) (fun M' h => ⟨rfl, h⟩)) (fun v M1 h => ?_) rfl
  obtain ⟨_, rfl, rfl, c1⟩ := h
  refine x_aload_n 2 dL_law_433 rfl rfl ?_
  refine xl_callM (K := kL_law) (R := room_1) (ca := ca + 0) (sl := sl + 0) (o := o) (f := f) (M := M1) (Mm := Mm) xN0_m lwX_n (b' := (2, 0, 0)) (As := []) (S := [.int (gR S)]) dL_law_434 mX13_rounds lML_128 rfl rfl (by exact ⟨⟨Nat.le_of_ble_eq_true rfl, Nat.le_of_ble_eq_true rfl⟩, ⟨by show ca + 0 + 0 ≤ 601024; omega, by show sl + 0 + 0 ≤ 7293034; omega⟩⟩) (Nat.le_of_ble_eq_true rfl) (U_rounds hs hm (fun r M' => gR S = r ∧ sM M' S) (fun M' h => ⟨rfl, h⟩)) (fun v Mm1 h => ?_) rfl
  obtain ⟨_, rfl, rfl, m1⟩ := h
  refine x_icmp_eq (t := 1827) dL_law_437 (by decide) (fun _ => ?_) (fun q => absurd rfl q)
  refine Ex.sub (ks := [0, 1, 2, 3, 4]) rfl ?_
  exact Ex.wide (by show ca + 0 + 0 ≤ ca + 2; omega) (by show sl + 0 + 0 ≤ sl + 16; omega) (kk f M1 Mm1 S hs c1 m1)
set_option maxHeartbeats 4000000 in
set_option maxRecDepth 100000 in
theorem KL_placedTiles {b L o : Nat} {xs : Nat → Int32} {G : eG} {f : Nat → Int64} {M Mm : eM} {S : gS} (hs : sOk S) (hc : sC M S) (hm : sM Mm S) {i : Nat} (hi : i + 6 ≤ L) (hL : L ≤ 3072) {ca sl : Nat} (hr : ca + 2 ≤ 601024 ∧ sl + 16 ≤ 7293034)
    (kk : ∀ (f' : Nat → Int64) (M' Mm' : eM) (S' : gS), sOk S' → sC M' S' → sM Mm' S' → lE b L xs G 1827 (lLoc b o G (nI i)) [] (wL G o f' M' Mm') (ca + 2) (sl + 16)) : lE b L xs G 442 (lLoc b o G (nI i)) [] (wL G o f M Mm) ca sl := by
  refine x_aload_n 3 dL_law_442 rfl rfl ?_
  refine xl_callC (K := kL_law) (R := room_1) (ca := ca) (sl := sl) (o := o) (f := f) (M := M) (Mm := Mm) xN0_m lwX_n (b' := (1, 0, 0)) (As := []) (S := []) dL_law_443 mX10_placedTiles lML_129 rfl rfl (by exact ⟨⟨Nat.le_of_ble_eq_true rfl, Nat.le_of_ble_eq_true rfl⟩, ⟨by show ca + 0 ≤ 601024; omega, by show sl + 0 ≤ 7293034; omega⟩⟩) (Nat.le_of_ble_eq_true rfl) (P_placedTiles hc (fun r M' => nI (bP (gB S)) = r ∧ sC M' S) (fun M' h => ⟨rfl, h⟩)) (fun v M1 h => ?_) rfl
  obtain ⟨_, rfl, rfl, c1⟩ := h
  refine x_aload_n 2 dL_law_446 rfl rfl ?_
  refine xl_callM (K := kL_law) (R := room_1) (ca := ca + 0) (sl := sl + 0) (o := o) (f := f) (M := M1) (Mm := Mm) xN0_m lwX_n (b' := (2, 0, 0)) (As := []) (S := [.int (nI (bP (gB S)))]) dL_law_447 mX13_placedTiles lML_132 rfl rfl (by exact ⟨⟨Nat.le_of_ble_eq_true rfl, Nat.le_of_ble_eq_true rfl⟩, ⟨by show ca + 0 + 0 ≤ 601024; omega, by show sl + 0 + 0 ≤ 7293034; omega⟩⟩) (Nat.le_of_ble_eq_true rfl) (U_placedTiles hs hm (fun r M' => nI (bP (gB S)) = r ∧ sM M' S) (fun M' h => ⟨rfl, h⟩)) (fun v Mm1 h => ?_) rfl
  obtain ⟨_, rfl, rfl, m1⟩ := h
  refine x_icmp_eq (t := 1827) dL_law_450 (by decide) (fun _ => ?_) (fun q => absurd rfl q)
  refine Ex.sub (ks := [0, 1, 2, 3, 4]) rfl ?_
  exact Ex.wide (by show ca + 0 + 0 ≤ ca + 2; omega) (by show sl + 0 + 0 ≤ sl + 16; omega) (kk f M1 Mm1 S hs c1 m1)
set_option maxHeartbeats 4000000 in
set_option maxRecDepth 100000 in
theorem KL_matches {b L o : Nat} {xs : Nat → Int32} {G : eG} {f : Nat → Int64} {M Mm : eM} {S : gS} (hs : sOk S) (hc : sC M S) (hm : sM Mm S) {i : Nat} (hi : i + 6 ≤ L) (hL : L ≤ 3072) {ca sl : Nat} (hr : ca + 2 ≤ 601024 ∧ sl + 16 ≤ 7293034)
    (kk : ∀ (f' : Nat → Int64) (M' Mm' : eM) (S' : gS), sOk S' → sC M' S' → sM Mm' S' → lE b L xs G 1827 (lLoc b o G (nI i)) [] (wL G o f' M' Mm') (ca + 2) (sl + 16)) : lE b L xs G 455 (lLoc b o G (nI i)) [] (wL G o f M Mm) ca sl := by
  refine x_aload_n 3 dL_law_455 rfl rfl ?_
  refine xl_callC (K := kL_law) (R := room_1) (ca := ca) (sl := sl) (o := o) (f := f) (M := M) (Mm := Mm) xN0_m lwX_n (b' := (3, 0, 0)) (As := []) (S := []) dL_law_456 mX10_matches lML_133 rfl rfl (by exact ⟨⟨Nat.le_of_ble_eq_true rfl, Nat.le_of_ble_eq_true rfl⟩, ⟨by show ca + 0 ≤ 601024; omega, by show sl + 0 ≤ 7293034; omega⟩⟩) (Nat.le_of_ble_eq_true rfl) (P_matches hs hc (fun r M' => nI (bMatch (gB S)) = r ∧ sC M' S) (fun M' h => ⟨rfl, h⟩)) (fun v M1 h => ?_) rfl
  obtain ⟨_, rfl, rfl, c1⟩ := h
  refine x_aload_n 2 dL_law_459 rfl rfl ?_
  refine xl_callM (K := kL_law) (R := room_1) (ca := ca + 0) (sl := sl + 0) (o := o) (f := f) (M := M1) (Mm := Mm) xN0_m lwX_n (b' := (6, 0, 0)) (As := []) (S := [.int (nI (bMatch (gB S)))]) dL_law_460 mX13_matches_ lML_136 rfl rfl (by exact ⟨⟨Nat.le_of_ble_eq_true rfl, Nat.le_of_ble_eq_true rfl⟩, ⟨by show ca + 0 + 0 ≤ 601024; omega, by show sl + 0 + 0 ≤ 7293034; omega⟩⟩) (Nat.le_of_ble_eq_true rfl) (U_matches hs hm (fun r M' => nI (bMatch (gB S)) = r ∧ sM M' S) (fun M' h => ⟨rfl, h⟩)) (fun v Mm1 h => ?_) rfl
  obtain ⟨_, rfl, rfl, m1⟩ := h
  refine x_icmp_eq (t := 1827) dL_law_463 (by decide) (fun _ => ?_) (fun q => absurd rfl q)
  refine Ex.sub (ks := [0, 1, 2, 3, 4]) rfl ?_
  exact Ex.wide (by show ca + 0 + 0 ≤ ca + 2; omega) (by show sl + 0 + 0 ≤ sl + 16; omega) (kk f M1 Mm1 S hs c1 m1)
set_option maxHeartbeats 4000000 in
set_option maxRecDepth 100000 in
theorem KL_points {b L o : Nat} {xs : Nat → Int32} {G : eG} {f : Nat → Int64} {M Mm : eM} {S : gS} (hs : sOk S) (hc : sC M S) (hm : sM Mm S) {i : Nat} (hi : i + 6 ≤ L) (hL : L ≤ 3072) {ca sl : Nat} (hr : ca + 2 ≤ 601024 ∧ sl + 16 ≤ 7293034)
    (kk : ∀ (f' : Nat → Int64) (M' Mm' : eM) (S' : gS), sOk S' → sC M' S' → sM Mm' S' → lE b L xs G 1827 (lLoc b o G (nI i)) [] (wL G o f' M' Mm') (ca + 2) (sl + 16)) : lE b L xs G 468 (lLoc b o G (nI i)) [] (wL G o f M Mm) ca sl := by
  refine x_aload_n 3 dL_law_468 rfl rfl ?_
  refine xl_callC (K := kL_law) (R := room_1) (ca := ca) (sl := sl) (o := o) (f := f) (M := M) (Mm := Mm) xN0_m lwX_n (b' := (4, 0, 0)) (As := []) (S := []) dL_law_469 mX10_points lML_137 rfl rfl (by exact ⟨⟨Nat.le_of_ble_eq_true rfl, Nat.le_of_ble_eq_true rfl⟩, ⟨by show ca + 0 ≤ 601024; omega, by show sl + 0 ≤ 7293034; omega⟩⟩) (Nat.le_of_ble_eq_true rfl) (P_points hs hc (fun r M' => nI (bPoints (gB S)) = r ∧ sC M' S) (fun M' h => ⟨rfl, h⟩)) (fun v M1 h => ?_) rfl
  obtain ⟨_, rfl, rfl, c1⟩ := h
  refine x_aload_n 2 dL_law_472 rfl rfl ?_
  refine xl_callM (K := kL_law) (R := room_1) (ca := ca + 0) (sl := sl + 0) (o := o) (f := f) (M := M1) (Mm := Mm) xN0_m lwX_n (b' := (8, 0, 0)) (As := []) (S := [.int (nI (bPoints (gB S)))]) dL_law_473 mX13_points_ lML_140 rfl rfl (by exact ⟨⟨Nat.le_of_ble_eq_true rfl, Nat.le_of_ble_eq_true rfl⟩, ⟨by show ca + 0 + 0 ≤ 601024; omega, by show sl + 0 + 0 ≤ 7293034; omega⟩⟩) (Nat.le_of_ble_eq_true rfl) (U_points hs hm (fun r M' => nI (bPoints (gB S)) = r ∧ sM M' S) (fun M' h => ⟨rfl, h⟩)) (fun v Mm1 h => ?_) rfl
  obtain ⟨_, rfl, rfl, m1⟩ := h
  refine x_icmp_eq (t := 1827) dL_law_476 (by decide) (fun _ => ?_) (fun q => absurd rfl q)
  refine Ex.sub (ks := [0, 1, 2, 3, 4]) rfl ?_
  exact Ex.wide (by show ca + 0 + 0 ≤ ca + 2; omega) (by show sl + 0 + 0 ≤ sl + 16; omega) (kk f M1 Mm1 S hs c1 m1)
set_option maxHeartbeats 4000000 in
set_option maxRecDepth 100000 in
theorem KL_rings {b L o : Nat} {xs : Nat → Int32} {G : eG} {f : Nat → Int64} {M Mm : eM} {S : gS} (hs : sOk S) (hc : sC M S) (hm : sM Mm S) {i : Nat} (hi : i + 6 ≤ L) (hL : L ≤ 3072) {ca sl : Nat} (hr : ca + 2 ≤ 601024 ∧ sl + 16 ≤ 7293034)
    (kk : ∀ (f' : Nat → Int64) (M' Mm' : eM) (S' : gS), sOk S' → sC M' S' → sM Mm' S' → lE b L xs G 1827 (lLoc b o G (nI i)) [] (wL G o f' M' Mm') (ca + 2) (sl + 16)) : lE b L xs G 481 (lLoc b o G (nI i)) [] (wL G o f M Mm) ca sl := by
  refine x_aload_n 3 dL_law_481 rfl rfl ?_
  refine xl_callC (K := kL_law) (R := room_1) (ca := ca) (sl := sl) (o := o) (f := f) (M := M) (Mm := Mm) xN0_m lwX_n (b' := (3, 0, 0)) (As := []) (S := []) dL_law_482 mX10_rings lML_141 rfl rfl (by exact ⟨⟨Nat.le_of_ble_eq_true rfl, Nat.le_of_ble_eq_true rfl⟩, ⟨by show ca + 0 ≤ 601024; omega, by show sl + 0 ≤ 7293034; omega⟩⟩) (Nat.le_of_ble_eq_true rfl) (P_rings hs hc (fun r M' => nI (bRings (gB S)) = r ∧ sC M' S) (fun M' h => ⟨rfl, h⟩)) (fun v M1 h => ?_) rfl
  obtain ⟨_, rfl, rfl, c1⟩ := h
  refine x_aload_n 2 dL_law_485 rfl rfl ?_
  refine xl_callM (K := kL_law) (R := room_1) (ca := ca + 0) (sl := sl + 0) (o := o) (f := f) (M := M1) (Mm := Mm) xN0_m lwX_n (b' := (7, 0, 0)) (As := []) (S := [.int (nI (bRings (gB S)))]) dL_law_486 mX13_rings_ lML_144 rfl rfl (by exact ⟨⟨Nat.le_of_ble_eq_true rfl, Nat.le_of_ble_eq_true rfl⟩, ⟨by show ca + 0 + 0 ≤ 601024; omega, by show sl + 0 + 0 ≤ 7293034; omega⟩⟩) (Nat.le_of_ble_eq_true rfl) (U_rings hs hm (fun r M' => nI (bRings (gB S)) = r ∧ sM M' S) (fun M' h => ⟨rfl, h⟩)) (fun v Mm1 h => ?_) rfl
  obtain ⟨_, rfl, rfl, m1⟩ := h
  refine x_icmp_eq (t := 1827) dL_law_489 (by decide) (fun _ => ?_) (fun q => absurd rfl q)
  refine Ex.sub (ks := [0, 1, 2, 3, 4]) rfl ?_
  exact Ex.wide (by show ca + 0 + 0 ≤ ca + 2; omega) (by show sl + 0 + 0 ≤ sl + 16; omega) (kk f M1 Mm1 S hs c1 m1)
set_option maxHeartbeats 4000000 in
set_option maxRecDepth 100000 in
theorem KL_groups {b L o : Nat} {xs : Nat → Int32} {G : eG} {f : Nat → Int64} {M Mm : eM} {S : gS} (hs : sOk S) (hc : sC M S) (hm : sM Mm S) {i : Nat} (hi : i + 6 ≤ L) (hL : L ≤ 3072) {ca sl : Nat} (hr : ca + 2 ≤ 601024 ∧ sl + 16 ≤ 7293034)
    (kk : ∀ (f' : Nat → Int64) (M' Mm' : eM) (S' : gS), sOk S' → sC M' S' → sM Mm' S' → lE b L xs G 1827 (lLoc b o G (nI i)) [] (wL G o f' M' Mm') (ca + 2) (sl + 16)) : lE b L xs G 494 (lLoc b o G (nI i)) [] (wL G o f M Mm) ca sl := by
  refine x_aload_n 3 dL_law_494 rfl rfl ?_
  refine xl_callC (K := kL_law) (R := room_1) (ca := ca) (sl := sl) (o := o) (f := f) (M := M) (Mm := Mm) xN0_m lwX_n (b' := (3, 0, 0)) (As := []) (S := []) dL_law_495 mX10_groups lML_145 rfl rfl (by exact ⟨⟨Nat.le_of_ble_eq_true rfl, Nat.le_of_ble_eq_true rfl⟩, ⟨by show ca + 0 ≤ 601024; omega, by show sl + 0 ≤ 7293034; omega⟩⟩) (Nat.le_of_ble_eq_true rfl) (P_groups hs hc (fun r M' => nI (bGroups (gB S)) = r ∧ sC M' S) (fun M' h => ⟨rfl, h⟩)) (fun v M1 h => ?_) rfl
  obtain ⟨_, rfl, rfl, c1⟩ := h
  refine x_aload_n 2 dL_law_498 rfl rfl ?_
  refine xl_callM (K := kL_law) (R := room_1) (ca := ca + 0) (sl := sl + 0) (o := o) (f := f) (M := M1) (Mm := Mm) xN0_m lwX_n (b' := (5, 0, 0)) (As := []) (S := [.int (nI (bGroups (gB S)))]) dL_law_499 mX13_groups lML_148 rfl rfl (by exact ⟨⟨Nat.le_of_ble_eq_true rfl, Nat.le_of_ble_eq_true rfl⟩, ⟨by show ca + 0 + 0 ≤ 601024; omega, by show sl + 0 + 0 ≤ 7293034; omega⟩⟩) (Nat.le_of_ble_eq_true rfl) (U_groups hs hm (fun r M' => nI (bGroups (gB S)) = r ∧ sM M' S) (fun M' h => ⟨rfl, h⟩)) (fun v Mm1 h => ?_) rfl
  obtain ⟨_, rfl, rfl, m1⟩ := h
  refine x_icmp_eq (t := 1827) dL_law_502 (by decide) (fun _ => ?_) (fun q => absurd rfl q)
  refine Ex.sub (ks := [0, 1, 2, 3, 4]) rfl ?_
  exact Ex.wide (by show ca + 0 + 0 ≤ ca + 2; omega) (by show sl + 0 + 0 ≤ sl + 16; omega) (kk f M1 Mm1 S hs c1 m1)
set_option maxHeartbeats 4000000 in
set_option maxRecDepth 100000 in
theorem KL_hasTile {b L o : Nat} {xs : Nat → Int32} {G : eG} {f : Nat → Int64} {M Mm : eM} {S : gS} (hs : sOk S) (hc : sC M S) (hm : sM Mm S) {i : Nat} (hi : i + 6 ≤ L) (hL : L ≤ 3072) {ca sl : Nat} (hr : ca + 2 ≤ 601024 ∧ sl + 16 ≤ 7293034)
    (kk : ∀ (f' : Nat → Int64) (M' Mm' : eM) (S' : gS), sOk S' → sC M' S' → sM Mm' S' → lE b L xs G 1827 (lLoc b o G (nI i)) [] (wL G o f' M' Mm') (ca + 2) (sl + 16)) : lE b L xs G 507 (lLoc b o G (nI i)) [] (wL G o f M Mm) ca sl := by
  refine x_aload_n 3 dL_law_507 rfl rfl ?_
  refine x_aload_n 4 dL_law_508 rfl rfl ?_
  refine x_iload 0 dL_law_509 rfl ?_
  refine x_iconst (v := 1) dL_law_511 rfl ?_
  refine x_iadd dL_law_512 ?_
  refine xl_sld (i + 1) dL_law_513 (nI_p i 1 rfl) (by omega) hL ?_
  refine x_aload_n 1 dL_law_514 rfl rfl ?_
  obtain ⟨hz, hst⟩ := zc_hasTile S (xs (i + 1))
  have hz3 : (z_hasTile S (xs (i + 1))).1 = 0 ∨ (z_hasTile S (xs (i + 1))).1 = 1 ∨ (z_hasTile S (xs (i + 1))).1 = 2 := hz.elim Or.inl (fun h => Or.inr (Or.inl h))
  refine x_callT (K := kL_law) (R := room_1) (ca := ca) (sl := sl) (w := wL G o f M Mm) xN0_m lwX_n (b' := (12, 1, 6)) (As := [.ref (G.1 0), .int (xs (i + 1)), .ref o]) (S := []) dL_law_515 mtL_hasTile lML_149 rfl (by exact ⟨⟨Nat.le_of_ble_eq_true rfl, Nat.le_of_ble_eq_true rfl⟩, ⟨by show ca + 1 ≤ 601024; omega, by show sl + 6 ≤ 7293034; omega⟩⟩) (Nat.le_of_ble_eq_true rfl) (T_hasTile hs hc o f (xs (i + 1))) (fun v w' h => ?_) rfl
  obtain ⟨f1, M1, rfl, c1, hf, rfl⟩ := h
  refine x_istore (l' := [(5, .int (nI (z_hasTile S (xs (i + 1))).1)), (4, .int (nI i)), (3, .ref o), (2, .ref (G.1 100)), (1, .ref (G.1 0)), (0, .ref b)]) dL_law_518 (by decide) rfl ?_
  refine x_aload_n 3 dL_law_520 rfl rfl ?_
  refine x_aload_n 5 dL_law_521 rfl rfl ?_
  refine x_iload 1 dL_law_522 rfl ?_
  refine x_iconst (v := 1) dL_law_524 rfl ?_
  refine x_iadd dL_law_525 ?_
  refine xl_sld (i + 1) dL_law_526 (nI_p i 1 rfl) (by omega) hL ?_
  refine xl_callM (K := kL_law) (R := room_1) (ca := ca + 1) (sl := sl + 6) (o := o) (f := f1) (M := M1) (Mm := Mm) xN0_m lwX_n (b' := (3, 0, 0)) (As := [.int (xs (i + 1))]) (S := []) dL_law_527 mX13_hasTile lML_151 rfl rfl (by exact ⟨⟨Nat.le_of_ble_eq_true rfl, Nat.le_of_ble_eq_true rfl⟩, ⟨by show ca + 1 + 0 ≤ 601024; omega, by show sl + 6 + 0 ≤ 7293034; omega⟩⟩) (Nat.le_of_ble_eq_true rfl) (U_hasTile hs hm (xs (i + 1)) (fun r M' => sM M' (z_hasTile S (xs (i + 1))).2.2 ∧ M' 100 0 = nI (z_hasTile S (xs (i + 1))).1 ∧ ((z_hasTile S (xs (i + 1))).1 = 0 → r = (z_hasTile S (xs (i + 1))).2.1)) (fun r M' h1 h2 h3 => ⟨h1, h2, h3⟩)) (fun v Mm1 h => ?_) rfl
  obtain ⟨r, rfl, m1, ht, hrv⟩ := h
  refine x_istore (l' := [(6, .int (eZi r)), (5, .int (nI (z_hasTile S (xs (i + 1))).1)), (4, .int (nI i)), (3, .ref o), (2, .ref (G.1 100)), (1, .ref (G.1 0)), (0, .ref b)]) dL_law_530 (by decide) rfl ?_
  refine x_aload_n 4 dL_law_532 rfl rfl ?_
  refine xl_callM (K := kL_law) (R := room_1) (ca := ca + 1 + 0) (sl := sl + 6 + 0) (o := o) (f := f1) (M := M1) (Mm := Mm1) xN0_m lwX_n (b' := (1, 0, 0)) (As := []) (S := []) dL_law_533 mX13_thrown lML_97 rfl rfl (by exact ⟨⟨Nat.le_of_ble_eq_true rfl, Nat.le_of_ble_eq_true rfl⟩, ⟨by show ca + 1 + 0 + 0 ≤ 601024; omega, by show sl + 6 + 0 + 0 ≤ 7293034; omega⟩⟩) (Nat.le_of_ble_eq_true rfl) (C_X13_thrown G _ (fun r M' => Mm1 100 0 = r ∧ Mm1 = M') ⟨rfl, rfl⟩) (fun v Mm2 h => ?_) rfl
  obtain ⟨_, rfl, rfl, rfl⟩ := h
  refine x_iload 1 dL_law_536 rfl ?_
  refine x_icmp_eq (t := 543) dL_law_538 (by decide) (fun _ => ?_) (fun q => absurd ht q)
  refine x_iload 1 dL_law_543 rfl ?_
  have hok : sOk (z_hasTile S (xs (i + 1))).2.2 := zk_hasTile hs (xs (i + 1))
  refine x_if_ne (t := 567) dL_law_545 (by decide) (fun q => ?_) (fun q => ?_)
  · refine x_goto (t := 1827) dL_law_567 (by decide) ?_
    refine Ex.sub (ks := [2, 3, 4, 5, 6]) rfl ?_
    exact Ex.wide (by show ca + 1 + 0 + 0 ≤ ca + 2; omega) (by show sl + 6 + 0 + 0 ≤ sl + 16; omega) (kk f1 M1 Mm1 _ hok c1 m1)
  · have hz0 := zc0 hz3 q
    have e1 := hf hz0
    have e2 := hrv hz0
    refine x_aload_n 3 dL_law_548 rfl rfl ?_
    refine x_iconst (v := 0) dL_law_549 rfl ?_
    refine x_lald (q0 := 0) (N := 1) (f := f1) dL_law_550 rfl (vp_in_nI (n := 0) (by decide) (by decide)) ?_
    rw [show (0 : Int32).toNatClampNeg = 0 from by decide, e1]
    refine x_iload 0 dL_law_551 rfl ?_
    refine x_zif_eq (t := 560) dL_law_553 (by decide) (fun zz => ?_) (fun zz => ?_)
    · rw [e2] at zz
      refine x_lconst (v := 0) dL_law_560 rfl ?_
      rw [zz]
      refine xl_lcmp dL_law_561 ?_
      refine x_if_eq (t := 567) dL_law_562 (by decide) (fun _ => ?_) (fun q => absurd (by first | exact zInt _ | decide) q)
      refine x_goto (t := 1827) dL_law_567 (by decide) ?_
      refine Ex.sub (ks := [2, 3, 4, 5, 6]) rfl ?_
      exact Ex.wide (by show ca + 1 + 0 + 0 ≤ ca + 2; omega) (by show sl + 6 + 0 + 0 ≤ sl + 16; omega) (kk f1 M1 Mm1 _ hok c1 m1)
    · rw [e2] at zz
      refine x_lconst (v := 1) dL_law_556 rfl ?_
      refine x_goto (t := 561) dL_law_557 (by decide) ?_
      rw [zz]
      refine xl_lcmp dL_law_561 ?_
      refine x_if_eq (t := 567) dL_law_562 (by decide) (fun _ => ?_) (fun q => absurd (by first | exact zInt _ | decide) q)
      refine x_goto (t := 1827) dL_law_567 (by decide) ?_
      refine Ex.sub (ks := [2, 3, 4, 5, 6]) rfl ?_
      exact Ex.wide (by show ca + 1 + 0 + 0 ≤ ca + 2; omega) (by show sl + 6 + 0 + 0 ≤ sl + 16; omega) (kk f1 M1 Mm1 _ hok c1 m1)
set_option maxHeartbeats 4000000 in
set_option maxRecDepth 100000 in
theorem KL_tileAt {b L o : Nat} {xs : Nat → Int32} {G : eG} {f : Nat → Int64} {M Mm : eM} {S : gS} (hs : sOk S) (hc : sC M S) (hm : sM Mm S) {i : Nat} (hi : i + 6 ≤ L) (hL : L ≤ 3072) {ca sl : Nat} (hr : ca + 2 ≤ 601024 ∧ sl + 16 ≤ 7293034)
    (kk : ∀ (f' : Nat → Int64) (M' Mm' : eM) (S' : gS), sOk S' → sC M' S' → sM Mm' S' → lE b L xs G 1827 (lLoc b o G (nI i)) [] (wL G o f' M' Mm') (ca + 2) (sl + 16)) : lE b L xs G 570 (lLoc b o G (nI i)) [] (wL G o f M Mm) ca sl := by
  refine x_aload_n 3 dL_law_570 rfl rfl ?_
  refine x_aload_n 4 dL_law_571 rfl rfl ?_
  refine x_iload 0 dL_law_572 rfl ?_
  refine x_iconst (v := 1) dL_law_574 rfl ?_
  refine x_iadd dL_law_575 ?_
  refine xl_sld (i + 1) dL_law_576 (nI_p i 1 rfl) (by omega) hL ?_
  refine x_aload_n 1 dL_law_577 rfl rfl ?_
  obtain ⟨hz, hst⟩ := zc_tileAt S (xs (i + 1))
  have hz3 : (z_tileAt S (xs (i + 1))).1 = 0 ∨ (z_tileAt S (xs (i + 1))).1 = 1 ∨ (z_tileAt S (xs (i + 1))).1 = 2 := hz
  refine x_callT (K := kL_law) (R := room_1) (ca := ca) (sl := sl) (w := wL G o f M Mm) xN0_m lwX_n (b' := (12, 1, 6)) (As := [.ref (G.1 0), .int (xs (i + 1)), .ref o]) (S := []) dL_law_578 mtL_tileAt lML_152 rfl (by exact ⟨⟨Nat.le_of_ble_eq_true rfl, Nat.le_of_ble_eq_true rfl⟩, ⟨by show ca + 1 ≤ 601024; omega, by show sl + 6 ≤ 7293034; omega⟩⟩) (Nat.le_of_ble_eq_true rfl) (T_tileAt hs hc o f (xs (i + 1))) (fun v w' h => ?_) rfl
  obtain ⟨f1, M1, rfl, c1, hf, rfl⟩ := h
  refine x_istore (l' := [(5, .int (nI (z_tileAt S (xs (i + 1))).1)), (4, .int (nI i)), (3, .ref o), (2, .ref (G.1 100)), (1, .ref (G.1 0)), (0, .ref b)]) dL_law_581 (by decide) rfl ?_
  refine x_aload_n 3 dL_law_583 rfl rfl ?_
  refine x_aload_n 5 dL_law_584 rfl rfl ?_
  refine x_iload 1 dL_law_585 rfl ?_
  refine x_iconst (v := 1) dL_law_587 rfl ?_
  refine x_iadd dL_law_588 ?_
  refine xl_sld (i + 1) dL_law_589 (nI_p i 1 rfl) (by omega) hL ?_
  refine xl_callM (K := kL_law) (R := room_1) (ca := ca + 1) (sl := sl + 6) (o := o) (f := f1) (M := M1) (Mm := Mm) xN0_m lwX_n (b' := (3, 0, 0)) (As := [.int (xs (i + 1))]) (S := []) dL_law_590 mX13_tileAt lML_154 rfl rfl (by exact ⟨⟨Nat.le_of_ble_eq_true rfl, Nat.le_of_ble_eq_true rfl⟩, ⟨by show ca + 1 + 0 ≤ 601024; omega, by show sl + 6 + 0 ≤ 7293034; omega⟩⟩) (Nat.le_of_ble_eq_true rfl) (U_tileAt hs hm (xs (i + 1)) (fun r M' => sM M' (z_tileAt S (xs (i + 1))).2.2 ∧ M' 100 0 = nI (z_tileAt S (xs (i + 1))).1 ∧ ((z_tileAt S (xs (i + 1))).1 = 0 → r = (z_tileAt S (xs (i + 1))).2.1)) (fun r M' h1 h2 h3 => ⟨h1, h2, h3⟩)) (fun v Mm1 h => ?_) rfl
  obtain ⟨r, rfl, m1, ht, hrv⟩ := h
  refine x_istore (l' := [(6, .int r), (5, .int (nI (z_tileAt S (xs (i + 1))).1)), (4, .int (nI i)), (3, .ref o), (2, .ref (G.1 100)), (1, .ref (G.1 0)), (0, .ref b)]) dL_law_593 (by decide) rfl ?_
  refine x_aload_n 4 dL_law_595 rfl rfl ?_
  refine xl_callM (K := kL_law) (R := room_1) (ca := ca + 1 + 0) (sl := sl + 6 + 0) (o := o) (f := f1) (M := M1) (Mm := Mm1) xN0_m lwX_n (b' := (1, 0, 0)) (As := []) (S := []) dL_law_596 mX13_thrown lML_97 rfl rfl (by exact ⟨⟨Nat.le_of_ble_eq_true rfl, Nat.le_of_ble_eq_true rfl⟩, ⟨by show ca + 1 + 0 + 0 ≤ 601024; omega, by show sl + 6 + 0 + 0 ≤ 7293034; omega⟩⟩) (Nat.le_of_ble_eq_true rfl) (C_X13_thrown G _ (fun r M' => Mm1 100 0 = r ∧ Mm1 = M') ⟨rfl, rfl⟩) (fun v Mm2 h => ?_) rfl
  obtain ⟨_, rfl, rfl, rfl⟩ := h
  refine x_iload 1 dL_law_599 rfl ?_
  refine x_icmp_eq (t := 606) dL_law_601 (by decide) (fun _ => ?_) (fun q => absurd ht q)
  refine x_iload 1 dL_law_606 rfl ?_
  have hok : sOk (z_tileAt S (xs (i + 1))).2.2 := zk_tileAt hs (xs (i + 1))
  refine x_if_ne (t := 623) dL_law_608 (by decide) (fun q => ?_) (fun q => ?_)
  · refine x_goto (t := 1827) dL_law_623 (by decide) ?_
    refine Ex.sub (ks := [2, 3, 4, 5, 6]) rfl ?_
    exact Ex.wide (by show ca + 1 + 0 + 0 ≤ ca + 2; omega) (by show sl + 6 + 0 + 0 ≤ sl + 16; omega) (kk f1 M1 Mm1 _ hok c1 m1)
  · have hz0 := zc0 hz3 q
    have e1 := hf hz0
    have e2 := hrv hz0
    refine x_aload_n 3 dL_law_611 rfl rfl ?_
    refine x_iconst (v := 0) dL_law_612 rfl ?_
    refine x_lald (q0 := 0) (N := 1) (f := f1) dL_law_613 rfl (vp_in_nI (n := 0) (by decide) (by decide)) ?_
    rw [show (0 : Int32).toNatClampNeg = 0 from by decide, e1]
    refine x_iload 0 dL_law_614 rfl ?_
    refine x_i2l dL_law_616 ?_
    rw [e2]
    refine xl_lcmp dL_law_617 ?_
    rw [zInt]
    refine x_if_eq (t := 623) dL_law_618 (by decide) (fun _ => ?_) (fun q => absurd rfl q)
    refine x_goto (t := 1827) dL_law_623 (by decide) ?_
    refine Ex.sub (ks := [2, 3, 4, 5, 6]) rfl ?_
    exact Ex.wide (by show ca + 1 + 0 + 0 ≤ ca + 2; omega) (by show sl + 6 + 0 + 0 ≤ sl + 16; omega) (kk f1 M1 Mm1 _ hok c1 m1)
set_option maxHeartbeats 4000000 in
set_option maxRecDepth 100000 in
theorem KL_numberAt {b L o : Nat} {xs : Nat → Int32} {G : eG} {f : Nat → Int64} {M Mm : eM} {S : gS} (hs : sOk S) (hc : sC M S) (hm : sM Mm S) {i : Nat} (hi : i + 6 ≤ L) (hL : L ≤ 3072) {ca sl : Nat} (hr : ca + 2 ≤ 601024 ∧ sl + 16 ≤ 7293034)
    (kk : ∀ (f' : Nat → Int64) (M' Mm' : eM) (S' : gS), sOk S' → sC M' S' → sM Mm' S' → lE b L xs G 1827 (lLoc b o G (nI i)) [] (wL G o f' M' Mm') (ca + 2) (sl + 16)) : lE b L xs G 626 (lLoc b o G (nI i)) [] (wL G o f M Mm) ca sl := by
  refine x_aload_n 3 dL_law_626 rfl rfl ?_
  refine x_aload_n 4 dL_law_627 rfl rfl ?_
  refine x_iload 0 dL_law_628 rfl ?_
  refine x_iconst (v := 1) dL_law_630 rfl ?_
  refine x_iadd dL_law_631 ?_
  refine xl_sld (i + 1) dL_law_632 (nI_p i 1 rfl) (by omega) hL ?_
  refine x_aload_n 4 dL_law_633 rfl rfl ?_
  refine x_iload 0 dL_law_634 rfl ?_
  refine x_iconst (v := 2) dL_law_636 rfl ?_
  refine x_iadd dL_law_637 ?_
  refine xl_sld (i + 2) dL_law_638 (nI_p i 2 rfl) (by omega) hL ?_
  refine x_aload_n 1 dL_law_639 rfl rfl ?_
  obtain ⟨hz, hst⟩ := zc_numberAt S (xs (i + 1)) (xs (i + 2))
  have hz3 : (z_numberAt S (xs (i + 1)) (xs (i + 2))).1 = 0 ∨ (z_numberAt S (xs (i + 1)) (xs (i + 2))).1 = 1 ∨ (z_numberAt S (xs (i + 1)) (xs (i + 2))).1 = 2 := hz
  refine x_callT (K := kL_law) (R := room_1) (ca := ca) (sl := sl) (w := wL G o f M Mm) xN0_m lwX_n (b' := (12, 1, 6)) (As := [.ref (G.1 0), .int (xs (i + 1)), .int (xs (i + 2)), .ref o]) (S := []) dL_law_640 mtL_numberAt lML_155 rfl (by exact ⟨⟨Nat.le_of_ble_eq_true rfl, Nat.le_of_ble_eq_true rfl⟩, ⟨by show ca + 1 ≤ 601024; omega, by show sl + 6 ≤ 7293034; omega⟩⟩) (Nat.le_of_ble_eq_true rfl) (T_numberAt hs hc o f (xs (i + 1)) (xs (i + 2))) (fun v w' h => ?_) rfl
  obtain ⟨f1, M1, rfl, c1, hf, rfl⟩ := h
  refine x_istore (l' := [(5, .int (nI (z_numberAt S (xs (i + 1)) (xs (i + 2))).1)), (4, .int (nI i)), (3, .ref o), (2, .ref (G.1 100)), (1, .ref (G.1 0)), (0, .ref b)]) dL_law_643 (by decide) rfl ?_
  refine x_aload_n 3 dL_law_645 rfl rfl ?_
  refine x_aload_n 5 dL_law_646 rfl rfl ?_
  refine x_iload 1 dL_law_647 rfl ?_
  refine x_iconst (v := 1) dL_law_649 rfl ?_
  refine x_iadd dL_law_650 ?_
  refine xl_sld (i + 1) dL_law_651 (nI_p i 1 rfl) (by omega) hL ?_
  refine x_aload_n 5 dL_law_652 rfl rfl ?_
  refine x_iload 1 dL_law_653 rfl ?_
  refine x_iconst (v := 2) dL_law_655 rfl ?_
  refine x_iadd dL_law_656 ?_
  refine xl_sld (i + 2) dL_law_657 (nI_p i 2 rfl) (by omega) hL ?_
  refine xl_callM (K := kL_law) (R := room_1) (ca := ca + 1) (sl := sl + 6) (o := o) (f := f1) (M := M1) (Mm := Mm) xN0_m lwX_n (b' := (3, 0, 0)) (As := [.int (xs (i + 1)), .int (xs (i + 2))]) (S := []) dL_law_658 mX13_numberAt_ lML_158 rfl rfl (by exact ⟨⟨Nat.le_of_ble_eq_true rfl, Nat.le_of_ble_eq_true rfl⟩, ⟨by show ca + 1 + 0 ≤ 601024; omega, by show sl + 6 + 0 ≤ 7293034; omega⟩⟩) (Nat.le_of_ble_eq_true rfl) (U_numberAt hs hm (xs (i + 1)) (xs (i + 2)) (fun r M' => sM M' (z_numberAt S (xs (i + 1)) (xs (i + 2))).2.2 ∧ M' 100 0 = nI (z_numberAt S (xs (i + 1)) (xs (i + 2))).1 ∧ ((z_numberAt S (xs (i + 1)) (xs (i + 2))).1 = 0 → r = (z_numberAt S (xs (i + 1)) (xs (i + 2))).2.1)) (fun r M' h1 h2 h3 => ⟨h1, h2, h3⟩)) (fun v Mm1 h => ?_) rfl
  obtain ⟨r, rfl, m1, ht, hrv⟩ := h
  refine x_istore (l' := [(6, .int r), (5, .int (nI (z_numberAt S (xs (i + 1)) (xs (i + 2))).1)), (4, .int (nI i)), (3, .ref o), (2, .ref (G.1 100)), (1, .ref (G.1 0)), (0, .ref b)]) dL_law_661 (by decide) rfl ?_
  refine x_aload_n 4 dL_law_663 rfl rfl ?_
  refine xl_callM (K := kL_law) (R := room_1) (ca := ca + 1 + 0) (sl := sl + 6 + 0) (o := o) (f := f1) (M := M1) (Mm := Mm1) xN0_m lwX_n (b' := (1, 0, 0)) (As := []) (S := []) dL_law_664 mX13_thrown lML_97 rfl rfl (by exact ⟨⟨Nat.le_of_ble_eq_true rfl, Nat.le_of_ble_eq_true rfl⟩, ⟨by show ca + 1 + 0 + 0 ≤ 601024; omega, by show sl + 6 + 0 + 0 ≤ 7293034; omega⟩⟩) (Nat.le_of_ble_eq_true rfl) (C_X13_thrown G _ (fun r M' => Mm1 100 0 = r ∧ Mm1 = M') ⟨rfl, rfl⟩) (fun v Mm2 h => ?_) rfl
  obtain ⟨_, rfl, rfl, rfl⟩ := h
  refine x_iload 1 dL_law_667 rfl ?_
  refine x_icmp_eq (t := 674) dL_law_669 (by decide) (fun _ => ?_) (fun q => absurd ht q)
  refine x_iload 1 dL_law_674 rfl ?_
  have hok : sOk (z_numberAt S (xs (i + 1)) (xs (i + 2))).2.2 := zk_numberAt hs (xs (i + 1)) (xs (i + 2))
  refine x_if_ne (t := 691) dL_law_676 (by decide) (fun q => ?_) (fun q => ?_)
  · refine x_goto (t := 1827) dL_law_691 (by decide) ?_
    refine Ex.sub (ks := [2, 3, 4, 5, 6]) rfl ?_
    exact Ex.wide (by show ca + 1 + 0 + 0 ≤ ca + 2; omega) (by show sl + 6 + 0 + 0 ≤ sl + 16; omega) (kk f1 M1 Mm1 _ hok c1 m1)
  · have hz0 := zc0 hz3 q
    have e1 := hf hz0
    have e2 := hrv hz0
    refine x_aload_n 3 dL_law_679 rfl rfl ?_
    refine x_iconst (v := 0) dL_law_680 rfl ?_
    refine x_lald (q0 := 0) (N := 1) (f := f1) dL_law_681 rfl (vp_in_nI (n := 0) (by decide) (by decide)) ?_
    rw [show (0 : Int32).toNatClampNeg = 0 from by decide, e1]
    refine x_iload 0 dL_law_682 rfl ?_
    refine x_i2l dL_law_684 ?_
    rw [e2]
    refine xl_lcmp dL_law_685 ?_
    rw [zInt]
    refine x_if_eq (t := 691) dL_law_686 (by decide) (fun _ => ?_) (fun q => absurd rfl q)
    refine x_goto (t := 1827) dL_law_691 (by decide) ?_
    refine Ex.sub (ks := [2, 3, 4, 5, 6]) rfl ?_
    exact Ex.wide (by show ca + 1 + 0 + 0 ≤ ca + 2; omega) (by show sl + 6 + 0 + 0 ≤ sl + 16; omega) (kk f1 M1 Mm1 _ hok c1 m1)
set_option maxHeartbeats 4000000 in
set_option maxRecDepth 100000 in
theorem KL_matchesOf {b L o : Nat} {xs : Nat → Int32} {G : eG} {f : Nat → Int64} {M Mm : eM} {S : gS} (hs : sOk S) (hc : sC M S) (hm : sM Mm S) {i : Nat} (hi : i + 6 ≤ L) (hL : L ≤ 3072) {ca sl : Nat} (hr : ca + 2 ≤ 601024 ∧ sl + 16 ≤ 7293034)
    (kk : ∀ (f' : Nat → Int64) (M' Mm' : eM) (S' : gS), sOk S' → sC M' S' → sM Mm' S' → lE b L xs G 1827 (lLoc b o G (nI i)) [] (wL G o f' M' Mm') (ca + 2) (sl + 16)) : lE b L xs G 694 (lLoc b o G (nI i)) [] (wL G o f M Mm) ca sl := by
  refine x_aload_n 3 dL_law_694 rfl rfl ?_
  refine x_aload_n 4 dL_law_695 rfl rfl ?_
  refine x_iload 0 dL_law_696 rfl ?_
  refine x_iconst (v := 1) dL_law_698 rfl ?_
  refine x_iadd dL_law_699 ?_
  refine xl_sld (i + 1) dL_law_700 (nI_p i 1 rfl) (by omega) hL ?_
  refine x_aload_n 1 dL_law_701 rfl rfl ?_
  obtain ⟨hz, hst⟩ := zc_matchesOf S (xs (i + 1))
  have hz3 : (z_matchesOf S (xs (i + 1))).1 = 0 ∨ (z_matchesOf S (xs (i + 1))).1 = 1 ∨ (z_matchesOf S (xs (i + 1))).1 = 2 := hz.elim Or.inl (fun h => Or.inr (Or.inl h))
  refine x_callT (K := kL_law) (R := room_1) (ca := ca) (sl := sl) (w := wL G o f M Mm) xN0_m lwX_n (b' := (12, 1, 6)) (As := [.ref (G.1 0), .int (xs (i + 1)), .ref o]) (S := []) dL_law_702 mtL_matchesOf lML_159 rfl (by exact ⟨⟨Nat.le_of_ble_eq_true rfl, Nat.le_of_ble_eq_true rfl⟩, ⟨by show ca + 1 ≤ 601024; omega, by show sl + 6 ≤ 7293034; omega⟩⟩) (Nat.le_of_ble_eq_true rfl) (T_matchesOf hs hc o f (xs (i + 1))) (fun v w' h => ?_) rfl
  obtain ⟨f1, M1, rfl, c1, hf, rfl⟩ := h
  refine x_istore (l' := [(5, .int (nI (z_matchesOf S (xs (i + 1))).1)), (4, .int (nI i)), (3, .ref o), (2, .ref (G.1 100)), (1, .ref (G.1 0)), (0, .ref b)]) dL_law_705 (by decide) rfl ?_
  refine x_aload_n 3 dL_law_707 rfl rfl ?_
  refine x_aload_n 5 dL_law_708 rfl rfl ?_
  refine x_iload 1 dL_law_709 rfl ?_
  refine x_iconst (v := 1) dL_law_711 rfl ?_
  refine x_iadd dL_law_712 ?_
  refine xl_sld (i + 1) dL_law_713 (nI_p i 1 rfl) (by omega) hL ?_
  refine xl_callM (K := kL_law) (R := room_1) (ca := ca + 1) (sl := sl + 6) (o := o) (f := f1) (M := M1) (Mm := Mm) xN0_m lwX_n (b' := (6, 0, 0)) (As := [.int (xs (i + 1))]) (S := []) dL_law_714 mX13_matchesOf lML_161 rfl rfl (by exact ⟨⟨Nat.le_of_ble_eq_true rfl, Nat.le_of_ble_eq_true rfl⟩, ⟨by show ca + 1 + 0 ≤ 601024; omega, by show sl + 6 + 0 ≤ 7293034; omega⟩⟩) (Nat.le_of_ble_eq_true rfl) (U_matchesOf hs hm (xs (i + 1)) (fun r M' => sM M' (z_matchesOf S (xs (i + 1))).2.2 ∧ M' 100 0 = nI (z_matchesOf S (xs (i + 1))).1 ∧ ((z_matchesOf S (xs (i + 1))).1 = 0 → r = (z_matchesOf S (xs (i + 1))).2.1)) (fun r M' h1 h2 h3 => ⟨h1, h2, h3⟩)) (fun v Mm1 h => ?_) rfl
  obtain ⟨r, rfl, m1, ht, hrv⟩ := h
  refine x_istore (l' := [(6, .int r), (5, .int (nI (z_matchesOf S (xs (i + 1))).1)), (4, .int (nI i)), (3, .ref o), (2, .ref (G.1 100)), (1, .ref (G.1 0)), (0, .ref b)]) dL_law_717 (by decide) rfl ?_
  refine x_aload_n 4 dL_law_719 rfl rfl ?_
  refine xl_callM (K := kL_law) (R := room_1) (ca := ca + 1 + 0) (sl := sl + 6 + 0) (o := o) (f := f1) (M := M1) (Mm := Mm1) xN0_m lwX_n (b' := (1, 0, 0)) (As := []) (S := []) dL_law_720 mX13_thrown lML_97 rfl rfl (by exact ⟨⟨Nat.le_of_ble_eq_true rfl, Nat.le_of_ble_eq_true rfl⟩, ⟨by show ca + 1 + 0 + 0 ≤ 601024; omega, by show sl + 6 + 0 + 0 ≤ 7293034; omega⟩⟩) (Nat.le_of_ble_eq_true rfl) (C_X13_thrown G _ (fun r M' => Mm1 100 0 = r ∧ Mm1 = M') ⟨rfl, rfl⟩) (fun v Mm2 h => ?_) rfl
  obtain ⟨_, rfl, rfl, rfl⟩ := h
  refine x_iload 1 dL_law_723 rfl ?_
  refine x_icmp_eq (t := 730) dL_law_725 (by decide) (fun _ => ?_) (fun q => absurd ht q)
  refine x_iload 1 dL_law_730 rfl ?_
  have hok : sOk (z_matchesOf S (xs (i + 1))).2.2 := zk_matchesOf hs (xs (i + 1))
  refine x_if_ne (t := 747) dL_law_732 (by decide) (fun q => ?_) (fun q => ?_)
  · refine x_goto (t := 1827) dL_law_747 (by decide) ?_
    refine Ex.sub (ks := [2, 3, 4, 5, 6]) rfl ?_
    exact Ex.wide (by show ca + 1 + 0 + 0 ≤ ca + 2; omega) (by show sl + 6 + 0 + 0 ≤ sl + 16; omega) (kk f1 M1 Mm1 _ hok c1 m1)
  · have hz0 := zc0 hz3 q
    have e1 := hf hz0
    have e2 := hrv hz0
    refine x_aload_n 3 dL_law_735 rfl rfl ?_
    refine x_iconst (v := 0) dL_law_736 rfl ?_
    refine x_lald (q0 := 0) (N := 1) (f := f1) dL_law_737 rfl (vp_in_nI (n := 0) (by decide) (by decide)) ?_
    rw [show (0 : Int32).toNatClampNeg = 0 from by decide, e1]
    refine x_iload 0 dL_law_738 rfl ?_
    refine x_i2l dL_law_740 ?_
    rw [e2]
    refine xl_lcmp dL_law_741 ?_
    rw [zInt]
    refine x_if_eq (t := 747) dL_law_742 (by decide) (fun _ => ?_) (fun q => absurd rfl q)
    refine x_goto (t := 1827) dL_law_747 (by decide) ?_
    refine Ex.sub (ks := [2, 3, 4, 5, 6]) rfl ?_
    exact Ex.wide (by show ca + 1 + 0 + 0 ≤ ca + 2; omega) (by show sl + 6 + 0 + 0 ≤ sl + 16; omega) (kk f1 M1 Mm1 _ hok c1 m1)
set_option maxHeartbeats 4000000 in
set_option maxRecDepth 100000 in
theorem KL_isRing {b L o : Nat} {xs : Nat → Int32} {G : eG} {f : Nat → Int64} {M Mm : eM} {S : gS} (hs : sOk S) (hc : sC M S) (hm : sM Mm S) {i : Nat} (hi : i + 6 ≤ L) (hL : L ≤ 3072) {ca sl : Nat} (hr : ca + 2 ≤ 601024 ∧ sl + 16 ≤ 7293034)
    (kk : ∀ (f' : Nat → Int64) (M' Mm' : eM) (S' : gS), sOk S' → sC M' S' → sM Mm' S' → lE b L xs G 1827 (lLoc b o G (nI i)) [] (wL G o f' M' Mm') (ca + 2) (sl + 16)) : lE b L xs G 750 (lLoc b o G (nI i)) [] (wL G o f M Mm) ca sl := by
  refine x_aload_n 3 dL_law_750 rfl rfl ?_
  refine x_aload_n 4 dL_law_751 rfl rfl ?_
  refine x_iload 0 dL_law_752 rfl ?_
  refine x_iconst (v := 1) dL_law_754 rfl ?_
  refine x_iadd dL_law_755 ?_
  refine xl_sld (i + 1) dL_law_756 (nI_p i 1 rfl) (by omega) hL ?_
  refine x_aload_n 1 dL_law_757 rfl rfl ?_
  obtain ⟨hz, hst⟩ := zc_isRing S (xs (i + 1))
  have hz3 : (z_isRing S (xs (i + 1))).1 = 0 ∨ (z_isRing S (xs (i + 1))).1 = 1 ∨ (z_isRing S (xs (i + 1))).1 = 2 := hz.elim Or.inl (fun h => Or.inr (Or.inl h))
  refine x_callT (K := kL_law) (R := room_1) (ca := ca) (sl := sl) (w := wL G o f M Mm) xN0_m lwX_n (b' := (12, 1, 6)) (As := [.ref (G.1 0), .int (xs (i + 1)), .ref o]) (S := []) dL_law_758 mtL_isRing lML_162 rfl (by exact ⟨⟨Nat.le_of_ble_eq_true rfl, Nat.le_of_ble_eq_true rfl⟩, ⟨by show ca + 1 ≤ 601024; omega, by show sl + 6 ≤ 7293034; omega⟩⟩) (Nat.le_of_ble_eq_true rfl) (T_isRing hs hc o f (xs (i + 1))) (fun v w' h => ?_) rfl
  obtain ⟨f1, M1, rfl, c1, hf, rfl⟩ := h
  refine x_istore (l' := [(5, .int (nI (z_isRing S (xs (i + 1))).1)), (4, .int (nI i)), (3, .ref o), (2, .ref (G.1 100)), (1, .ref (G.1 0)), (0, .ref b)]) dL_law_761 (by decide) rfl ?_
  refine x_aload_n 3 dL_law_763 rfl rfl ?_
  refine x_aload_n 5 dL_law_764 rfl rfl ?_
  refine x_iload 1 dL_law_765 rfl ?_
  refine x_iconst (v := 1) dL_law_767 rfl ?_
  refine x_iadd dL_law_768 ?_
  refine xl_sld (i + 1) dL_law_769 (nI_p i 1 rfl) (by omega) hL ?_
  refine xl_callM (K := kL_law) (R := room_1) (ca := ca + 1) (sl := sl + 6) (o := o) (f := f1) (M := M1) (Mm := Mm) xN0_m lwX_n (b' := (6, 0, 0)) (As := [.int (xs (i + 1))]) (S := []) dL_law_770 mX13_isRing lML_164 rfl rfl (by exact ⟨⟨Nat.le_of_ble_eq_true rfl, Nat.le_of_ble_eq_true rfl⟩, ⟨by show ca + 1 + 0 ≤ 601024; omega, by show sl + 6 + 0 ≤ 7293034; omega⟩⟩) (Nat.le_of_ble_eq_true rfl) (U_isRing hs hm (xs (i + 1)) (fun r M' => sM M' (z_isRing S (xs (i + 1))).2.2 ∧ M' 100 0 = nI (z_isRing S (xs (i + 1))).1 ∧ ((z_isRing S (xs (i + 1))).1 = 0 → r = (z_isRing S (xs (i + 1))).2.1)) (fun r M' h1 h2 h3 => ⟨h1, h2, h3⟩)) (fun v Mm1 h => ?_) rfl
  obtain ⟨r, rfl, m1, ht, hrv⟩ := h
  refine x_istore (l' := [(6, .int (eZi r)), (5, .int (nI (z_isRing S (xs (i + 1))).1)), (4, .int (nI i)), (3, .ref o), (2, .ref (G.1 100)), (1, .ref (G.1 0)), (0, .ref b)]) dL_law_773 (by decide) rfl ?_
  refine x_aload_n 4 dL_law_775 rfl rfl ?_
  refine xl_callM (K := kL_law) (R := room_1) (ca := ca + 1 + 0) (sl := sl + 6 + 0) (o := o) (f := f1) (M := M1) (Mm := Mm1) xN0_m lwX_n (b' := (1, 0, 0)) (As := []) (S := []) dL_law_776 mX13_thrown lML_97 rfl rfl (by exact ⟨⟨Nat.le_of_ble_eq_true rfl, Nat.le_of_ble_eq_true rfl⟩, ⟨by show ca + 1 + 0 + 0 ≤ 601024; omega, by show sl + 6 + 0 + 0 ≤ 7293034; omega⟩⟩) (Nat.le_of_ble_eq_true rfl) (C_X13_thrown G _ (fun r M' => Mm1 100 0 = r ∧ Mm1 = M') ⟨rfl, rfl⟩) (fun v Mm2 h => ?_) rfl
  obtain ⟨_, rfl, rfl, rfl⟩ := h
  refine x_iload 1 dL_law_779 rfl ?_
  refine x_icmp_eq (t := 786) dL_law_781 (by decide) (fun _ => ?_) (fun q => absurd ht q)
  refine x_iload 1 dL_law_786 rfl ?_
  have hok : sOk (z_isRing S (xs (i + 1))).2.2 := zk_isRing hs (xs (i + 1))
  refine x_if_ne (t := 810) dL_law_788 (by decide) (fun q => ?_) (fun q => ?_)
  · refine x_goto (t := 1827) dL_law_810 (by decide) ?_
    refine Ex.sub (ks := [2, 3, 4, 5, 6]) rfl ?_
    exact Ex.wide (by show ca + 1 + 0 + 0 ≤ ca + 2; omega) (by show sl + 6 + 0 + 0 ≤ sl + 16; omega) (kk f1 M1 Mm1 _ hok c1 m1)
  · have hz0 := zc0 hz3 q
    have e1 := hf hz0
    have e2 := hrv hz0
    refine x_aload_n 3 dL_law_791 rfl rfl ?_
    refine x_iconst (v := 0) dL_law_792 rfl ?_
    refine x_lald (q0 := 0) (N := 1) (f := f1) dL_law_793 rfl (vp_in_nI (n := 0) (by decide) (by decide)) ?_
    rw [show (0 : Int32).toNatClampNeg = 0 from by decide, e1]
    refine x_iload 0 dL_law_794 rfl ?_
    refine x_zif_eq (t := 803) dL_law_796 (by decide) (fun zz => ?_) (fun zz => ?_)
    · rw [e2] at zz
      refine x_lconst (v := 0) dL_law_803 rfl ?_
      rw [zz]
      refine xl_lcmp dL_law_804 ?_
      refine x_if_eq (t := 810) dL_law_805 (by decide) (fun _ => ?_) (fun q => absurd (by first | exact zInt _ | decide) q)
      refine x_goto (t := 1827) dL_law_810 (by decide) ?_
      refine Ex.sub (ks := [2, 3, 4, 5, 6]) rfl ?_
      exact Ex.wide (by show ca + 1 + 0 + 0 ≤ ca + 2; omega) (by show sl + 6 + 0 + 0 ≤ sl + 16; omega) (kk f1 M1 Mm1 _ hok c1 m1)
    · rw [e2] at zz
      refine x_lconst (v := 1) dL_law_799 rfl ?_
      refine x_goto (t := 804) dL_law_800 (by decide) ?_
      rw [zz]
      refine xl_lcmp dL_law_804 ?_
      refine x_if_eq (t := 810) dL_law_805 (by decide) (fun _ => ?_) (fun q => absurd (by first | exact zInt _ | decide) q)
      refine x_goto (t := 1827) dL_law_810 (by decide) ?_
      refine Ex.sub (ks := [2, 3, 4, 5, 6]) rfl ?_
      exact Ex.wide (by show ca + 1 + 0 + 0 ≤ ca + 2; omega) (by show sl + 6 + 0 + 0 ≤ sl + 16; omega) (kk f1 M1 Mm1 _ hok c1 m1)
set_option maxHeartbeats 4000000 in
set_option maxRecDepth 100000 in
theorem KL_isPlaced {b L o : Nat} {xs : Nat → Int32} {G : eG} {f : Nat → Int64} {M Mm : eM} {S : gS} (hs : sOk S) (hc : sC M S) (hm : sM Mm S) {i : Nat} (hi : i + 6 ≤ L) (hL : L ≤ 3072) {ca sl : Nat} (hr : ca + 2 ≤ 601024 ∧ sl + 16 ≤ 7293034)
    (kk : ∀ (f' : Nat → Int64) (M' Mm' : eM) (S' : gS), sOk S' → sC M' S' → sM Mm' S' → lE b L xs G 1827 (lLoc b o G (nI i)) [] (wL G o f' M' Mm') (ca + 2) (sl + 16)) : lE b L xs G 813 (lLoc b o G (nI i)) [] (wL G o f M Mm) ca sl := by
  refine x_aload_n 3 dL_law_813 rfl rfl ?_
  refine x_aload_n 4 dL_law_814 rfl rfl ?_
  refine x_iload 0 dL_law_815 rfl ?_
  refine x_iconst (v := 1) dL_law_817 rfl ?_
  refine x_iadd dL_law_818 ?_
  refine xl_sld (i + 1) dL_law_819 (nI_p i 1 rfl) (by omega) hL ?_
  refine x_aload_n 1 dL_law_820 rfl rfl ?_
  obtain ⟨hz, hst⟩ := zc_isPlaced S (xs (i + 1))
  have hz3 : (z_isPlaced S (xs (i + 1))).1 = 0 ∨ (z_isPlaced S (xs (i + 1))).1 = 1 ∨ (z_isPlaced S (xs (i + 1))).1 = 2 := hz.elim Or.inl (fun h => Or.inr (Or.inl h))
  refine x_callT (K := kL_law) (R := room_1) (ca := ca) (sl := sl) (w := wL G o f M Mm) xN0_m lwX_n (b' := (12, 1, 6)) (As := [.ref (G.1 0), .int (xs (i + 1)), .ref o]) (S := []) dL_law_821 mtL_isPlaced lML_165 rfl (by exact ⟨⟨Nat.le_of_ble_eq_true rfl, Nat.le_of_ble_eq_true rfl⟩, ⟨by show ca + 1 ≤ 601024; omega, by show sl + 6 ≤ 7293034; omega⟩⟩) (Nat.le_of_ble_eq_true rfl) (T_isPlaced hs hc o f (xs (i + 1))) (fun v w' h => ?_) rfl
  obtain ⟨f1, M1, rfl, c1, hf, rfl⟩ := h
  refine x_istore (l' := [(5, .int (nI (z_isPlaced S (xs (i + 1))).1)), (4, .int (nI i)), (3, .ref o), (2, .ref (G.1 100)), (1, .ref (G.1 0)), (0, .ref b)]) dL_law_824 (by decide) rfl ?_
  refine x_aload_n 3 dL_law_826 rfl rfl ?_
  refine x_aload_n 5 dL_law_827 rfl rfl ?_
  refine x_iload 1 dL_law_828 rfl ?_
  refine x_iconst (v := 1) dL_law_830 rfl ?_
  refine x_iadd dL_law_831 ?_
  refine xl_sld (i + 1) dL_law_832 (nI_p i 1 rfl) (by omega) hL ?_
  refine xl_callM (K := kL_law) (R := room_1) (ca := ca + 1) (sl := sl + 6) (o := o) (f := f1) (M := M1) (Mm := Mm) xN0_m lwX_n (b' := (3, 0, 0)) (As := [.int (xs (i + 1))]) (S := []) dL_law_833 mX13_isPlaced lML_167 rfl rfl (by exact ⟨⟨Nat.le_of_ble_eq_true rfl, Nat.le_of_ble_eq_true rfl⟩, ⟨by show ca + 1 + 0 ≤ 601024; omega, by show sl + 6 + 0 ≤ 7293034; omega⟩⟩) (Nat.le_of_ble_eq_true rfl) (U_isPlaced hs hm (xs (i + 1)) (fun r M' => sM M' (z_isPlaced S (xs (i + 1))).2.2 ∧ M' 100 0 = nI (z_isPlaced S (xs (i + 1))).1 ∧ ((z_isPlaced S (xs (i + 1))).1 = 0 → r = (z_isPlaced S (xs (i + 1))).2.1)) (fun r M' h1 h2 h3 => ⟨h1, h2, h3⟩)) (fun v Mm1 h => ?_) rfl
  obtain ⟨r, rfl, m1, ht, hrv⟩ := h
  refine x_istore (l' := [(6, .int (eZi r)), (5, .int (nI (z_isPlaced S (xs (i + 1))).1)), (4, .int (nI i)), (3, .ref o), (2, .ref (G.1 100)), (1, .ref (G.1 0)), (0, .ref b)]) dL_law_836 (by decide) rfl ?_
  refine x_aload_n 4 dL_law_838 rfl rfl ?_
  refine xl_callM (K := kL_law) (R := room_1) (ca := ca + 1 + 0) (sl := sl + 6 + 0) (o := o) (f := f1) (M := M1) (Mm := Mm1) xN0_m lwX_n (b' := (1, 0, 0)) (As := []) (S := []) dL_law_839 mX13_thrown lML_97 rfl rfl (by exact ⟨⟨Nat.le_of_ble_eq_true rfl, Nat.le_of_ble_eq_true rfl⟩, ⟨by show ca + 1 + 0 + 0 ≤ 601024; omega, by show sl + 6 + 0 + 0 ≤ 7293034; omega⟩⟩) (Nat.le_of_ble_eq_true rfl) (C_X13_thrown G _ (fun r M' => Mm1 100 0 = r ∧ Mm1 = M') ⟨rfl, rfl⟩) (fun v Mm2 h => ?_) rfl
  obtain ⟨_, rfl, rfl, rfl⟩ := h
  refine x_iload 1 dL_law_842 rfl ?_
  refine x_icmp_eq (t := 849) dL_law_844 (by decide) (fun _ => ?_) (fun q => absurd ht q)
  refine x_iload 1 dL_law_849 rfl ?_
  have hok : sOk (z_isPlaced S (xs (i + 1))).2.2 := zk_isPlaced hs (xs (i + 1))
  refine x_if_ne (t := 873) dL_law_851 (by decide) (fun q => ?_) (fun q => ?_)
  · refine x_goto (t := 1827) dL_law_873 (by decide) ?_
    refine Ex.sub (ks := [2, 3, 4, 5, 6]) rfl ?_
    exact Ex.wide (by show ca + 1 + 0 + 0 ≤ ca + 2; omega) (by show sl + 6 + 0 + 0 ≤ sl + 16; omega) (kk f1 M1 Mm1 _ hok c1 m1)
  · have hz0 := zc0 hz3 q
    have e1 := hf hz0
    have e2 := hrv hz0
    refine x_aload_n 3 dL_law_854 rfl rfl ?_
    refine x_iconst (v := 0) dL_law_855 rfl ?_
    refine x_lald (q0 := 0) (N := 1) (f := f1) dL_law_856 rfl (vp_in_nI (n := 0) (by decide) (by decide)) ?_
    rw [show (0 : Int32).toNatClampNeg = 0 from by decide, e1]
    refine x_iload 0 dL_law_857 rfl ?_
    refine x_zif_eq (t := 866) dL_law_859 (by decide) (fun zz => ?_) (fun zz => ?_)
    · rw [e2] at zz
      refine x_lconst (v := 0) dL_law_866 rfl ?_
      rw [zz]
      refine xl_lcmp dL_law_867 ?_
      refine x_if_eq (t := 873) dL_law_868 (by decide) (fun _ => ?_) (fun q => absurd (by first | exact zInt _ | decide) q)
      refine x_goto (t := 1827) dL_law_873 (by decide) ?_
      refine Ex.sub (ks := [2, 3, 4, 5, 6]) rfl ?_
      exact Ex.wide (by show ca + 1 + 0 + 0 ≤ ca + 2; omega) (by show sl + 6 + 0 + 0 ≤ sl + 16; omega) (kk f1 M1 Mm1 _ hok c1 m1)
    · rw [e2] at zz
      refine x_lconst (v := 1) dL_law_862 rfl ?_
      refine x_goto (t := 867) dL_law_863 (by decide) ?_
      rw [zz]
      refine xl_lcmp dL_law_867 ?_
      refine x_if_eq (t := 873) dL_law_868 (by decide) (fun _ => ?_) (fun q => absurd (by first | exact zInt _ | decide) q)
      refine x_goto (t := 1827) dL_law_873 (by decide) ?_
      refine Ex.sub (ks := [2, 3, 4, 5, 6]) rfl ?_
      exact Ex.wide (by show ca + 1 + 0 + 0 ≤ ca + 2; omega) (by show sl + 6 + 0 + 0 ≤ sl + 16; omega) (kk f1 M1 Mm1 _ hok c1 m1)
set_option maxHeartbeats 4000000 in
set_option maxRecDepth 100000 in
theorem KL_cellOf {b L o : Nat} {xs : Nat → Int32} {G : eG} {f : Nat → Int64} {M Mm : eM} {S : gS} (hs : sOk S) (hc : sC M S) (hm : sM Mm S) {i : Nat} (hi : i + 6 ≤ L) (hL : L ≤ 3072) {ca sl : Nat} (hr : ca + 2 ≤ 601024 ∧ sl + 16 ≤ 7293034)
    (kk : ∀ (f' : Nat → Int64) (M' Mm' : eM) (S' : gS), sOk S' → sC M' S' → sM Mm' S' → lE b L xs G 1827 (lLoc b o G (nI i)) [] (wL G o f' M' Mm') (ca + 2) (sl + 16)) : lE b L xs G 876 (lLoc b o G (nI i)) [] (wL G o f M Mm) ca sl := by
  refine x_aload_n 3 dL_law_876 rfl rfl ?_
  refine x_aload_n 4 dL_law_877 rfl rfl ?_
  refine x_iload 0 dL_law_878 rfl ?_
  refine x_iconst (v := 1) dL_law_880 rfl ?_
  refine x_iadd dL_law_881 ?_
  refine xl_sld (i + 1) dL_law_882 (nI_p i 1 rfl) (by omega) hL ?_
  refine x_aload_n 1 dL_law_883 rfl rfl ?_
  obtain ⟨hz, hst⟩ := zc_cellOf S (xs (i + 1))
  have hz3 : (z_cellOf S (xs (i + 1))).1 = 0 ∨ (z_cellOf S (xs (i + 1))).1 = 1 ∨ (z_cellOf S (xs (i + 1))).1 = 2 := hz
  refine x_callT (K := kL_law) (R := room_1) (ca := ca) (sl := sl) (w := wL G o f M Mm) xN0_m lwX_n (b' := (12, 1, 6)) (As := [.ref (G.1 0), .int (xs (i + 1)), .ref o]) (S := []) dL_law_884 mtL_cellOf lML_168 rfl (by exact ⟨⟨Nat.le_of_ble_eq_true rfl, Nat.le_of_ble_eq_true rfl⟩, ⟨by show ca + 1 ≤ 601024; omega, by show sl + 6 ≤ 7293034; omega⟩⟩) (Nat.le_of_ble_eq_true rfl) (T_cellOf hs hc o f (xs (i + 1))) (fun v w' h => ?_) rfl
  obtain ⟨f1, M1, rfl, c1, hf, rfl⟩ := h
  refine x_istore (l' := [(5, .int (nI (z_cellOf S (xs (i + 1))).1)), (4, .int (nI i)), (3, .ref o), (2, .ref (G.1 100)), (1, .ref (G.1 0)), (0, .ref b)]) dL_law_887 (by decide) rfl ?_
  refine x_aload_n 3 dL_law_889 rfl rfl ?_
  refine x_aload_n 5 dL_law_890 rfl rfl ?_
  refine x_iload 1 dL_law_891 rfl ?_
  refine x_iconst (v := 1) dL_law_893 rfl ?_
  refine x_iadd dL_law_894 ?_
  refine xl_sld (i + 1) dL_law_895 (nI_p i 1 rfl) (by omega) hL ?_
  refine xl_callM (K := kL_law) (R := room_1) (ca := ca + 1) (sl := sl + 6) (o := o) (f := f1) (M := M1) (Mm := Mm) xN0_m lwX_n (b' := (4, 0, 0)) (As := [.int (xs (i + 1))]) (S := []) dL_law_896 mX13_cellOf lML_170 rfl rfl (by exact ⟨⟨Nat.le_of_ble_eq_true rfl, Nat.le_of_ble_eq_true rfl⟩, ⟨by show ca + 1 + 0 ≤ 601024; omega, by show sl + 6 + 0 ≤ 7293034; omega⟩⟩) (Nat.le_of_ble_eq_true rfl) (U_cellOf hs hm (xs (i + 1)) (fun r M' => sM M' (z_cellOf S (xs (i + 1))).2.2 ∧ M' 100 0 = nI (z_cellOf S (xs (i + 1))).1 ∧ ((z_cellOf S (xs (i + 1))).1 = 0 → r = (z_cellOf S (xs (i + 1))).2.1)) (fun r M' h1 h2 h3 => ⟨h1, h2, h3⟩)) (fun v Mm1 h => ?_) rfl
  obtain ⟨r, rfl, m1, ht, hrv⟩ := h
  refine x_istore (l' := [(6, .int r), (5, .int (nI (z_cellOf S (xs (i + 1))).1)), (4, .int (nI i)), (3, .ref o), (2, .ref (G.1 100)), (1, .ref (G.1 0)), (0, .ref b)]) dL_law_899 (by decide) rfl ?_
  refine x_aload_n 4 dL_law_901 rfl rfl ?_
  refine xl_callM (K := kL_law) (R := room_1) (ca := ca + 1 + 0) (sl := sl + 6 + 0) (o := o) (f := f1) (M := M1) (Mm := Mm1) xN0_m lwX_n (b' := (1, 0, 0)) (As := []) (S := []) dL_law_902 mX13_thrown lML_97 rfl rfl (by exact ⟨⟨Nat.le_of_ble_eq_true rfl, Nat.le_of_ble_eq_true rfl⟩, ⟨by show ca + 1 + 0 + 0 ≤ 601024; omega, by show sl + 6 + 0 + 0 ≤ 7293034; omega⟩⟩) (Nat.le_of_ble_eq_true rfl) (C_X13_thrown G _ (fun r M' => Mm1 100 0 = r ∧ Mm1 = M') ⟨rfl, rfl⟩) (fun v Mm2 h => ?_) rfl
  obtain ⟨_, rfl, rfl, rfl⟩ := h
  refine x_iload 1 dL_law_905 rfl ?_
  refine x_icmp_eq (t := 912) dL_law_907 (by decide) (fun _ => ?_) (fun q => absurd ht q)
  refine x_iload 1 dL_law_912 rfl ?_
  have hok : sOk (z_cellOf S (xs (i + 1))).2.2 := zk_cellOf hs (xs (i + 1))
  refine x_if_ne (t := 929) dL_law_914 (by decide) (fun q => ?_) (fun q => ?_)
  · refine x_goto (t := 1827) dL_law_929 (by decide) ?_
    refine Ex.sub (ks := [2, 3, 4, 5, 6]) rfl ?_
    exact Ex.wide (by show ca + 1 + 0 + 0 ≤ ca + 2; omega) (by show sl + 6 + 0 + 0 ≤ sl + 16; omega) (kk f1 M1 Mm1 _ hok c1 m1)
  · have hz0 := zc0 hz3 q
    have e1 := hf hz0
    have e2 := hrv hz0
    refine x_aload_n 3 dL_law_917 rfl rfl ?_
    refine x_iconst (v := 0) dL_law_918 rfl ?_
    refine x_lald (q0 := 0) (N := 1) (f := f1) dL_law_919 rfl (vp_in_nI (n := 0) (by decide) (by decide)) ?_
    rw [show (0 : Int32).toNatClampNeg = 0 from by decide, e1]
    refine x_iload 0 dL_law_920 rfl ?_
    refine x_i2l dL_law_922 ?_
    rw [e2]
    refine xl_lcmp dL_law_923 ?_
    rw [zInt]
    refine x_if_eq (t := 929) dL_law_924 (by decide) (fun _ => ?_) (fun q => absurd rfl q)
    refine x_goto (t := 1827) dL_law_929 (by decide) ?_
    refine Ex.sub (ks := [2, 3, 4, 5, 6]) rfl ?_
    exact Ex.wide (by show ca + 1 + 0 + 0 ≤ ca + 2; omega) (by show sl + 6 + 0 + 0 ≤ sl + 16; omega) (kk f1 M1 Mm1 _ hok c1 m1)
set_option maxHeartbeats 4000000 in
set_option maxRecDepth 100000 in
theorem KL_turnOf {b L o : Nat} {xs : Nat → Int32} {G : eG} {f : Nat → Int64} {M Mm : eM} {S : gS} (hs : sOk S) (hc : sC M S) (hm : sM Mm S) {i : Nat} (hi : i + 6 ≤ L) (hL : L ≤ 3072) {ca sl : Nat} (hr : ca + 2 ≤ 601024 ∧ sl + 16 ≤ 7293034)
    (kk : ∀ (f' : Nat → Int64) (M' Mm' : eM) (S' : gS), sOk S' → sC M' S' → sM Mm' S' → lE b L xs G 1827 (lLoc b o G (nI i)) [] (wL G o f' M' Mm') (ca + 2) (sl + 16)) : lE b L xs G 932 (lLoc b o G (nI i)) [] (wL G o f M Mm) ca sl := by
  refine x_aload_n 3 dL_law_932 rfl rfl ?_
  refine x_aload_n 4 dL_law_933 rfl rfl ?_
  refine x_iload 0 dL_law_934 rfl ?_
  refine x_iconst (v := 1) dL_law_936 rfl ?_
  refine x_iadd dL_law_937 ?_
  refine xl_sld (i + 1) dL_law_938 (nI_p i 1 rfl) (by omega) hL ?_
  refine x_aload_n 1 dL_law_939 rfl rfl ?_
  obtain ⟨hz, hst⟩ := zc_turnOf S (xs (i + 1))
  have hz3 : (z_turnOf S (xs (i + 1))).1 = 0 ∨ (z_turnOf S (xs (i + 1))).1 = 1 ∨ (z_turnOf S (xs (i + 1))).1 = 2 := hz
  refine x_callT (K := kL_law) (R := room_1) (ca := ca) (sl := sl) (w := wL G o f M Mm) xN0_m lwX_n (b' := (12, 1, 6)) (As := [.ref (G.1 0), .int (xs (i + 1)), .ref o]) (S := []) dL_law_940 mtL_turnOf lML_171 rfl (by exact ⟨⟨Nat.le_of_ble_eq_true rfl, Nat.le_of_ble_eq_true rfl⟩, ⟨by show ca + 1 ≤ 601024; omega, by show sl + 6 ≤ 7293034; omega⟩⟩) (Nat.le_of_ble_eq_true rfl) (T_turnOf hs hc o f (xs (i + 1))) (fun v w' h => ?_) rfl
  obtain ⟨f1, M1, rfl, c1, hf, rfl⟩ := h
  refine x_istore (l' := [(5, .int (nI (z_turnOf S (xs (i + 1))).1)), (4, .int (nI i)), (3, .ref o), (2, .ref (G.1 100)), (1, .ref (G.1 0)), (0, .ref b)]) dL_law_943 (by decide) rfl ?_
  refine x_aload_n 3 dL_law_945 rfl rfl ?_
  refine x_aload_n 5 dL_law_946 rfl rfl ?_
  refine x_iload 1 dL_law_947 rfl ?_
  refine x_iconst (v := 1) dL_law_949 rfl ?_
  refine x_iadd dL_law_950 ?_
  refine xl_sld (i + 1) dL_law_951 (nI_p i 1 rfl) (by omega) hL ?_
  refine xl_callM (K := kL_law) (R := room_1) (ca := ca + 1) (sl := sl + 6) (o := o) (f := f1) (M := M1) (Mm := Mm) xN0_m lwX_n (b' := (4, 0, 0)) (As := [.int (xs (i + 1))]) (S := []) dL_law_952 mX13_turnOf lML_173 rfl rfl (by exact ⟨⟨Nat.le_of_ble_eq_true rfl, Nat.le_of_ble_eq_true rfl⟩, ⟨by show ca + 1 + 0 ≤ 601024; omega, by show sl + 6 + 0 ≤ 7293034; omega⟩⟩) (Nat.le_of_ble_eq_true rfl) (U_turnOf hs hm (xs (i + 1)) (fun r M' => sM M' (z_turnOf S (xs (i + 1))).2.2 ∧ M' 100 0 = nI (z_turnOf S (xs (i + 1))).1 ∧ ((z_turnOf S (xs (i + 1))).1 = 0 → r = (z_turnOf S (xs (i + 1))).2.1)) (fun r M' h1 h2 h3 => ⟨h1, h2, h3⟩)) (fun v Mm1 h => ?_) rfl
  obtain ⟨r, rfl, m1, ht, hrv⟩ := h
  refine x_istore (l' := [(6, .int r), (5, .int (nI (z_turnOf S (xs (i + 1))).1)), (4, .int (nI i)), (3, .ref o), (2, .ref (G.1 100)), (1, .ref (G.1 0)), (0, .ref b)]) dL_law_955 (by decide) rfl ?_
  refine x_aload_n 4 dL_law_957 rfl rfl ?_
  refine xl_callM (K := kL_law) (R := room_1) (ca := ca + 1 + 0) (sl := sl + 6 + 0) (o := o) (f := f1) (M := M1) (Mm := Mm1) xN0_m lwX_n (b' := (1, 0, 0)) (As := []) (S := []) dL_law_958 mX13_thrown lML_97 rfl rfl (by exact ⟨⟨Nat.le_of_ble_eq_true rfl, Nat.le_of_ble_eq_true rfl⟩, ⟨by show ca + 1 + 0 + 0 ≤ 601024; omega, by show sl + 6 + 0 + 0 ≤ 7293034; omega⟩⟩) (Nat.le_of_ble_eq_true rfl) (C_X13_thrown G _ (fun r M' => Mm1 100 0 = r ∧ Mm1 = M') ⟨rfl, rfl⟩) (fun v Mm2 h => ?_) rfl
  obtain ⟨_, rfl, rfl, rfl⟩ := h
  refine x_iload 1 dL_law_961 rfl ?_
  refine x_icmp_eq (t := 968) dL_law_963 (by decide) (fun _ => ?_) (fun q => absurd ht q)
  refine x_iload 1 dL_law_968 rfl ?_
  have hok : sOk (z_turnOf S (xs (i + 1))).2.2 := zk_turnOf hs (xs (i + 1))
  refine x_if_ne (t := 985) dL_law_970 (by decide) (fun q => ?_) (fun q => ?_)
  · refine x_goto (t := 1827) dL_law_985 (by decide) ?_
    refine Ex.sub (ks := [2, 3, 4, 5, 6]) rfl ?_
    exact Ex.wide (by show ca + 1 + 0 + 0 ≤ ca + 2; omega) (by show sl + 6 + 0 + 0 ≤ sl + 16; omega) (kk f1 M1 Mm1 _ hok c1 m1)
  · have hz0 := zc0 hz3 q
    have e1 := hf hz0
    have e2 := hrv hz0
    refine x_aload_n 3 dL_law_973 rfl rfl ?_
    refine x_iconst (v := 0) dL_law_974 rfl ?_
    refine x_lald (q0 := 0) (N := 1) (f := f1) dL_law_975 rfl (vp_in_nI (n := 0) (by decide) (by decide)) ?_
    rw [show (0 : Int32).toNatClampNeg = 0 from by decide, e1]
    refine x_iload 0 dL_law_976 rfl ?_
    refine x_i2l dL_law_978 ?_
    rw [e2]
    refine xl_lcmp dL_law_979 ?_
    rw [zInt]
    refine x_if_eq (t := 985) dL_law_980 (by decide) (fun _ => ?_) (fun q => absurd rfl q)
    refine x_goto (t := 1827) dL_law_985 (by decide) ?_
    refine Ex.sub (ks := [2, 3, 4, 5, 6]) rfl ?_
    exact Ex.wide (by show ca + 1 + 0 + 0 ≤ ca + 2; omega) (by show sl + 6 + 0 + 0 ≤ sl + 16; omega) (kk f1 M1 Mm1 _ hok c1 m1)
set_option maxHeartbeats 4000000 in
set_option maxRecDepth 100000 in
theorem KL_fits {b L o : Nat} {xs : Nat → Int32} {G : eG} {f : Nat → Int64} {M Mm : eM} {S : gS} (hs : sOk S) (hc : sC M S) (hm : sM Mm S) {i : Nat} (hi : i + 6 ≤ L) (hL : L ≤ 3072) {ca sl : Nat} (hr : ca + 2 ≤ 601024 ∧ sl + 16 ≤ 7293034)
    (kk : ∀ (f' : Nat → Int64) (M' Mm' : eM) (S' : gS), sOk S' → sC M' S' → sM Mm' S' → lE b L xs G 1827 (lLoc b o G (nI i)) [] (wL G o f' M' Mm') (ca + 2) (sl + 16)) : lE b L xs G 988 (lLoc b o G (nI i)) [] (wL G o f M Mm) ca sl := by
  refine x_aload_n 3 dL_law_988 rfl rfl ?_
  refine x_aload_n 4 dL_law_989 rfl rfl ?_
  refine x_iload 0 dL_law_990 rfl ?_
  refine x_iconst (v := 1) dL_law_992 rfl ?_
  refine x_iadd dL_law_993 ?_
  refine xl_sld (i + 1) dL_law_994 (nI_p i 1 rfl) (by omega) hL ?_
  refine x_aload_n 4 dL_law_995 rfl rfl ?_
  refine x_iload 0 dL_law_996 rfl ?_
  refine x_iconst (v := 2) dL_law_998 rfl ?_
  refine x_iadd dL_law_999 ?_
  refine xl_sld (i + 2) dL_law_1000 (nI_p i 2 rfl) (by omega) hL ?_
  refine x_aload_n 4 dL_law_1001 rfl rfl ?_
  refine x_iload 0 dL_law_1002 rfl ?_
  refine x_iconst (v := 3) dL_law_1004 rfl ?_
  refine x_iadd dL_law_1005 ?_
  refine xl_sld (i + 3) dL_law_1006 (nI_p i 3 rfl) (by omega) hL ?_
  refine x_aload_n 1 dL_law_1007 rfl rfl ?_
  obtain ⟨hz, hst⟩ := zc_fits S (xs (i + 1)) (xs (i + 2)) (xs (i + 3))
  have hz3 : (z_fits S (xs (i + 1)) (xs (i + 2)) (xs (i + 3))).1 = 0 ∨ (z_fits S (xs (i + 1)) (xs (i + 2)) (xs (i + 3))).1 = 1 ∨ (z_fits S (xs (i + 1)) (xs (i + 2)) (xs (i + 3))).1 = 2 := hz.elim Or.inl (fun h => Or.inr (Or.inl h))
  refine x_callT (K := kL_law) (R := room_1) (ca := ca) (sl := sl) (w := wL G o f M Mm) xN0_m lwX_n (b' := (12, 1, 6)) (As := [.ref (G.1 0), .int (xs (i + 1)), .int (xs (i + 2)), .int (xs (i + 3)), .ref o]) (S := []) dL_law_1008 mtL_fits lML_174 rfl (by exact ⟨⟨Nat.le_of_ble_eq_true rfl, Nat.le_of_ble_eq_true rfl⟩, ⟨by show ca + 1 ≤ 601024; omega, by show sl + 6 ≤ 7293034; omega⟩⟩) (Nat.le_of_ble_eq_true rfl) (T_fits hs hc o f (xs (i + 1)) (xs (i + 2)) (xs (i + 3))) (fun v w' h => ?_) rfl
  obtain ⟨f1, M1, rfl, c1, hf, rfl⟩ := h
  refine x_istore (l' := [(5, .int (nI (z_fits S (xs (i + 1)) (xs (i + 2)) (xs (i + 3))).1)), (4, .int (nI i)), (3, .ref o), (2, .ref (G.1 100)), (1, .ref (G.1 0)), (0, .ref b)]) dL_law_1011 (by decide) rfl ?_
  refine x_aload_n 3 dL_law_1013 rfl rfl ?_
  refine x_aload_n 5 dL_law_1014 rfl rfl ?_
  refine x_iload 1 dL_law_1015 rfl ?_
  refine x_iconst (v := 1) dL_law_1017 rfl ?_
  refine x_iadd dL_law_1018 ?_
  refine xl_sld (i + 1) dL_law_1019 (nI_p i 1 rfl) (by omega) hL ?_
  refine x_aload_n 5 dL_law_1020 rfl rfl ?_
  refine x_iload 1 dL_law_1021 rfl ?_
  refine x_iconst (v := 2) dL_law_1023 rfl ?_
  refine x_iadd dL_law_1024 ?_
  refine xl_sld (i + 2) dL_law_1025 (nI_p i 2 rfl) (by omega) hL ?_
  refine x_aload_n 5 dL_law_1026 rfl rfl ?_
  refine x_iload 1 dL_law_1027 rfl ?_
  refine x_iconst (v := 3) dL_law_1029 rfl ?_
  refine x_iadd dL_law_1030 ?_
  refine xl_sld (i + 3) dL_law_1031 (nI_p i 3 rfl) (by omega) hL ?_
  refine xl_callM (K := kL_law) (R := room_1) (ca := ca + 1) (sl := sl + 6) (o := o) (f := f1) (M := M1) (Mm := Mm) xN0_m lwX_n (b' := (6, 0, 0)) (As := [.int (xs (i + 1)), .int (xs (i + 2)), .int (xs (i + 3))]) (S := []) dL_law_1032 mX13_fits_ lML_177 rfl rfl (by exact ⟨⟨Nat.le_of_ble_eq_true rfl, Nat.le_of_ble_eq_true rfl⟩, ⟨by show ca + 1 + 0 ≤ 601024; omega, by show sl + 6 + 0 ≤ 7293034; omega⟩⟩) (Nat.le_of_ble_eq_true rfl) (U_fits hs hm (xs (i + 1)) (xs (i + 2)) (xs (i + 3)) (fun r M' => sM M' (z_fits S (xs (i + 1)) (xs (i + 2)) (xs (i + 3))).2.2 ∧ M' 100 0 = nI (z_fits S (xs (i + 1)) (xs (i + 2)) (xs (i + 3))).1 ∧ ((z_fits S (xs (i + 1)) (xs (i + 2)) (xs (i + 3))).1 = 0 → r = (z_fits S (xs (i + 1)) (xs (i + 2)) (xs (i + 3))).2.1)) (fun r M' h1 h2 h3 => ⟨h1, h2, h3⟩)) (fun v Mm1 h => ?_) rfl
  obtain ⟨r, rfl, m1, ht, hrv⟩ := h
  refine x_istore (l' := [(6, .int (eZi r)), (5, .int (nI (z_fits S (xs (i + 1)) (xs (i + 2)) (xs (i + 3))).1)), (4, .int (nI i)), (3, .ref o), (2, .ref (G.1 100)), (1, .ref (G.1 0)), (0, .ref b)]) dL_law_1035 (by decide) rfl ?_
  refine x_aload_n 4 dL_law_1037 rfl rfl ?_
  refine xl_callM (K := kL_law) (R := room_1) (ca := ca + 1 + 0) (sl := sl + 6 + 0) (o := o) (f := f1) (M := M1) (Mm := Mm1) xN0_m lwX_n (b' := (1, 0, 0)) (As := []) (S := []) dL_law_1038 mX13_thrown lML_97 rfl rfl (by exact ⟨⟨Nat.le_of_ble_eq_true rfl, Nat.le_of_ble_eq_true rfl⟩, ⟨by show ca + 1 + 0 + 0 ≤ 601024; omega, by show sl + 6 + 0 + 0 ≤ 7293034; omega⟩⟩) (Nat.le_of_ble_eq_true rfl) (C_X13_thrown G _ (fun r M' => Mm1 100 0 = r ∧ Mm1 = M') ⟨rfl, rfl⟩) (fun v Mm2 h => ?_) rfl
  obtain ⟨_, rfl, rfl, rfl⟩ := h
  refine x_iload 1 dL_law_1041 rfl ?_
  refine x_icmp_eq (t := 1048) dL_law_1043 (by decide) (fun _ => ?_) (fun q => absurd ht q)
  refine x_iload 1 dL_law_1048 rfl ?_
  have hok : sOk (z_fits S (xs (i + 1)) (xs (i + 2)) (xs (i + 3))).2.2 := zk_fits hs (xs (i + 1)) (xs (i + 2)) (xs (i + 3))
  refine x_if_ne (t := 1072) dL_law_1050 (by decide) (fun q => ?_) (fun q => ?_)
  · refine x_goto (t := 1827) dL_law_1072 (by decide) ?_
    refine Ex.sub (ks := [2, 3, 4, 5, 6]) rfl ?_
    exact Ex.wide (by show ca + 1 + 0 + 0 ≤ ca + 2; omega) (by show sl + 6 + 0 + 0 ≤ sl + 16; omega) (kk f1 M1 Mm1 _ hok c1 m1)
  · have hz0 := zc0 hz3 q
    have e1 := hf hz0
    have e2 := hrv hz0
    refine x_aload_n 3 dL_law_1053 rfl rfl ?_
    refine x_iconst (v := 0) dL_law_1054 rfl ?_
    refine x_lald (q0 := 0) (N := 1) (f := f1) dL_law_1055 rfl (vp_in_nI (n := 0) (by decide) (by decide)) ?_
    rw [show (0 : Int32).toNatClampNeg = 0 from by decide, e1]
    refine x_iload 0 dL_law_1056 rfl ?_
    refine x_zif_eq (t := 1065) dL_law_1058 (by decide) (fun zz => ?_) (fun zz => ?_)
    · rw [e2] at zz
      refine x_lconst (v := 0) dL_law_1065 rfl ?_
      rw [zz]
      refine xl_lcmp dL_law_1066 ?_
      refine x_if_eq (t := 1072) dL_law_1067 (by decide) (fun _ => ?_) (fun q => absurd (by first | exact zInt _ | decide) q)
      refine x_goto (t := 1827) dL_law_1072 (by decide) ?_
      refine Ex.sub (ks := [2, 3, 4, 5, 6]) rfl ?_
      exact Ex.wide (by show ca + 1 + 0 + 0 ≤ ca + 2; omega) (by show sl + 6 + 0 + 0 ≤ sl + 16; omega) (kk f1 M1 Mm1 _ hok c1 m1)
    · rw [e2] at zz
      refine x_lconst (v := 1) dL_law_1061 rfl ?_
      refine x_goto (t := 1066) dL_law_1062 (by decide) ?_
      rw [zz]
      refine xl_lcmp dL_law_1066 ?_
      refine x_if_eq (t := 1072) dL_law_1067 (by decide) (fun _ => ?_) (fun q => absurd (by first | exact zInt _ | decide) q)
      refine x_goto (t := 1827) dL_law_1072 (by decide) ?_
      refine Ex.sub (ks := [2, 3, 4, 5, 6]) rfl ?_
      exact Ex.wide (by show ca + 1 + 0 + 0 ≤ ca + 2; omega) (by show sl + 6 + 0 + 0 ≤ sl + 16; omega) (kk f1 M1 Mm1 _ hok c1 m1)
set_option maxHeartbeats 4000000 in
set_option maxRecDepth 100000 in
theorem KL_edgeAgainst {b L o : Nat} {xs : Nat → Int32} {G : eG} {f : Nat → Int64} {M Mm : eM} {S : gS} (hs : sOk S) (hc : sC M S) (hm : sM Mm S) {i : Nat} (hi : i + 6 ≤ L) (hL : L ≤ 3072) {ca sl : Nat} (hr : ca + 2 ≤ 601024 ∧ sl + 16 ≤ 7293034)
    (kk : ∀ (f' : Nat → Int64) (M' Mm' : eM) (S' : gS), sOk S' → sC M' S' → sM Mm' S' → lE b L xs G 1827 (lLoc b o G (nI i)) [] (wL G o f' M' Mm') (ca + 2) (sl + 16)) : lE b L xs G 1075 (lLoc b o G (nI i)) [] (wL G o f M Mm) ca sl := by
  refine x_aload_n 3 dL_law_1075 rfl rfl ?_
  refine x_aload_n 4 dL_law_1076 rfl rfl ?_
  refine x_iload 0 dL_law_1077 rfl ?_
  refine x_iconst (v := 1) dL_law_1079 rfl ?_
  refine x_iadd dL_law_1080 ?_
  refine xl_sld (i + 1) dL_law_1081 (nI_p i 1 rfl) (by omega) hL ?_
  refine x_aload_n 4 dL_law_1082 rfl rfl ?_
  refine x_iload 0 dL_law_1083 rfl ?_
  refine x_iconst (v := 2) dL_law_1085 rfl ?_
  refine x_iadd dL_law_1086 ?_
  refine xl_sld (i + 2) dL_law_1087 (nI_p i 2 rfl) (by omega) hL ?_
  refine x_aload_n 4 dL_law_1088 rfl rfl ?_
  refine x_iload 0 dL_law_1089 rfl ?_
  refine x_iconst (v := 3) dL_law_1091 rfl ?_
  refine x_iadd dL_law_1092 ?_
  refine xl_sld (i + 3) dL_law_1093 (nI_p i 3 rfl) (by omega) hL ?_
  refine x_aload_n 1 dL_law_1094 rfl rfl ?_
  obtain ⟨hz, hst⟩ := zc_edgeAgainst S (xs (i + 1)) (xs (i + 2)) (xs (i + 3))
  have hz3 : (z_edgeAgainst S (xs (i + 1)) (xs (i + 2)) (xs (i + 3))).1 = 0 ∨ (z_edgeAgainst S (xs (i + 1)) (xs (i + 2)) (xs (i + 3))).1 = 1 ∨ (z_edgeAgainst S (xs (i + 1)) (xs (i + 2)) (xs (i + 3))).1 = 2 := hz.elim Or.inl (fun h => Or.inr (Or.inl h))
  refine x_callT (K := kL_law) (R := room_1) (ca := ca) (sl := sl) (w := wL G o f M Mm) xN0_m lwX_n (b' := (12, 1, 6)) (As := [.ref (G.1 0), .int (xs (i + 1)), .int (xs (i + 2)), .int (xs (i + 3)), .ref o]) (S := []) dL_law_1095 mtL_edgeAgainst lML_178 rfl (by exact ⟨⟨Nat.le_of_ble_eq_true rfl, Nat.le_of_ble_eq_true rfl⟩, ⟨by show ca + 1 ≤ 601024; omega, by show sl + 6 ≤ 7293034; omega⟩⟩) (Nat.le_of_ble_eq_true rfl) (T_edgeAgainst hs hc o f (xs (i + 1)) (xs (i + 2)) (xs (i + 3))) (fun v w' h => ?_) rfl
  obtain ⟨f1, M1, rfl, c1, hf, rfl⟩ := h
  refine x_istore (l' := [(5, .int (nI (z_edgeAgainst S (xs (i + 1)) (xs (i + 2)) (xs (i + 3))).1)), (4, .int (nI i)), (3, .ref o), (2, .ref (G.1 100)), (1, .ref (G.1 0)), (0, .ref b)]) dL_law_1098 (by decide) rfl ?_
  refine x_aload_n 3 dL_law_1100 rfl rfl ?_
  refine x_aload_n 5 dL_law_1101 rfl rfl ?_
  refine x_iload 1 dL_law_1102 rfl ?_
  refine x_iconst (v := 1) dL_law_1104 rfl ?_
  refine x_iadd dL_law_1105 ?_
  refine xl_sld (i + 1) dL_law_1106 (nI_p i 1 rfl) (by omega) hL ?_
  refine x_aload_n 5 dL_law_1107 rfl rfl ?_
  refine x_iload 1 dL_law_1108 rfl ?_
  refine x_iconst (v := 2) dL_law_1110 rfl ?_
  refine x_iadd dL_law_1111 ?_
  refine xl_sld (i + 2) dL_law_1112 (nI_p i 2 rfl) (by omega) hL ?_
  refine x_aload_n 5 dL_law_1113 rfl rfl ?_
  refine x_iload 1 dL_law_1114 rfl ?_
  refine x_iconst (v := 3) dL_law_1116 rfl ?_
  refine x_iadd dL_law_1117 ?_
  refine xl_sld (i + 3) dL_law_1118 (nI_p i 3 rfl) (by omega) hL ?_
  refine xl_callM (K := kL_law) (R := room_1) (ca := ca + 1) (sl := sl + 6) (o := o) (f := f1) (M := M1) (Mm := Mm) xN0_m lwX_n (b' := (5, 0, 0)) (As := [.int (xs (i + 1)), .int (xs (i + 2)), .int (xs (i + 3))]) (S := []) dL_law_1119 mX13_edgeAgainst lML_180 rfl rfl (by exact ⟨⟨Nat.le_of_ble_eq_true rfl, Nat.le_of_ble_eq_true rfl⟩, ⟨by show ca + 1 + 0 ≤ 601024; omega, by show sl + 6 + 0 ≤ 7293034; omega⟩⟩) (Nat.le_of_ble_eq_true rfl) (U_edgeAgainst hs hm (xs (i + 1)) (xs (i + 2)) (xs (i + 3)) (fun r M' => sM M' (z_edgeAgainst S (xs (i + 1)) (xs (i + 2)) (xs (i + 3))).2.2 ∧ M' 100 0 = nI (z_edgeAgainst S (xs (i + 1)) (xs (i + 2)) (xs (i + 3))).1 ∧ ((z_edgeAgainst S (xs (i + 1)) (xs (i + 2)) (xs (i + 3))).1 = 0 → r = (z_edgeAgainst S (xs (i + 1)) (xs (i + 2)) (xs (i + 3))).2.1)) (fun r M' h1 h2 h3 => ⟨h1, h2, h3⟩)) (fun v Mm1 h => ?_) rfl
  obtain ⟨r, rfl, m1, ht, hrv⟩ := h
  refine x_istore (l' := [(6, .int r), (5, .int (nI (z_edgeAgainst S (xs (i + 1)) (xs (i + 2)) (xs (i + 3))).1)), (4, .int (nI i)), (3, .ref o), (2, .ref (G.1 100)), (1, .ref (G.1 0)), (0, .ref b)]) dL_law_1122 (by decide) rfl ?_
  refine x_aload_n 4 dL_law_1124 rfl rfl ?_
  refine xl_callM (K := kL_law) (R := room_1) (ca := ca + 1 + 0) (sl := sl + 6 + 0) (o := o) (f := f1) (M := M1) (Mm := Mm1) xN0_m lwX_n (b' := (1, 0, 0)) (As := []) (S := []) dL_law_1125 mX13_thrown lML_97 rfl rfl (by exact ⟨⟨Nat.le_of_ble_eq_true rfl, Nat.le_of_ble_eq_true rfl⟩, ⟨by show ca + 1 + 0 + 0 ≤ 601024; omega, by show sl + 6 + 0 + 0 ≤ 7293034; omega⟩⟩) (Nat.le_of_ble_eq_true rfl) (C_X13_thrown G _ (fun r M' => Mm1 100 0 = r ∧ Mm1 = M') ⟨rfl, rfl⟩) (fun v Mm2 h => ?_) rfl
  obtain ⟨_, rfl, rfl, rfl⟩ := h
  refine x_iload 1 dL_law_1128 rfl ?_
  refine x_icmp_eq (t := 1135) dL_law_1130 (by decide) (fun _ => ?_) (fun q => absurd ht q)
  refine x_iload 1 dL_law_1135 rfl ?_
  have hok : sOk (z_edgeAgainst S (xs (i + 1)) (xs (i + 2)) (xs (i + 3))).2.2 := zk_edgeAgainst hs (xs (i + 1)) (xs (i + 2)) (xs (i + 3))
  refine x_if_ne (t := 1152) dL_law_1137 (by decide) (fun q => ?_) (fun q => ?_)
  · refine x_goto (t := 1827) dL_law_1152 (by decide) ?_
    refine Ex.sub (ks := [2, 3, 4, 5, 6]) rfl ?_
    exact Ex.wide (by show ca + 1 + 0 + 0 ≤ ca + 2; omega) (by show sl + 6 + 0 + 0 ≤ sl + 16; omega) (kk f1 M1 Mm1 _ hok c1 m1)
  · have hz0 := zc0 hz3 q
    have e1 := hf hz0
    have e2 := hrv hz0
    refine x_aload_n 3 dL_law_1140 rfl rfl ?_
    refine x_iconst (v := 0) dL_law_1141 rfl ?_
    refine x_lald (q0 := 0) (N := 1) (f := f1) dL_law_1142 rfl (vp_in_nI (n := 0) (by decide) (by decide)) ?_
    rw [show (0 : Int32).toNatClampNeg = 0 from by decide, e1]
    refine x_iload 0 dL_law_1143 rfl ?_
    refine x_i2l dL_law_1145 ?_
    rw [e2]
    refine xl_lcmp dL_law_1146 ?_
    rw [zInt]
    refine x_if_eq (t := 1152) dL_law_1147 (by decide) (fun _ => ?_) (fun q => absurd rfl q)
    refine x_goto (t := 1827) dL_law_1152 (by decide) ?_
    refine Ex.sub (ks := [2, 3, 4, 5, 6]) rfl ?_
    exact Ex.wide (by show ca + 1 + 0 + 0 ≤ ca + 2; omega) (by show sl + 6 + 0 + 0 ≤ sl + 16; omega) (kk f1 M1 Mm1 _ hok c1 m1)
set_option maxHeartbeats 4000000 in
set_option maxRecDepth 100000 in
theorem KL_waysOf {b L o : Nat} {xs : Nat → Int32} {G : eG} {f : Nat → Int64} {M Mm : eM} {S : gS} (hs : sOk S) (hc : sC M S) (hm : sM Mm S) {i : Nat} (hi : i + 6 ≤ L) (hL : L ≤ 3072) {ca sl : Nat} (hr : ca + 2 ≤ 601024 ∧ sl + 16 ≤ 7293034)
    (kk : ∀ (f' : Nat → Int64) (M' Mm' : eM) (S' : gS), sOk S' → sC M' S' → sM Mm' S' → lE b L xs G 1827 (lLoc b o G (nI i)) [] (wL G o f' M' Mm') (ca + 2) (sl + 16)) : lE b L xs G 1155 (lLoc b o G (nI i)) [] (wL G o f M Mm) ca sl := by
  refine x_aload_n 3 dL_law_1155 rfl rfl ?_
  refine x_aload_n 4 dL_law_1156 rfl rfl ?_
  refine x_iload 0 dL_law_1157 rfl ?_
  refine x_iconst (v := 1) dL_law_1159 rfl ?_
  refine x_iadd dL_law_1160 ?_
  refine xl_sld (i + 1) dL_law_1161 (nI_p i 1 rfl) (by omega) hL ?_
  refine x_aload_n 1 dL_law_1162 rfl rfl ?_
  obtain ⟨hz, hst⟩ := zc_waysOf S (xs (i + 1))
  have hz3 : (z_waysOf S (xs (i + 1))).1 = 0 ∨ (z_waysOf S (xs (i + 1))).1 = 1 ∨ (z_waysOf S (xs (i + 1))).1 = 2 := hz.elim Or.inl (fun h => Or.inr (Or.inl h))
  refine x_callT (K := kL_law) (R := room_1) (ca := ca) (sl := sl) (w := wL G o f M Mm) xN0_m lwX_n (b' := (12, 1, 6)) (As := [.ref (G.1 0), .int (xs (i + 1)), .ref o]) (S := []) dL_law_1163 mtL_waysOf lML_181 rfl (by exact ⟨⟨Nat.le_of_ble_eq_true rfl, Nat.le_of_ble_eq_true rfl⟩, ⟨by show ca + 1 ≤ 601024; omega, by show sl + 6 ≤ 7293034; omega⟩⟩) (Nat.le_of_ble_eq_true rfl) (T_waysOf hs hc o f (xs (i + 1))) (fun v w' h => ?_) rfl
  obtain ⟨f1, M1, rfl, c1, hf, rfl⟩ := h
  refine x_istore (l' := [(5, .int (nI (z_waysOf S (xs (i + 1))).1)), (4, .int (nI i)), (3, .ref o), (2, .ref (G.1 100)), (1, .ref (G.1 0)), (0, .ref b)]) dL_law_1166 (by decide) rfl ?_
  refine x_aload_n 3 dL_law_1168 rfl rfl ?_
  refine x_aload_n 5 dL_law_1169 rfl rfl ?_
  refine x_iload 1 dL_law_1170 rfl ?_
  refine x_iconst (v := 1) dL_law_1172 rfl ?_
  refine x_iadd dL_law_1173 ?_
  refine xl_sld (i + 1) dL_law_1174 (nI_p i 1 rfl) (by omega) hL ?_
  refine xl_callM (K := kL_law) (R := room_1) (ca := ca + 1) (sl := sl + 6) (o := o) (f := f1) (M := M1) (Mm := Mm) xN0_m lwX_n (b' := (7, 0, 0)) (As := [.int (xs (i + 1))]) (S := []) dL_law_1175 mX13_waysOf lML_183 rfl rfl (by exact ⟨⟨Nat.le_of_ble_eq_true rfl, Nat.le_of_ble_eq_true rfl⟩, ⟨by show ca + 1 + 0 ≤ 601024; omega, by show sl + 6 + 0 ≤ 7293034; omega⟩⟩) (Nat.le_of_ble_eq_true rfl) (U_waysOf hs hm (xs (i + 1)) (fun r M' => sM M' (z_waysOf S (xs (i + 1))).2.2 ∧ M' 100 0 = nI (z_waysOf S (xs (i + 1))).1 ∧ ((z_waysOf S (xs (i + 1))).1 = 0 → r = (z_waysOf S (xs (i + 1))).2.1)) (fun r M' h1 h2 h3 => ⟨h1, h2, h3⟩)) (fun v Mm1 h => ?_) rfl
  obtain ⟨r, rfl, m1, ht, hrv⟩ := h
  refine x_istore (l' := [(6, .int r), (5, .int (nI (z_waysOf S (xs (i + 1))).1)), (4, .int (nI i)), (3, .ref o), (2, .ref (G.1 100)), (1, .ref (G.1 0)), (0, .ref b)]) dL_law_1178 (by decide) rfl ?_
  refine x_aload_n 4 dL_law_1180 rfl rfl ?_
  refine xl_callM (K := kL_law) (R := room_1) (ca := ca + 1 + 0) (sl := sl + 6 + 0) (o := o) (f := f1) (M := M1) (Mm := Mm1) xN0_m lwX_n (b' := (1, 0, 0)) (As := []) (S := []) dL_law_1181 mX13_thrown lML_97 rfl rfl (by exact ⟨⟨Nat.le_of_ble_eq_true rfl, Nat.le_of_ble_eq_true rfl⟩, ⟨by show ca + 1 + 0 + 0 ≤ 601024; omega, by show sl + 6 + 0 + 0 ≤ 7293034; omega⟩⟩) (Nat.le_of_ble_eq_true rfl) (C_X13_thrown G _ (fun r M' => Mm1 100 0 = r ∧ Mm1 = M') ⟨rfl, rfl⟩) (fun v Mm2 h => ?_) rfl
  obtain ⟨_, rfl, rfl, rfl⟩ := h
  refine x_iload 1 dL_law_1184 rfl ?_
  refine x_icmp_eq (t := 1191) dL_law_1186 (by decide) (fun _ => ?_) (fun q => absurd ht q)
  refine x_iload 1 dL_law_1191 rfl ?_
  have hok : sOk (z_waysOf S (xs (i + 1))).2.2 := zk_waysOf hs (xs (i + 1))
  refine x_if_ne (t := 1208) dL_law_1193 (by decide) (fun q => ?_) (fun q => ?_)
  · refine x_goto (t := 1827) dL_law_1208 (by decide) ?_
    refine Ex.sub (ks := [2, 3, 4, 5, 6]) rfl ?_
    exact Ex.wide (by show ca + 1 + 0 + 0 ≤ ca + 2; omega) (by show sl + 6 + 0 + 0 ≤ sl + 16; omega) (kk f1 M1 Mm1 _ hok c1 m1)
  · have hz0 := zc0 hz3 q
    have e1 := hf hz0
    have e2 := hrv hz0
    refine x_aload_n 3 dL_law_1196 rfl rfl ?_
    refine x_iconst (v := 0) dL_law_1197 rfl ?_
    refine x_lald (q0 := 0) (N := 1) (f := f1) dL_law_1198 rfl (vp_in_nI (n := 0) (by decide) (by decide)) ?_
    rw [show (0 : Int32).toNatClampNeg = 0 from by decide, e1]
    refine x_iload 0 dL_law_1199 rfl ?_
    refine x_i2l dL_law_1201 ?_
    rw [e2]
    refine xl_lcmp dL_law_1202 ?_
    rw [zInt]
    refine x_if_eq (t := 1208) dL_law_1203 (by decide) (fun _ => ?_) (fun q => absurd rfl q)
    refine x_goto (t := 1827) dL_law_1208 (by decide) ?_
    refine Ex.sub (ks := [2, 3, 4, 5, 6]) rfl ?_
    exact Ex.wide (by show ca + 1 + 0 + 0 ≤ ca + 2; omega) (by show sl + 6 + 0 + 0 ≤ sl + 16; omega) (kk f1 M1 Mm1 _ hok c1 m1)
set_option maxHeartbeats 4000000 in
set_option maxRecDepth 100000 in
theorem KL_isLeftover {b L o : Nat} {xs : Nat → Int32} {G : eG} {f : Nat → Int64} {M Mm : eM} {S : gS} (hs : sOk S) (hc : sC M S) (hm : sM Mm S) {i : Nat} (hi : i + 6 ≤ L) (hL : L ≤ 3072) {ca sl : Nat} (hr : ca + 2 ≤ 601024 ∧ sl + 16 ≤ 7293034)
    (kk : ∀ (f' : Nat → Int64) (M' Mm' : eM) (S' : gS), sOk S' → sC M' S' → sM Mm' S' → lE b L xs G 1827 (lLoc b o G (nI i)) [] (wL G o f' M' Mm') (ca + 2) (sl + 16)) : lE b L xs G 1211 (lLoc b o G (nI i)) [] (wL G o f M Mm) ca sl := by
  refine x_aload_n 3 dL_law_1211 rfl rfl ?_
  refine x_aload_n 4 dL_law_1212 rfl rfl ?_
  refine x_iload 0 dL_law_1213 rfl ?_
  refine x_iconst (v := 1) dL_law_1215 rfl ?_
  refine x_iadd dL_law_1216 ?_
  refine xl_sld (i + 1) dL_law_1217 (nI_p i 1 rfl) (by omega) hL ?_
  refine x_aload_n 1 dL_law_1218 rfl rfl ?_
  obtain ⟨hz, hst⟩ := zc_isLeftover S (xs (i + 1))
  have hz3 : (z_isLeftover S (xs (i + 1))).1 = 0 ∨ (z_isLeftover S (xs (i + 1))).1 = 1 ∨ (z_isLeftover S (xs (i + 1))).1 = 2 := hz.elim Or.inl (fun h => Or.inr (Or.inl h))
  refine x_callT (K := kL_law) (R := room_1) (ca := ca) (sl := sl) (w := wL G o f M Mm) xN0_m lwX_n (b' := (12, 1, 6)) (As := [.ref (G.1 0), .int (xs (i + 1)), .ref o]) (S := []) dL_law_1219 mtL_isLeftover lML_184 rfl (by exact ⟨⟨Nat.le_of_ble_eq_true rfl, Nat.le_of_ble_eq_true rfl⟩, ⟨by show ca + 1 ≤ 601024; omega, by show sl + 6 ≤ 7293034; omega⟩⟩) (Nat.le_of_ble_eq_true rfl) (T_isLeftover hs hc o f (xs (i + 1))) (fun v w' h => ?_) rfl
  obtain ⟨f1, M1, rfl, c1, hf, rfl⟩ := h
  refine x_istore (l' := [(5, .int (nI (z_isLeftover S (xs (i + 1))).1)), (4, .int (nI i)), (3, .ref o), (2, .ref (G.1 100)), (1, .ref (G.1 0)), (0, .ref b)]) dL_law_1222 (by decide) rfl ?_
  refine x_aload_n 3 dL_law_1224 rfl rfl ?_
  refine x_aload_n 5 dL_law_1225 rfl rfl ?_
  refine x_iload 1 dL_law_1226 rfl ?_
  refine x_iconst (v := 1) dL_law_1228 rfl ?_
  refine x_iadd dL_law_1229 ?_
  refine xl_sld (i + 1) dL_law_1230 (nI_p i 1 rfl) (by omega) hL ?_
  refine xl_callM (K := kL_law) (R := room_1) (ca := ca + 1) (sl := sl + 6) (o := o) (f := f1) (M := M1) (Mm := Mm) xN0_m lwX_n (b' := (8, 0, 0)) (As := [.int (xs (i + 1))]) (S := []) dL_law_1231 mX13_isLeftover lML_186 rfl rfl (by exact ⟨⟨Nat.le_of_ble_eq_true rfl, Nat.le_of_ble_eq_true rfl⟩, ⟨by show ca + 1 + 0 ≤ 601024; omega, by show sl + 6 + 0 ≤ 7293034; omega⟩⟩) (Nat.le_of_ble_eq_true rfl) (U_isLeftover hs hm (xs (i + 1)) (fun r M' => sM M' (z_isLeftover S (xs (i + 1))).2.2 ∧ M' 100 0 = nI (z_isLeftover S (xs (i + 1))).1 ∧ ((z_isLeftover S (xs (i + 1))).1 = 0 → r = (z_isLeftover S (xs (i + 1))).2.1)) (fun r M' h1 h2 h3 => ⟨h1, h2, h3⟩)) (fun v Mm1 h => ?_) rfl
  obtain ⟨r, rfl, m1, ht, hrv⟩ := h
  refine x_istore (l' := [(6, .int (eZi r)), (5, .int (nI (z_isLeftover S (xs (i + 1))).1)), (4, .int (nI i)), (3, .ref o), (2, .ref (G.1 100)), (1, .ref (G.1 0)), (0, .ref b)]) dL_law_1234 (by decide) rfl ?_
  refine x_aload_n 4 dL_law_1236 rfl rfl ?_
  refine xl_callM (K := kL_law) (R := room_1) (ca := ca + 1 + 0) (sl := sl + 6 + 0) (o := o) (f := f1) (M := M1) (Mm := Mm1) xN0_m lwX_n (b' := (1, 0, 0)) (As := []) (S := []) dL_law_1237 mX13_thrown lML_97 rfl rfl (by exact ⟨⟨Nat.le_of_ble_eq_true rfl, Nat.le_of_ble_eq_true rfl⟩, ⟨by show ca + 1 + 0 + 0 ≤ 601024; omega, by show sl + 6 + 0 + 0 ≤ 7293034; omega⟩⟩) (Nat.le_of_ble_eq_true rfl) (C_X13_thrown G _ (fun r M' => Mm1 100 0 = r ∧ Mm1 = M') ⟨rfl, rfl⟩) (fun v Mm2 h => ?_) rfl
  obtain ⟨_, rfl, rfl, rfl⟩ := h
  refine x_iload 1 dL_law_1240 rfl ?_
  refine x_icmp_eq (t := 1247) dL_law_1242 (by decide) (fun _ => ?_) (fun q => absurd ht q)
  refine x_iload 1 dL_law_1247 rfl ?_
  have hok : sOk (z_isLeftover S (xs (i + 1))).2.2 := zk_isLeftover hs (xs (i + 1))
  refine x_if_ne (t := 1271) dL_law_1249 (by decide) (fun q => ?_) (fun q => ?_)
  · refine x_goto (t := 1827) dL_law_1271 (by decide) ?_
    refine Ex.sub (ks := [2, 3, 4, 5, 6]) rfl ?_
    exact Ex.wide (by show ca + 1 + 0 + 0 ≤ ca + 2; omega) (by show sl + 6 + 0 + 0 ≤ sl + 16; omega) (kk f1 M1 Mm1 _ hok c1 m1)
  · have hz0 := zc0 hz3 q
    have e1 := hf hz0
    have e2 := hrv hz0
    refine x_aload_n 3 dL_law_1252 rfl rfl ?_
    refine x_iconst (v := 0) dL_law_1253 rfl ?_
    refine x_lald (q0 := 0) (N := 1) (f := f1) dL_law_1254 rfl (vp_in_nI (n := 0) (by decide) (by decide)) ?_
    rw [show (0 : Int32).toNatClampNeg = 0 from by decide, e1]
    refine x_iload 0 dL_law_1255 rfl ?_
    refine x_zif_eq (t := 1264) dL_law_1257 (by decide) (fun zz => ?_) (fun zz => ?_)
    · rw [e2] at zz
      refine x_lconst (v := 0) dL_law_1264 rfl ?_
      rw [zz]
      refine xl_lcmp dL_law_1265 ?_
      refine x_if_eq (t := 1271) dL_law_1266 (by decide) (fun _ => ?_) (fun q => absurd (by first | exact zInt _ | decide) q)
      refine x_goto (t := 1827) dL_law_1271 (by decide) ?_
      refine Ex.sub (ks := [2, 3, 4, 5, 6]) rfl ?_
      exact Ex.wide (by show ca + 1 + 0 + 0 ≤ ca + 2; omega) (by show sl + 6 + 0 + 0 ≤ sl + 16; omega) (kk f1 M1 Mm1 _ hok c1 m1)
    · rw [e2] at zz
      refine x_lconst (v := 1) dL_law_1260 rfl ?_
      refine x_goto (t := 1265) dL_law_1261 (by decide) ?_
      rw [zz]
      refine xl_lcmp dL_law_1265 ?_
      refine x_if_eq (t := 1271) dL_law_1266 (by decide) (fun _ => ?_) (fun q => absurd (by first | exact zInt _ | decide) q)
      refine x_goto (t := 1827) dL_law_1271 (by decide) ?_
      refine Ex.sub (ks := [2, 3, 4, 5, 6]) rfl ?_
      exact Ex.wide (by show ca + 1 + 0 + 0 ≤ ca + 2; omega) (by show sl + 6 + 0 + 0 ≤ sl + 16; omega) (kk f1 M1 Mm1 _ hok c1 m1)
set_option maxHeartbeats 4000000 in
set_option maxRecDepth 100000 in
theorem KL_looksToProve {b L o : Nat} {xs : Nat → Int32} {G : eG} {f : Nat → Int64} {M Mm : eM} {S : gS} (hs : sOk S) (hc : sC M S) (hm : sM Mm S) {i : Nat} (hi : i + 6 ≤ L) (hL : L ≤ 3072) {ca sl : Nat} (hr : ca + 2 ≤ 601024 ∧ sl + 16 ≤ 7293034)
    (kk : ∀ (f' : Nat → Int64) (M' Mm' : eM) (S' : gS), sOk S' → sC M' S' → sM Mm' S' → lE b L xs G 1827 (lLoc b o G (nI i)) [] (wL G o f' M' Mm') (ca + 2) (sl + 16)) : lE b L xs G 1274 (lLoc b o G (nI i)) [] (wL G o f M Mm) ca sl := by
  refine x_aload_n 3 dL_law_1274 rfl rfl ?_
  refine x_aload_n 4 dL_law_1275 rfl rfl ?_
  refine x_iload 0 dL_law_1276 rfl ?_
  refine x_iconst (v := 1) dL_law_1278 rfl ?_
  refine x_iadd dL_law_1279 ?_
  refine xl_sld (i + 1) dL_law_1280 (nI_p i 1 rfl) (by omega) hL ?_
  refine x_aload_n 1 dL_law_1281 rfl rfl ?_
  obtain ⟨hz, hst⟩ := zc_looksToProve S (xs (i + 1))
  have hz3 : (z_looks S (xs (i + 1))).1 = 0 ∨ (z_looks S (xs (i + 1))).1 = 1 ∨ (z_looks S (xs (i + 1))).1 = 2 := hz
  refine x_callT (K := kL_law) (R := room_1) (ca := ca) (sl := sl) (w := wL G o f M Mm) xN0_m lwX_n (b' := (12, 1, 6)) (As := [.ref (G.1 0), .int (xs (i + 1)), .ref o]) (S := []) dL_law_1282 mtL_looksToProve lML_187 rfl (by exact ⟨⟨Nat.le_of_ble_eq_true rfl, Nat.le_of_ble_eq_true rfl⟩, ⟨by show ca + 1 ≤ 601024; omega, by show sl + 6 ≤ 7293034; omega⟩⟩) (Nat.le_of_ble_eq_true rfl) (T_looksToProve hs hc o f (xs (i + 1))) (fun v w' h => ?_) rfl
  obtain ⟨f1, M1, rfl, c1, hf, rfl⟩ := h
  refine x_istore (l' := [(5, .int (nI (z_looks S (xs (i + 1))).1)), (4, .int (nI i)), (3, .ref o), (2, .ref (G.1 100)), (1, .ref (G.1 0)), (0, .ref b)]) dL_law_1285 (by decide) rfl ?_
  refine x_aload_n 3 dL_law_1287 rfl rfl ?_
  refine x_aload_n 5 dL_law_1288 rfl rfl ?_
  refine x_iload 1 dL_law_1289 rfl ?_
  refine x_iconst (v := 1) dL_law_1291 rfl ?_
  refine x_iadd dL_law_1292 ?_
  refine xl_sld (i + 1) dL_law_1293 (nI_p i 1 rfl) (by omega) hL ?_
  refine xl_callM (K := kL_law) (R := room_1) (ca := ca + 1) (sl := sl + 6) (o := o) (f := f1) (M := M1) (Mm := Mm) xN0_m lwX_n (b' := (8, 0, 0)) (As := [.int (xs (i + 1))]) (S := []) dL_law_1294 mX13_looksToProve lML_189 rfl rfl (by exact ⟨⟨Nat.le_of_ble_eq_true rfl, Nat.le_of_ble_eq_true rfl⟩, ⟨by show ca + 1 + 0 ≤ 601024; omega, by show sl + 6 + 0 ≤ 7293034; omega⟩⟩) (Nat.le_of_ble_eq_true rfl) (U_looks hs hm (xs (i + 1)) (fun r M' => sM M' (z_looks S (xs (i + 1))).2.2 ∧ M' 100 0 = nI (z_looks S (xs (i + 1))).1 ∧ ((z_looks S (xs (i + 1))).1 = 0 → r = (z_looks S (xs (i + 1))).2.1)) (fun r M' h1 h2 h3 => ⟨h1, h2, h3⟩)) (fun v Mm1 h => ?_) rfl
  obtain ⟨r, rfl, m1, ht, hrv⟩ := h
  refine x_istore (l' := [(6, .int r), (5, .int (nI (z_looks S (xs (i + 1))).1)), (4, .int (nI i)), (3, .ref o), (2, .ref (G.1 100)), (1, .ref (G.1 0)), (0, .ref b)]) dL_law_1297 (by decide) rfl ?_
  refine x_aload_n 4 dL_law_1299 rfl rfl ?_
  refine xl_callM (K := kL_law) (R := room_1) (ca := ca + 1 + 0) (sl := sl + 6 + 0) (o := o) (f := f1) (M := M1) (Mm := Mm1) xN0_m lwX_n (b' := (1, 0, 0)) (As := []) (S := []) dL_law_1300 mX13_thrown lML_97 rfl rfl (by exact ⟨⟨Nat.le_of_ble_eq_true rfl, Nat.le_of_ble_eq_true rfl⟩, ⟨by show ca + 1 + 0 + 0 ≤ 601024; omega, by show sl + 6 + 0 + 0 ≤ 7293034; omega⟩⟩) (Nat.le_of_ble_eq_true rfl) (C_X13_thrown G _ (fun r M' => Mm1 100 0 = r ∧ Mm1 = M') ⟨rfl, rfl⟩) (fun v Mm2 h => ?_) rfl
  obtain ⟨_, rfl, rfl, rfl⟩ := h
  refine x_iload 1 dL_law_1303 rfl ?_
  refine x_icmp_eq (t := 1310) dL_law_1305 (by decide) (fun _ => ?_) (fun q => absurd ht q)
  refine x_iload 1 dL_law_1310 rfl ?_
  have hok : sOk (z_looks S (xs (i + 1))).2.2 := zk_looksToProve hs (xs (i + 1))
  refine x_if_ne (t := 1327) dL_law_1312 (by decide) (fun q => ?_) (fun q => ?_)
  · refine x_goto (t := 1827) dL_law_1327 (by decide) ?_
    refine Ex.sub (ks := [2, 3, 4, 5, 6]) rfl ?_
    exact Ex.wide (by show ca + 1 + 0 + 0 ≤ ca + 2; omega) (by show sl + 6 + 0 + 0 ≤ sl + 16; omega) (kk f1 M1 Mm1 _ hok c1 m1)
  · have hz0 := zc0 hz3 q
    have e1 := hf hz0
    have e2 := hrv hz0
    refine x_aload_n 3 dL_law_1315 rfl rfl ?_
    refine x_iconst (v := 0) dL_law_1316 rfl ?_
    refine x_lald (q0 := 0) (N := 1) (f := f1) dL_law_1317 rfl (vp_in_nI (n := 0) (by decide) (by decide)) ?_
    rw [show (0 : Int32).toNatClampNeg = 0 from by decide, e1]
    refine x_iload 0 dL_law_1318 rfl ?_
    refine x_i2l dL_law_1320 ?_
    rw [e2]
    refine xl_lcmp dL_law_1321 ?_
    rw [zInt]
    refine x_if_eq (t := 1327) dL_law_1322 (by decide) (fun _ => ?_) (fun q => absurd rfl q)
    refine x_goto (t := 1827) dL_law_1327 (by decide) ?_
    refine Ex.sub (ks := [2, 3, 4, 5, 6]) rfl ?_
    exact Ex.wide (by show ca + 1 + 0 + 0 ≤ ca + 2; omega) (by show sl + 6 + 0 + 0 ≤ sl + 16; omega) (kk f1 M1 Mm1 _ hok c1 m1)
set_option maxHeartbeats 4000000 in
set_option maxRecDepth 100000 in
theorem KL_putTile {b L o : Nat} {xs : Nat → Int32} {G : eG} {f : Nat → Int64} {M Mm : eM} {S : gS} (hs : sOk S) (hc : sC M S) (hm : sM Mm S) {i : Nat} (hi : i + 6 ≤ L) (hL : L ≤ 3072) {ca sl : Nat} (hr : ca + 2 ≤ 601024 ∧ sl + 16 ≤ 7293034)
    (kk : ∀ (f' : Nat → Int64) (M' Mm' : eM) (S' : gS), sOk S' → sC M' S' → sM Mm' S' → lE b L xs G 1827 (lLoc b o G (nI i)) [] (wL G o f' M' Mm') (ca + 2) (sl + 16)) : lE b L xs G 1330 (lLoc b o G (nI i)) [] (wL G o f M Mm) ca sl := by
  refine x_aload_n 3 dL_law_1330 rfl rfl ?_
  refine x_aload_n 4 dL_law_1331 rfl rfl ?_
  refine x_iload 0 dL_law_1332 rfl ?_
  refine x_iconst (v := 1) dL_law_1334 rfl ?_
  refine x_iadd dL_law_1335 ?_
  refine xl_sld (i + 1) dL_law_1336 (nI_p i 1 rfl) (by omega) hL ?_
  refine x_aload_n 4 dL_law_1337 rfl rfl ?_
  refine x_iload 0 dL_law_1338 rfl ?_
  refine x_iconst (v := 2) dL_law_1340 rfl ?_
  refine x_iadd dL_law_1341 ?_
  refine xl_sld (i + 2) dL_law_1342 (nI_p i 2 rfl) (by omega) hL ?_
  refine x_aload_n 4 dL_law_1343 rfl rfl ?_
  refine x_iload 0 dL_law_1344 rfl ?_
  refine x_iconst (v := 3) dL_law_1346 rfl ?_
  refine x_iadd dL_law_1347 ?_
  refine xl_sld (i + 3) dL_law_1348 (nI_p i 3 rfl) (by omega) hL ?_
  refine x_aload_n 1 dL_law_1349 rfl rfl ?_
  obtain ⟨hz, hst⟩ := zc_putTile S (xs (i + 1)) (xs (i + 2)) (xs (i + 3))
  have hz3 : (z_putTile S (xs (i + 1)) (xs (i + 2)) (xs (i + 3))).1 = 0 ∨ (z_putTile S (xs (i + 1)) (xs (i + 2)) (xs (i + 3))).1 = 1 ∨ (z_putTile S (xs (i + 1)) (xs (i + 2)) (xs (i + 3))).1 = 2 := hz
  refine x_callT (K := kL_law) (R := room_1) (ca := ca) (sl := sl) (w := wL G o f M Mm) xN0_m lwX_n (b' := (12, 1, 6)) (As := [.ref (G.1 0), .int (xs (i + 1)), .int (xs (i + 2)), .int (xs (i + 3)), .ref o]) (S := []) dL_law_1350 mtL_putTile lML_190 rfl (by exact ⟨⟨Nat.le_of_ble_eq_true rfl, Nat.le_of_ble_eq_true rfl⟩, ⟨by show ca + 1 ≤ 601024; omega, by show sl + 6 ≤ 7293034; omega⟩⟩) (Nat.le_of_ble_eq_true rfl) (T_putTile hs hc o f (xs (i + 1)) (xs (i + 2)) (xs (i + 3))) (fun v w' h => ?_) rfl
  obtain ⟨f1, M1, rfl, c1, hf, rfl⟩ := h
  refine x_istore (l' := [(5, .int (nI (z_putTile S (xs (i + 1)) (xs (i + 2)) (xs (i + 3))).1)), (4, .int (nI i)), (3, .ref o), (2, .ref (G.1 100)), (1, .ref (G.1 0)), (0, .ref b)]) dL_law_1353 (by decide) rfl ?_
  refine x_aload_n 3 dL_law_1355 rfl rfl ?_
  refine x_aload_n 5 dL_law_1356 rfl rfl ?_
  refine x_iload 1 dL_law_1357 rfl ?_
  refine x_iconst (v := 1) dL_law_1359 rfl ?_
  refine x_iadd dL_law_1360 ?_
  refine xl_sld (i + 1) dL_law_1361 (nI_p i 1 rfl) (by omega) hL ?_
  refine x_aload_n 5 dL_law_1362 rfl rfl ?_
  refine x_iload 1 dL_law_1363 rfl ?_
  refine x_iconst (v := 2) dL_law_1365 rfl ?_
  refine x_iadd dL_law_1366 ?_
  refine xl_sld (i + 2) dL_law_1367 (nI_p i 2 rfl) (by omega) hL ?_
  refine x_aload_n 5 dL_law_1368 rfl rfl ?_
  refine x_iload 1 dL_law_1369 rfl ?_
  refine x_iconst (v := 3) dL_law_1371 rfl ?_
  refine x_iadd dL_law_1372 ?_
  refine xl_sld (i + 3) dL_law_1373 (nI_p i 3 rfl) (by omega) hL ?_
  refine xl_callM (K := kL_law) (R := room_1) (ca := ca + 1) (sl := sl + 6) (o := o) (f := f1) (M := M1) (Mm := Mm) xN0_m lwX_n (b' := (8, 0, 0)) (As := [.int (xs (i + 1)), .int (xs (i + 2)), .int (xs (i + 3))]) (S := []) dL_law_1374 mX13_putTile lML_192 rfl rfl (by exact ⟨⟨Nat.le_of_ble_eq_true rfl, Nat.le_of_ble_eq_true rfl⟩, ⟨by show ca + 1 + 0 ≤ 601024; omega, by show sl + 6 + 0 ≤ 7293034; omega⟩⟩) (Nat.le_of_ble_eq_true rfl) (U_putTile hs hm (xs (i + 1)) (xs (i + 2)) (xs (i + 3)) (fun r M' => sM M' (z_putTile S (xs (i + 1)) (xs (i + 2)) (xs (i + 3))).2.2 ∧ M' 100 0 = nI (z_putTile S (xs (i + 1)) (xs (i + 2)) (xs (i + 3))).1 ∧ ((z_putTile S (xs (i + 1)) (xs (i + 2)) (xs (i + 3))).1 = 0 → r = (z_putTile S (xs (i + 1)) (xs (i + 2)) (xs (i + 3))).2.1)) (fun r M' h1 h2 h3 => ⟨h1, h2, h3⟩)) (fun v Mm1 h => ?_) rfl
  obtain ⟨r, rfl, m1, ht, hrv⟩ := h
  refine x_istore (l' := [(6, .int r), (5, .int (nI (z_putTile S (xs (i + 1)) (xs (i + 2)) (xs (i + 3))).1)), (4, .int (nI i)), (3, .ref o), (2, .ref (G.1 100)), (1, .ref (G.1 0)), (0, .ref b)]) dL_law_1377 (by decide) rfl ?_
  refine x_aload_n 4 dL_law_1379 rfl rfl ?_
  refine xl_callM (K := kL_law) (R := room_1) (ca := ca + 1 + 0) (sl := sl + 6 + 0) (o := o) (f := f1) (M := M1) (Mm := Mm1) xN0_m lwX_n (b' := (1, 0, 0)) (As := []) (S := []) dL_law_1380 mX13_thrown lML_97 rfl rfl (by exact ⟨⟨Nat.le_of_ble_eq_true rfl, Nat.le_of_ble_eq_true rfl⟩, ⟨by show ca + 1 + 0 + 0 ≤ 601024; omega, by show sl + 6 + 0 + 0 ≤ 7293034; omega⟩⟩) (Nat.le_of_ble_eq_true rfl) (C_X13_thrown G _ (fun r M' => Mm1 100 0 = r ∧ Mm1 = M') ⟨rfl, rfl⟩) (fun v Mm2 h => ?_) rfl
  obtain ⟨_, rfl, rfl, rfl⟩ := h
  refine x_iload 1 dL_law_1383 rfl ?_
  refine x_icmp_eq (t := 1390) dL_law_1385 (by decide) (fun _ => ?_) (fun q => absurd ht q)
  refine x_iload 1 dL_law_1390 rfl ?_
  have hok : sOk (z_putTile S (xs (i + 1)) (xs (i + 2)) (xs (i + 3))).2.2 := zk_putTile hs (xs (i + 1)) (xs (i + 2)) (xs (i + 3))
  refine x_if_ne (t := 1407) dL_law_1392 (by decide) (fun q => ?_) (fun q => ?_)
  · refine x_goto (t := 1827) dL_law_1407 (by decide) ?_
    refine Ex.sub (ks := [2, 3, 4, 5, 6]) rfl ?_
    exact Ex.wide (by show ca + 1 + 0 + 0 ≤ ca + 2; omega) (by show sl + 6 + 0 + 0 ≤ sl + 16; omega) (kk f1 M1 Mm1 _ hok c1 m1)
  · have hz0 := zc0 hz3 q
    have e1 := hf hz0
    have e2 := hrv hz0
    refine x_aload_n 3 dL_law_1395 rfl rfl ?_
    refine x_iconst (v := 0) dL_law_1396 rfl ?_
    refine x_lald (q0 := 0) (N := 1) (f := f1) dL_law_1397 rfl (vp_in_nI (n := 0) (by decide) (by decide)) ?_
    rw [show (0 : Int32).toNatClampNeg = 0 from by decide, e1]
    refine x_iload 0 dL_law_1398 rfl ?_
    refine x_i2l dL_law_1400 ?_
    rw [e2]
    refine xl_lcmp dL_law_1401 ?_
    rw [zInt]
    refine x_if_eq (t := 1407) dL_law_1402 (by decide) (fun _ => ?_) (fun q => absurd rfl q)
    refine x_goto (t := 1827) dL_law_1407 (by decide) ?_
    refine Ex.sub (ks := [2, 3, 4, 5, 6]) rfl ?_
    exact Ex.wide (by show ca + 1 + 0 + 0 ≤ ca + 2; omega) (by show sl + 6 + 0 + 0 ≤ sl + 16; omega) (kk f1 M1 Mm1 _ hok c1 m1)
set_option maxHeartbeats 4000000 in
set_option maxRecDepth 100000 in
theorem KL_takeTile {b L o : Nat} {xs : Nat → Int32} {G : eG} {f : Nat → Int64} {M Mm : eM} {S : gS} (hs : sOk S) (hc : sC M S) (hm : sM Mm S) {i : Nat} (hi : i + 6 ≤ L) (hL : L ≤ 3072) {ca sl : Nat} (hr : ca + 2 ≤ 601024 ∧ sl + 16 ≤ 7293034)
    (kk : ∀ (f' : Nat → Int64) (M' Mm' : eM) (S' : gS), sOk S' → sC M' S' → sM Mm' S' → lE b L xs G 1827 (lLoc b o G (nI i)) [] (wL G o f' M' Mm') (ca + 2) (sl + 16)) : lE b L xs G 1410 (lLoc b o G (nI i)) [] (wL G o f M Mm) ca sl := by
  refine x_aload_n 3 dL_law_1410 rfl rfl ?_
  refine x_aload_n 4 dL_law_1411 rfl rfl ?_
  refine x_iload 0 dL_law_1412 rfl ?_
  refine x_iconst (v := 1) dL_law_1414 rfl ?_
  refine x_iadd dL_law_1415 ?_
  refine xl_sld (i + 1) dL_law_1416 (nI_p i 1 rfl) (by omega) hL ?_
  refine x_aload_n 1 dL_law_1417 rfl rfl ?_
  obtain ⟨hz, hst⟩ := zc_takeTile S (xs (i + 1))
  have hz3 : (z_takeTile S (xs (i + 1))).1 = 0 ∨ (z_takeTile S (xs (i + 1))).1 = 1 ∨ (z_takeTile S (xs (i + 1))).1 = 2 := hz
  refine x_callT (K := kL_law) (R := room_1) (ca := ca) (sl := sl) (w := wL G o f M Mm) xN0_m lwX_n (b' := (12, 1, 6)) (As := [.ref (G.1 0), .int (xs (i + 1)), .ref o]) (S := []) dL_law_1418 mtL_takeTile lML_193 rfl (by exact ⟨⟨Nat.le_of_ble_eq_true rfl, Nat.le_of_ble_eq_true rfl⟩, ⟨by show ca + 1 ≤ 601024; omega, by show sl + 6 ≤ 7293034; omega⟩⟩) (Nat.le_of_ble_eq_true rfl) (T_takeTile hs hc o f (xs (i + 1))) (fun v w' h => ?_) rfl
  obtain ⟨f1, M1, rfl, c1, hf, rfl⟩ := h
  refine x_istore (l' := [(5, .int (nI (z_takeTile S (xs (i + 1))).1)), (4, .int (nI i)), (3, .ref o), (2, .ref (G.1 100)), (1, .ref (G.1 0)), (0, .ref b)]) dL_law_1421 (by decide) rfl ?_
  refine x_aload_n 3 dL_law_1423 rfl rfl ?_
  refine x_aload_n 5 dL_law_1424 rfl rfl ?_
  refine x_iload 1 dL_law_1425 rfl ?_
  refine x_iconst (v := 1) dL_law_1427 rfl ?_
  refine x_iadd dL_law_1428 ?_
  refine xl_sld (i + 1) dL_law_1429 (nI_p i 1 rfl) (by omega) hL ?_
  refine xl_callM (K := kL_law) (R := room_1) (ca := ca + 1) (sl := sl + 6) (o := o) (f := f1) (M := M1) (Mm := Mm) xN0_m lwX_n (b' := (8, 0, 0)) (As := [.int (xs (i + 1))]) (S := []) dL_law_1430 mX13_takeTile lML_195 rfl rfl (by exact ⟨⟨Nat.le_of_ble_eq_true rfl, Nat.le_of_ble_eq_true rfl⟩, ⟨by show ca + 1 + 0 ≤ 601024; omega, by show sl + 6 + 0 ≤ 7293034; omega⟩⟩) (Nat.le_of_ble_eq_true rfl) (U_takeTile hs hm (xs (i + 1)) (fun r M' => sM M' (z_takeTile S (xs (i + 1))).2.2 ∧ M' 100 0 = nI (z_takeTile S (xs (i + 1))).1 ∧ ((z_takeTile S (xs (i + 1))).1 = 0 → r = (z_takeTile S (xs (i + 1))).2.1)) (fun r M' h1 h2 h3 => ⟨h1, h2, h3⟩)) (fun v Mm1 h => ?_) rfl
  obtain ⟨r, rfl, m1, ht, hrv⟩ := h
  refine x_istore (l' := [(6, .int r), (5, .int (nI (z_takeTile S (xs (i + 1))).1)), (4, .int (nI i)), (3, .ref o), (2, .ref (G.1 100)), (1, .ref (G.1 0)), (0, .ref b)]) dL_law_1433 (by decide) rfl ?_
  refine x_aload_n 4 dL_law_1435 rfl rfl ?_
  refine xl_callM (K := kL_law) (R := room_1) (ca := ca + 1 + 0) (sl := sl + 6 + 0) (o := o) (f := f1) (M := M1) (Mm := Mm1) xN0_m lwX_n (b' := (1, 0, 0)) (As := []) (S := []) dL_law_1436 mX13_thrown lML_97 rfl rfl (by exact ⟨⟨Nat.le_of_ble_eq_true rfl, Nat.le_of_ble_eq_true rfl⟩, ⟨by show ca + 1 + 0 + 0 ≤ 601024; omega, by show sl + 6 + 0 + 0 ≤ 7293034; omega⟩⟩) (Nat.le_of_ble_eq_true rfl) (C_X13_thrown G _ (fun r M' => Mm1 100 0 = r ∧ Mm1 = M') ⟨rfl, rfl⟩) (fun v Mm2 h => ?_) rfl
  obtain ⟨_, rfl, rfl, rfl⟩ := h
  refine x_iload 1 dL_law_1439 rfl ?_
  refine x_icmp_eq (t := 1446) dL_law_1441 (by decide) (fun _ => ?_) (fun q => absurd ht q)
  refine x_iload 1 dL_law_1446 rfl ?_
  have hok : sOk (z_takeTile S (xs (i + 1))).2.2 := zk_takeTile hs (xs (i + 1))
  refine x_if_ne (t := 1463) dL_law_1448 (by decide) (fun q => ?_) (fun q => ?_)
  · refine x_goto (t := 1827) dL_law_1463 (by decide) ?_
    refine Ex.sub (ks := [2, 3, 4, 5, 6]) rfl ?_
    exact Ex.wide (by show ca + 1 + 0 + 0 ≤ ca + 2; omega) (by show sl + 6 + 0 + 0 ≤ sl + 16; omega) (kk f1 M1 Mm1 _ hok c1 m1)
  · have hz0 := zc0 hz3 q
    have e1 := hf hz0
    have e2 := hrv hz0
    refine x_aload_n 3 dL_law_1451 rfl rfl ?_
    refine x_iconst (v := 0) dL_law_1452 rfl ?_
    refine x_lald (q0 := 0) (N := 1) (f := f1) dL_law_1453 rfl (vp_in_nI (n := 0) (by decide) (by decide)) ?_
    rw [show (0 : Int32).toNatClampNeg = 0 from by decide, e1]
    refine x_iload 0 dL_law_1454 rfl ?_
    refine x_i2l dL_law_1456 ?_
    rw [e2]
    refine xl_lcmp dL_law_1457 ?_
    rw [zInt]
    refine x_if_eq (t := 1463) dL_law_1458 (by decide) (fun _ => ?_) (fun q => absurd rfl q)
    refine x_goto (t := 1827) dL_law_1463 (by decide) ?_
    refine Ex.sub (ks := [2, 3, 4, 5, 6]) rfl ?_
    exact Ex.wide (by show ca + 1 + 0 + 0 ≤ ca + 2; omega) (by show sl + 6 + 0 + 0 ≤ sl + 16; omega) (kk f1 M1 Mm1 _ hok c1 m1)
set_option maxHeartbeats 4000000 in
set_option maxRecDepth 100000 in
theorem KL_fitTile {b L o : Nat} {xs : Nat → Int32} {G : eG} {f : Nat → Int64} {M Mm : eM} {S : gS} (hs : sOk S) (hc : sC M S) (hm : sM Mm S) {i : Nat} (hi : i + 6 ≤ L) (hL : L ≤ 3072) {ca sl : Nat} (hr : ca + 2 ≤ 601024 ∧ sl + 16 ≤ 7293034)
    (kk : ∀ (f' : Nat → Int64) (M' Mm' : eM) (S' : gS), sOk S' → sC M' S' → sM Mm' S' → lE b L xs G 1827 (lLoc b o G (nI i)) [] (wL G o f' M' Mm') (ca + 2) (sl + 16)) : lE b L xs G 1466 (lLoc b o G (nI i)) [] (wL G o f M Mm) ca sl := by
  refine x_aload_n 3 dL_law_1466 rfl rfl ?_
  refine x_aload_n 4 dL_law_1467 rfl rfl ?_
  refine x_iload 0 dL_law_1468 rfl ?_
  refine x_iconst (v := 1) dL_law_1470 rfl ?_
  refine x_iadd dL_law_1471 ?_
  refine xl_sld (i + 1) dL_law_1472 (nI_p i 1 rfl) (by omega) hL ?_
  refine x_aload_n 1 dL_law_1473 rfl rfl ?_
  obtain ⟨hz, hst⟩ := zc_fitTile S (xs (i + 1))
  have hz3 : (z_fitTile S (xs (i + 1))).1 = 0 ∨ (z_fitTile S (xs (i + 1))).1 = 1 ∨ (z_fitTile S (xs (i + 1))).1 = 2 := hz
  refine x_callT (K := kL_law) (R := room_1) (ca := ca) (sl := sl) (w := wL G o f M Mm) xN0_m lwX_n (b' := (12, 1, 6)) (As := [.ref (G.1 0), .int (xs (i + 1)), .ref o]) (S := []) dL_law_1474 mtL_fitTile lML_196 rfl (by exact ⟨⟨Nat.le_of_ble_eq_true rfl, Nat.le_of_ble_eq_true rfl⟩, ⟨by show ca + 1 ≤ 601024; omega, by show sl + 6 ≤ 7293034; omega⟩⟩) (Nat.le_of_ble_eq_true rfl) (T_fitTile hs hc o f (xs (i + 1))) (fun v w' h => ?_) rfl
  obtain ⟨f1, M1, rfl, c1, hf, rfl⟩ := h
  refine x_istore (l' := [(5, .int (nI (z_fitTile S (xs (i + 1))).1)), (4, .int (nI i)), (3, .ref o), (2, .ref (G.1 100)), (1, .ref (G.1 0)), (0, .ref b)]) dL_law_1477 (by decide) rfl ?_
  refine x_aload_n 3 dL_law_1479 rfl rfl ?_
  refine x_aload_n 5 dL_law_1480 rfl rfl ?_
  refine x_iload 1 dL_law_1481 rfl ?_
  refine x_iconst (v := 1) dL_law_1483 rfl ?_
  refine x_iadd dL_law_1484 ?_
  refine xl_sld (i + 1) dL_law_1485 (nI_p i 1 rfl) (by omega) hL ?_
  refine xl_callM (K := kL_law) (R := room_1) (ca := ca + 1) (sl := sl + 6) (o := o) (f := f1) (M := M1) (Mm := Mm) xN0_m lwX_n (b' := (8, 0, 0)) (As := [.int (xs (i + 1))]) (S := []) dL_law_1486 mX13_fitTile lML_198 rfl rfl (by exact ⟨⟨Nat.le_of_ble_eq_true rfl, Nat.le_of_ble_eq_true rfl⟩, ⟨by show ca + 1 + 0 ≤ 601024; omega, by show sl + 6 + 0 ≤ 7293034; omega⟩⟩) (Nat.le_of_ble_eq_true rfl) (U_fitTile hs hm (xs (i + 1)) (fun r M' => sM M' (z_fitTile S (xs (i + 1))).2.2 ∧ M' 100 0 = nI (z_fitTile S (xs (i + 1))).1 ∧ ((z_fitTile S (xs (i + 1))).1 = 0 → r = (z_fitTile S (xs (i + 1))).2.1)) (fun r M' h1 h2 h3 => ⟨h1, h2, h3⟩)) (fun v Mm1 h => ?_) rfl
  obtain ⟨r, rfl, m1, ht, hrv⟩ := h
  refine x_istore (l' := [(6, .int r), (5, .int (nI (z_fitTile S (xs (i + 1))).1)), (4, .int (nI i)), (3, .ref o), (2, .ref (G.1 100)), (1, .ref (G.1 0)), (0, .ref b)]) dL_law_1489 (by decide) rfl ?_
  refine x_aload_n 4 dL_law_1491 rfl rfl ?_
  refine xl_callM (K := kL_law) (R := room_1) (ca := ca + 1 + 0) (sl := sl + 6 + 0) (o := o) (f := f1) (M := M1) (Mm := Mm1) xN0_m lwX_n (b' := (1, 0, 0)) (As := []) (S := []) dL_law_1492 mX13_thrown lML_97 rfl rfl (by exact ⟨⟨Nat.le_of_ble_eq_true rfl, Nat.le_of_ble_eq_true rfl⟩, ⟨by show ca + 1 + 0 + 0 ≤ 601024; omega, by show sl + 6 + 0 + 0 ≤ 7293034; omega⟩⟩) (Nat.le_of_ble_eq_true rfl) (C_X13_thrown G _ (fun r M' => Mm1 100 0 = r ∧ Mm1 = M') ⟨rfl, rfl⟩) (fun v Mm2 h => ?_) rfl
  obtain ⟨_, rfl, rfl, rfl⟩ := h
  refine x_iload 1 dL_law_1495 rfl ?_
  refine x_icmp_eq (t := 1502) dL_law_1497 (by decide) (fun _ => ?_) (fun q => absurd ht q)
  refine x_iload 1 dL_law_1502 rfl ?_
  have hok : sOk (z_fitTile S (xs (i + 1))).2.2 := zk_fitTile hs (xs (i + 1))
  refine x_if_ne (t := 1519) dL_law_1504 (by decide) (fun q => ?_) (fun q => ?_)
  · refine x_goto (t := 1827) dL_law_1519 (by decide) ?_
    refine Ex.sub (ks := [2, 3, 4, 5, 6]) rfl ?_
    exact Ex.wide (by show ca + 1 + 0 + 0 ≤ ca + 2; omega) (by show sl + 6 + 0 + 0 ≤ sl + 16; omega) (kk f1 M1 Mm1 _ hok c1 m1)
  · have hz0 := zc0 hz3 q
    have e1 := hf hz0
    have e2 := hrv hz0
    refine x_aload_n 3 dL_law_1507 rfl rfl ?_
    refine x_iconst (v := 0) dL_law_1508 rfl ?_
    refine x_lald (q0 := 0) (N := 1) (f := f1) dL_law_1509 rfl (vp_in_nI (n := 0) (by decide) (by decide)) ?_
    rw [show (0 : Int32).toNatClampNeg = 0 from by decide, e1]
    refine x_iload 0 dL_law_1510 rfl ?_
    refine x_i2l dL_law_1512 ?_
    rw [e2]
    refine xl_lcmp dL_law_1513 ?_
    rw [zInt]
    refine x_if_eq (t := 1519) dL_law_1514 (by decide) (fun _ => ?_) (fun q => absurd rfl q)
    refine x_goto (t := 1827) dL_law_1519 (by decide) ?_
    refine Ex.sub (ks := [2, 3, 4, 5, 6]) rfl ?_
    exact Ex.wide (by show ca + 1 + 0 + 0 ≤ ca + 2; omega) (by show sl + 6 + 0 + 0 ≤ sl + 16; omega) (kk f1 M1 Mm1 _ hok c1 m1)
set_option maxHeartbeats 4000000 in
set_option maxRecDepth 100000 in
theorem KL_playRounds {b L o : Nat} {xs : Nat → Int32} {G : eG} {f : Nat → Int64} {M Mm : eM} {S : gS} (hs : sOk S) (hc : sC M S) (hm : sM Mm S) {i : Nat} (hi : i + 6 ≤ L) (hL : L ≤ 3072) {ca sl : Nat} (hr : ca + 2 ≤ 601024 ∧ sl + 16 ≤ 7293034)
    (kk : ∀ (f' : Nat → Int64) (M' Mm' : eM) (S' : gS), sOk S' → sC M' S' → sM Mm' S' → lE b L xs G 1827 (lLoc b o G (nI i)) [] (wL G o f' M' Mm') (ca + 2) (sl + 16)) : lE b L xs G 1522 (lLoc b o G (nI i)) [] (wL G o f M Mm) ca sl := by
  refine x_aload_n 3 dL_law_1522 rfl rfl ?_
  refine x_aload_n 4 dL_law_1523 rfl rfl ?_
  refine x_iload 0 dL_law_1524 rfl ?_
  refine x_iconst (v := 1) dL_law_1526 rfl ?_
  refine x_iadd dL_law_1527 ?_
  refine xl_sld (i + 1) dL_law_1528 (nI_p i 1 rfl) (by omega) hL ?_
  refine x_aload_n 1 dL_law_1529 rfl rfl ?_
  obtain ⟨hz, hst⟩ := zc_playRounds S (xs (i + 1))
  have hz3 : (z_playRounds S (xs (i + 1))).1 = 0 ∨ (z_playRounds S (xs (i + 1))).1 = 1 ∨ (z_playRounds S (xs (i + 1))).1 = 2 := hz.elim Or.inl (fun h => Or.inr (Or.inl h))
  refine x_callT (K := kL_law) (R := room_1) (ca := ca) (sl := sl) (w := wL G o f M Mm) xN0_m lwX_n (b' := (12, 1, 6)) (As := [.ref (G.1 0), .int (xs (i + 1)), .ref o]) (S := []) dL_law_1530 mtL_playRounds lML_199 rfl (by exact ⟨⟨Nat.le_of_ble_eq_true rfl, Nat.le_of_ble_eq_true rfl⟩, ⟨by show ca + 1 ≤ 601024; omega, by show sl + 6 ≤ 7293034; omega⟩⟩) (Nat.le_of_ble_eq_true rfl) (T_playRounds hs hc o f (xs (i + 1))) (fun v w' h => ?_) rfl
  obtain ⟨f1, M1, rfl, c1, hf, rfl⟩ := h
  refine x_istore (l' := [(5, .int (nI (z_playRounds S (xs (i + 1))).1)), (4, .int (nI i)), (3, .ref o), (2, .ref (G.1 100)), (1, .ref (G.1 0)), (0, .ref b)]) dL_law_1533 (by decide) rfl ?_
  refine x_aload_n 3 dL_law_1535 rfl rfl ?_
  refine x_aload_n 5 dL_law_1536 rfl rfl ?_
  refine x_iload 1 dL_law_1537 rfl ?_
  refine x_iconst (v := 1) dL_law_1539 rfl ?_
  refine x_iadd dL_law_1540 ?_
  refine xl_sld (i + 1) dL_law_1541 (nI_p i 1 rfl) (by omega) hL ?_
  refine xl_callM (K := kL_law) (R := room_1) (ca := ca + 1) (sl := sl + 6) (o := o) (f := f1) (M := M1) (Mm := Mm) xN0_m lwX_n (b' := (11, 0, 0)) (As := [.int (xs (i + 1))]) (S := []) dL_law_1542 mX13_playRounds lML_201 rfl rfl (by exact ⟨⟨Nat.le_of_ble_eq_true rfl, Nat.le_of_ble_eq_true rfl⟩, ⟨by show ca + 1 + 0 ≤ 601024; omega, by show sl + 6 + 0 ≤ 7293034; omega⟩⟩) (Nat.le_of_ble_eq_true rfl) (U_playRounds hs hm (xs (i + 1)) (fun r M' => sM M' (z_playRounds S (xs (i + 1))).2.2 ∧ M' 100 0 = nI (z_playRounds S (xs (i + 1))).1 ∧ ((z_playRounds S (xs (i + 1))).1 = 0 → r = (z_playRounds S (xs (i + 1))).2.1)) (fun r M' h1 h2 h3 => ⟨h1, h2, h3⟩)) (fun v Mm1 h => ?_) rfl
  obtain ⟨r, rfl, m1, ht, hrv⟩ := h
  refine x_istore (l' := [(6, .int r), (5, .int (nI (z_playRounds S (xs (i + 1))).1)), (4, .int (nI i)), (3, .ref o), (2, .ref (G.1 100)), (1, .ref (G.1 0)), (0, .ref b)]) dL_law_1545 (by decide) rfl ?_
  refine x_aload_n 4 dL_law_1547 rfl rfl ?_
  refine xl_callM (K := kL_law) (R := room_1) (ca := ca + 1 + 0) (sl := sl + 6 + 0) (o := o) (f := f1) (M := M1) (Mm := Mm1) xN0_m lwX_n (b' := (1, 0, 0)) (As := []) (S := []) dL_law_1548 mX13_thrown lML_97 rfl rfl (by exact ⟨⟨Nat.le_of_ble_eq_true rfl, Nat.le_of_ble_eq_true rfl⟩, ⟨by show ca + 1 + 0 + 0 ≤ 601024; omega, by show sl + 6 + 0 + 0 ≤ 7293034; omega⟩⟩) (Nat.le_of_ble_eq_true rfl) (C_X13_thrown G _ (fun r M' => Mm1 100 0 = r ∧ Mm1 = M') ⟨rfl, rfl⟩) (fun v Mm2 h => ?_) rfl
  obtain ⟨_, rfl, rfl, rfl⟩ := h
  refine x_iload 1 dL_law_1551 rfl ?_
  refine x_icmp_eq (t := 1558) dL_law_1553 (by decide) (fun _ => ?_) (fun q => absurd ht q)
  refine x_iload 1 dL_law_1558 rfl ?_
  have hok : sOk (z_playRounds S (xs (i + 1))).2.2 := zk_playRounds hs (xs (i + 1))
  refine x_if_ne (t := 1575) dL_law_1560 (by decide) (fun q => ?_) (fun q => ?_)
  · refine x_goto (t := 1827) dL_law_1575 (by decide) ?_
    refine Ex.sub (ks := [2, 3, 4, 5, 6]) rfl ?_
    exact Ex.wide (by show ca + 1 + 0 + 0 ≤ ca + 2; omega) (by show sl + 6 + 0 + 0 ≤ sl + 16; omega) (kk f1 M1 Mm1 _ hok c1 m1)
  · have hz0 := zc0 hz3 q
    have e1 := hf hz0
    have e2 := hrv hz0
    refine x_aload_n 3 dL_law_1563 rfl rfl ?_
    refine x_iconst (v := 0) dL_law_1564 rfl ?_
    refine x_lald (q0 := 0) (N := 1) (f := f1) dL_law_1565 rfl (vp_in_nI (n := 0) (by decide) (by decide)) ?_
    rw [show (0 : Int32).toNatClampNeg = 0 from by decide, e1]
    refine x_iload 0 dL_law_1566 rfl ?_
    refine x_i2l dL_law_1568 ?_
    rw [e2]
    refine xl_lcmp dL_law_1569 ?_
    rw [zInt]
    refine x_if_eq (t := 1575) dL_law_1570 (by decide) (fun _ => ?_) (fun q => absurd rfl q)
    refine x_goto (t := 1827) dL_law_1575 (by decide) ?_
    refine Ex.sub (ks := [2, 3, 4, 5, 6]) rfl ?_
    exact Ex.wide (by show ca + 1 + 0 + 0 ≤ ca + 2; omega) (by show sl + 6 + 0 + 0 ≤ sl + 16; omega) (kk f1 M1 Mm1 _ hok c1 m1)
set_option maxHeartbeats 4000000 in
set_option maxRecDepth 100000 in
theorem KL_pointsAfter {b L o : Nat} {xs : Nat → Int32} {G : eG} {f : Nat → Int64} {M Mm : eM} {S : gS} (hs : sOk S) (hc : sC M S) (hm : sM Mm S) {i : Nat} (hi : i + 6 ≤ L) (hL : L ≤ 3072) {ca sl : Nat} (hr : ca + 2 ≤ 601024 ∧ sl + 16 ≤ 7293034)
    (kk : ∀ (f' : Nat → Int64) (M' Mm' : eM) (S' : gS), sOk S' → sC M' S' → sM Mm' S' → lE b L xs G 1827 (lLoc b o G (nI i)) [] (wL G o f' M' Mm') (ca + 2) (sl + 16)) : lE b L xs G 1578 (lLoc b o G (nI i)) [] (wL G o f M Mm) ca sl := by
  refine x_aload_n 3 dL_law_1578 rfl rfl ?_
  refine x_aload_n 4 dL_law_1579 rfl rfl ?_
  refine x_iload 0 dL_law_1580 rfl ?_
  refine x_iconst (v := 1) dL_law_1582 rfl ?_
  refine x_iadd dL_law_1583 ?_
  refine xl_sld (i + 1) dL_law_1584 (nI_p i 1 rfl) (by omega) hL ?_
  refine x_aload_n 1 dL_law_1585 rfl rfl ?_
  obtain ⟨hz, hst⟩ := zc_pointsAfter S (xs (i + 1))
  have hz3 : (z_pointsAfter S (xs (i + 1))).1 = 0 ∨ (z_pointsAfter S (xs (i + 1))).1 = 1 ∨ (z_pointsAfter S (xs (i + 1))).1 = 2 := hz.elim Or.inl (fun h => Or.inr (Or.inl h))
  refine x_callT (K := kL_law) (R := room_1) (ca := ca) (sl := sl) (w := wL G o f M Mm) xN0_m lwX_n (b' := (12, 1, 6)) (As := [.ref (G.1 0), .int (xs (i + 1)), .ref o]) (S := []) dL_law_1586 mtL_pointsAfter lML_202 rfl (by exact ⟨⟨Nat.le_of_ble_eq_true rfl, Nat.le_of_ble_eq_true rfl⟩, ⟨by show ca + 1 ≤ 601024; omega, by show sl + 6 ≤ 7293034; omega⟩⟩) (Nat.le_of_ble_eq_true rfl) (T_pointsAfter hs hc o f (xs (i + 1))) (fun v w' h => ?_) rfl
  obtain ⟨f1, M1, rfl, c1, hf, rfl⟩ := h
  refine x_istore (l' := [(5, .int (nI (z_pointsAfter S (xs (i + 1))).1)), (4, .int (nI i)), (3, .ref o), (2, .ref (G.1 100)), (1, .ref (G.1 0)), (0, .ref b)]) dL_law_1589 (by decide) rfl ?_
  refine x_aload_n 3 dL_law_1591 rfl rfl ?_
  refine x_aload_n 5 dL_law_1592 rfl rfl ?_
  refine x_iload 1 dL_law_1593 rfl ?_
  refine x_iconst (v := 1) dL_law_1595 rfl ?_
  refine x_iadd dL_law_1596 ?_
  refine xl_sld (i + 1) dL_law_1597 (nI_p i 1 rfl) (by omega) hL ?_
  refine xl_callM (K := kL_law) (R := room_1) (ca := ca + 1) (sl := sl + 6) (o := o) (f := f1) (M := M1) (Mm := Mm) xN0_m lwX_n (b' := (11, 0, 0)) (As := [.int (xs (i + 1))]) (S := []) dL_law_1598 mX13_pointsAfter lML_204 rfl rfl (by exact ⟨⟨Nat.le_of_ble_eq_true rfl, Nat.le_of_ble_eq_true rfl⟩, ⟨by show ca + 1 + 0 ≤ 601024; omega, by show sl + 6 + 0 ≤ 7293034; omega⟩⟩) (Nat.le_of_ble_eq_true rfl) (U_pointsAfter hs hm (xs (i + 1)) (fun r M' => sM M' (z_pointsAfter S (xs (i + 1))).2.2 ∧ M' 100 0 = nI (z_pointsAfter S (xs (i + 1))).1 ∧ ((z_pointsAfter S (xs (i + 1))).1 = 0 → r = (z_pointsAfter S (xs (i + 1))).2.1)) (fun r M' h1 h2 h3 => ⟨h1, h2, h3⟩)) (fun v Mm1 h => ?_) rfl
  obtain ⟨r, rfl, m1, ht, hrv⟩ := h
  refine x_istore (l' := [(6, .int r), (5, .int (nI (z_pointsAfter S (xs (i + 1))).1)), (4, .int (nI i)), (3, .ref o), (2, .ref (G.1 100)), (1, .ref (G.1 0)), (0, .ref b)]) dL_law_1601 (by decide) rfl ?_
  refine x_aload_n 4 dL_law_1603 rfl rfl ?_
  refine xl_callM (K := kL_law) (R := room_1) (ca := ca + 1 + 0) (sl := sl + 6 + 0) (o := o) (f := f1) (M := M1) (Mm := Mm1) xN0_m lwX_n (b' := (1, 0, 0)) (As := []) (S := []) dL_law_1604 mX13_thrown lML_97 rfl rfl (by exact ⟨⟨Nat.le_of_ble_eq_true rfl, Nat.le_of_ble_eq_true rfl⟩, ⟨by show ca + 1 + 0 + 0 ≤ 601024; omega, by show sl + 6 + 0 + 0 ≤ 7293034; omega⟩⟩) (Nat.le_of_ble_eq_true rfl) (C_X13_thrown G _ (fun r M' => Mm1 100 0 = r ∧ Mm1 = M') ⟨rfl, rfl⟩) (fun v Mm2 h => ?_) rfl
  obtain ⟨_, rfl, rfl, rfl⟩ := h
  refine x_iload 1 dL_law_1607 rfl ?_
  refine x_icmp_eq (t := 1614) dL_law_1609 (by decide) (fun _ => ?_) (fun q => absurd ht q)
  refine x_iload 1 dL_law_1614 rfl ?_
  have hok : sOk (z_pointsAfter S (xs (i + 1))).2.2 := zk_pointsAfter hs (xs (i + 1))
  refine x_if_ne (t := 1631) dL_law_1616 (by decide) (fun q => ?_) (fun q => ?_)
  · refine x_goto (t := 1827) dL_law_1631 (by decide) ?_
    refine Ex.sub (ks := [2, 3, 4, 5, 6]) rfl ?_
    exact Ex.wide (by show ca + 1 + 0 + 0 ≤ ca + 2; omega) (by show sl + 6 + 0 + 0 ≤ sl + 16; omega) (kk f1 M1 Mm1 _ hok c1 m1)
  · have hz0 := zc0 hz3 q
    have e1 := hf hz0
    have e2 := hrv hz0
    refine x_aload_n 3 dL_law_1619 rfl rfl ?_
    refine x_iconst (v := 0) dL_law_1620 rfl ?_
    refine x_lald (q0 := 0) (N := 1) (f := f1) dL_law_1621 rfl (vp_in_nI (n := 0) (by decide) (by decide)) ?_
    rw [show (0 : Int32).toNatClampNeg = 0 from by decide, e1]
    refine x_iload 0 dL_law_1622 rfl ?_
    refine x_i2l dL_law_1624 ?_
    rw [e2]
    refine xl_lcmp dL_law_1625 ?_
    rw [zInt]
    refine x_if_eq (t := 1631) dL_law_1626 (by decide) (fun _ => ?_) (fun q => absurd rfl q)
    refine x_goto (t := 1827) dL_law_1631 (by decide) ?_
    refine Ex.sub (ks := [2, 3, 4, 5, 6]) rfl ?_
    exact Ex.wide (by show ca + 1 + 0 + 0 ≤ ca + 2; omega) (by show sl + 6 + 0 + 0 ≤ sl + 16; omega) (kk f1 M1 Mm1 _ hok c1 m1)
set_option maxHeartbeats 4000000 in
set_option maxRecDepth 100000 in
theorem KL_roundsUntilRing {b L o : Nat} {xs : Nat → Int32} {G : eG} {f : Nat → Int64} {M Mm : eM} {S : gS} (hs : sOk S) (hc : sC M S) (hm : sM Mm S) {i : Nat} (hi : i + 6 ≤ L) (hL : L ≤ 3072) {ca sl : Nat} (hr : ca + 2 ≤ 601024 ∧ sl + 16 ≤ 7293034)
    (kk : ∀ (f' : Nat → Int64) (M' Mm' : eM) (S' : gS), sOk S' → sC M' S' → sM Mm' S' → lE b L xs G 1827 (lLoc b o G (nI i)) [] (wL G o f' M' Mm') (ca + 2) (sl + 16)) : lE b L xs G 1634 (lLoc b o G (nI i)) [] (wL G o f M Mm) ca sl := by
  refine x_aload_n 3 dL_law_1634 rfl rfl ?_
  refine xl_callC (K := kL_law) (R := room_1) (ca := ca) (sl := sl) (o := o) (f := f) (M := M) (Mm := Mm) xN0_m lwX_n (b' := (8, 0, 0)) (As := []) (S := []) dL_law_1635 mX10_roundsUntilRing lML_205 rfl rfl (by exact ⟨⟨Nat.le_of_ble_eq_true rfl, Nat.le_of_ble_eq_true rfl⟩, ⟨by show ca + 0 ≤ 601024; omega, by show sl + 0 ≤ 7293034; omega⟩⟩) (Nat.le_of_ble_eq_true rfl) (P_until hs hc (fun r M' => z_until S = r ∧ sC M' S) (fun M' h => ⟨rfl, h⟩)) (fun v M1 h => ?_) rfl
  obtain ⟨_, rfl, rfl, c1⟩ := h
  refine x_aload_n 2 dL_law_1638 rfl rfl ?_
  refine xl_callM (K := kL_law) (R := room_1) (ca := ca + 0) (sl := sl + 0) (o := o) (f := f) (M := M1) (Mm := Mm) xN0_m lwX_n (b' := (11, 0, 0)) (As := []) (S := [.int (z_until S)]) dL_law_1639 mX13_roundsUntilRing lML_208 rfl rfl (by exact ⟨⟨Nat.le_of_ble_eq_true rfl, Nat.le_of_ble_eq_true rfl⟩, ⟨by show ca + 0 + 0 ≤ 601024; omega, by show sl + 0 + 0 ≤ 7293034; omega⟩⟩) (Nat.le_of_ble_eq_true rfl) (U_until hs hm (fun r M' => z_until S = r ∧ sM M' S) (fun M' h => ⟨rfl, h⟩)) (fun v Mm1 h => ?_) rfl
  obtain ⟨_, rfl, rfl, m1⟩ := h
  refine x_icmp_eq (t := 1827) dL_law_1642 (by decide) (fun _ => ?_) (fun q => absurd rfl q)
  refine Ex.sub (ks := [0, 1, 2, 3, 4]) rfl ?_
  exact Ex.wide (by show ca + 0 + 0 ≤ ca + 2; omega) (by show sl + 0 + 0 ≤ sl + 16; omega) (kk f M1 Mm1 S hs c1 m1)
set_option maxHeartbeats 4000000 in
set_option maxRecDepth 100000 in
theorem KL_bestCell {b L o : Nat} {xs : Nat → Int32} {G : eG} {f : Nat → Int64} {M Mm : eM} {S : gS} (hs : sOk S) (hc : sC M S) (hm : sM Mm S) {i : Nat} (hi : i + 6 ≤ L) (hL : L ≤ 3072) {ca sl : Nat} (hr : ca + 2 ≤ 601024 ∧ sl + 16 ≤ 7293034)
    (kk : ∀ (f' : Nat → Int64) (M' Mm' : eM) (S' : gS), sOk S' → sC M' S' → sM Mm' S' → lE b L xs G 1827 (lLoc b o G (nI i)) [] (wL G o f' M' Mm') (ca + 2) (sl + 16)) : lE b L xs G 1647 (lLoc b o G (nI i)) [] (wL G o f M Mm) ca sl := by
  refine x_aload_n 3 dL_law_1647 rfl rfl ?_
  refine x_aload_n 4 dL_law_1648 rfl rfl ?_
  refine x_iload 0 dL_law_1649 rfl ?_
  refine x_iconst (v := 1) dL_law_1651 rfl ?_
  refine x_iadd dL_law_1652 ?_
  refine xl_sld (i + 1) dL_law_1653 (nI_p i 1 rfl) (by omega) hL ?_
  refine x_aload_n 1 dL_law_1654 rfl rfl ?_
  obtain ⟨hz, hst⟩ := zc_bestCell S (xs (i + 1))
  have hz3 : (z_bestCell S (xs (i + 1))).1 = 0 ∨ (z_bestCell S (xs (i + 1))).1 = 1 ∨ (z_bestCell S (xs (i + 1))).1 = 2 := hz
  refine x_callT (K := kL_law) (R := room_1) (ca := ca) (sl := sl) (w := wL G o f M Mm) xN0_m lwX_n (b' := (12, 1, 6)) (As := [.ref (G.1 0), .int (xs (i + 1)), .ref o]) (S := []) dL_law_1655 mtL_bestCell lML_209 rfl (by exact ⟨⟨Nat.le_of_ble_eq_true rfl, Nat.le_of_ble_eq_true rfl⟩, ⟨by show ca + 1 ≤ 601024; omega, by show sl + 6 ≤ 7293034; omega⟩⟩) (Nat.le_of_ble_eq_true rfl) (T_bestCell hs hc o f (xs (i + 1))) (fun v w' h => ?_) rfl
  obtain ⟨f1, M1, rfl, c1, hf, rfl⟩ := h
  refine x_istore (l' := [(5, .int (nI (z_bestCell S (xs (i + 1))).1)), (4, .int (nI i)), (3, .ref o), (2, .ref (G.1 100)), (1, .ref (G.1 0)), (0, .ref b)]) dL_law_1658 (by decide) rfl ?_
  refine x_aload_n 3 dL_law_1660 rfl rfl ?_
  refine x_aload_n 5 dL_law_1661 rfl rfl ?_
  refine x_iload 1 dL_law_1662 rfl ?_
  refine x_iconst (v := 1) dL_law_1664 rfl ?_
  refine x_iadd dL_law_1665 ?_
  refine xl_sld (i + 1) dL_law_1666 (nI_p i 1 rfl) (by omega) hL ?_
  refine xl_callM (K := kL_law) (R := room_1) (ca := ca + 1) (sl := sl + 6) (o := o) (f := f1) (M := M1) (Mm := Mm) xN0_m lwX_n (b' := (7, 0, 0)) (As := [.int (xs (i + 1))]) (S := []) dL_law_1667 mX13_bestCell lML_211 rfl rfl (by exact ⟨⟨Nat.le_of_ble_eq_true rfl, Nat.le_of_ble_eq_true rfl⟩, ⟨by show ca + 1 + 0 ≤ 601024; omega, by show sl + 6 + 0 ≤ 7293034; omega⟩⟩) (Nat.le_of_ble_eq_true rfl) (U_bestCell hs hm (xs (i + 1)) (fun r M' => sM M' (z_bestCell S (xs (i + 1))).2.2 ∧ M' 100 0 = nI (z_bestCell S (xs (i + 1))).1 ∧ ((z_bestCell S (xs (i + 1))).1 = 0 → r = (z_bestCell S (xs (i + 1))).2.1)) (fun r M' h1 h2 h3 => ⟨h1, h2, h3⟩)) (fun v Mm1 h => ?_) rfl
  obtain ⟨r, rfl, m1, ht, hrv⟩ := h
  refine x_istore (l' := [(6, .int r), (5, .int (nI (z_bestCell S (xs (i + 1))).1)), (4, .int (nI i)), (3, .ref o), (2, .ref (G.1 100)), (1, .ref (G.1 0)), (0, .ref b)]) dL_law_1670 (by decide) rfl ?_
  refine x_aload_n 4 dL_law_1672 rfl rfl ?_
  refine xl_callM (K := kL_law) (R := room_1) (ca := ca + 1 + 0) (sl := sl + 6 + 0) (o := o) (f := f1) (M := M1) (Mm := Mm1) xN0_m lwX_n (b' := (1, 0, 0)) (As := []) (S := []) dL_law_1673 mX13_thrown lML_97 rfl rfl (by exact ⟨⟨Nat.le_of_ble_eq_true rfl, Nat.le_of_ble_eq_true rfl⟩, ⟨by show ca + 1 + 0 + 0 ≤ 601024; omega, by show sl + 6 + 0 + 0 ≤ 7293034; omega⟩⟩) (Nat.le_of_ble_eq_true rfl) (C_X13_thrown G _ (fun r M' => Mm1 100 0 = r ∧ Mm1 = M') ⟨rfl, rfl⟩) (fun v Mm2 h => ?_) rfl
  obtain ⟨_, rfl, rfl, rfl⟩ := h
  refine x_iload 1 dL_law_1676 rfl ?_
  refine x_icmp_eq (t := 1683) dL_law_1678 (by decide) (fun _ => ?_) (fun q => absurd ht q)
  refine x_iload 1 dL_law_1683 rfl ?_
  have hok : sOk (z_bestCell S (xs (i + 1))).2.2 := zk_bestCell hs (xs (i + 1))
  refine x_if_ne (t := 1700) dL_law_1685 (by decide) (fun q => ?_) (fun q => ?_)
  · refine x_goto (t := 1827) dL_law_1700 (by decide) ?_
    refine Ex.sub (ks := [2, 3, 4, 5, 6]) rfl ?_
    exact Ex.wide (by show ca + 1 + 0 + 0 ≤ ca + 2; omega) (by show sl + 6 + 0 + 0 ≤ sl + 16; omega) (kk f1 M1 Mm1 _ hok c1 m1)
  · have hz0 := zc0 hz3 q
    have e1 := hf hz0
    have e2 := hrv hz0
    refine x_aload_n 3 dL_law_1688 rfl rfl ?_
    refine x_iconst (v := 0) dL_law_1689 rfl ?_
    refine x_lald (q0 := 0) (N := 1) (f := f1) dL_law_1690 rfl (vp_in_nI (n := 0) (by decide) (by decide)) ?_
    rw [show (0 : Int32).toNatClampNeg = 0 from by decide, e1]
    refine x_iload 0 dL_law_1691 rfl ?_
    refine x_i2l dL_law_1693 ?_
    rw [e2]
    refine xl_lcmp dL_law_1694 ?_
    rw [zInt]
    refine x_if_eq (t := 1700) dL_law_1695 (by decide) (fun _ => ?_) (fun q => absurd rfl q)
    refine x_goto (t := 1827) dL_law_1700 (by decide) ?_
    refine Ex.sub (ks := [2, 3, 4, 5, 6]) rfl ?_
    exact Ex.wide (by show ca + 1 + 0 + 0 ≤ ca + 2; omega) (by show sl + 6 + 0 + 0 ≤ sl + 16; omega) (kk f1 M1 Mm1 _ hok c1 m1)
set_option maxHeartbeats 4000000 in
set_option maxRecDepth 100000 in
theorem KL_bestTurn {b L o : Nat} {xs : Nat → Int32} {G : eG} {f : Nat → Int64} {M Mm : eM} {S : gS} (hs : sOk S) (hc : sC M S) (hm : sM Mm S) {i : Nat} (hi : i + 6 ≤ L) (hL : L ≤ 3072) {ca sl : Nat} (hr : ca + 2 ≤ 601024 ∧ sl + 16 ≤ 7293034)
    (kk : ∀ (f' : Nat → Int64) (M' Mm' : eM) (S' : gS), sOk S' → sC M' S' → sM Mm' S' → lE b L xs G 1827 (lLoc b o G (nI i)) [] (wL G o f' M' Mm') (ca + 2) (sl + 16)) : lE b L xs G 1703 (lLoc b o G (nI i)) [] (wL G o f M Mm) ca sl := by
  refine x_aload_n 3 dL_law_1703 rfl rfl ?_
  refine x_aload_n 4 dL_law_1704 rfl rfl ?_
  refine x_iload 0 dL_law_1705 rfl ?_
  refine x_iconst (v := 1) dL_law_1707 rfl ?_
  refine x_iadd dL_law_1708 ?_
  refine xl_sld (i + 1) dL_law_1709 (nI_p i 1 rfl) (by omega) hL ?_
  refine x_aload_n 1 dL_law_1710 rfl rfl ?_
  obtain ⟨hz, hst⟩ := zc_bestTurn S (xs (i + 1))
  have hz3 : (z_bestTurn S (xs (i + 1))).1 = 0 ∨ (z_bestTurn S (xs (i + 1))).1 = 1 ∨ (z_bestTurn S (xs (i + 1))).1 = 2 := hz
  refine x_callT (K := kL_law) (R := room_1) (ca := ca) (sl := sl) (w := wL G o f M Mm) xN0_m lwX_n (b' := (12, 1, 6)) (As := [.ref (G.1 0), .int (xs (i + 1)), .ref o]) (S := []) dL_law_1711 mtL_bestTurn lML_212 rfl (by exact ⟨⟨Nat.le_of_ble_eq_true rfl, Nat.le_of_ble_eq_true rfl⟩, ⟨by show ca + 1 ≤ 601024; omega, by show sl + 6 ≤ 7293034; omega⟩⟩) (Nat.le_of_ble_eq_true rfl) (T_bestTurn hs hc o f (xs (i + 1))) (fun v w' h => ?_) rfl
  obtain ⟨f1, M1, rfl, c1, hf, rfl⟩ := h
  refine x_istore (l' := [(5, .int (nI (z_bestTurn S (xs (i + 1))).1)), (4, .int (nI i)), (3, .ref o), (2, .ref (G.1 100)), (1, .ref (G.1 0)), (0, .ref b)]) dL_law_1714 (by decide) rfl ?_
  refine x_aload_n 3 dL_law_1716 rfl rfl ?_
  refine x_aload_n 5 dL_law_1717 rfl rfl ?_
  refine x_iload 1 dL_law_1718 rfl ?_
  refine x_iconst (v := 1) dL_law_1720 rfl ?_
  refine x_iadd dL_law_1721 ?_
  refine xl_sld (i + 1) dL_law_1722 (nI_p i 1 rfl) (by omega) hL ?_
  refine xl_callM (K := kL_law) (R := room_1) (ca := ca + 1) (sl := sl + 6) (o := o) (f := f1) (M := M1) (Mm := Mm) xN0_m lwX_n (b' := (7, 0, 0)) (As := [.int (xs (i + 1))]) (S := []) dL_law_1723 mX13_bestTurn lML_214 rfl rfl (by exact ⟨⟨Nat.le_of_ble_eq_true rfl, Nat.le_of_ble_eq_true rfl⟩, ⟨by show ca + 1 + 0 ≤ 601024; omega, by show sl + 6 + 0 ≤ 7293034; omega⟩⟩) (Nat.le_of_ble_eq_true rfl) (U_bestTurn hs hm (xs (i + 1)) (fun r M' => sM M' (z_bestTurn S (xs (i + 1))).2.2 ∧ M' 100 0 = nI (z_bestTurn S (xs (i + 1))).1 ∧ ((z_bestTurn S (xs (i + 1))).1 = 0 → r = (z_bestTurn S (xs (i + 1))).2.1)) (fun r M' h1 h2 h3 => ⟨h1, h2, h3⟩)) (fun v Mm1 h => ?_) rfl
  obtain ⟨r, rfl, m1, ht, hrv⟩ := h
  refine x_istore (l' := [(6, .int r), (5, .int (nI (z_bestTurn S (xs (i + 1))).1)), (4, .int (nI i)), (3, .ref o), (2, .ref (G.1 100)), (1, .ref (G.1 0)), (0, .ref b)]) dL_law_1726 (by decide) rfl ?_
  refine x_aload_n 4 dL_law_1728 rfl rfl ?_
  refine xl_callM (K := kL_law) (R := room_1) (ca := ca + 1 + 0) (sl := sl + 6 + 0) (o := o) (f := f1) (M := M1) (Mm := Mm1) xN0_m lwX_n (b' := (1, 0, 0)) (As := []) (S := []) dL_law_1729 mX13_thrown lML_97 rfl rfl (by exact ⟨⟨Nat.le_of_ble_eq_true rfl, Nat.le_of_ble_eq_true rfl⟩, ⟨by show ca + 1 + 0 + 0 ≤ 601024; omega, by show sl + 6 + 0 + 0 ≤ 7293034; omega⟩⟩) (Nat.le_of_ble_eq_true rfl) (C_X13_thrown G _ (fun r M' => Mm1 100 0 = r ∧ Mm1 = M') ⟨rfl, rfl⟩) (fun v Mm2 h => ?_) rfl
  obtain ⟨_, rfl, rfl, rfl⟩ := h
  refine x_iload 1 dL_law_1732 rfl ?_
  refine x_icmp_eq (t := 1739) dL_law_1734 (by decide) (fun _ => ?_) (fun q => absurd ht q)
  refine x_iload 1 dL_law_1739 rfl ?_
  have hok : sOk (z_bestTurn S (xs (i + 1))).2.2 := zk_bestTurn hs (xs (i + 1))
  refine x_if_ne (t := 1756) dL_law_1741 (by decide) (fun q => ?_) (fun q => ?_)
  · refine x_goto (t := 1827) dL_law_1756 (by decide) ?_
    refine Ex.sub (ks := [2, 3, 4, 5, 6]) rfl ?_
    exact Ex.wide (by show ca + 1 + 0 + 0 ≤ ca + 2; omega) (by show sl + 6 + 0 + 0 ≤ sl + 16; omega) (kk f1 M1 Mm1 _ hok c1 m1)
  · have hz0 := zc0 hz3 q
    have e1 := hf hz0
    have e2 := hrv hz0
    refine x_aload_n 3 dL_law_1744 rfl rfl ?_
    refine x_iconst (v := 0) dL_law_1745 rfl ?_
    refine x_lald (q0 := 0) (N := 1) (f := f1) dL_law_1746 rfl (vp_in_nI (n := 0) (by decide) (by decide)) ?_
    rw [show (0 : Int32).toNatClampNeg = 0 from by decide, e1]
    refine x_iload 0 dL_law_1747 rfl ?_
    refine x_i2l dL_law_1749 ?_
    rw [e2]
    refine xl_lcmp dL_law_1750 ?_
    rw [zInt]
    refine x_if_eq (t := 1756) dL_law_1751 (by decide) (fun _ => ?_) (fun q => absurd rfl q)
    refine x_goto (t := 1827) dL_law_1756 (by decide) ?_
    refine Ex.sub (ks := [2, 3, 4, 5, 6]) rfl ?_
    exact Ex.wide (by show ca + 1 + 0 + 0 ≤ ca + 2; omega) (by show sl + 6 + 0 + 0 ≤ sl + 16; omega) (kk f1 M1 Mm1 _ hok c1 m1)
set_option maxHeartbeats 4000000 in
set_option maxRecDepth 100000 in
theorem KL_bestTile {b L o : Nat} {xs : Nat → Int32} {G : eG} {f : Nat → Int64} {M Mm : eM} {S : gS} (hs : sOk S) (hc : sC M S) (hm : sM Mm S) {i : Nat} (hi : i + 6 ≤ L) (hL : L ≤ 3072) {ca sl : Nat} (hr : ca + 2 ≤ 601024 ∧ sl + 16 ≤ 7293034)
    (kk : ∀ (f' : Nat → Int64) (M' Mm' : eM) (S' : gS), sOk S' → sC M' S' → sM Mm' S' → lE b L xs G 1827 (lLoc b o G (nI i)) [] (wL G o f' M' Mm') (ca + 2) (sl + 16)) : lE b L xs G 1759 (lLoc b o G (nI i)) [] (wL G o f M Mm) ca sl := by
  refine x_aload_n 3 dL_law_1759 rfl rfl ?_
  refine xl_callC (K := kL_law) (R := room_1) (ca := ca) (sl := sl) (o := o) (f := f) (M := M) (Mm := Mm) xN0_m lwX_n (b' := (5, 0, 0)) (As := []) (S := []) dL_law_1760 mX10_bestTile lML_215 rfl rfl (by exact ⟨⟨Nat.le_of_ble_eq_true rfl, Nat.le_of_ble_eq_true rfl⟩, ⟨by show ca + 0 ≤ 601024; omega, by show sl + 0 ≤ 7293034; omega⟩⟩) (Nat.le_of_ble_eq_true rfl) (P_bestTile hs hc (fun r M' => eO (bBestT (gB S)) = r ∧ sC M' S) (fun M' h => ⟨rfl, h⟩)) (fun v M1 h => ?_) rfl
  obtain ⟨_, rfl, rfl, c1⟩ := h
  refine x_aload_n 2 dL_law_1763 rfl rfl ?_
  refine xl_callM (K := kL_law) (R := room_1) (ca := ca + 0) (sl := sl + 0) (o := o) (f := f) (M := M1) (Mm := Mm) xN0_m lwX_n (b' := (8, 0, 0)) (As := []) (S := [.int (eO (bBestT (gB S)))]) dL_law_1764 mX13_bestTile lML_218 rfl rfl (by exact ⟨⟨Nat.le_of_ble_eq_true rfl, Nat.le_of_ble_eq_true rfl⟩, ⟨by show ca + 0 + 0 ≤ 601024; omega, by show sl + 0 + 0 ≤ 7293034; omega⟩⟩) (Nat.le_of_ble_eq_true rfl) (U_bestTile hs hm (fun r M' => eO (bBestT (gB S)) = r ∧ sM M' S) (fun M' h => ⟨rfl, h⟩)) (fun v Mm1 h => ?_) rfl
  obtain ⟨_, rfl, rfl, m1⟩ := h
  refine x_icmp_eq (t := 1827) dL_law_1767 (by decide) (fun _ => ?_) (fun q => absurd rfl q)
  refine Ex.sub (ks := [0, 1, 2, 3, 4]) rfl ?_
  exact Ex.wide (by show ca + 0 + 0 ≤ ca + 2; omega) (by show sl + 0 + 0 ≤ sl + 16; omega) (kk f M1 Mm1 S hs c1 m1)
set_option maxHeartbeats 4000000 in
set_option maxRecDepth 100000 in
theorem KL_meanMatch {b L o : Nat} {xs : Nat → Int32} {G : eG} {f : Nat → Int64} {M Mm : eM} {S : gS} (hs : sOk S) (hc : sC M S) (hm : sM Mm S) {i : Nat} (hi : i + 6 ≤ L) (hL : L ≤ 3072) {ca sl : Nat} (hr : ca + 2 ≤ 601024 ∧ sl + 16 ≤ 7293034)
    (kk : ∀ (f' : Nat → Int64) (M' Mm' : eM) (S' : gS), sOk S' → sC M' S' → sM Mm' S' → lE b L xs G 1827 (lLoc b o G (nI i)) [] (wL G o f' M' Mm') (ca + 2) (sl + 16)) : lE b L xs G 1772 (lLoc b o G (nI i)) [] (wL G o f M Mm) ca sl := by
  refine x_aload_n 3 dL_law_1772 rfl rfl ?_
  refine xl_callC (K := kL_law) (R := room_1) (ca := ca) (sl := sl) (o := o) (f := f) (M := M) (Mm := Mm) xN0_m lwX_n (b' := (3, 0, 0)) (As := []) (S := []) dL_law_1773 mX10_meanMatch lML_219 rfl rfl (by exact ⟨⟨Nat.le_of_ble_eq_true rfl, Nat.le_of_ble_eq_true rfl⟩, ⟨by show ca + 0 ≤ 601024; omega, by show sl + 0 ≤ 7293034; omega⟩⟩) (Nat.le_of_ble_eq_true rfl) (P_meanMatch hs hc (fun r M' => z_mean S = r ∧ sC M' S) (fun M' h => ⟨rfl, h⟩)) (fun v M1 h => ?_) rfl
  obtain ⟨_, rfl, rfl, c1⟩ := h
  refine x_dstore (l' := [(5, .double (z_mean S)), (4, .int (nI i)), (3, .ref o), (2, .ref (G.1 100)), (1, .ref (G.1 0)), (0, .ref b)]) dL_law_1776 (by decide) rfl ?_
  refine x_aload_n 3 dL_law_1778 rfl rfl ?_
  refine xl_callM (K := kL_law) (R := room_1) (ca := ca + 0) (sl := sl + 0) (o := o) (f := f) (M := M1) (Mm := Mm) xN0_m lwX_n (b' := (6, 0, 0)) (As := []) (S := []) dL_law_1779 mX13_meanMatch lML_223 rfl rfl (by exact ⟨⟨Nat.le_of_ble_eq_true rfl, Nat.le_of_ble_eq_true rfl⟩, ⟨by show ca + 0 + 0 ≤ 601024; omega, by show sl + 0 + 0 ≤ 7293034; omega⟩⟩) (Nat.le_of_ble_eq_true rfl) (U_meanMatch hs hm (fun r M' => z_mean S = r ∧ sM M' S) (fun M' h => ⟨rfl, h⟩)) (fun v Mm1 h => ?_) rfl
  obtain ⟨_, rfl, rfl, m1⟩ := h
  refine x_dstore (l' := [(7, .double (z_mean S)), (5, .double (z_mean S)), (4, .int (nI i)), (3, .ref o), (2, .ref (G.1 100)), (1, .ref (G.1 0)), (0, .ref b)]) dL_law_1782 (by decide) rfl ?_
  refine x_dload 1 dL_law_1784 rfl ?_
  refine x_dload 0 dL_law_1786 rfl ?_
  refine xl_dcmp dL_law_1788 ?_
  refine x_if_eq (t := 1810) dL_law_1789 (by decide) (fun _ => ?_) (fun q => ?_)
  · refine x_goto (t := 1827) dL_law_1810 (by decide) ?_
    refine Ex.sub (ks := [2, 3, 4, 5, 6]) rfl ?_
    exact Ex.wide (by show ca + 0 + 0 ≤ ca + 2; omega) (by show sl + 0 + 0 ≤ sl + 16; omega) (kk f M1 Mm1 S hs c1 m1)
  · refine x_dload 1 dL_law_1792 rfl ?_
    refine x_dload 1 dL_law_1794 rfl ?_
    refine xl_dcmp dL_law_1796 ?_
    refine x_if_eq (t := 1808) dL_law_1797 (by decide) (fun q2 => absurd q2 q) (fun _ => ?_)
    refine x_dload 0 dL_law_1800 rfl ?_
    refine x_dload 0 dL_law_1802 rfl ?_
    refine xl_dcmp dL_law_1804 ?_
    refine x_if_ne (t := 1810) dL_law_1805 (by decide) (fun _ => ?_) (fun q2 => absurd q2 q)
    refine x_goto (t := 1827) dL_law_1810 (by decide) ?_
    refine Ex.sub (ks := [2, 3, 4, 5, 6]) rfl ?_
    exact Ex.wide (by show ca + 0 + 0 ≤ ca + 2; omega) (by show sl + 0 + 0 ≤ sl + 16; omega) (kk f M1 Mm1 S hs c1 m1)
set_option maxHeartbeats 4000000 in
set_option maxRecDepth 100000 in
theorem KL_digest {b L o : Nat} {xs : Nat → Int32} {G : eG} {f : Nat → Int64} {M Mm : eM} {S : gS} (hs : sOk S) (hc : sC M S) (hm : sM Mm S) {i : Nat} (hi : i + 6 ≤ L) (hL : L ≤ 3072) {ca sl : Nat} (hr : ca + 2 ≤ 601024 ∧ sl + 16 ≤ 7293034)
    (kk : ∀ (f' : Nat → Int64) (M' Mm' : eM) (S' : gS), sOk S' → sC M' S' → sM Mm' S' → lE b L xs G 1827 (lLoc b o G (nI i)) [] (wL G o f' M' Mm') (ca + 2) (sl + 16)) : lE b L xs G 1813 (lLoc b o G (nI i)) [] (wL G o f M Mm) ca sl := by
  refine x_aload_n 3 dL_law_1813 rfl rfl ?_
  refine xl_callC (K := kL_law) (R := room_1) (ca := ca) (sl := sl) (o := o) (f := f) (M := M) (Mm := Mm) xN0_m lwX_n (b' := (6, 0, 0)) (As := []) (S := []) dL_law_1814 mX10_digest lML_224 rfl rfl (by exact ⟨⟨Nat.le_of_ble_eq_true rfl, Nat.le_of_ble_eq_true rfl⟩, ⟨by show ca + 0 ≤ 601024; omega, by show sl + 0 ≤ 7293034; omega⟩⟩) (Nat.le_of_ble_eq_true rfl) (P_digest hs hc (fun r M' => z_digest S = r ∧ sC M' S) (fun M' h => ⟨rfl, h⟩)) (fun v M1 h => ?_) rfl
  obtain ⟨_, rfl, rfl, c1⟩ := h
  refine x_aload_n 2 dL_law_1817 rfl rfl ?_
  refine xl_callM (K := kL_law) (R := room_1) (ca := ca + 0) (sl := sl + 0) (o := o) (f := f) (M := M1) (Mm := Mm) xN0_m lwX_n (b' := (9, 1, 10)) (As := []) (S := [.long (z_digest S)]) dL_law_1818 mX13_digest lML_228 rfl rfl (by exact ⟨⟨Nat.le_of_ble_eq_true rfl, Nat.le_of_ble_eq_true rfl⟩, ⟨by show ca + 0 + 1 ≤ 601024; omega, by show sl + 0 + 10 ≤ 7293034; omega⟩⟩) (Nat.le_of_ble_eq_true rfl) (U_digest hs hm (fun r M' => z_digest S = r ∧ sM M' S) (fun M' h => ⟨rfl, h⟩)) (fun v Mm1 h => ?_) rfl
  obtain ⟨_, rfl, rfl, m1⟩ := h
  refine xl_lcmp dL_law_1821 ?_
  refine x_if_eq (t := 1827) dL_law_1822 (by decide) (fun _ => ?_) (fun q => absurd (zInt _) q)
  refine Ex.sub (ks := [0, 1, 2, 3, 4]) rfl ?_
  exact Ex.wide (by show ca + 0 + 1 ≤ ca + 2; omega) (by show sl + 0 + 10 ≤ sl + 16; omega) (kk f M1 Mm1 S hs c1 m1)
