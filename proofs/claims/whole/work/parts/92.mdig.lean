/-! ===== the model's digest ===== -/
abbrev dgX : xX := fun s meth _ _ => meth.name = (kY kX13_digest).name ∧ xTrue s
abbrev dgZ (G : eG) (F : Int64 → eM → Prop) : eZt := xZ G 1 10 (fun v w' => ∃ M', eFL F v M' ∧ w' = eW G 100 40 M')
def dgF (v0 v1 v2 v3 v4 v5 v6 v7 v8 v9 : Int32) : Nat → Int32 := fun j => if j = 9 then v9 else if j = 8 then v8 else if j = 7 then v7 else if j = 6 then v6 else if j = 5 then v5 else if j = 4 then v4 else if j = 3 then v3 else if j = 2 then v2 else if j = 1 then v1 else if j = 0 then v0 else 0
theorem dgF_eq (v0 v1 v2 v3 v4 v5 v6 v7 v8 v9 : Int32) : upd (upd (upd (upd (upd (upd (upd (upd (upd (upd (fun _ => 0) (0 : Int32).toNatClampNeg v0) (1 : Int32).toNatClampNeg v1) (2 : Int32).toNatClampNeg v2) (3 : Int32).toNatClampNeg v3) (4 : Int32).toNatClampNeg v4) (5 : Int32).toNatClampNeg v5) (6 : Int32).toNatClampNeg v6) (7 : Int32).toNatClampNeg v7) (8 : Int32).toNatClampNeg v8) (9 : Int32).toNatClampNeg v9 = dgF v0 v1 v2 v3 v4 v5 v6 v7 v8 v9 := by
  rw [show (0 : Int32).toNatClampNeg = 0 from by decide, show (1 : Int32).toNatClampNeg = 1 from by decide, show (2 : Int32).toNatClampNeg = 2 from by decide, show (3 : Int32).toNatClampNeg = 3 from by decide, show (4 : Int32).toNatClampNeg = 4 from by decide, show (5 : Int32).toNatClampNeg = 5 from by decide, show (6 : Int32).toNatClampNeg = 6 from by decide, show (7 : Int32).toNatClampNeg = 7 from by decide, show (8 : Int32).toNatClampNeg = 8 from by decide, show (9 : Int32).toNatClampNeg = 9 from by decide]
  rfl
section Digest
variable {G : eG}
theorem Dg_step (F : Int64 → eM → Prop) {M : eM} {q : Nat} {f : Nat → Int32} {k : Nat} {v : Int32} (hk : k < 10) (hv : f k = v) (d : Int64)
    (kk : Ex dgX (dgZ G F) G (eR (9, 1, 10)) kX13_digest 121 [(6, .int (nI (k + 1))), (2, .long ((d * 31) + v.toInt64)), (5, .int 10), (4, .ref q), (0, .ref (G.1 100))] [] (xQW G M q 10 f) 1 10) :
    Ex dgX (dgZ G F) G (eR (9, 1, 10)) kX13_digest 121 [(6, .int (nI k)), (2, .long d), (5, .int 10), (4, .ref q), (0, .ref (G.1 100))] [] (xQW G M q 10 f) 1 10 := by
  refine x_iload 0 dX13_digest_121 rfl ?_
  refine x_iload 2 dX13_digest_123 rfl ?_
  refine x_icmp_ge (t := 151) dX13_digest_125 (by decide) (fun z => absurd z (nI_ge (b := 10) hk (by decide))) (fun _ => ?_)
  refine x_aload 3 dX13_digest_128 rfl ?_
  refine x_iload 0 dX13_digest_130 rfl ?_
  refine x_iald (q0 := 40) (N := 10) (f := f) dX13_digest_132 (xe_end _ _) ?_ ?_
  · exact vp_in_nI hk (by decide)
  rw [nI_clamp (show k < 2 ^ 31 by omega), hv]
  refine x_istore (l' := [(7, .int v), (6, .int (nI k)), (2, .long d), (5, .int 10), (4, .ref q), (0, .ref (G.1 100))]) dX13_digest_133 (by decide) rfl ?_
  refine x_lload_n 2 dX13_digest_135 rfl rfl ?_
  refine x_ldc2 dX13_digest_136 lCX13_426 ?_
  refine x_lmul dX13_digest_139 ?_
  refine x_iload 0 dX13_digest_140 rfl ?_
  refine x_i2l dX13_digest_142 ?_
  refine x_ladd dX13_digest_143 ?_
  refine x_lstore_n (l' := [(2, .long ((d * 31) + v.toInt64)), (7, .int v), (6, .int (nI k)), (5, .int 10), (4, .ref q), (0, .ref (G.1 100))]) dX13_digest_144 rfl (by decide) rfl ?_
  refine x_iinc (v := nI (k + 1)) (l' := [(6, .int (nI (k + 1))), (2, .long ((d * 31) + v.toInt64)), (7, .int v), (5, .int 10), (4, .ref q), (0, .ref (G.1 100))]) 2 dX13_digest_145 rfl (by rw [nI_succ]; rfl) (by decide) rfl ?_
  refine x_goto (t := 121) dX13_digest_148 (by decide) ?_
  refine Ex.sub (ks := [0, 1, 3, 4, 5]) rfl ?_
  exact kk
set_option maxHeartbeats 4000000 in
theorem V_dt (F : Int64 → eM → Prop) {S : gS} (hs : sOk S) {M : eM} (hm : sM M S) : ∀ (n k : Nat) (d : Int64), k + n = bN (gB S) → (∀ M', sM M' S → F (zDt (gB S) n k d) M') → Ex dgX (dgZ G F) G (eR (9, 1, 10)) kX13_digest 226 [(4, .int (nI k)), (2, .long d), (0, .ref (G.1 100))] [] (eW G 100 40 M ++ []) 1 10
  | 0, k, d, hk, hF => by
    have hk' : k = bN (gB S) := hk
    have hB := hm.2.2.2.2.1
    refine x_iload 0 dX13_digest_226 rfl ?_
    refine x_aload_n 2 dX13_digest_228 rfl rfl ?_
    refine xe_getR (c := 100) (k := 14) 107 dX13_digest_229 clX13 lFX13_35 (by decide) iM100 sC100 rfl ?_
    refine xe_getNI (c := 107) (k := 2) dX13_digest_232 clX12 lFX13_150 rfl (by decide) iM107 sC107 rfl ?_
    refine x_icmp_ge (t := 316) dX13_digest_235 (by decide) (fun _ => ?_) (fun z => absurd (by rw [hB.1.2.2, hk']; exact Int32.le_refl _) z)
    refine x_aload_n 2 dX13_digest_316 rfl rfl ?_
    refine x_iconst (v := 0) dX13_digest_317 rfl ?_
    refine xe_putI (c := 100) (k := 0) dX13_digest_318 clX13 lFX13_65 (by decide) iM100 sC100 rfl rfl rfl ?_
    refine x_lload_n 1 dX13_digest_321 rfl rfl ?_
    refine Ex.ww (List.append_nil _) ?_
    exact x_lret dX13_digest_322 rfl (Nat.le_of_ble_eq_true rfl) (Nat.le_of_ble_eq_true rfl) ⟨_, ⟨_, rfl, hF _ (hm.th 0)⟩, rfl⟩
  | n + 1, k, d, hk, hF => by
    have hb := hs.2.2.1.1
    have hB := hm.2.2.2.2.1
    have h16 := hb.2.2.1
    have h49 := hb.c49
    have hkN : k < bN (gB S) := by omega
    have next : ∀ v l : Int32, v = (if (bCe (gB S) k).isSome then nI (bTr (gB S) k) else -1) → l = (if bLeft (gB S) k then (1 : Int32) else 0) → Ex dgX (dgZ G F) G (eR (9, 1, 10)) kX13_digest 226 [(4, .int (nI (k + 1))), (2, .long ((((((d * 31) + v.toInt64) * 31) + (nI (bWays (gB S) k)).toInt64) * 31) + l.toInt64)), (0, .ref (G.1 100))] [] (eW G 100 40 M ++ []) 1 10 := by
      intro v l hv hl
      subst hv hl
      exact Ex.sub (ks := [0, 1, 2]) rfl (V_dt F hs hm n (k + 1) _ (by omega) hF)
    refine x_iload 0 dX13_digest_226 rfl ?_
    refine x_aload_n 2 dX13_digest_228 rfl rfl ?_
    refine xe_getR (c := 100) (k := 14) 107 dX13_digest_229 clX13 lFX13_35 (by decide) iM100 sC100 rfl ?_
    refine xe_getNI (c := 107) (k := 2) dX13_digest_232 clX12 lFX13_150 rfl (by decide) iM107 sC107 rfl ?_
    refine x_icmp_ge (t := 316) dX13_digest_235 (by decide) (fun z => absurd (by rw [hB.1.2.2] at z; exact z) (nI_ge hkN (by omega))) (fun _ => ?_)
    refine x_lload_n 1 dX13_digest_238 rfl rfl ?_
    refine x_ldc2 dX13_digest_239 lCX13_426 ?_
    refine x_lmul dX13_digest_242 ?_
    refine x_aload_n 2 dX13_digest_243 rfl rfl ?_
    refine xe_getR (c := 100) (k := 17) 130 dX13_digest_244 clX13 lFX13_48 (by decide) iM100 sC100 rfl ?_
    refine xe_getNR (c := 130) (k := 1) 132 dX13_digest_247 clX11 lFX13_293 rfl (by decide) iM130 sC130 rfl ?_
    refine x_iload 0 dX13_digest_250 rfl ?_
    refine xe_iald (c := 132) (N := 16) dX13_digest_252 iM132 sC132 ?_ ?_
    · exact vp_in_nI (by omega) (by decide)
    rw [nI_clamp (show k < 2 ^ 31 by omega), hB.2.2.2.1 k hkN]
    refine x_iconst (v := (-1)) dX13_digest_253 rfl ?_
    cases h1 : bCe (gB S) k with
    | none =>
      rw [h1] at next
      refine x_icmp_ne (t := 261) dX13_digest_254 (by decide) (fun z => absurd rfl z) (fun _ => ?_)
      refine x_iconst (v := (-1)) dX13_digest_257 rfl ?_
      refine x_goto (t := 271) dX13_digest_258 (by decide) ?_
      refine x_i2l dX13_digest_271 ?_
      refine x_ladd dX13_digest_272 ?_
      refine x_ldc2 dX13_digest_273 lCX13_426 ?_
      refine x_lmul dX13_digest_276 ?_
      refine x_aload_n 2 dX13_digest_277 rfl rfl ?_
      refine x_aload_n 2 dX13_digest_278 rfl rfl ?_
      refine xe_getR (c := 100) (k := 17) 130 dX13_digest_279 clX13 lFX13_48 (by decide) iM100 sC100 rfl ?_
      refine x_iload 0 dX13_digest_282 rfl ?_
      refine xe_callV (K := kX13_digest) (R := eR (9, 1, 10)) (ca := 1) (sl := 10) (lo := 100) (n := 40) (M := M) (Rr := []) xTrue_m xX0 (b' := (6, 0, 0)) (c := 100) (As := [.ref (G.1 130), .int (nI k)]) (S := [.long (((d * 31) + ((-1 : Int32).toInt64)) * 31)]) dX13_digest_284 mX13_ways lMX13_352 clX13 rfl iM100 sC100 rfl (by exact ⟨⟨Nat.le_of_ble_eq_true rfl, Nat.le_of_ble_eq_true rfl⟩, ⟨Nat.le_of_ble_eq_true rfl, Nat.le_of_ble_eq_true rfl⟩⟩) (Nat.le_of_ble_eq_true rfl) (S_ways_130 G hb hB (fun r M' => nI (bWays (gB S) k) = r ∧ M = M') hkN ⟨rfl, rfl⟩) (fun v M' h => ?_) rfl
      obtain ⟨_, rfl, rfl, rfl⟩ := h
      refine x_i2l dX13_digest_287 ?_
      refine x_ladd dX13_digest_288 ?_
      refine x_ldc2 dX13_digest_289 lCX13_426 ?_
      refine x_lmul dX13_digest_292 ?_
      refine x_aload_n 2 dX13_digest_293 rfl rfl ?_
      refine x_iload 0 dX13_digest_294 rfl ?_
      refine xe_callV (K := kX13_digest) (R := eR (9, 1, 10)) (ca := 1) (sl := 10) (lo := 100) (n := 40) (M := M) (Rr := []) xTrue_m xX0 (b' := (7, 0, 0)) (c := 100) (As := [.int (nI k)]) (S := [.long (((((d * 31) + ((-1 : Int32).toInt64)) * 31) + ((nI (bWays (gB S) k)).toInt64)) * 31)]) dX13_digest_296 mX13_leftover lMX13_409 clX13 rfl iM100 sC100 rfl (by exact ⟨⟨Nat.le_of_ble_eq_true rfl, Nat.le_of_ble_eq_true rfl⟩, ⟨Nat.le_of_ble_eq_true rfl, Nat.le_of_ble_eq_true rfl⟩⟩) (Nat.le_of_ble_eq_true rfl) (D_left hb hB hkN (fun r M' => bLeft (gB S) k = r ∧ M = M') ⟨rfl, rfl⟩) (fun v M' h => ?_) rfl
      obtain ⟨_, rfl, rfl, rfl⟩ := h
      refine x_zif_eq (t := 306) dX13_digest_299 (by decide) (fun zz => ?_) (fun zz => ?_)
      · refine x_iconst (v := 0) dX13_digest_306 rfl ?_
        refine x_i2l dX13_digest_307 ?_
        refine x_ladd dX13_digest_308 ?_
        refine x_lstore_n (l' := [(2, .long ((((((d * 31) + ((-1 : Int32).toInt64)) * 31) + ((nI (bWays (gB S) k)).toInt64)) * 31) + ((0 : Int32).toInt64))), (4, .int (nI k)), (0, .ref (G.1 100))]) dX13_digest_309 rfl (by decide) rfl ?_
        refine x_iinc (v := nI (k + 1)) (l' := [(4, .int (nI (k + 1))), (2, .long ((((((d * 31) + ((-1 : Int32).toInt64)) * 31) + ((nI (bWays (gB S) k)).toInt64)) * 31) + ((0 : Int32).toInt64))), (0, .ref (G.1 100))]) 1 dX13_digest_310 rfl (by rw [nI_succ]; rfl) (by decide) rfl ?_
        refine x_goto (t := 226) dX13_digest_313 (by decide) ?_
        refine next _ _ ?_ ?_
        · rfl
        · rw [zz]; rfl
      · refine x_iconst (v := 1) dX13_digest_302 rfl ?_
        refine x_goto (t := 307) dX13_digest_303 (by decide) ?_
        refine x_i2l dX13_digest_307 ?_
        refine x_ladd dX13_digest_308 ?_
        refine x_lstore_n (l' := [(2, .long ((((((d * 31) + ((-1 : Int32).toInt64)) * 31) + ((nI (bWays (gB S) k)).toInt64)) * 31) + ((1 : Int32).toInt64))), (4, .int (nI k)), (0, .ref (G.1 100))]) dX13_digest_309 rfl (by decide) rfl ?_
        refine x_iinc (v := nI (k + 1)) (l' := [(4, .int (nI (k + 1))), (2, .long ((((((d * 31) + ((-1 : Int32).toInt64)) * 31) + ((nI (bWays (gB S) k)).toInt64)) * 31) + ((1 : Int32).toInt64))), (0, .ref (G.1 100))]) 1 dX13_digest_310 rfl (by rw [nI_succ]; rfl) (by decide) rfl ?_
        refine x_goto (t := 226) dX13_digest_313 (by decide) ?_
        refine next _ _ ?_ ?_
        · rfl
        · rw [zz]; rfl
    | some c =>
      rw [h1] at next
      have hcc := (hb.2.2.2.2.1 k c hkN h1).1
      refine x_icmp_ne (t := 261) dX13_digest_254 (by decide) (fun _ => ?_) (fun z => absurd z (eNeg c (by omega)))
      refine x_aload_n 2 dX13_digest_261 rfl rfl ?_
      refine xe_getR (c := 100) (k := 17) 130 dX13_digest_262 clX13 lFX13_48 (by decide) iM100 sC100 rfl ?_
      refine xe_getNR (c := 130) (k := 2) 133 dX13_digest_265 clX11 lFX13_283 rfl (by decide) iM130 sC130 rfl ?_
      refine x_iload 0 dX13_digest_268 rfl ?_
      refine xe_iald (c := 133) (N := 16) dX13_digest_270 iM133 sC133 ?_ ?_
      · exact vp_in_nI (by omega) (by decide)
      rw [nI_clamp (show k < 2 ^ 31 by omega), hB.2.2.2.2.1 k c hkN h1]
      refine x_i2l dX13_digest_271 ?_
      refine x_ladd dX13_digest_272 ?_
      refine x_ldc2 dX13_digest_273 lCX13_426 ?_
      refine x_lmul dX13_digest_276 ?_
      refine x_aload_n 2 dX13_digest_277 rfl rfl ?_
      refine x_aload_n 2 dX13_digest_278 rfl rfl ?_
      refine xe_getR (c := 100) (k := 17) 130 dX13_digest_279 clX13 lFX13_48 (by decide) iM100 sC100 rfl ?_
      refine x_iload 0 dX13_digest_282 rfl ?_
      refine xe_callV (K := kX13_digest) (R := eR (9, 1, 10)) (ca := 1) (sl := 10) (lo := 100) (n := 40) (M := M) (Rr := []) xTrue_m xX0 (b' := (6, 0, 0)) (c := 100) (As := [.ref (G.1 130), .int (nI k)]) (S := [.long (((d * 31) + ((nI (bTr (gB S) k)).toInt64)) * 31)]) dX13_digest_284 mX13_ways lMX13_352 clX13 rfl iM100 sC100 rfl (by exact ⟨⟨Nat.le_of_ble_eq_true rfl, Nat.le_of_ble_eq_true rfl⟩, ⟨Nat.le_of_ble_eq_true rfl, Nat.le_of_ble_eq_true rfl⟩⟩) (Nat.le_of_ble_eq_true rfl) (S_ways_130 G hb hB (fun r M' => nI (bWays (gB S) k) = r ∧ M = M') hkN ⟨rfl, rfl⟩) (fun v M' h => ?_) rfl
      obtain ⟨_, rfl, rfl, rfl⟩ := h
      refine x_i2l dX13_digest_287 ?_
      refine x_ladd dX13_digest_288 ?_
      refine x_ldc2 dX13_digest_289 lCX13_426 ?_
      refine x_lmul dX13_digest_292 ?_
      refine x_aload_n 2 dX13_digest_293 rfl rfl ?_
      refine x_iload 0 dX13_digest_294 rfl ?_
      refine xe_callV (K := kX13_digest) (R := eR (9, 1, 10)) (ca := 1) (sl := 10) (lo := 100) (n := 40) (M := M) (Rr := []) xTrue_m xX0 (b' := (7, 0, 0)) (c := 100) (As := [.int (nI k)]) (S := [.long (((((d * 31) + ((nI (bTr (gB S) k)).toInt64)) * 31) + ((nI (bWays (gB S) k)).toInt64)) * 31)]) dX13_digest_296 mX13_leftover lMX13_409 clX13 rfl iM100 sC100 rfl (by exact ⟨⟨Nat.le_of_ble_eq_true rfl, Nat.le_of_ble_eq_true rfl⟩, ⟨Nat.le_of_ble_eq_true rfl, Nat.le_of_ble_eq_true rfl⟩⟩) (Nat.le_of_ble_eq_true rfl) (D_left hb hB hkN (fun r M' => bLeft (gB S) k = r ∧ M = M') ⟨rfl, rfl⟩) (fun v M' h => ?_) rfl
      obtain ⟨_, rfl, rfl, rfl⟩ := h
      refine x_zif_eq (t := 306) dX13_digest_299 (by decide) (fun zz => ?_) (fun zz => ?_)
      · refine x_iconst (v := 0) dX13_digest_306 rfl ?_
        refine x_i2l dX13_digest_307 ?_
        refine x_ladd dX13_digest_308 ?_
        refine x_lstore_n (l' := [(2, .long ((((((d * 31) + ((nI (bTr (gB S) k)).toInt64)) * 31) + ((nI (bWays (gB S) k)).toInt64)) * 31) + ((0 : Int32).toInt64))), (4, .int (nI k)), (0, .ref (G.1 100))]) dX13_digest_309 rfl (by decide) rfl ?_
        refine x_iinc (v := nI (k + 1)) (l' := [(4, .int (nI (k + 1))), (2, .long ((((((d * 31) + ((nI (bTr (gB S) k)).toInt64)) * 31) + ((nI (bWays (gB S) k)).toInt64)) * 31) + ((0 : Int32).toInt64))), (0, .ref (G.1 100))]) 1 dX13_digest_310 rfl (by rw [nI_succ]; rfl) (by decide) rfl ?_
        refine x_goto (t := 226) dX13_digest_313 (by decide) ?_
        refine next _ _ ?_ ?_
        · rfl
        · rw [zz]; rfl
      · refine x_iconst (v := 1) dX13_digest_302 rfl ?_
        refine x_goto (t := 307) dX13_digest_303 (by decide) ?_
        refine x_i2l dX13_digest_307 ?_
        refine x_ladd dX13_digest_308 ?_
        refine x_lstore_n (l' := [(2, .long ((((((d * 31) + ((nI (bTr (gB S) k)).toInt64)) * 31) + ((nI (bWays (gB S) k)).toInt64)) * 31) + ((1 : Int32).toInt64))), (4, .int (nI k)), (0, .ref (G.1 100))]) dX13_digest_309 rfl (by decide) rfl ?_
        refine x_iinc (v := nI (k + 1)) (l' := [(4, .int (nI (k + 1))), (2, .long ((((((d * 31) + ((nI (bTr (gB S) k)).toInt64)) * 31) + ((nI (bWays (gB S) k)).toInt64)) * 31) + ((1 : Int32).toInt64))), (0, .ref (G.1 100))]) 1 dX13_digest_310 rfl (by rw [nI_succ]; rfl) (by decide) rfl ?_
        refine x_goto (t := 226) dX13_digest_313 (by decide) ?_
        refine next _ _ ?_ ?_
        · rfl
        · rw [zz]; rfl
set_option maxHeartbeats 4000000 in
theorem V_dc (F : Int64 → eM → Prop) {S : gS} (hs : sOk S) {M : eM} (hm : sM M S) : ∀ (n k : Nat) (d : Int64), k + n = bC (gB S) → (∀ M', sM M' S → F (zDt (gB S) (bN (gB S)) 0 (zDc (gB S) n k d)) M') → Ex dgX (dgZ G F) G (eR (9, 1, 10)) kX13_digest 154 [(4, .int (nI k)), (2, .long d), (0, .ref (G.1 100))] [] (eW G 100 40 M ++ []) 1 10
  | 0, k, d, hk, hF => by
    have hk' : k = bC (gB S) := hk
    have hB := hm.2.2.2.2.1
    refine x_iload 0 dX13_digest_154 rfl ?_
    refine x_aload_n 2 dX13_digest_156 rfl rfl ?_
    refine xe_callV (K := kX13_digest) (R := eR (9, 1, 10)) (ca := 1) (sl := 10) (lo := 100) (n := 40) (M := M) (Rr := []) xTrue_m xX0 (b' := (1, 0, 0)) (c := 100) (As := []) (S := [.int (nI k)]) dX13_digest_157 mX13_cells lMX13_307 clX13 rfl iM100 sC100 rfl (by exact ⟨⟨Nat.le_of_ble_eq_true rfl, Nat.le_of_ble_eq_true rfl⟩, ⟨Nat.le_of_ble_eq_true rfl, Nat.le_of_ble_eq_true rfl⟩⟩) (Nat.le_of_ble_eq_true rfl) (S_cells G hB (fun r M' => nI (bC (gB S)) = r ∧ M = M') ⟨rfl, rfl⟩) (fun v M' h => ?_) rfl
    obtain ⟨_, rfl, rfl, rfl⟩ := h
    refine x_icmp_ge (t := 223) dX13_digest_160 (by decide) (fun _ => ?_) (fun z => absurd (by rw [hk']; exact Int32.le_refl _) z)
    refine x_iconst (v := 0) dX13_digest_223 rfl ?_
    refine x_istore (l' := [(4, .int 0), (2, .long d), (0, .ref (G.1 100))]) dX13_digest_224 (by decide) rfl ?_
    exact V_dt F hs hm (bN (gB S)) 0 d (Nat.zero_add _) hF
  | n + 1, k, d, hk, hF => by
    have hb := hs.2.2.1.1
    have hB := hm.2.2.2.2.1
    have h49 := hb.c49
    have hkC : k < bC (gB S) := by omega
    refine x_iload 0 dX13_digest_154 rfl ?_
    refine x_aload_n 2 dX13_digest_156 rfl rfl ?_
    refine xe_callV (K := kX13_digest) (R := eR (9, 1, 10)) (ca := 1) (sl := 10) (lo := 100) (n := 40) (M := M) (Rr := []) xTrue_m xX0 (b' := (1, 0, 0)) (c := 100) (As := []) (S := [.int (nI k)]) dX13_digest_157 mX13_cells lMX13_307 clX13 rfl iM100 sC100 rfl (by exact ⟨⟨Nat.le_of_ble_eq_true rfl, Nat.le_of_ble_eq_true rfl⟩, ⟨Nat.le_of_ble_eq_true rfl, Nat.le_of_ble_eq_true rfl⟩⟩) (Nat.le_of_ble_eq_true rfl) (S_cells G hB (fun r M' => nI (bC (gB S)) = r ∧ M = M') ⟨rfl, rfl⟩) (fun v M' h => ?_) rfl
    obtain ⟨_, rfl, rfl, rfl⟩ := h
    refine x_icmp_ge (t := 223) dX13_digest_160 (by decide) (fun z => absurd z (nI_ge hkC (by omega))) (fun _ => ?_)
    refine x_lload_n 1 dX13_digest_163 rfl rfl ?_
    refine x_ldc2 dX13_digest_164 lCX13_426 ?_
    refine x_lmul dX13_digest_167 ?_
    refine x_aload_n 2 dX13_digest_168 rfl rfl ?_
    refine xe_getR (c := 100) (k := 17) 130 dX13_digest_169 clX13 lFX13_48 (by decide) iM100 sC100 rfl ?_
    refine xe_getNR (c := 130) (k := 0) 131 dX13_digest_172 clX11 lFX13_280 rfl (by decide) iM130 sC130 rfl ?_
    refine x_iload 0 dX13_digest_175 rfl ?_
    refine xe_iald (c := 131) (N := 49) dX13_digest_177 iM131 sC131 ?_ ?_
    · exact vp_in_nI (by omega) (by decide)
    rw [nI_clamp (show k < 2 ^ 31 by omega), hB.2.2.1 k hkC]
    refine x_i2l dX13_digest_178 ?_
    refine x_ladd dX13_digest_179 ?_
    refine x_ldc2 dX13_digest_180 lCX13_426 ?_
    refine x_lmul dX13_digest_183 ?_
    refine x_aload_n 2 dX13_digest_184 rfl rfl ?_
    refine x_iload 0 dX13_digest_185 rfl ?_
    refine xe_callV (K := kX13_digest) (R := eR (9, 1, 10)) (ca := 1) (sl := 10) (lo := 100) (n := 40) (M := M) (Rr := []) xTrue_m xX0 (b' := (5, 0, 0)) (c := 100) (As := [.int (nI k)]) (S := [.long (((d * 31) + ((eO (bAt (gB S) k)).toInt64)) * 31)]) dX13_digest_187 mX13_matchesAt lMX13_397 clX13 rfl iM100 sC100 rfl (by exact ⟨⟨Nat.le_of_ble_eq_true rfl, Nat.le_of_ble_eq_true rfl⟩, ⟨Nat.le_of_ble_eq_true rfl, Nat.le_of_ble_eq_true rfl⟩⟩) (Nat.le_of_ble_eq_true rfl) (D_on hb hB hkC (fun r M' => nI (bMatchOn (gB S) k) = r ∧ M = M') ⟨rfl, rfl⟩) (fun v M' h => ?_) rfl
    obtain ⟨_, rfl, rfl, rfl⟩ := h
    refine x_i2l dX13_digest_190 ?_
    refine x_ladd dX13_digest_191 ?_
    refine x_ldc2 dX13_digest_192 lCX13_426 ?_
    refine x_lmul dX13_digest_195 ?_
    refine x_aload_n 2 dX13_digest_196 rfl rfl ?_
    refine x_aload_n 2 dX13_digest_197 rfl rfl ?_
    refine xe_getR (c := 100) (k := 17) 130 dX13_digest_198 clX13 lFX13_48 (by decide) iM100 sC100 rfl ?_
    refine x_iload 0 dX13_digest_201 rfl ?_
    refine xe_callV (K := kX13_digest) (R := eR (9, 1, 10)) (ca := 1) (sl := 10) (lo := 100) (n := 40) (M := M) (Rr := []) xTrue_m xX0 (b' := (5, 0, 0)) (c := 100) (As := [.ref (G.1 130), .int (nI k)]) (S := [.long (((((d * 31) + ((eO (bAt (gB S) k)).toInt64)) * 31) + ((nI (bMatchOn (gB S) k)).toInt64)) * 31)]) dX13_digest_203 mX13_ring lMX13_314 clX13 rfl iM100 sC100 rfl (by exact ⟨⟨Nat.le_of_ble_eq_true rfl, Nat.le_of_ble_eq_true rfl⟩, ⟨Nat.le_of_ble_eq_true rfl, Nat.le_of_ble_eq_true rfl⟩⟩) (Nat.le_of_ble_eq_true rfl) (S_ring_130 G hb hB (fun r M' => bRing (gB S) k = r ∧ M = M') hkC ⟨rfl, rfl⟩) (fun v M' h => ?_) rfl
    obtain ⟨_, rfl, rfl, rfl⟩ := h
    refine x_zif_eq (t := 213) dX13_digest_206 (by decide) (fun zz => ?_) (fun zz => ?_)
    · refine x_iconst (v := 0) dX13_digest_213 rfl ?_
      refine x_i2l dX13_digest_214 ?_
      refine x_ladd dX13_digest_215 ?_
      refine x_lstore_n (l' := [(2, .long ((((((d * 31) + ((eO (bAt (gB S) k)).toInt64)) * 31) + ((nI (bMatchOn (gB S) k)).toInt64)) * 31) + ((0 : Int32).toInt64))), (4, .int (nI k)), (0, .ref (G.1 100))]) dX13_digest_216 rfl (by decide) rfl ?_
      refine x_iinc (v := nI (k + 1)) (l' := [(4, .int (nI (k + 1))), (2, .long ((((((d * 31) + ((eO (bAt (gB S) k)).toInt64)) * 31) + ((nI (bMatchOn (gB S) k)).toInt64)) * 31) + ((0 : Int32).toInt64))), (0, .ref (G.1 100))]) 1 dX13_digest_217 rfl (by rw [nI_succ]; rfl) (by decide) rfl ?_
      refine x_goto (t := 154) dX13_digest_220 (by decide) ?_
      have go := V_dc F hs hm n (k + 1) _ (by omega) hF
      rw [zz] at go
      exact Ex.sub (ks := [0, 1, 2]) rfl go
    · refine x_iconst (v := 1) dX13_digest_209 rfl ?_
      refine x_goto (t := 214) dX13_digest_210 (by decide) ?_
      refine x_i2l dX13_digest_214 ?_
      refine x_ladd dX13_digest_215 ?_
      refine x_lstore_n (l' := [(2, .long ((((((d * 31) + ((eO (bAt (gB S) k)).toInt64)) * 31) + ((nI (bMatchOn (gB S) k)).toInt64)) * 31) + ((1 : Int32).toInt64))), (4, .int (nI k)), (0, .ref (G.1 100))]) dX13_digest_216 rfl (by decide) rfl ?_
      refine x_iinc (v := nI (k + 1)) (l' := [(4, .int (nI (k + 1))), (2, .long ((((((d * 31) + ((eO (bAt (gB S) k)).toInt64)) * 31) + ((nI (bMatchOn (gB S) k)).toInt64)) * 31) + ((1 : Int32).toInt64))), (0, .ref (G.1 100))]) 1 dX13_digest_217 rfl (by rw [nI_succ]; rfl) (by decide) rfl ?_
      refine x_goto (t := 154) dX13_digest_220 (by decide) ?_
      have go := V_dc F hs hm n (k + 1) _ (by omega) hF
      rw [zz] at go
      exact Ex.sub (ks := [0, 1, 2]) rfl go
set_option maxHeartbeats 8000000 in
theorem U_digest {M : eM} {S : gS} (hs : sOk S) (hm : sM M S) (F : Int64 → eM → Prop) (hF : ∀ M', sM M' S → F (z_digest S) M') : Cal G 100 40 (9, 1, 10) kX13_digest [.ref (G.1 100)] M (eFL F) := by
  have hb := hs.2.2.1.1
  have hB := hm.2.2.2.2.1
  refine Cal.ofX (xCal.of (by decide +kernel) rfl (Nat.le_of_ble_eq_true rfl) ?_)
  show Ex dgX (dgZ G F) G (eR (9, 1, 10)) kX13_digest 0 [(0, .ref (G.1 100))] [] (eW G 100 40 M) 0 0
  refine x_bipush (v := 10) dX13_digest_0 rfl ?_
  refine x_newi (N := 10) dX13_digest_2 xa_int (by decide) (by decide) (by decide) ⟨Nat.le_of_ble_eq_true rfl, Nat.le_of_ble_eq_true rfl⟩ (fun q => ?_)
  refine x_dup dX13_digest_4 rfl ?_
  refine x_iconst (v := 0) dX13_digest_5 rfl ?_
  refine x_aload_n 0 dX13_digest_6 rfl rfl ?_
  refine xe_getR (c := 100) (k := 14) 107 dX13_digest_7 clX13 lFX13_35 (by decide) iM100 sC100 rfl ?_
  refine xe_getNI (c := 107) (k := 0) dX13_digest_10 clX12 lFX13_245 rfl (by decide) iM107 sC107 rfl ?_
  refine x_iast (q0 := 40) (N := 10) (f := fun _ => 0) dX13_digest_13 (xe_end _ _) (vp_in_nI (n := 0) (by decide) (by decide)) ?_
  refine Ex.ww (xe_endset _ _ _) ?_
  refine x_dup dX13_digest_14 rfl ?_
  refine x_iconst (v := 1) dX13_digest_15 rfl ?_
  refine x_aload_n 0 dX13_digest_16 rfl rfl ?_
  refine xe_getR (c := 100) (k := 14) 107 dX13_digest_17 clX13 lFX13_35 (by decide) iM100 sC100 rfl ?_
  refine xe_getNI (c := 107) (k := 1) dX13_digest_20 clX12 lFX13_248 rfl (by decide) iM107 sC107 rfl ?_
  refine x_iast (q0 := 40) (N := 10) (f := upd (fun _ => 0) (0 : Int32).toNatClampNeg (M 107 0)) dX13_digest_23 (xe_end _ _) (vp_in_nI (n := 1) (by decide) (by decide)) ?_
  refine Ex.ww (xe_endset _ _ _) ?_
  refine x_dup dX13_digest_24 rfl ?_
  refine x_iconst (v := 2) dX13_digest_25 rfl ?_
  refine x_aload_n 0 dX13_digest_26 rfl rfl ?_
  refine xe_getR (c := 100) (k := 14) 107 dX13_digest_27 clX13 lFX13_35 (by decide) iM100 sC100 rfl ?_
  refine xe_getNI (c := 107) (k := 2) dX13_digest_30 clX12 lFX13_150 rfl (by decide) iM107 sC107 rfl ?_
  refine x_iast (q0 := 40) (N := 10) (f := upd (upd (fun _ => 0) (0 : Int32).toNatClampNeg (M 107 0)) (1 : Int32).toNatClampNeg (M 107 1)) dX13_digest_33 (xe_end _ _) (vp_in_nI (n := 2) (by decide) (by decide)) ?_
  refine Ex.ww (xe_endset _ _ _) ?_
  refine x_dup dX13_digest_34 rfl ?_
  refine x_iconst (v := 3) dX13_digest_35 rfl ?_
  refine x_aload_n 0 dX13_digest_36 rfl rfl ?_
  refine xe_getR (c := 100) (k := 17) 130 dX13_digest_37 clX13 lFX13_48 (by decide) iM100 sC100 rfl ?_
  refine xe_getNI (c := 130) (k := 4) dX13_digest_40 clX11 lFX13_343 rfl (by decide) iM130 sC130 rfl ?_
  refine x_iast (q0 := 40) (N := 10) (f := upd (upd (upd (fun _ => 0) (0 : Int32).toNatClampNeg (M 107 0)) (1 : Int32).toNatClampNeg (M 107 1)) (2 : Int32).toNatClampNeg (M 107 2)) dX13_digest_43 (xe_end _ _) (vp_in_nI (n := 3) (by decide) (by decide)) ?_
  refine Ex.ww (xe_endset _ _ _) ?_
  refine x_dup dX13_digest_44 rfl ?_
  refine x_iconst (v := 4) dX13_digest_45 rfl ?_
  refine x_aload_n 0 dX13_digest_46 rfl rfl ?_
  refine xe_getR (c := 100) (k := 17) 130 dX13_digest_47 clX13 lFX13_48 (by decide) iM100 sC100 rfl ?_
  refine xe_getNI (c := 130) (k := 3) dX13_digest_50 clX11 lFX13_296 rfl (by decide) iM130 sC130 rfl ?_
  refine x_iast (q0 := 40) (N := 10) (f := upd (upd (upd (upd (fun _ => 0) (0 : Int32).toNatClampNeg (M 107 0)) (1 : Int32).toNatClampNeg (M 107 1)) (2 : Int32).toNatClampNeg (M 107 2)) (3 : Int32).toNatClampNeg (M 130 4)) dX13_digest_53 (xe_end _ _) (vp_in_nI (n := 4) (by decide) (by decide)) ?_
  refine Ex.ww (xe_endset _ _ _) ?_
  refine x_dup dX13_digest_54 rfl ?_
  refine x_iconst (v := 5) dX13_digest_55 rfl ?_
  refine x_aload_n 0 dX13_digest_56 rfl rfl ?_
  refine x_aload_n 0 dX13_digest_57 rfl rfl ?_
  refine xe_getR (c := 100) (k := 17) 130 dX13_digest_58 clX13 lFX13_48 (by decide) iM100 sC100 rfl ?_
  refine xe_callV (K := kX13_digest) (R := eR (9, 1, 10)) (ca := 1) (sl := 10) (lo := 100) (n := 40) (M := M) (Rr := [(q, .inl (G.2.2.2 0, (10, .inl (upd (upd (upd (upd (upd (fun _ => 0) (0 : Int32).toNatClampNeg (M 107 0)) (1 : Int32).toNatClampNeg (M 107 1)) (2 : Int32).toNatClampNeg (M 107 2)) (3 : Int32).toNatClampNeg (M 130 4)) (4 : Int32).toNatClampNeg (M 130 3)))))]) xTrue_m xX0 (b' := (5, 0, 0)) (c := 100) (As := [.ref (G.1 130)]) (S := [.int 5, .ref q, .ref q]) dX13_digest_61 mX13_matches lMX13_346 clX13 rfl iM100 sC100 rfl (by exact ⟨⟨Nat.le_of_ble_eq_true rfl, Nat.le_of_ble_eq_true rfl⟩, ⟨Nat.le_of_ble_eq_true rfl, Nat.le_of_ble_eq_true rfl⟩⟩) (Nat.le_of_ble_eq_true rfl) (S_matches_130 G hb hB (fun r M' => nI (bMatch (gB S)) = r ∧ M = M') ⟨rfl, rfl⟩) (fun v M' h => ?_) rfl
  obtain ⟨_, rfl, rfl, rfl⟩ := h
  refine x_iast (q0 := 40) (N := 10) (f := upd (upd (upd (upd (upd (fun _ => 0) (0 : Int32).toNatClampNeg (M 107 0)) (1 : Int32).toNatClampNeg (M 107 1)) (2 : Int32).toNatClampNeg (M 107 2)) (3 : Int32).toNatClampNeg (M 130 4)) (4 : Int32).toNatClampNeg (M 130 3)) dX13_digest_64 (xe_end _ _) (vp_in_nI (n := 5) (by decide) (by decide)) ?_
  refine Ex.ww (xe_endset _ _ _) ?_
  refine x_dup dX13_digest_65 rfl ?_
  refine x_bipush (v := 6) dX13_digest_66 rfl ?_
  refine x_aload_n 0 dX13_digest_68 rfl rfl ?_
  refine x_aload_n 0 dX13_digest_69 rfl rfl ?_
  refine xe_getR (c := 100) (k := 17) 130 dX13_digest_70 clX13 lFX13_48 (by decide) iM100 sC100 rfl ?_
  refine xe_callV (K := kX13_digest) (R := eR (9, 1, 10)) (ca := 1) (sl := 10) (lo := 100) (n := 40) (M := M) (Rr := [(q, .inl (G.2.2.2 0, (10, .inl (upd (upd (upd (upd (upd (upd (fun _ => 0) (0 : Int32).toNatClampNeg (M 107 0)) (1 : Int32).toNatClampNeg (M 107 1)) (2 : Int32).toNatClampNeg (M 107 2)) (3 : Int32).toNatClampNeg (M 130 4)) (4 : Int32).toNatClampNeg (M 130 3)) (5 : Int32).toNatClampNeg (nI (bMatch (gB S)))))))]) xTrue_m xX0 (b' := (7, 0, 0)) (c := 100) (As := [.ref (G.1 130)]) (S := [.int 6, .ref q, .ref q]) dX13_digest_73 mX13_points lMX13_349 clX13 rfl iM100 sC100 rfl (by exact ⟨⟨Nat.le_of_ble_eq_true rfl, Nat.le_of_ble_eq_true rfl⟩, ⟨Nat.le_of_ble_eq_true rfl, Nat.le_of_ble_eq_true rfl⟩⟩) (Nat.le_of_ble_eq_true rfl) (S_points_130 G hb hB (fun r M' => nI (bPoints (gB S)) = r ∧ M = M') ⟨rfl, rfl⟩) (fun v M' h => ?_) rfl
  obtain ⟨_, rfl, rfl, rfl⟩ := h
  refine x_iast (q0 := 40) (N := 10) (f := upd (upd (upd (upd (upd (upd (fun _ => 0) (0 : Int32).toNatClampNeg (M 107 0)) (1 : Int32).toNatClampNeg (M 107 1)) (2 : Int32).toNatClampNeg (M 107 2)) (3 : Int32).toNatClampNeg (M 130 4)) (4 : Int32).toNatClampNeg (M 130 3)) (5 : Int32).toNatClampNeg (nI (bMatch (gB S)))) dX13_digest_76 (xe_end _ _) (vp_in_nI (n := 6) (by decide) (by decide)) ?_
  refine Ex.ww (xe_endset _ _ _) ?_
  refine x_dup dX13_digest_77 rfl ?_
  refine x_bipush (v := 7) dX13_digest_78 rfl ?_
  refine x_aload_n 0 dX13_digest_80 rfl rfl ?_
  refine x_aload_n 0 dX13_digest_81 rfl rfl ?_
  refine xe_getR (c := 100) (k := 17) 130 dX13_digest_82 clX13 lFX13_48 (by decide) iM100 sC100 rfl ?_
  refine xe_callV (K := kX13_digest) (R := eR (9, 1, 10)) (ca := 1) (sl := 10) (lo := 100) (n := 40) (M := M) (Rr := [(q, .inl (G.2.2.2 0, (10, .inl (upd (upd (upd (upd (upd (upd (upd (fun _ => 0) (0 : Int32).toNatClampNeg (M 107 0)) (1 : Int32).toNatClampNeg (M 107 1)) (2 : Int32).toNatClampNeg (M 107 2)) (3 : Int32).toNatClampNeg (M 130 4)) (4 : Int32).toNatClampNeg (M 130 3)) (5 : Int32).toNatClampNeg (nI (bMatch (gB S)))) (6 : Int32).toNatClampNeg (nI (bPoints (gB S)))))))]) xTrue_m xX0 (b' := (6, 0, 0)) (c := 100) (As := [.ref (G.1 130)]) (S := [.int 7, .ref q, .ref q]) dX13_digest_85 mX13_rings lMX13_325 clX13 rfl iM100 sC100 rfl (by exact ⟨⟨Nat.le_of_ble_eq_true rfl, Nat.le_of_ble_eq_true rfl⟩, ⟨Nat.le_of_ble_eq_true rfl, Nat.le_of_ble_eq_true rfl⟩⟩) (Nat.le_of_ble_eq_true rfl) (S_rings_130 G hb hB (fun r M' => nI (bRings (gB S)) = r ∧ M = M') ⟨rfl, rfl⟩) (fun v M' h => ?_) rfl
  obtain ⟨_, rfl, rfl, rfl⟩ := h
  refine x_iast (q0 := 40) (N := 10) (f := upd (upd (upd (upd (upd (upd (upd (fun _ => 0) (0 : Int32).toNatClampNeg (M 107 0)) (1 : Int32).toNatClampNeg (M 107 1)) (2 : Int32).toNatClampNeg (M 107 2)) (3 : Int32).toNatClampNeg (M 130 4)) (4 : Int32).toNatClampNeg (M 130 3)) (5 : Int32).toNatClampNeg (nI (bMatch (gB S)))) (6 : Int32).toNatClampNeg (nI (bPoints (gB S)))) dX13_digest_88 (xe_end _ _) (vp_in_nI (n := 7) (by decide) (by decide)) ?_
  refine Ex.ww (xe_endset _ _ _) ?_
  refine x_dup dX13_digest_89 rfl ?_
  refine x_bipush (v := 8) dX13_digest_90 rfl ?_
  refine x_aload_n 0 dX13_digest_92 rfl rfl ?_
  refine xe_callV (K := kX13_digest) (R := eR (9, 1, 10)) (ca := 1) (sl := 10) (lo := 100) (n := 40) (M := M) (Rr := [(q, .inl (G.2.2.2 0, (10, .inl (upd (upd (upd (upd (upd (upd (upd (upd (fun _ => 0) (0 : Int32).toNatClampNeg (M 107 0)) (1 : Int32).toNatClampNeg (M 107 1)) (2 : Int32).toNatClampNeg (M 107 2)) (3 : Int32).toNatClampNeg (M 130 4)) (4 : Int32).toNatClampNeg (M 130 3)) (5 : Int32).toNatClampNeg (nI (bMatch (gB S)))) (6 : Int32).toNatClampNeg (nI (bPoints (gB S)))) (7 : Int32).toNatClampNeg (nI (bRings (gB S)))))))]) xTrue_m xX0 (b' := (4, 0, 0)) (c := 100) (As := []) (S := [.int 8, .ref q, .ref q]) dX13_digest_93 mX13_groupsOf lMX13_385 clX13 rfl iM100 sC100 rfl (by exact ⟨⟨Nat.le_of_ble_eq_true rfl, Nat.le_of_ble_eq_true rfl⟩, ⟨Nat.le_of_ble_eq_true rfl, Nat.le_of_ble_eq_true rfl⟩⟩) (Nat.le_of_ble_eq_true rfl) (S_groupsOf hb hB (fun r M' => nI (bGroups (gB S)) = r ∧ mB 130 131 132 133 M' (gB S) ∧ fFr M M' 138 139) (fun M' b' f' => ⟨rfl, b', f'⟩)) (fun v M1 h => ?_) rfl
  obtain ⟨_, rfl, rfl, b1, f1⟩ := h
  refine x_iast (q0 := 40) (N := 10) (f := upd (upd (upd (upd (upd (upd (upd (upd (fun _ => 0) (0 : Int32).toNatClampNeg (M 107 0)) (1 : Int32).toNatClampNeg (M 107 1)) (2 : Int32).toNatClampNeg (M 107 2)) (3 : Int32).toNatClampNeg (M 130 4)) (4 : Int32).toNatClampNeg (M 130 3)) (5 : Int32).toNatClampNeg (nI (bMatch (gB S)))) (6 : Int32).toNatClampNeg (nI (bPoints (gB S)))) (7 : Int32).toNatClampNeg (nI (bRings (gB S)))) dX13_digest_96 (xe_end _ _) (vp_in_nI (n := 8) (by decide) (by decide)) ?_
  refine Ex.ww (xe_endset _ _ _) ?_
  refine x_dup dX13_digest_97 rfl ?_
  refine x_bipush (v := 9) dX13_digest_98 rfl ?_
  refine x_aload_n 0 dX13_digest_100 rfl rfl ?_
  refine xe_callV (K := kX13_digest) (R := eR (9, 1, 10)) (ca := 1) (sl := 10) (lo := 100) (n := 40) (M := M1) (Rr := [(q, .inl (G.2.2.2 0, (10, .inl (upd (upd (upd (upd (upd (upd (upd (upd (upd (fun _ => 0) (0 : Int32).toNatClampNeg (M 107 0)) (1 : Int32).toNatClampNeg (M 107 1)) (2 : Int32).toNatClampNeg (M 107 2)) (3 : Int32).toNatClampNeg (M 130 4)) (4 : Int32).toNatClampNeg (M 130 3)) (5 : Int32).toNatClampNeg (nI (bMatch (gB S)))) (6 : Int32).toNatClampNeg (nI (bPoints (gB S)))) (7 : Int32).toNatClampNeg (nI (bRings (gB S)))) (8 : Int32).toNatClampNeg (nI (bGroups (gB S)))))))]) xTrue_m xX0 (b' := (7, 0, 0)) (c := 100) (As := []) (S := [.int 9, .ref q, .ref q]) dX13_digest_101 mX13_best lMX13_421 clX13 rfl iM100 sC100 rfl (by exact ⟨⟨Nat.le_of_ble_eq_true rfl, Nat.le_of_ble_eq_true rfl⟩, ⟨Nat.le_of_ble_eq_true rfl, Nat.le_of_ble_eq_true rfl⟩⟩) (Nat.le_of_ble_eq_true rfl) (V_best hb b1 (fun r M' => eO (bBestT (gB S)) = r ∧ sFm M1 M') (fun M' s' _ => ⟨rfl, s'⟩)) (fun v M2 h => ?_) rfl
  obtain ⟨_, rfl, rfl, s2⟩ := h
  refine x_iast (q0 := 40) (N := 10) (f := upd (upd (upd (upd (upd (upd (upd (upd (upd (fun _ => 0) (0 : Int32).toNatClampNeg (M 107 0)) (1 : Int32).toNatClampNeg (M 107 1)) (2 : Int32).toNatClampNeg (M 107 2)) (3 : Int32).toNatClampNeg (M 130 4)) (4 : Int32).toNatClampNeg (M 130 3)) (5 : Int32).toNatClampNeg (nI (bMatch (gB S)))) (6 : Int32).toNatClampNeg (nI (bPoints (gB S)))) (7 : Int32).toNatClampNeg (nI (bRings (gB S)))) (8 : Int32).toNatClampNeg (nI (bGroups (gB S)))) dX13_digest_104 (xe_end _ _) (vp_in_nI (n := 9) (by decide) (by decide)) ?_
  refine Ex.ww (xe_endset _ _ _) ?_
  rw [dgF_eq]
  refine x_astore_n (l' := [(1, .ref q), (0, .ref (G.1 100))]) dX13_digest_105 rfl (by decide) rfl ?_
  refine x_ldc2 dX13_digest_106 lCX13_424 ?_
  refine x_lstore_n (l' := [(2, .long 1009), (1, .ref q), (0, .ref (G.1 100))]) dX13_digest_109 rfl (by decide) rfl ?_
  refine x_aload_n 1 dX13_digest_110 rfl rfl ?_
  refine x_astore (l' := [(4, .ref q), (2, .long 1009), (1, .ref q), (0, .ref (G.1 100))]) dX13_digest_111 (by decide) rfl ?_
  refine x_aload 0 dX13_digest_113 rfl ?_
  refine x_alen (q0 := 40) (N := 10) (f := dgF (M 107 0) (M 107 1) (M 107 2) (M 130 4) (M 130 3) (nI (bMatch (gB S))) (nI (bPoints (gB S))) (nI (bRings (gB S))) (nI (bGroups (gB S))) (eO (bBestT (gB S)))) (v := 10) dX13_digest_115 (xe_end _ _) rfl ?_
  refine x_istore (l' := [(5, .int 10), (4, .ref q), (2, .long 1009), (1, .ref q), (0, .ref (G.1 100))]) dX13_digest_116 (by decide) rfl ?_
  refine x_iconst (v := 0) dX13_digest_118 rfl ?_
  refine x_istore (l' := [(6, .int 0), (5, .int 10), (4, .ref q), (2, .long 1009), (1, .ref q), (0, .ref (G.1 100))]) dX13_digest_119 (by decide) rfl ?_
  rw [hB.1.1, hB.1.2.1, hB.1.2.2, hm.2.2.2.2.2, hB.2.2.2.2.2]
  refine Ex.sub (ks := [0, 3, 1, 2, 5]) rfl ?_
  refine Dg_step F (k := 0) (by decide) rfl _ ?_
  refine Dg_step F (k := 1) (by decide) rfl _ ?_
  refine Dg_step F (k := 2) (by decide) rfl _ ?_
  refine Dg_step F (k := 3) (by decide) rfl _ ?_
  refine Dg_step F (k := 4) (by decide) rfl _ ?_
  refine Dg_step F (k := 5) (by decide) rfl _ ?_
  refine Dg_step F (k := 6) (by decide) rfl _ ?_
  refine Dg_step F (k := 7) (by decide) rfl _ ?_
  refine Dg_step F (k := 8) (by decide) rfl _ ?_
  refine Dg_step F (k := 9) (by decide) rfl _ ?_
  refine x_iload 0 dX13_digest_121 rfl ?_
  refine x_iload 2 dX13_digest_123 rfl ?_
  refine x_icmp_ge (t := 151) dX13_digest_125 (by decide) (fun _ => ?_) (fun z => absurd (Int32.le_refl 10) z)
  refine x_iconst (v := 0) dX13_digest_151 rfl ?_
  refine x_istore (l' := [(4, .int 0), (6, .int (nI (9 + 1))), (2, .long (zD0 S)), (5, .int 10), (0, .ref (G.1 100))]) dX13_digest_152 (by decide) rfl ?_
  refine Ex.sub (ks := [0, 2, 4]) rfl ?_
  refine Ex.le (xLe.dropR _ _) ?_
  refine Ex.ww (List.append_nil _).symm ?_
  have hm2 : sM M2 S := (hm.fr f1.sm).fr s2
  exact V_dc F hs hm2 (bC (gB S)) 0 (zD0 S) (Nat.zero_add _) hF
end Digest
