/-! ===== the class's public calls, on ===== -/
section Pub2
/-! bytes -/
def fB (y : Int32) : Nat := (y.toInt % 256).toNat
theorem fB_lt (y : Int32) : fB y < 256 := by
  have h1 := Int.emod_nonneg y.toInt (show (256 : Int) ≠ 0 by decide)
  have h2 := Int.emod_lt_of_pos y.toInt (show (0 : Int) < 256 by decide)
  unfold fB
  omega
theorem fB_sb (y : Int32) : y.toInt8.toInt32 = sb (fB y) := by
  have h1 := Int.emod_nonneg y.toInt (show (256 : Int) ≠ 0 by decide)
  have h2 := Int.emod_lt_of_pos y.toInt (show (0 : Int) < 256 by decide)
  refine Int32.toInt_inj.mp ?_
  rw [Int8.toInt_toInt32, Int32.toInt_toInt8, sb_toInt _ (fB_lt y)]
  have e : Int.bmod y.toInt (2 ^ 8) = (if y.toInt % 256 < 128 then y.toInt % 256 else y.toInt % 256 - 256) := by
    first | exact (Int.bmod_def _ _).trans rfl | (unfold Int.bmod; rfl) | (simp [Int.bmod])
  rw [e]
  unfold fB
  split <;> split <;> omega
theorem fB_and (y : Int32) : y &&& 255 = nI (fB y) := by
  have h0 := fB_lt y
  refine Int32.toInt_inj.mp ?_
  rw [nI_toInt (by omega)]
  have e1 : (y &&& 255).toBitVec.toNat = y.toBitVec.toNat % 256 := by
    rw [Int32.toBitVec_and, BitVec.toNat_and]
    exact Nat.and_two_pow_sub_one_eq_mod y.toBitVec.toNat 8
  have e2 : (y &&& 255).toInt = ((y &&& 255).toBitVec.toNat : Int) := BitVec.toInt_eq_toNat_of_lt (by rw [e1]; omega)
  have e3 : y.toInt % 256 = ((y.toBitVec.toNat % 256 : Nat) : Int) := by
    have h : y.toInt = if 2 * y.toBitVec.toNat < 2 ^ 32 then (y.toBitVec.toNat : Int) else (y.toBitVec.toNat : Int) - (2 ^ 32 : Nat) := rfl
    rw [h]
    split <;> omega
  rw [e2, e1]
  unfold fB
  omega
def fW (bt : Nat → Nat) (sz : Nat) (x : Int32) : Nat → Nat := zU (zU (zU (zU bt sz (fB (x >>> 24))) (sz + 1) (fB (x >>> 16))) (sz + 2) (fB (x >>> 8))) (sz + 3) (fB (x >>> 0))
def fW5 (bt : Nat → Nat) (sz : Nat) (a b c d e : Int32) : Nat → Nat := fW (fW (fW (fW (fW bt sz a) (sz + 4) b) (sz + 8) c) (sz + 12) d) (sz + 16) e
theorem zU_lt {bt : Nat → Nat} {k v : Nat} (h : ∀ j, bt j < 256) (hv : v < 256) : ∀ j, zU bt k v j < 256 := fun j => by
  by_cases hq : j = k
  · rw [hq, zU_same]; exact hv
  · rw [zU_ne _ _ hq]; exact h j
theorem fW_lt {bt : Nat → Nat} {sz : Nat} {x : Int32} (h : ∀ j, bt j < 256) : ∀ j, fW bt sz x j < 256 := zU_lt (zU_lt (zU_lt (zU_lt h (fB_lt _)) (fB_lt _)) (fB_lt _)) (fB_lt _)
theorem fW5_lt {bt : Nat → Nat} {sz : Nat} {a b c d e : Int32} (h : ∀ j, bt j < 256) : ∀ j, fW5 bt sz a b c d e j < 256 := fW_lt (fW_lt (fW_lt (fW_lt (fW_lt h))))
def z_feed (S : gS) (a b c d e : Int32) : zI := if gSz S + 20 ≤ 2000 then (0, nI (gSz S + 20), ((gSz S + 20, fW5 (gBt S) (gSz S) a b c d e), S.2)) else (1, 0, S)
def z_trim (S : gS) (a : Int32) : zI := if 0 ≤ a ∧ a ≤ nI (gSz S) then (0, a, ((a.toNatClampNeg, gBt S), S.2)) else (1, 0, S)
theorem dTrim {a : Int32} {n : Nat} (hn : n < 2 ^ 31) (h : 0 ≤ a ∧ a ≤ nI n) : ∃ k, k ≤ n ∧ a = nI k := by
  have h1 := Int32.le_iff_toInt_le.mp h.1
  have h2 := Int32.le_iff_toInt_le.mp h.2
  rw [nI_toInt hn] at h2
  rw [Int32.toInt_zero] at h1
  refine ⟨a.toInt.toNat, by omega, Int32.toInt_inj.mp ?_⟩
  rw [nI_toInt (by omega)]
  omega
/-! teaching -/
def z_taughtV (S : gS) : Int32 := nI (tEr (gBt S) (gSz S)).1
def z_taught (S : gS) : gS := if (tEr (gBt S) (gSz S)).1 = 0 then ((0, gBt S), -1, (tV (gBt S) (gSz S), tOs (gBt S) (gSz S)), tB0 (gBt S) (gSz S), 0) else ((0, gBt S), nI (tAt (gBt S) (gSz S) (tEr (gBt S) (gSz S)).2), S.2.2)
theorem sOk.taught {S : gS} (h : sOk S) : sOk (z_taught S) := by
  unfold z_taught
  split
  · rename_i h0
    obtain ⟨g1, g2⟩ := tOut_gm h0
    exact ⟨Nat.zero_le _, h.2.1, g2, g1⟩
  · exact ⟨Nat.zero_le _, h.2.1, h.2.2⟩
/-! rounds -/
theorem gNx_gm {tv : Nat → Nat} {os : List pOrd} {x : gX} (h : bGm x.1) (hp : gPrg (bN x.1) tv os) : bGm (gNx tv os x).1 ∧ bSz x.1 (gNx tv os x).1 := gRnd_gm (N := bN x.1) os (x.1, 0) h rfl (fun o ho => (hp.2.2 o ho).2.1)
theorem gPl_gm {tv : Nat → Nat} {os : List pOrd} : ∀ (n : Nat) (x : gX), bGm x.1 → gPrg (bN x.1) tv os → bGm (gPl tv os n x).1 ∧ bSz x.1 (gPl tv os n x).1
  | 0, x, h, _ => ⟨h, bSz.refl _⟩
  | n + 1, x, h, hp => by
    obtain ⟨h1, h2⟩ := gNx_gm h hp
    obtain ⟨h3, h4⟩ := gPl_gm n (gNx tv os x) h1 (by rw [h2.2.2.1]; exact hp)
    exact ⟨h3, h2.trans h4⟩
/-! the mean, the digest -/
def fdOk : FP.Core.Datum → Bool
  | .fin _ _ _ => true
  | _ => false
def fdNz : FP.Core.Datum → Bool
  | .fin _ c _ => decide (c ≠ 0)
  | _ => false
theorem fd_t : ∀ t, t < 1471 → fdOk (FP.Core.decode FP.Core.b64 (FP.i2d (nI t)).toNat) = true := by decide +kernel
theorem fd_n : ∀ n, n < 148 → 0 < n → fdNz (FP.Core.decode FP.Core.b64 (FP.i2d (nI n)).toNat) = true := by decide +kernel
theorem fE_le (s : Bool) (e t : Nat) (he : e ≤ 2046) (ht : t < 2 ^ 52) : FP.Core.assemble FP.Core.b64 s e t % 2 ^ 63 ≤ 2047 * 2 ^ 52 := by
  have h : FP.Core.assemble FP.Core.b64 s e t = (s.toNat * 2 ^ 11 + e) * 2 ^ 52 + t := rfl
  have hs : s.toNat ≤ 1 := by cases s <;> decide
  rw [h]
  omega
theorem fI_le (s : Bool) : FP.Core.encode FP.Core.b64 (.inf s) % 2 ^ 63 ≤ 2047 * 2 ^ 52 := by cases s <;> decide +kernel
theorem fF_le (s : Bool) (c : Nat) (q : Int) (hc : c < 2 ^ 53) (hq1 : FP.Core.b64.qmin ≤ q) (hq2 : q ≤ FP.Core.b64.qmax) : FP.Core.encode FP.Core.b64 (.fin s c q) % 2 ^ 63 ≤ 2047 * 2 ^ 52 := by
  have e1 : FP.Core.b64.qmin = -1074 := by decide +kernel
  have e2 : FP.Core.b64.qmax = 971 := by decide +kernel
  have h : FP.Core.encode FP.Core.b64 (.fin s c q) = if c < 2 ^ 52 then FP.Core.assemble FP.Core.b64 s 0 c else FP.Core.assemble FP.Core.b64 s ((q - FP.Core.b64.qmin).toNat + 1) (c - 2 ^ 52) := rfl
  rw [h]
  split
  · rename_i hlt
    exact fE_le s 0 c (by omega) hlt
  · exact fE_le s _ _ (by omega) (by omega)
theorem fB_le (s : Bool) (c : Nat) (q : Int) (hc : c < 2 ^ 53) (hq1 : FP.Core.b64.qmin ≤ q) : FP.Core.encode FP.Core.b64 (FP.Core.bound FP.Core.b64 s c q) % 2 ^ 63 ≤ 2047 * 2 ^ 52 := by
  unfold FP.Core.bound
  split
  · rename_i hq
    exact fF_le s c q hc hq1 hq
  · exact fI_le s
theorem fR_le (s : Bool) (num den : Nat) (e : Int) : FP.Core.encode FP.Core.b64 (FP.Core.roundRatio FP.Core.b64 s num den e) % 2 ^ 63 ≤ 2047 * 2 ^ 52 := by
  unfold FP.Core.roundRatio
  split
  · exact fF_le s 0 _ (by decide) (Int.le_refl _) (by decide +kernel)
  · have hq : FP.Core.b64.qmin ≤ FP.Core.quantum FP.Core.b64 num den e := Int.le_max_left _ _
    unfold FP.Core.roundAt FP.Core.settle
    split
    · rename_i hc
      exact fB_le s _ _ hc hq
    · exact fB_le s _ _ (by decide +kernel) (by omega)
theorem fN_of {x : Nat} (h : x % 2 ^ 63 ≤ 2047 * 2 ^ 52) : vf_n64 (UInt64.ofNat x) := by
  unfold vf_n64
  have e0 : (UInt64.ofNat x).toNat = x % 2 ^ 64 := rfl
  have e1 : (0x7fffffffffffffff : UInt64).toNat = 2 ^ 63 - 1 := by decide
  have e2 : (0x7ff0000000000000 : UInt64).toNat = 2047 * 2 ^ 52 := by decide
  rw [UInt64.le_iff_toNat_le, UInt64.toNat_and, e0, e1, e2, Nat.and_two_pow_sub_one_eq_mod]
  omega
theorem fQ_le (a b : FP.Core.Datum) (h1 : fdOk a = true) (h2 : fdNz b = true) : FP.Core.encode FP.Core.b64 (FP.Core.quotient FP.Core.b64 a b) % 2 ^ 63 ≤ 2047 * 2 ^ 52 := by
  cases a with
  | nan => cases h1
  | inf s => cases h1
  | fin s c q =>
    cases b with
    | nan => cases h2
    | inf s => cases h2
    | fin t d r =>
      have hd : ¬ d = 0 := of_decide_eq_true h2
      have e : FP.Core.quotient FP.Core.b64 (.fin s c q) (.fin t d r) = FP.Core.roundRatio FP.Core.b64 (s != t) c d (q - r) := if_neg hd
      rw [e]
      exact fR_le _ _ _ _
theorem eNaN {t n : Nat} (ht : t ≤ 1470) (hn : 0 < n) (hn2 : n ≤ 147) : vf_n64 (FP.ddiv (FP.i2d (nI t)) (FP.i2d (nI n))) :=
  fN_of (fQ_le _ _ (fd_t t (by omega)) (fd_n n (by omega) hn))
theorem bMatch_147 {B : eBd} (hb : bOk B) : bMatch B ≤ 147 := by
  have h49 := hb.c49
  have := zSm_le (f := fun c => if (bAt B c).isSome then bTb B c else 0) (k := 6) (n := bC B) (fun i _ => by
    split
    · exact bTb_le B i
    · omega)
  unfold bMatch bEnds
  omega
theorem bMatched_le {B : eBd} (hg : bGm B) : bMatched B ≤ 1470 := by
  have h49 := hg.1.c49
  have e : zSm (bHereF B) (bC B) = bMatched B := zSm_ext (fun c hcc => bHereF_eq hg.2 hcc)
  have h := zSm_le (f := bHereF B) (k := 30) (n := bC B) (fun c hc => by
    unfold bHereF
    split
    · have h3 := zSm_le (f := fun e => (bFace B c e).getD 0) (k := 10) (n := 3) (fun e he => by
        show (bFace B c e).getD 0 ≤ 10
        cases h2 : bFace B c e with
        | none => exact Nat.zero_le _
        | some x => exact Nat.le_of_lt (hg.1.face hc (by omega) h2))
      omega
    · omega)
  rw [← e]
  omega
theorem bMatch_le {B : eBd} (hb : bOk B) : bMatch B < 2 ^ 31 := by
  have h49 := hb.c49
  have := zSm_le (f := fun c => if (bAt B c).isSome then bTb B c else 0) (k := 6) (n := bC B) (fun i _ => by
    split
    · exact bTb_le B i
    · omega)
  unfold bMatch bEnds
  omega
/-- the digest, cell by cell and tile by tile -/
def zDc (B : eBd) : Nat → Nat → Int64 → Int64
  | 0, _, d => d
  | f + 1, c, d => zDc B f (c + 1) ((((d * 31) + (eO (bAt B c)).toInt64) * 31 + (nI (bMatchOn B c)).toInt64) * 31 + ((if bRing B c then (1 : Int32) else 0)).toInt64)
def zDt (B : eBd) : Nat → Nat → Int64 → Int64
  | 0, _, d => d
  | f + 1, k, d => zDt B f (k + 1) ((((d * 31) + (if (bCe B k).isSome then nI (bTr B k) else -1).toInt64) * 31 + (nI (bWays B k)).toInt64) * 31 + ((if bLeft B k then (1 : Int32) else 0)).toInt64)
def zD0 (S : gS) : Int64 := (((((((((((((((((((1009 * 31) + (nI (bW (gB S))).toInt64) * 31) + (nI (bR (gB S))).toInt64) * 31) + (nI (bN (gB S))).toInt64) * 31) + (gR S).toInt64) * 31) + (nI (bP (gB S))).toInt64) * 31) + (nI (bMatch (gB S))).toInt64) * 31) + (nI (bPoints (gB S))).toInt64) * 31) + (nI (bRings (gB S))).toInt64) * 31) + (nI (bGroups (gB S))).toInt64) * 31) + (eO (bBestT (gB S))).toInt64
def z_digest (S : gS) : Int64 := zDt (gB S) (bN (gB S)) 0 (zDc (gB S) (bC (gB S)) 0 (zD0 S))
theorem bWays_0 {B : eBd} {k : Nat} (hk : bCe B k = none) : bWays B k = 0 ↔ bFirst B k = none := by
  constructor
  · intro h
    refine zFf_none (fun c hc => ?_)
    have h1 : zSm (fun t => if bFits B k c t then 1 else 0) 6 = 0 := zSm_of0 h c hc
    have h2 : bAny B k c = none := zFf_none (fun t ht => by
      have h3 := zSm_of0 h1 t ht
      cases h4 : bFits B k c t with
      | false => rfl
      | true =>
        have h5 : (if bFits B k c t then 1 else 0) = 0 := h3
        rw [h4] at h5
        cases h5)
    rw [h2]
    rfl
  · intro h
    refine zSm_zero (fun c hc => zSm_zero (fun t ht => ?_))
    have h1 := zFf_none' h c hc
    cases h2 : bAny B k c with
    | some t' => rw [h2] at h1; cases h1
    | none =>
      have h3 := zFf_none' h2 t ht
      rw [h3]
      rfl
theorem bWays_lie {B : eBd} {k c : Nat} (hk : bCe B k = some c) : bWays B k = 0 := zSm_zero (fun c' _ => zSm_zero (fun t _ => by
  have : bFits B k c' t = false := by unfold bFits; rw [hk]; rfl
  rw [this]
  rfl))
end Pub2
