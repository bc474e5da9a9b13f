/-! ===== orders carried out: what they mean ===== -/
theorem eB32 {n : Int} (h1 : -2 ^ 31 ≤ n) (h2 : n < 2 ^ 31) : n.bmod (2 ^ 32) = n := Int.bmod_eq_of_le h1 h2
theorem eMsb (z : Int32) : z.toBitVec.msb = decide (z.toInt < 0) := by
  cases h : z.toBitVec.msb with
  | true => exact (decide_eq_true (BitVec.toInt_neg_of_msb_true h)).symm
  | false =>
    have h1 : 0 ≤ z.toInt := BitVec.toInt_nonneg_of_msb_false h
    exact (decide_eq_false (by omega)).symm
theorem eXor (x y : Int32) (hy : 0 ≤ y.toInt) : (0 ≤ x ^^^ y) ↔ 0 ≤ x.toInt := by
  rw [Int32.le_iff_toInt_le, Int32.toInt_zero]
  have m1 : (x ^^^ y).toBitVec.msb = x.toBitVec.msb := by
    rw [Int32.toBitVec_xor, BitVec.msb_xor, eMsb y, decide_eq_false (by omega), Bool.xor_false]
  rw [eMsb, eMsb] at m1
  have m2 := decide_eq_decide.mp m1
  omega
theorem eFm_in (x : Int32) {d : Nat} (h0 : 2 ≤ d) (h1 : d < 2 ^ 31) : 0 ≤ (eFm x (nI d)).toInt ∧ (eFm x (nI d)).toInt < d := by
  have hd : (nI d).toInt = (d : Int) := nI_toInt h1
  have x1 := x.le_toInt
  have x2 := x.toInt_lt
  obtain ⟨X, hX⟩ : ∃ X, X = x.toInt := ⟨_, rfl⟩
  rw [← hX] at x1 x2
  have t1 : X.tmod d + X.tdiv d * d = X := Int.tmod_add_tdiv_mul X d
  have t2 : X.tmod d < d := Int.tmod_lt_of_pos X (by omega)
  have t3 : -(d : Int) < X.tmod d := Int.lt_tmod_of_pos X (by omega)
  have t4 : 0 ≤ X → 0 ≤ X.tmod d := fun h => Int.tmod_nonneg _ h
  have t5 : X ≤ 0 → X.tmod d ≤ 0 := fun h => by
    have := Int.tmod_nonneg (a := -X) d (by omega)
    rw [Int.neg_tmod] at this
    omega
  have t6 : (X.tmod d).natAbs ≤ X.natAbs := by rw [Int.natAbs_tmod]; exact Nat.mod_le _ _
  obtain ⟨T, hT⟩ : ∃ T, T = X.tmod d := ⟨_, rfl⟩
  obtain ⟨P, hP⟩ : ∃ P, P = X.tdiv d * d := ⟨_, rfl⟩
  rw [← hT] at t1 t2 t3 t4 t5 t6
  rw [← hP] at t1
  have er : (x - x / nI d * nI d).toInt = T := by
    rw [Int32.toInt_sub, Int32.toInt_mul, Int32.toInt_div_of_ne_right _ _ (eNeg d h1), hd, ← hX, ← hP, eB32 (n := P) (by omega) (by omega), show X - P = T by omega, eB32 (by omega) (by omega)]
  have ex := eXor x (nI d) (by rw [hd]; omega)
  rw [← hX] at ex
  unfold eFm
  by_cases hx : 0 ≤ X
  · rw [if_pos (ex.mpr hx), er]
    exact ⟨t4 hx, t2⟩
  · rw [if_neg (fun z => hx (ex.mp z))]
    by_cases hr : x - x / nI d * nI d = 0
    · rw [if_pos hr, hr, Int32.toInt_zero]
      omega
    · rw [if_neg hr, Int32.toInt_add, er, hd]
      have hT0 : T ≠ 0 := fun z => hr (Int32.toInt_inj.mp (by rw [er, z, Int32.toInt_zero]))
      have := t5 (by omega)
      rw [eB32 (by omega) (by omega)]
      omega
/-- the remainder, never below 0 -/
def zMod (x : Int32) (d : Nat) : Nat := (eFm x (nI d)).toInt.toNat
theorem zMod_lt (x : Int32) {d : Nat} (h0 : 2 ≤ d) (h1 : d < 2 ^ 31) : zMod x d < d := by
  have := eFm_in x h0 h1
  unfold zMod
  omega
theorem zMod_eq (x : Int32) {d : Nat} (h0 : 2 ≤ d) (h1 : d < 2 ^ 31) : eFm x (nI d) = nI (zMod x d) := by
  have h2 := eFm_in x h0 h1
  have h3 := zMod_lt x h0 h1
  refine Int32.toInt_inj.mp ?_
  rw [nI_toInt (by omega)]
  unfold zMod
  omega
/-! values -/
def gLf (tv : Nat → Nat) (B : eBd) (r : Int32) (k t : Nat) : Int32 :=
  if k = 40 then nI (tv t) else if k = 10 then r else if k = 11 then nI (bP B) else if k = 12 then nI (bMatch B) else if k = 13 then nI (bPoints B) else if k = 14 then nI (bRings B) else if k = 15 then nI (bC B) - nI (bP B) else if k = 16 then nI (bWays B (tv t)) else if k = 18 then (if (bCe B (tv t)).isSome then 1 else 0) else (if (bFirst B (tv t)).isSome then 1 else 0)
def gUn (k : Nat) (v : Int32) : Int32 := if k = 44 then -v else if v = 0 then 1 else 0
def gHold (k : Nat) (l r : Int32) : Bool :=
  if k = 35 then decide (l < r) else if k = 36 then decide (r < l) else if k = 37 then decide (l = r) else if k = 38 then decide (l ≤ r) else if k = 39 then decide (r ≤ l) else if k = 21 then !decide (l = 0) && !decide (r = 0) else !decide (l = 0) || !decide (r = 0)
def gBi (k : Nat) (l r : Int32) : Int32 :=
  if k = 31 then l + r else if k = 32 then l - r else if k = 33 then l * r else if k = 34 then (if r = 0 then 0 else l / r) else if k = 23 then (if r < l then r else l) else if k = 24 then (if l < r then r else l) else if gHold k l r then 1 else 0
/-- kinds of steps -/
abbrev gKl (k : Nat) : Prop := k = 40 ∨ k = 10 ∨ k = 11 ∨ k = 12 ∨ k = 13 ∨ k = 14 ∨ k = 15 ∨ k = 16 ∨ k = 18 ∨ k = 19
def gKb (k : Nat) : Prop := k = 21 ∨ k = 22 ∨ k = 23 ∨ k = 24 ∨ k = 31 ∨ k = 32 ∨ k = 33 ∨ k = 34 ∨ k = 35 ∨ k = 36 ∨ k = 37 ∨ k = 38 ∨ k = 39
def gStep (tv : Nat → Nat) (B : eBd) (r : Int32) (st : List Int32) (s : pSt) : List Int32 :=
  if gKl s.1 then gLf tv B r s.1 s.2.1 :: st else if s.1 = 44 ∨ s.1 = 20 then gUn s.1 (st.headD 0) :: st.tail else gBi s.1 (st.tail.headD 0) (st.headD 0) :: st.tail.tail
def gRun (tv : Nat → Nat) (B : eBd) (r : Int32) (st : List Int32) (cd : List pSt) : List Int32 := cd.foldl (gStep tv B r) st
def gVal (tv : Nat → Nat) (B : eBd) (r : Int32) (cd : List pSt) : Int32 := (gRun tv B r [] cd).headD 0
section GVal
variable {tv : Nat → Nat} {B : eBd} {r : Int32}
theorem gRun_app (st : List Int32) (c1 c2 : List pSt) : gRun tv B r st (c1 ++ c2) = gRun tv B r (gRun tv B r st c1) c2 := List.foldl_append ..
theorem gRun_one (st : List Int32) (s : pSt) : gRun tv B r st [s] = gStep tv B r st s := rfl
theorem gRun_cons (st : List Int32) (s : pSt) (cd : List pSt) : gRun tv B r st (s :: cd) = gRun tv B r (gStep tv B r st s) cd := rfl
theorem gStep_len (st : List Int32) (s : pSt) : (gStep tv B r st s).length ≤ st.length + 1 := by
  unfold gStep
  split
  · exact Nat.le_refl _
  split
  · rw [List.length_cons, List.length_tail]; omega
  · rw [List.length_cons, List.length_tail, List.length_tail]; omega
theorem pLeaf.kl {ty : Bool} {k : Nat} (h : pLeaf ty k) : gKl k := by
  rcases h with ⟨-, h⟩ | ⟨-, h⟩ <;> omega
theorem pUn.k {ty : Bool} {k : Nat} (h : pUn ty k) : k = 44 ∨ k = 20 := by
  rcases h with ⟨-, h⟩ | ⟨-, h⟩ <;> omega
theorem pBi.kb {ty a : Bool} {k : Nat} (h : pBi ty a k) : gKb k := by
  unfold gKb
  rcases h with ⟨-, -, h⟩ | ⟨-, -, h⟩ | ⟨-, -, h⟩ <;> omega
theorem gStep_l {st : List Int32} {s : pSt} (h : gKl s.1) : gStep tv B r st s = gLf tv B r s.1 s.2.1 :: st := if_pos h
theorem gStep_u {st : List Int32} {s : pSt} (h : s.1 = 44 ∨ s.1 = 20) : gStep tv B r st s = gUn s.1 (st.headD 0) :: st.tail := by
  unfold gStep
  rw [if_neg (by omega), if_pos h]
theorem gStep_b {st : List Int32} {s : pSt} (h : gKb s.1) : gStep tv B r st s = gBi s.1 (st.tail.headD 0) (st.headD 0) :: st.tail.tail := by
  unfold gKb at h
  unfold gStep
  rw [if_neg (by omega), if_neg (by omega)]
theorem gTree_run' : ∀ (n : Nat) (ty : Bool) (b : Nat) (cd : List pSt), pTree n ty b cd → ∃ v, (∀ st, gRun tv B r st cd = v :: st) ∧ (ty = true → v = 0 ∨ v = 1)
  | 0, _, _, _, h => h.elim
  | n + 1, ty, b, cd, h => by
    rcases h with ⟨k, t, h1, rfl⟩ | ⟨c, k, h1, h2, rfl⟩ | ⟨c1, c2, a, k, h1, h2, h3, rfl⟩
    · refine ⟨gLf tv B r k t, fun st => by rw [gRun_one, gStep_l (s := (k, t, 0, 0)) h1.kl], fun z => ?_⟩
      have hk : k = 18 ∨ k = 19 := by
        rcases h1 with ⟨h, -⟩ | ⟨-, h⟩
        · rw [h] at z; cases z
        · exact h
      unfold gLf
      rcases hk with rfl | rfl
      · show (if (bCe B (tv t)).isSome then (1 : Int32) else 0) = 0 ∨ (if (bCe B (tv t)).isSome then (1 : Int32) else 0) = 1
        split
        · exact Or.inr rfl
        · exact Or.inl rfl
      · show (if (bFirst B (tv t)).isSome then (1 : Int32) else 0) = 0 ∨ (if (bFirst B (tv t)).isSome then (1 : Int32) else 0) = 1
        split
        · exact Or.inr rfl
        · exact Or.inl rfl
    · obtain ⟨v, hv, -⟩ := gTree_run' n ty b c h2
      refine ⟨gUn k v, fun st => ?_, fun z => ?_⟩
      · rw [gRun_app, hv, gRun_one, gStep_u (s := (k, 0, b + c.length - 1, 0)) h1.k]
        rfl
      · have hk : k = 20 := by
          rcases h1 with ⟨h, -⟩ | ⟨-, h⟩
          · rw [h] at z; cases z
          · exact h
        subst hk
        unfold gUn
        rw [if_neg (by decide)]
        split
        · exact Or.inr rfl
        · exact Or.inl rfl
    · obtain ⟨v1, hv1, -⟩ := gTree_run' n a b c1 h2
      obtain ⟨v2, hv2, -⟩ := gTree_run' n a (b + c1.length) c2 h3
      refine ⟨gBi k v1 v2, fun st => ?_, fun z => ?_⟩
      · rw [gRun_app, hv1, gRun_app, hv2, gRun_one, gStep_b (s := (k, 0, b + c1.length - 1, b + c1.length + c2.length - 1)) h1.kb]
        rfl
      · have hk : (35 ≤ k ∧ k ≤ 39) ∨ k = 21 ∨ k = 22 := by
          rcases h1 with ⟨h, -, -⟩ | ⟨-, -, h⟩ | ⟨-, -, h⟩
          · rw [h] at z; cases z
          · exact Or.inl h
          · exact Or.inr h
        unfold gBi
        rw [if_neg (by omega), if_neg (by omega), if_neg (by omega), if_neg (by omega), if_neg (by omega), if_neg (by omega)]
        split
        · exact Or.inr rfl
        · exact Or.inl rfl
theorem gTree_run {n : Nat} {ty : Bool} {b : Nat} {cd : List pSt} (h : pTree n ty b cd) (st : List Int32) : gRun tv B r st cd = gVal tv B r cd :: st := by
  obtain ⟨v, hv, -⟩ := gTree_run' (tv := tv) (B := B) (r := r) n ty b cd h
  unfold gVal
  rw [hv, hv]
  rfl
theorem gTree_bool {n : Nat} {b : Nat} {cd : List pSt} (h : pTree n true b cd) : gVal tv B r cd = 0 ∨ gVal tv B r cd = 1 := by
  obtain ⟨v, hv, hb⟩ := gTree_run' (tv := tv) (B := B) (r := r) n true b cd h
  unfold gVal
  rw [hv]
  exact hb rfl
theorem gTree_leaf {k t : Nat} (h : gKl k) : gVal tv B r [(k, t, 0, 0)] = gLf tv B r k t := by
  unfold gVal
  rw [gRun_one, gStep_l (s := (k, t, 0, 0)) h]
  rfl
theorem gTree_un {n : Nat} {ty : Bool} {b k : Nat} {c : List pSt} (h : pTree n ty b c) (hk : k = 44 ∨ k = 20) : gVal tv B r (c ++ [(k, 0, b + c.length - 1, 0)]) = gUn k (gVal tv B r c) := by
  rw [gVal, gRun_app, gTree_run h, gRun_one, gStep_u (s := (k, 0, b + c.length - 1, 0)) hk]
  rfl
theorem gTree_bi {n : Nat} {a : Bool} {b k : Nat} {c1 c2 : List pSt} (h1 : pTree n a b c1) (h2 : pTree n a (b + c1.length) c2) (hk : gKb k) : gVal tv B r (c1 ++ (c2 ++ [(k, 0, b + c1.length - 1, b + c1.length + c2.length - 1)])) = gBi k (gVal tv B r c1) (gVal tv B r c2) := by
  rw [gVal, gRun_app, gTree_run h1, gRun_app, gTree_run h2, gRun_one, gStep_b (s := (k, 0, b + c1.length - 1, b + c1.length + c2.length - 1)) hk]
  rfl
end GVal
/-- a step's sense -/
def gKd (k : Nat) : Prop := gKl k ∨ (k = 44 ∨ k = 20) ∨ gKb k
theorem pTree.kinds : ∀ {n : Nat} {ty : Bool} {b : Nat} {cd : List pSt}, pTree n ty b cd → ∀ s, s ∈ cd → gKd s.1
  | 0, _, _, _, h, _, _ => h.elim
  | n + 1, ty, b, cd, h, s, hs => by
    rcases h with ⟨k, t, h1, rfl⟩ | ⟨c, k, h1, h2, rfl⟩ | ⟨c1, c2, a, k, h1, h2, h3, rfl⟩
    · rw [List.mem_singleton.mp hs]; exact Or.inl h1.kl
    · rcases List.mem_append.mp hs with z | z
      · exact pTree.kinds h2 s z
      · rw [List.mem_singleton.mp z]; exact Or.inr (Or.inl h1.k)
    · rcases List.mem_append.mp hs with z | z
      · exact pTree.kinds h2 s z
      · rcases List.mem_append.mp z with z | z
        · exact pTree.kinds h3 s z
        · rw [List.mem_singleton.mp z]; exact Or.inr (Or.inr h1.kb)
def gNm (N : Nat) (tv : Nat → Nat) (cd : List pSt) : Prop := ∀ s, s ∈ cd → (s.1 = 16 ∨ s.1 = 18 ∨ s.1 = 19) → tv s.2.1 < N
/-- an order's sense in a game -/
def gOrd (N : Nat) (tv : Nat → Nat) (cd : List pSt) (o : pOrd) : Prop := (oKind o = 4 ∨ oKind o = 7 ∨ oKind o = 8) ∧ tv (oName o) < N ∧ (oEnd o ≤ cd.length ∧ ∀ j s, (oCode o)[j]? = some s → cd[oFrom o + j]? = some s) ∧ gNm N tv (oCode o) ∧ (oKind o = 4 → pTr false (oFrom o) (oS1 o) ∧ pTr false (oFrom o + (oS1 o).length) (oS2 o) ∧ pTr false (oFrom o + (oS1 o).length + (oS2 o).length) (oS3 o)) ∧ (oKind o ≠ 4 → oS1 o = [] ∧ oS2 o = [] ∧ oS3 o = []) ∧ (oHas o = true → pTr true (oMid o) (oTst o)) ∧ (oHas o = false → oTst o = [])
def gPrg (N : Nat) (tv : Nat → Nat) (os : List pOrd) : Prop := os.length ≤ 16 ∧ (osCode os).length ≤ 400 ∧ ∀ o, o ∈ os → gOrd N tv (osCode os) o
/-! what an order does -/
def gAct (B : eBd) (k i : Nat) (v1 v2 v3 : Int32) : eBd × Bool :=
  if k = 8 then (match bFirst B i with
    | none => (B, false)
    | some c => (bPut B i c ((bAny B i c).getD 0), true))
  else if k = 4 then (if bFits B i (zMod v2 (bR B) * bW B + zMod v1 (bW B)) (zMod v3 6) then (bPut B i (zMod v2 (bR B) * bW B + zMod v1 (bW B)) (zMod v3 6), true) else (B, false))
  else (match bCe B i with
    | none => (B, false)
    | some c => (bLift B i c, true))
def gOrdR (tv : Nat → Nat) (r : Int32) (B : eBd) (o : pOrd) : eBd × Bool :=
  if oHas o = true ∧ gVal tv B r (oTst o) = 0 then (B, false) else gAct B (oKind o) (tv (oName o)) (gVal tv B r (oS1 o)) (gVal tv B r (oS2 o)) (gVal tv B r (oS3 o))
def gRnd (tv : Nat → Nat) (r : Int32) : List pOrd → eBd × Nat → eBd × Nat
  | [], x => x
  | o :: os, x => gRnd tv r os ((gOrdR tv r x.1 o).1, x.2 + (if (gOrdR tv r x.1 o).2 then 1 else 0))
/-- boards of one game -/
def bGm (B : eBd) : Prop := bOk B ∧ bMeet B
def bSz (B B' : eBd) : Prop := bW B' = bW B ∧ bR B' = bR B ∧ bN B' = bN B ∧ bNu B' = bNu B
theorem bSz.refl (B : eBd) : bSz B B := ⟨rfl, rfl, rfl, rfl⟩
theorem bSz.trans {A B C : eBd} (h : bSz A B) (h1 : bSz B C) : bSz A C := ⟨h1.1.trans h.1, h1.2.1.trans h.2.1, h1.2.2.1.trans h.2.2.1, h1.2.2.2.trans h.2.2.2⟩
theorem bSz.put (B : eBd) (k c t : Nat) : bSz B (bPut B k c t) := ⟨rfl, rfl, rfl, rfl⟩
theorem bSz.lift (B : eBd) (k c : Nat) : bSz B (bLift B k c) := ⟨rfl, rfl, rfl, rfl⟩
theorem bGm.put {B : eBd} (h : bGm B) {k c t : Nat} (hk : k < bN B) (hc : c < bC B) (ht : t < 6) (hf : bFits B k c t = true) : bGm (bPut B k c t) := by
  obtain ⟨f1, f2, -⟩ := bFits_face hf
  exact ⟨h.1.put hk hc ht f2 f1, h.2.put h.1 hk hc f2 f1 (bGood_fits h.1 hc hf)⟩
theorem bGm.lift {B : eBd} (h : bGm B) {k c : Nat} (hk : k < bN B) (h2 : bCe B k = some c) : bGm (bLift B k c) := ⟨h.1.lift hk h2, h.2.lift⟩
theorem zFf_lt {p : Nat → Bool} {n i : Nat} (h : zFf p n = some i) : i < n := (zFf_some' h).1
theorem bFirst_some {B : eBd} {k c : Nat} (h : bFirst B k = some c) : c < bC B ∧ ∃ t, bAny B k c = some t ∧ t < 6 ∧ bFits B k c t = true := by
  obtain ⟨h1, h2, -⟩ := zFf_some' h
  cases h3 : bAny B k c with
  | none => rw [h3] at h2; cases h2
  | some t =>
    obtain ⟨h4, h5, -⟩ := zFf_some' h3
    exact ⟨h1, t, rfl, h4, h5⟩
theorem gCell_lt {B : eBd} (h : bOk B) (v1 v2 : Int32) : zMod v2 (bR B) * bW B + zMod v1 (bW B) < bC B := by
  obtain ⟨⟨w1, w2⟩, ⟨r1, r2⟩, -⟩ := h
  have h1 := zMod_lt v1 (d := bW B) (by omega) (by omega)
  have h2 := zMod_lt v2 (d := bR B) (by omega) (by omega)
  have h3 : (zMod v2 (bR B) + 1) * bW B ≤ bR B * bW B := Nat.mul_le_mul_right _ h2
  rw [Nat.add_mul, Nat.one_mul, Nat.mul_comm (bR B)] at h3
  show _ < bW B * bR B
  omega
theorem gAct_gm {B : eBd} (h : bGm B) {k i : Nat} (hi : i < bN B) (v1 v2 v3 : Int32) : bGm (gAct B k i v1 v2 v3).1 ∧ bSz B (gAct B k i v1 v2 v3).1 := by
  unfold gAct
  split
  · cases h1 : bFirst B i with
    | none => exact ⟨h, bSz.refl B⟩
    | some c =>
      obtain ⟨hc, t, ht, ht6, hf⟩ := bFirst_some h1
      show bGm (bPut B i c ((bAny B i c).getD 0)) ∧ bSz B (bPut B i c ((bAny B i c).getD 0))
      rw [ht]
      exact ⟨h.put hi hc ht6 hf, bSz.put _ _ _ _⟩
  split
  · split
    · rename_i hf
      exact ⟨h.put hi (gCell_lt h.1 v1 v2) (zMod_lt v3 (by decide) (by decide)) hf, bSz.put _ _ _ _⟩
    · exact ⟨h, bSz.refl B⟩
  · cases h1 : bCe B i with
    | none => exact ⟨h, bSz.refl B⟩
    | some c => exact ⟨h.lift hi h1, bSz.lift _ _ _⟩
theorem gOrdR_gm {B : eBd} (h : bGm B) {tv : Nat → Nat} {r : Int32} {o : pOrd} (hi : tv (oName o) < bN B) : bGm (gOrdR tv r B o).1 ∧ bSz B (gOrdR tv r B o).1 := by
  unfold gOrdR
  split
  · exact ⟨h, bSz.refl B⟩
  · exact gAct_gm h hi _ _ _
theorem gRnd_gm {tv : Nat → Nat} {r : Int32} {N : Nat} : ∀ (os : List pOrd) (x : eBd × Nat), bGm x.1 → bN x.1 = N → (∀ o, o ∈ os → tv (oName o) < N) → bGm (gRnd tv r os x).1 ∧ bSz x.1 (gRnd tv r os x).1
  | [], x, h, _, _ => ⟨h, bSz.refl _⟩
  | o :: os, x, h, hN, ho => by
    obtain ⟨h1, h2⟩ := gOrdR_gm h (r := r) (tv := tv) (o := o) (by rw [hN]; exact ho o List.mem_cons_self)
    obtain ⟨h3, h4⟩ := gRnd_gm (tv := tv) (r := r) (N := N) os ((gOrdR tv r x.1 o).1, x.2 + (if (gOrdR tv r x.1 o).2 then 1 else 0)) h1 (h2.2.2.1.trans hN) (fun o' h' => ho o' (List.mem_cons_of_mem _ h'))
    exact ⟨h3, h2.trans h4⟩
theorem gOrdR_1 {tv : Nat → Nat} {r : Int32} {B : eBd} {o : pOrd} : ∀ n : Nat, n + (if (gOrdR tv r B o).2 then 1 else 0) ≤ n + 1 := fun n => by split <;> omega
theorem gRnd_le {tv : Nat → Nat} {r : Int32} : ∀ (os : List pOrd) (x : eBd × Nat), (gRnd tv r os x).2 ≤ x.2 + os.length
  | [], x => Nat.le_refl _
  | o :: os, x => by
    have h := gRnd_le (tv := tv) (r := r) os ((gOrdR tv r x.1 o).1, x.2 + (if (gOrdR tv r x.1 o).2 then 1 else 0))
    have h1 := gOrdR_1 (tv := tv) (r := r) (B := x.1) (o := o) x.2
    show (gRnd tv r os ((gOrdR tv r x.1 o).1, x.2 + (if (gOrdR tv r x.1 o).2 then 1 else 0))).2 ≤ x.2 + (os.length + 1)
    omega

