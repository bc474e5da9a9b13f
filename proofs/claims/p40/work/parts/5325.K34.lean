/-! ===== the law: the cells, one by one ===== -/
/-- the tiles that lie on the cells before c -/
def bTh (A : eBd) (c k : Nat) : Bool := match bCe A k with
  | some x => decide (x < c)
  | none => false
theorem bTh_0 (A : eBd) (k : Nat) : bTh A 0 k = false := by
  unfold bTh
  cases bCe A k with
  | none => rfl
  | some x => exact decide_eq_false (Nat.not_lt_zero x)
theorem bTh_none {A : eBd} (hb : bOk A) {c : Nat} (hc : bAt A c = none) {k : Nat} (hk : k < bN A) : bTh A (c + 1) k = bTh A c k := by
  unfold bTh
  cases h : bCe A k with
  | none => rfl
  | some x =>
    have hx := (hb.2.2.2.2.1 k x hk h).2.1
    have hne : x ≠ c := fun z => by
      subst z
      rw [hc] at hx
      cases hx
    show decide (x < c + 1) = decide (x < c)
    exact decide_eq_decide.mpr ⟨fun z => by omega, fun z => by omega⟩
theorem bTh_some {A : eBd} (hb : bOk A) {c i : Nat} (hcC : c < bC A) (hc : bAt A c = some i) {k : Nat} (hk : k < bN A) : bTh A (c + 1) k = (decide (k = i) || bTh A c k) := by
  have hi := hb.2.2.2.1 c i hcC hc
  unfold bTh
  by_cases hki : k = i
  · subst hki
    rw [hi.2]
    show decide (c < c + 1) = (decide (k = k) || decide (c < c))
    rw [decide_eq_true (Nat.lt_succ_self c), decide_eq_true rfl]
    rfl
  · rw [decide_eq_false hki, Bool.false_or]
    cases h : bCe A k with
    | none => rfl
    | some x =>
      have hx := (hb.2.2.2.2.1 k x hk h).2.1
      have hne : x ≠ c := fun z => by
        subst z
        rw [hc] at hx
        cases hx
        exact hki rfl
      show decide (x < c + 1) = decide (x < c)
      exact decide_eq_decide.mpr ⟨fun z => by omega, fun z => by omega⟩
theorem bMatchOn_6 (A : eBd) (c : Nat) : bMatchOn A c ≤ 6 := by
  unfold bMatchOn
  have := bTb_le A c
  split <;> omega
section LCells
variable {b L : Nat} {xs : Nat → Int32} {G : eG} {M : eM} {S : gS} {g ta oa d : Nat} {tk : Nat → Nat} {A : eBd} {os : List xO} {x2 x8 : Int32} {C T : Nat}
/-- isThere, before the cell c -/
abbrev yTh (G : eG) (H0 : yH) (q : Nat) (A : eBd) (f : Nat → Int32) : yH := yU H0 q (.inl (G.2.2.2 2, (bN A, .inl f)))
/-- the locals at a cell: tiles, sum, rings, matches, isThere, the cell -/
abbrev lwE (b : Nat) (G : eG) (x2 : Int32) (d g : Nat) (A : eBd) (x8 : Int32) (dg : Int64) (t s r m : Nat) (q : Nat) (c : Nat) : List (Nat × Value) := [(0, .ref b), (1, .ref (G.1 0)), (2, .int x2), (3, .ref d), (5, .ref g), (6, .int (nI (bN A))), (7, .int (nI (bC A))), (8, .int x8), (9, .long dg), (11, .int (nI t)), (12, .int (nI s)), (13, .int (nI r)), (14, .int (nI m)), (15, .ref q), (16, .int (nI c))]
set_option maxHeartbeats 4000000 in
set_option maxRecDepth 100000 in
/-- the six edges of one cell -/
theorem L_358 {H : yH} {dg : Int64} {t r m q c k s0 : Nat} {ca sl : Nat} (hca : ca ≤ room_1.cells) (hsl : sl ≤ room_1.slots) (hcC : c < bC A) (hat : bAt A c = some k)
    (kk : ∀ M' : eM, lk G M' H S g ta oa tk A os → Yx (yXL b L xs) lwZ G room_1 kL_law 166 (lwE b G x2 d g A x8 dg t (s0 + zSm (fun e => bV1 A c e) 6) r m q (c + 1)) [] M' H ca sl) :
    ∀ (j e : Nat) (M : eM), e + j = 6 → lk G M H S g ta oa tk A os → Yx (yXL b L xs) lwZ G room_1 kL_law 358 [(0, .ref b), (1, .ref (G.1 0)), (2, .int x2), (3, .ref d), (5, .ref g), (6, .int (nI (bN A))), (7, .int (nI (bC A))), (8, .int x8), (9, .long dg), (11, .int (nI t)), (12, .int (nI (s0 + zSm (fun e => bV1 A c e) e))), (13, .int (nI r)), (14, .int (nI m)), (15, .ref q), (16, .int (nI c)), (18, .int (nI e))] [] M H ca sl := by
  intro j
  induction j with
  | zero =>
    intro e M he hl
    have e6 : e = 6 := by omega
    subst e6
    refine B_L_law_358 G ca sl M H _ _ _ _ _ _ _ _ _ _ _ _ _ _ ⟨fun _ => ?_, fun z => absurd (by decide) z⟩
    rw [← nI_succ]
    exact kk M hl
  | succ j ih =>
    intro e M he hl
    have hm := hl.2.2.2.1.1
    have hb := hm.1
    have h49 := hb.c49
    have ho := hb.2.2.2.1 c k hcC hat
    have he6 : e < 6 := by omega
    have hv : ∀ v, bV1 A c e = v → zSm (fun e => bV1 A c e) (e + 1) = zSm (fun e => bV1 A c e) e + v := fun v h => by rw [← h]; rfl
    have skip : ∀ M' : eM, lc M' S A → bV1 A c e = 0 → Yx (yXL b L xs) lwZ G room_1 kL_law 358 [(0, .ref b), (1, .ref (G.1 0)), (2, .int x2), (3, .ref d), (5, .ref g), (6, .int (nI (bN A))), (7, .int (nI (bC A))), (8, .int x8), (9, .long dg), (11, .int (nI t)), (12, .int (nI (s0 + zSm (fun e => bV1 A c e) e))), (13, .int (nI r)), (14, .int (nI m)), (15, .ref q), (16, .int (nI c)), (18, .int (nI e + 1))] [] M' H ca sl := fun M' l' h0 => by
      have z := ih (e + 1) M' (by omega) (hl.m l')
      rw [hv 0 h0, Nat.add_zero, nI_succ] at z
      exact z
    refine B_L_law_358 G ca sl M H _ _ _ _ _ _ _ _ _ _ _ _ _ _ ⟨fun z => absurd z (nI_ge (b := 6) (by omega) (by decide)), fun _ => ⟨⟨by omega, by omega⟩, yIs.of hl.2.1.1, _, S_beside hl.2.1 hb hcC he6, ?_⟩⟩
    have hbt : bTile A c e = match bBes A c e with | none => none | some x => bAt A x := rfl
    have hbv : bV1 A c e = if (bTile A c e).isSome then bNm A k (bTr A k) e else 0 := by
      unfold bV1
      rw [hat]
    cases hbs : bBes A c e with
    | none =>
      refine ⟨fun _ => skip M hl.c ?_, fun z => absurd (by decide) z⟩
      rw [hbv, hbt, hbs]
      rfl
    | some x =>
      obtain ⟨hx, -⟩ := hb.bes hcC he6 hbs
      refine ⟨fun z => absurd z (nI_pos (by omega)), fun _ => ⟨⟨by omega, by omega⟩, Q_hasTile hl.c hx (fun M1 l1 => ⟨fun z => ?_, fun z => ?_⟩)⟩⟩
      · obtain ⟨l, hlx⟩ := Option.isSome_iff_exists.mp z
        have e3 : (nI e + 3) - (nI e + 3) / 6 * 6 = nI ((e + 3) % 6) := by
          rw [show nI e + (3 : Int32) = nI (e + 3) from nI_add e 3, show (6 : Int32) = nI 6 from rfl]
          exact nI_rem (by omega) (by decide) (by decide)
        have hmn := meet_num hb hm.2 hcC he6 hbs hat hlx
        rw [e3]
        refine ⟨⟨by omega, by omega⟩, Q_numberAt l1 hcC he6 hat (fun M2 l2 => ⟨⟨by omega, by omega⟩, Q_numberAt l2 hx (Nat.mod_lt _ (by decide)) hlx (fun M3 l3 => ⟨fun _ => ⟨⟨by omega, by omega⟩, Q_numberAt l3 hcC he6 hat (fun M4 l4 => ?_)⟩, fun y => absurd (by rw [hmn]) y⟩)⟩)⟩
        have z := ih (e + 1) M4 (by omega) (hl.m l4)
        rw [hv (bNm A k (bTr A k) e) (by rw [hbv, hbt, hbs]; show (if (bAt A x).isSome then _ else 0) = _; rw [hlx]; rfl), ← Nat.add_assoc, ← nI_add, nI_succ] at z
        exact z
      · refine skip M1 l1 ?_
        rw [hbv, hbt, hbs]
        show (if (bAt A x).isSome then _ else 0) = 0
        rw [z]
        rfl
/-- tiles, sum, rings, matches of the cells before c -/
abbrev cT (A : eBd) (c : Nat) : Nat := zSm (fun c => if hT A c then 1 else 0) c
abbrev cS (A : eBd) (c : Nat) : Nat := zSm (fun c => zSm (fun e => bV1 A c e) 6) c
abbrev cR (A : eBd) (c : Nat) : Nat := zSm (fun c => if bRing A c then 1 else 0) c
abbrev cM (A : eBd) (c : Nat) : Nat := zSm (bMatchOn A) c
set_option maxHeartbeats 4000000 in
set_option maxRecDepth 100000 in
theorem L_277 {H0 : yH} {dg : Int64} {q c : Nat} {f : Nat → Int32} {ca sl : Nat} (hca : ca ≤ room_1.cells) (hsl : sl ≤ room_1.slots) (hcC : c < bC A) (hq : H0 q = none) (hf : ∀ k, k < bN A → f k = eZi (bTh A c k)) (hl : lk G M H0 S g ta oa tk A os)
    (kk : ∀ (M' : eM) (f' : Nat → Int32), lk G M' H0 S g ta oa tk A os → (∀ k, k < bN A → f' k = eZi (bTh A (c + 1) k)) → Yx (yXL b L xs) lwZ G room_1 kL_law 166 (lwE b G x2 d g A x8 dg (cT A (c + 1)) (cS A (c + 1)) (cR A (c + 1)) (cM A (c + 1)) q (c + 1)) [] M' (yTh G H0 q A f') ca sl) :
    Yx (yXL b L xs) lwZ G room_1 kL_law 277 (lwE b G x2 d g A x8 dg (cT A c) (cS A c) (cR A (c + 1)) (cM A (c + 1)) q c) [] M (yTh G H0 q A f) ca sl := by
  have hm := hl.2.2.2.1.1
  have hb := hm.1
  have h49 := hb.c49
  have h16 := hb.2.2.1
  refine B_L_law_277 G ca sl M _ _ _ _ _ _ _ _ _ _ _ _ _ _ ⟨⟨by omega, by omega⟩, Q_hasTile hl.c hcC (fun M1 l1 => ⟨fun z => ?_, fun z => ?_⟩)⟩
  · obtain ⟨k, hat⟩ := Option.isSome_iff_exists.mp z
    obtain ⟨hk, hce⟩ := hb.2.2.2.1 c k hcC hat
    have htr := (hb.2.2.2.2.1 k c hk hce).2.2
    have hf0 : f k = 0 := by
      rw [hf k hk]
      unfold bTh
      rw [hce]
      show eZi (decide (c < c)) = 0
      rw [decide_eq_false (Nat.lt_irrefl c)]
      rfl
    have eC : (nI k).toNatClampNeg = k := nI_clamp (by omega)
    refine ⟨⟨by omega, by omega⟩, Q_tileAt l1 hcC hat (fun M2 l2 => ⟨0, ⟨bN A, f, yU_same _ _ _, vp_in_nI hk (by omega), by rw [eC]; exact hf0⟩, fun y => absurd rfl y, fun _ => ⟨⟨by omega, by omega⟩, Q_isPlaced l2 hk (fun M3 l3 => ⟨fun y => by (rw [hce] at y; cases y), fun _ => ⟨⟨by omega, by omega⟩, Q_cellOf l3 hk hce (fun M4 l4 => ⟨fun y => absurd rfl y, fun _ => ⟨⟨by omega, by omega⟩, Q_turnOf l4 hk hce (fun M5 l5 => ⟨fun y => absurd y (nI_pos (by omega)), fun _ => ?_⟩)⟩⟩)⟩⟩)⟩⟩)⟩
    refine B_L_law_334 G ca sl M5 _ _ _ _ _ _ _ _ _ _ _ _ _ _ _ ⟨⟨by omega, by omega⟩, Q_turnOf l5 hk hce (fun M6 l6 => ⟨fun _ => ⟨bN A, f, yU_same _ _ _, vp_in_nI hk (by omega), ?_⟩, fun y => absurd (show nI (bTr A k) ≤ nI 5 from Int32.not_lt.mp (nI_nlt (by omega) (by decide))) y⟩)⟩
    rw [yU_yU, eC, ← nI_succ]
    have hg2 : lk G M6 (yTh G H0 q A (upd f k ((1 : Int32) &&& 1))) S g ta oa tk A os := (hl.m l6).le (yLe.new hq _)
    refine L_358 (t := cT A c + 1) (r := cR A (c + 1)) (m := cM A (c + 1)) (q := q) (s0 := cS A c) hca hsl hcC hat (fun M' l' => ?_) 6 0 M6 (by omega) hg2
    have eT : cT A (c + 1) = cT A c + 1 := by
      show cT A c + (if hT A c then 1 else 0) = cT A c + 1
      rw [if_pos (show hT A c = true from z)]
    have kk' := kk M' (upd f k ((1 : Int32) &&& 1)) (hl.m l'.c) (fun j hj => by
      rw [bTh_some hb hcC hat hj]
      by_cases hjk : j = k
      · subst hjk
        rw [pk_us, decide_eq_true rfl]
        rfl
      · rw [pk_un hjk, decide_eq_false hjk, Bool.false_or]
        exact hf j hj)
    rw [eT] at kk'
    exact kk'
  · have hat : bAt A c = none := by
      cases h : bAt A c with
      | none => rfl
      | some k => rw [h] at z; cases z
    rw [← nI_succ]
    have eT : cT A (c + 1) = cT A c := by
      show cT A c + (if hT A c then 1 else 0) = cT A c
      rw [if_neg (show ¬ hT A c = true from by rw [show hT A c = false from z]; exact Bool.false_ne_true), Nat.add_zero]
    have eS : cS A (c + 1) = cS A c := by
      show cS A c + zSm (fun e => bV1 A c e) 6 = cS A c
      rw [zSm_zero (fun e _ => by show bV1 A c e = 0; unfold bV1; rw [hat]), Nat.add_zero]
    have kk' := kk M1 f (hl.m l1) (fun j hj => by rw [bTh_none hb hat hj]; exact hf j hj)
    rw [eT, eS] at kk'
    exact kk'
set_option maxHeartbeats 4000000 in
set_option maxRecDepth 100000 in
theorem L_203 {H0 : yH} {dg : Int64} {q c : Nat} {f : Nat → Int32} {ca sl : Nat} (hca : ca ≤ room_1.cells) (hsl : sl ≤ room_1.slots) (hcC : c < bC A) (hq : H0 q = none) (hf : ∀ k, k < bN A → f k = eZi (bTh A c k)) (hl : lk G M H0 S g ta oa tk A os)
    (kk : ∀ (M' : eM) (f' : Nat → Int32), lk G M' H0 S g ta oa tk A os → (∀ k, k < bN A → f' k = eZi (bTh A (c + 1) k)) → Yx (yXL b L xs) lwZ G room_1 kL_law 166 (lwE b G x2 d g A x8 dg (cT A (c + 1)) (cS A (c + 1)) (cR A (c + 1)) (cM A (c + 1)) q (c + 1)) [] M' (yTh G H0 q A f') ca sl) :
    Yx (yXL b L xs) lwZ G room_1 kL_law 203 (lwE b G x2 d g A x8 dg (cT A c) (cS A c) (cR A (c + 1)) (cM A (c + 1)) q c) [] M (yTh G H0 q A f) ca sl := by
  have h6 := bMatchOn_6 A c
  have g277 : ∀ M', lc M' S A → Yx (yXL b L xs) lwZ G room_1 kL_law 277 (lwE b G x2 d g A x8 dg (cT A c) (cS A c) (cR A (c + 1)) (cM A (c + 1)) q c) [] M' (yTh G H0 q A f) ca sl := fun M' l' => L_277 hca hsl hcC hq hf (hl.m l') kk
  have g241 : ∀ M', lc M' S A → Yx (yXL b L xs) lwZ G room_1 kL_law 241 (lwE b G x2 d g A x8 dg (cT A c) (cS A c) (cR A (c + 1)) (cM A (c + 1)) q c) [] M' (yTh G H0 q A f) ca sl := fun M' l' => by
    refine B_L_law_241 G ca sl M' _ _ _ _ _ _ _ _ _ _ _ _ _ _ ⟨⟨by omega, by omega⟩, Q_hasTile l' hcC (fun M1 l1 => ⟨fun _ => g277 M1 l1, fun z => ⟨⟨by omega, by omega⟩, Q_isRing l1 hcC (fun M2 l2 => ⟨⟨by omega, by omega⟩, Q_matchesOf l2 hcC (fun M3 l3 => ?_)⟩)⟩⟩)⟩
    have eM : bMatchOn A c = bTb A c := by unfold bMatchOn; rw [if_pos z]
    refine ⟨fun y => ⟨fun _ => g277 M3 l3, fun w => w ?_⟩, fun y => ⟨fun _ => g277 M3 l3, fun w => w ?_⟩⟩
    · unfold bRing
      rw [decide_eq_false (fun v => y (by rw [eM, v]; rfl))]
      rfl
    · unfold bRing
      rw [decide_eq_true (show bTb A c = 6 from by rw [← eM]; exact nI_eq9 (b := 6) (by omega) (by decide) y)]
      rfl
  refine B_L_law_203 G ca sl M _ _ _ _ _ _ _ _ _ _ _ _ _ _ ⟨⟨by omega, by omega⟩, Q_matchesOf hl.c hcC (fun M1 l1 => ⟨fun z => absurd z (nI_pos (by omega)), fun _ => ⟨⟨by omega, by omega⟩, Q_matchesOf l1 hcC (fun M2 l2 => ⟨fun z => absurd z (nI_nlt (a := 6) h6 (by decide)), fun _ => ⟨⟨by omega, by omega⟩, Q_hasTile l2 hcC (fun M3 l3 => ⟨fun _ => g241 M3 l3, fun z => ⟨⟨by omega, by omega⟩, Q_matchesOf l3 hcC (fun M4 l4 => ⟨fun y => ?_, fun _ => g241 M4 l4⟩)⟩⟩)⟩⟩)⟩⟩)⟩
  have e0 : bMatchOn A c = 0 := by unfold bMatchOn; rw [z]; rfl
  rw [e0] at y
  exact absurd y (by decide)
set_option maxHeartbeats 4000000 in
set_option maxRecDepth 100000 in
theorem L_166 {H0 : yH} {q : Nat} (hC : C ≤ room_1.cells) (hT : T ≤ room_1.slots) (next : lwNx b L xs G x2 d g ta oa tk os A x8 C T) (hd : nD H0 d) (hq : H0 q = none) {ca sl : Nat} (hca : ca + 990 ≤ C) (hsl : sl + 33846 ≤ T) :
    ∀ (j c : Nat) (M : eM) (f : Nat → Int32), c + j = bC A → lk G M H0 S g ta oa tk A os → (∀ k, k < bN A → f k = eZi (bTh A c k)) →
    Yx (yXL b L xs) lwZ G room_1 kL_law 166 (lwE b G x2 d g A x8 (z_digest S) (cT A c) (cS A c) (cR A c) (cM A c) q c) [] M (yTh G H0 q A f) ca sl := by
  intro j
  induction j with
  | zero =>
    intro c M f hj hl hf
    have e : c = bC A := by omega
    subst e
    have hm := hl.2.2.2.1.1
    have hb := hm.1
    have e1 : cT A (bC A) = bP A := bCnt_p hb
    have e2 : nI (cM A (bC A)) = (2 : Int32) * nI (bMatch A) := by
      rw [show (2 : Int32) = nI 2 from rfl, nI_mul, (bMatch_hi hb).2]
      rfl
    refine B_L_law_166 G ca sl M _ _ _ _ _ _ _ _ _ _ _ _ _ _ ⟨fun _ => ⟨⟨by omega, by omega⟩, Q_placedTiles hl.c (fun M1 l1 => ⟨fun z => absurd (by rw [e1]) z, fun _ => ⟨⟨by omega, by omega⟩, Q_matches l1 (fun M2 l2 => ⟨fun z => absurd e2 z, fun _ => ⟨⟨by omega, by omega⟩, Q_rings l2 (fun M3 l3 => ⟨fun z => absurd rfl z, fun _ => ?_⟩)⟩⟩)⟩⟩)⟩, fun z => absurd (Int32.le_refl _) z⟩
    rw [e1]
    exact L_473 hC hT next ((hl.m l3).le (yLe.new hq _)) (hd.le (yLe.new hq _)) hca hsl
  | succ j ih =>
    intro c M f hj hl hf
    have hcC : c < bC A := by omega
    have h49 := hl.2.2.2.1.1.1.c49
    have g203 : ∀ M', lc M' S A → Yx (yXL b L xs) lwZ G room_1 kL_law 203 (lwE b G x2 d g A x8 (z_digest S) (cT A c) (cS A c) (cR A (c + 1)) (cM A (c + 1)) q c) [] M' (yTh G H0 q A f) ca sl := fun M' l' => L_203 (by omega) (by omega) hcC hq hf (hl.m l') (fun M2 f2 l2 h2 => ih (c + 1) M2 f2 (by omega) l2 h2)
    have eM : nI (cM A c) + nI (bMatchOn A c) = nI (cM A (c + 1)) := nI_add _ _
    refine B_L_law_166 G ca sl M _ _ _ _ _ _ _ _ _ _ _ _ _ _ ⟨fun z => absurd z (nI_ge hcC (by omega)), fun _ => ⟨⟨by omega, by omega⟩, Q_matchesOf hl.c hcC (fun M1 l1 => ⟨⟨by omega, by omega⟩, Q_isRing l1 hcC (fun M2 l2 => ?_)⟩)⟩⟩
    rw [eM]
    refine ⟨fun hr => ?_, fun hr => ?_⟩
    · have eR : nI (cR A c) + 0 = nI (cR A (c + 1)) := by
        show _ = nI (cR A c + (if bRing A c then 1 else 0))
        rw [hr, Int32.add_zero]
        rfl
      rw [eR]
      exact g203 M2 l2
    · have eR : nI (cR A c) + 1 = nI (cR A (c + 1)) := by
        show _ = nI (cR A c + (if bRing A c then 1 else 0))
        rw [hr, ← nI_succ]
        rfl
      rw [eR]
      exact g203 M2 l2
end LCells
