/-! ===== groups ===== -/
abbrev rS : Type := (Nat → Bool) × (Nat → Nat) × Nat
def rE (B : eBd) (x e : Nat) (s : rS) : rS := match bBes B (s.2.1 x) e with
  | none => s
  | some d => if (bAt B d).isSome && !s.1 d then (zU s.1 d true, zU s.2.1 s.2.2 d, s.2.2 + 1) else s
def rEf (B : eBd) (x : Nat) : Nat → Nat → rS → rS
  | 0, _, s => s
  | n + 1, e, s => rEf B x n (e + 1) (rE B x e s)
def rNf (B : eBd) : Nat → Nat → rS → rS
  | 0, _, s => s
  | f + 1, x, s => if x < s.2.2 then rNf B f (x + 1) (rEf B x 6 0 s) else s
def rReach (B : eBd) (c : Nat) (s : rS) : rS := rNf B (bC B) 0 (zU s.1 c true, zU s.2.1 0 c, 1)
def rGf (B : eBd) : Nat → Nat → rS × Nat → rS × Nat
  | 0, _, y => y
  | f + 1, c, y => if (bAt B c).isSome && !y.1.1 c then rGf B f (c + 1) (rReach B c y.1, y.2 + 1) else rGf B f (c + 1) y
def bGroups (B : eBd) : Nat := (rGf B (bC B) 0 ((fun _ => false, fun _ => 0, 0), 0)).2
/-- the cells not yet seen -/
def rU (B : eBd) (s : rS) : Nat := zSm (fun c => if s.1 c then 0 else 1) (bC B)
def rOk (B : eBd) (s : rS) : Prop := s.2.2 + rU B s ≤ bC B ∧ ∀ j, j < s.2.2 → s.2.1 j < bC B
theorem rU_mark {B : eBd} {s : rS} {d : Nat} (hd : d < bC B) (h : s.1 d = false) (q : Nat → Nat) (l : Nat) : rU B s = rU B (zU s.1 d true, q, l) + 1 := by
  refine zSm_diff (k := d) (a := 1) hd ?_ (fun i _ hi => ?_)
  · show (if s.1 d then 0 else 1) = (if zU s.1 d true d then 0 else 1) + 1
    rw [zU_same, h]
    rfl
  · show (if s.1 i then 0 else 1) = (if zU s.1 d true i then 0 else 1)
    rw [zU_ne _ _ hi]
theorem rU_pos {B : eBd} {s : rS} {d : Nat} (hd : d < bC B) (h : s.1 d = false) : 1 ≤ rU B s := by
  have := rU_mark hd h s.2.1 s.2.2
  omega
theorem rE_none {B : eBd} {x e : Nat} {s : rS} (h : bBes B (s.2.1 x) e = none) : rE B x e s = s := by
  unfold rE
  rw [h]
theorem rE_skip {B : eBd} {x e d : Nat} {s : rS} (h : bBes B (s.2.1 x) e = some d) (h2 : ((bAt B d).isSome && !s.1 d) = false) : rE B x e s = s := by
  unfold rE
  rw [h]
  show (if (bAt B d).isSome && !s.1 d then (zU s.1 d true, zU s.2.1 s.2.2 d, s.2.2 + 1) else s) = s
  rw [h2]
  rfl
theorem rE_mark {B : eBd} {x e d : Nat} {s : rS} (h : bBes B (s.2.1 x) e = some d) (h2 : ((bAt B d).isSome && !s.1 d) = true) : rE B x e s = (zU s.1 d true, zU s.2.1 s.2.2 d, s.2.2 + 1) := by
  unfold rE
  rw [h]
  show (if (bAt B d).isSome && !s.1 d then (zU s.1 d true, zU s.2.1 s.2.2 d, s.2.2 + 1) else s) = _
  rw [h2]
  rfl
theorem rE_ok {B : eBd} (hb : bOk B) {s : rS} (h : rOk B s) {x e : Nat} (hx : x < s.2.2) (he : e < 6) : rOk B (rE B x e s) ∧ s.2.2 ≤ (rE B x e s).2.2 := by
  unfold rE
  cases h1 : bBes B (s.2.1 x) e with
  | none => exact ⟨h, Nat.le_refl _⟩
  | some d =>
    have hd := (hb.bes (h.2 x hx) he h1).1
    show rOk B (if (bAt B d).isSome && !s.1 d then (zU s.1 d true, zU s.2.1 s.2.2 d, s.2.2 + 1) else s) ∧ s.2.2 ≤ (if (bAt B d).isSome && !s.1 d then (zU s.1 d true, zU s.2.1 s.2.2 d, s.2.2 + 1) else s).2.2
    cases h2 : (bAt B d).isSome && !s.1 d with
    | false => exact ⟨h, Nat.le_refl _⟩
    | true =>
      rw [Bool.and_eq_true] at h2
      have h3 : s.1 d = false := by
        have := h2.2
        cases h4 : s.1 d with
        | false => rfl
        | true => rw [h4] at this; cases this
      rw [if_pos rfl]
      refine ⟨⟨?_, fun j hj => ?_⟩, Nat.le_succ _⟩
      · have := rU_mark (B := B) hd h3 (zU s.2.1 s.2.2 d) (s.2.2 + 1)
        have h5 := h.1
        show s.2.2 + 1 + rU B (zU s.1 d true, zU s.2.1 s.2.2 d, s.2.2 + 1) ≤ bC B
        omega
      · show zU s.2.1 s.2.2 d j < bC B
        by_cases hq : j = s.2.2
        · rw [hq, zU_same]; exact hd
        · rw [zU_ne _ _ hq]
          have hj' : j < s.2.2 + 1 := hj
          exact h.2 j (by omega)
theorem rEf_ok {B : eBd} (hb : bOk B) {x : Nat} : ∀ (n e : Nat) (s : rS), rOk B s → x < s.2.2 → e + n ≤ 6 → rOk B (rEf B x n e s) ∧ s.2.2 ≤ (rEf B x n e s).2.2
  | 0, _, _, h, _, _ => ⟨h, Nat.le_refl _⟩
  | n + 1, e, s, h, hx, he => by
    obtain ⟨a1, a2⟩ := rE_ok hb h hx (show e < 6 by omega)
    obtain ⟨b1, b2⟩ := rEf_ok (x := x) hb n (e + 1) (rE B x e s) a1 (by omega) (by omega)
    exact ⟨b1, Nat.le_trans a2 b2⟩
/-- the seen cells and the queue in memory: cells q of the queue and i of what is seen -/
def rM (M : eM) (q i : Nat) (B : eBd) (s : rS) : Prop := (∀ c, c < bC B → M i c = if s.1 c then 1 else 0) ∧ ∀ j, j < s.2.2 → M q j = nI (s.2.1 j)
theorem rM.mark {M : eM} {q i : Nat} {B : eBd} {s : rS} {d : Nat} (hqi : q ≠ i) (h : rM M q i B s) : rM (eU (eU M i d 1) q s.2.2 (nI d)) q i B (zU s.1 d true, zU s.2.1 s.2.2 d, s.2.2 + 1) := by
  refine ⟨fun c hc => ?_, fun j hj => ?_⟩
  · show _ = if zU s.1 d true c then 1 else 0
    rw [eU_cell _ _ _ _ (Ne.symm hqi)]
    by_cases hq : c = d
    · rw [hq, eU_same, zU_same]; rfl
    · rw [eU_place _ _ _ _ hq, zU_ne _ _ hq]; exact h.1 c hc
  · show _ = nI (zU s.2.1 s.2.2 d j)
    have hj' : j < s.2.2 + 1 := hj
    by_cases hq : j = s.2.2
    · rw [hq, eU_same, zU_same]
    · rw [eU_place _ _ _ _ hq, eU_cell _ _ _ _ hqi, zU_ne _ _ hq]; exact h.2 j (by omega)
theorem rM.start {M : eM} {q i : Nat} {B : eBd} {s : rS} {c : Nat} (hqi : q ≠ i) (h : ∀ c, c < bC B → M i c = if s.1 c then 1 else 0) : rM (eU (eU M q 0 (nI c)) i c 1) q i B (zU s.1 c true, zU s.2.1 0 c, 1) := by
  refine ⟨fun d hd => ?_, fun j hj => ?_⟩
  · show _ = if zU s.1 c true d then 1 else 0
    by_cases hq : d = c
    · rw [hq, eU_same, zU_same]; rfl
    · rw [eU_place _ _ _ _ hq, eU_cell _ _ _ _ (Ne.symm hqi), zU_ne _ _ hq]; exact h d hd
  · have hj0 : j = 0 := by
      have : j < 1 := hj
      omega
    show _ = nI (zU s.2.1 0 c j)
    rw [hj0, eU_cell _ _ _ _ hqi, eU_same, zU_same]
theorem rStart_ok {B : eBd} {s : rS} {c : Nat} (hc : c < bC B) (h : s.1 c = false) : rOk B (zU s.1 c true, zU s.2.1 0 c, 1) := by
  refine ⟨?_, fun j hj => ?_⟩
  · have := rU_mark (B := B) hc h (zU s.2.1 0 c) 1
    have h2 : rU B s ≤ bC B := by
      have := zSm_le (f := fun c => if s.1 c then 0 else 1) (k := 1) (n := bC B) (fun i _ => by split <;> omega)
      unfold rU
      omega
    show 1 + rU B (zU s.1 c true, zU s.2.1 0 c, 1) ≤ bC B
    omega
  · have hj0 : j = 0 := by
      have : j < 1 := hj
      omega
    show zU s.2.1 0 c j < bC B
    rw [hj0, zU_same]
    exact hc
def fFr (M M' : eM) (a b : Nat) : Prop := ∀ c, c ≠ a → c ≠ b → M' c = M c
theorem fFr.refl (M : eM) (a b : Nat) : fFr M M a b := fun _ _ _ => rfl
theorem fFr.trans {M M1 M2 : eM} {a b : Nat} (h : fFr M M1 a b) (h1 : fFr M1 M2 a b) : fFr M M2 a b := fun c c1 c2 => (h1 c c1 c2).trans (h c c1 c2)
theorem fFr.two (M : eM) (a b j k : Nat) (v v' : Int32) : fFr M (eU (eU M a j v) b k v') a b := fun c c1 c2 => by rw [eU_other _ _ _ c2, eU_other _ _ _ c1]
theorem fFr.swap {M M' : eM} {a b : Nat} (h : fFr M M' a b) : fFr M M' b a := fun c c1 c2 => h c c2 c1
theorem cB.g {M M' : eM} {B : eBd} (h : cB M B) (hf : fFr M M' 34 35) : cB M' B := h.fr (fun c c1 c2 => hf c (by omega) (by omega))
theorem mB.g {M M' : eM} {B : eBd} (h : mB 130 131 132 133 M B) (hf : fFr M M' 138 139) : mB 130 131 132 133 M' B := h.of (hf _ (by decide) (by decide)) (hf _ (by decide) (by decide)) (hf _ (by decide) (by decide)) (hf _ (by decide) (by decide)) (hf _ (by decide) (by decide)) (hf _ (by decide) (by decide))
/-- what is marked, in the class: a number that isn't 0 -/
def rMs (M : eM) (B : eBd) (s : rS) : Prop := ∀ c, c < bC B → (s.1 c = false → M 35 c = 0) ∧ (s.1 c = true → M 35 c ≠ 0)
def rMk (M : eM) (B : eBd) (s : rS) : Prop := rMs M B s ∧ ∀ j, j < s.2.2 → M 34 j = nI (s.2.1 j)
theorem rMk.mark {M : eM} {B : eBd} {s : rS} {d : Nat} {g : Int32} (hg : g ≠ 0) (h : rMk M B s) : rMk (eU (eU M 35 d g) 34 s.2.2 (nI d)) B (zU s.1 d true, zU s.2.1 s.2.2 d, s.2.2 + 1) := by
  refine ⟨fun c hc => ?_, fun j hj => ?_⟩
  · show (zU s.1 d true c = false → _) ∧ (zU s.1 d true c = true → _)
    rw [eU_cell _ _ _ _ (show 35 ≠ 34 by decide)]
    by_cases hq : c = d
    · rw [hq, eU_same, zU_same]
      exact ⟨fun z => absurd z (by decide), fun _ => hg⟩
    · rw [eU_place _ _ _ _ hq, zU_ne _ _ hq]; exact h.1 c hc
  · show _ = nI (zU s.2.1 s.2.2 d j)
    have hj' : j < s.2.2 + 1 := hj
    by_cases hq : j = s.2.2
    · rw [hq, eU_same, zU_same]
    · rw [eU_place _ _ _ _ hq, eU_cell _ _ _ _ (show 34 ≠ 35 by decide), zU_ne _ _ hq]; exact h.2 j (by omega)
theorem rMk.start {M : eM} {B : eBd} {s : rS} {c : Nat} {g : Int32} (hg : g ≠ 0) (h : rMs M B s) : rMk (eU (eU M 34 0 (nI c)) 35 c g) B (zU s.1 c true, zU s.2.1 0 c, 1) := by
  refine ⟨fun d hd => ?_, fun j hj => ?_⟩
  · show (zU s.1 c true d = false → _) ∧ (zU s.1 c true d = true → _)
    by_cases hq : d = c
    · rw [hq, eU_same, zU_same]
      exact ⟨fun z => absurd z (by decide), fun _ => hg⟩
    · rw [eU_place _ _ _ _ hq, eU_cell _ _ _ _ (show 35 ≠ 34 by decide), zU_ne _ _ hq]; exact h d hd
  · have hj0 : j = 0 := by
      have : j < 1 := hj
      omega
    show _ = nI (zU s.2.1 0 c j)
    rw [hj0, eU_cell _ _ _ _ (show 34 ≠ 35 by decide), eU_same, zU_same]
section Groups
variable {G : eG} {B : eBd}
theorem K_edge (hb : bOk B) (F : eM → Prop) {M0 : eM} {x : Nat} {g : Int32} (hg : g ≠ 0) : ∀ (n e : Nat) (s : rS) (M : eM), e + n = 6 → cB M B → fFr M0 M 34 35 → rMk M B s → rOk B s → x < s.2.2 → (∀ M', cB M' B → fFr M0 M' 34 35 → rMk M' B (rEf B x n e s) → Ev (eZ G 0 68 0 0 (eFV F)) G 0 68 (1, 0, 0) kX1_markGroup 19 [(0, .ref (G.1 23)), (2, .int g), (3, .int (nI (rEf B x n e s).2.2)), (4, .int (nI (x + 1)))] [] M' 0 0) → Ev (eZ G 0 68 0 0 (eFV F)) G 0 68 (1, 0, 0) kX1_markGroup 37 [(0, .ref (G.1 23)), (2, .int g), (3, .int (nI s.2.2)), (4, .int (nI x)), (5, .int (nI e))] [] M 0 0
  | 0, e, s, M, he, hM, f0, hr, _, _, hF => by
    have he' : e = 6 := he
    subst he'
    refine B_X1_markGroup_37 G M F _ _ _ _ ⟨fun _ => ?_, fun q => absurd (Int32.le_refl 6) q⟩
    rw [← nI_succ]
    exact hF M hM f0 hr
  | n + 1, e, s, M, he, hM, f0, hr, ho, hx, hF => by
    have he6 : e < 6 := by omega
    have h49 := hb.c49
    have hl := ho.1
    have hqx := ho.2 x hx
    have hx49 : x < 49 := by omega
    -- the next edge, behind this one
    have next : ∀ (M' : eM), cB M' B → fFr M0 M' 34 35 → rMk M' B (rE B x e s) → Ev (eZ G 0 68 0 0 (eFV F)) G 0 68 (1, 0, 0) kX1_markGroup 116 [(0, .ref (G.1 23)), (2, .int g), (3, .int (nI (rE B x e s).2.2)), (4, .int (nI x)), (5, .int (nI e))] [] M' 0 0 := by
      intro M' hM' f' hr'
      refine B_X1_markGroup_116 G M' F _ _ _ _ ?_
      rw [← nI_succ]
      obtain ⟨a1, a2⟩ := rE_ok hb ho hx he6
      exact K_edge hb F hg n (e + 1) (rE B x e s) M' (by omega) hM' f' hr' a1 (by omega) hF
    refine B_X1_markGroup_37 G M F _ _ _ _ ⟨fun q => absurd q (nI_ge (b := 6) he6 (by decide)), fun _ => ⟨vp_in_nI hx49 (by decide), ?_⟩⟩
    rw [nI_clamp (show x < 2 ^ 31 by omega), hr.2 x hx, eIx, nI_clamp (show s.2.1 x * 6 + e < 2 ^ 31 by omega), hM.be hqx he6]
    refine ⟨vp_in_nI (by omega) (by decide), ?_⟩
    cases h1 : bBes B (s.2.1 x) e with
    | none =>
      rw [rE_none h1] at next
      exact ⟨fun _ => next M hM f0 hr, fun q => absurd (by decide) q⟩
    | some d =>
      have hd := (hb.bes hqx he6 h1).1
      have vd : vp_in (nI d) 49 := vp_in_nI (by omega) (by decide)
      rw [eO_some, nI_clamp (show d < 2 ^ 31 by omega), hM.at hd]
      refine ⟨fun q => absurd q (nI_pos (by omega)), fun _ => ⟨vd, ?_⟩⟩
      cases h2 : bAt B d with
      | none =>
        rw [rE_skip h1 (show ((bAt B d).isSome && !s.1 d) = false by rw [h2]; rfl)] at next
        exact ⟨fun _ => next M hM f0 hr, fun q => absurd (by decide) q⟩
      | some k =>
        have hk := (hb.2.2.2.1 d k hd h2).1
        have h16 := hb.2.2.1
        refine ⟨fun q => absurd q (nI_pos (by omega)), fun _ => ⟨vd, ?_⟩⟩
        cases h3 : s.1 d with
        | true =>
          rw [rE_skip h1 (show ((bAt B d).isSome && !s.1 d) = false by rw [h2, h3]; rfl)] at next
          exact ⟨fun _ => next M hM f0 hr, fun q => absurd q ((hr.1 d hd).2 h3)⟩
        | false =>
          rw [rE_mark h1 (show ((bAt B d).isSome && !s.1 d) = true by rw [h2, h3]; rfl)] at next
          have hU := rU_pos (B := B) hd h3
          have hlt : s.2.2 < bC B := by omega
          refine ⟨fun q => absurd ((hr.1 d hd).1 h3) q, fun _ => ⟨fun q => absurd q ?_, fun _ => ⟨vd, vp_in_nI (by omega) (by decide), ?_⟩⟩⟩
          · rw [hM.nc]; exact nI_ge hlt (by omega)
          · rw [nI_clamp (show s.2.2 < 2 ^ 31 by omega), ← nI_succ]
            have ff := (fFr.two M 35 34 d s.2.2 g (nI d)).swap
            exact next _ (hM.g ff) (f0.trans ff) (hr.mark hg)
theorem K_next (hb : bOk B) (F : eM → Prop) {M0 : eM} {g : Int32} (hg : g ≠ 0) : ∀ (f x : Nat) (s : rS) (M : eM), x + f = bC B → cB M B → fFr M0 M 34 35 → rMk M B s → rOk B s → (∀ M', cB M' B → fFr M0 M' 34 35 → rMk M' B (rNf B f x s) → F M') → Ev (eZ G 0 68 0 0 (eFV F)) G 0 68 (1, 0, 0) kX1_markGroup 19 [(0, .ref (G.1 23)), (2, .int g), (3, .int (nI s.2.2)), (4, .int (nI x))] [] M 0 0
  | 0, x, s, M, hx, hM, f0, hr, ho, hF => by
    have hx' : x = bC B := hx
    have h1 := ho.1
    have h49 := hb.c49
    exact B_X1_markGroup_19 G M F _ _ _ ⟨fun _ => hF M hM f0 hr, fun q => absurd (nI_le (by omega) (by omega)) q⟩
  | f + 1, x, s, M, hx, hM, f0, hr, ho, hF => by
    have h1 := ho.1
    have h49 := hb.c49
    unfold rNf at hF
    by_cases hq : x < s.2.2
    · rw [if_pos hq] at hF
      refine B_X1_markGroup_19 G M F _ _ _ ⟨fun q => absurd q (nI_ge hq (by omega)), fun _ => ⟨fun q => absurd q ?_, fun _ => ?_⟩⟩
      · rw [hM.nc]; exact nI_ge (by omega) (by omega)
      · refine K_edge hb F hg 6 0 s M rfl hM f0 hr ho hq (fun M' hM' f' hr' => ?_)
        obtain ⟨a1, a2⟩ := rEf_ok hb 6 0 s ho hq (Nat.le_refl 6)
        exact K_next hb F hg f (x + 1) (rEf B x 6 0 s) M' (by omega) hM' f' hr' a1 hF
    · rw [if_neg hq] at hF
      exact B_X1_markGroup_19 G M F _ _ _ ⟨fun _ => hF M hM f0 hr, fun q => absurd (nI_le (by omega) (by omega)) q⟩
theorem K_reach (hb : bOk B) (F : eM → Prop) {M : eM} {c : Nat} {s : rS} {g : Int32} (hg : g ≠ 0) (hc : c < bC B) (h0 : s.1 c = false) (hM : cB M B) (hs : rMs M B s) (hF : ∀ M', cB M' B → fFr M M' 34 35 → rMk M' B (rReach B c s) → F M') : Cal G 0 68 (1, 0, 0) kX1_markGroup [.ref (G.1 23), .int (nI c), .int g] M (eFV F) := by
  have h49 := hb.c49
  refine C_X1_markGroup G M F _ _ ⟨vp_in_nI (n := 0) (by decide) (by decide), vp_in_nI (by omega) (by decide), ?_⟩
  rw [nI_clamp (show c < 2 ^ 31 by omega)]
  have ff := fFr.two M 34 35 0 c (nI c) g
  exact K_next hb F hg (bC B) 0 (zU s.1 c true, zU s.2.1 0 c, 1) _ (Nat.zero_add _) (hM.g ff) ff (rMk.start hg hs) (rStart_ok hc h0) hF
theorem K_groups (hb : bOk B) (F : Int32 → eM → Prop) {M0 : eM} : ∀ (f c : Nat) (y : rS × Nat) (M : eM), c + f = bC B → y.2 ≤ c → cB M B → fFr M0 M 34 35 → rMs M B y.1 → (∀ M', cB M' B → fFr M0 M' 34 35 → F (nI (rGf B f c y).2) M') → Ev (eZ G 0 68 0 0 (eFI F)) G 0 68 (2, 0, 0) kX1_countGroups 12 [(0, .ref (G.1 23)), (1, .int (nI y.2)), (2, .int (nI c))] [] M 0 0
  | 0, c, y, M, hc, _, hM, f0, hr, hF => by
    have hc' : c = bC B := hc
    refine B_X1_countGroups_12 G M F _ _ ⟨fun _ => hF M hM f0, fun q => absurd ?_ q⟩
    rw [hM.nc, hc']; exact Int32.le_refl _
  | f + 1, c, y, M, hc, hy, hM, f0, hr, hF => by
    have h49 := hb.c49
    have h16 := hb.2.2.1
    have hcl : c < bC B := by omega
    have vc : vp_in (nI c) 49 := vp_in_nI (by omega) (by decide)
    unfold rGf at hF
    refine B_X1_countGroups_12 G M F _ _ ⟨fun q => absurd q ?_, fun _ => ⟨vc, ?_⟩⟩
    · rw [hM.nc]; exact nI_ge hcl (by omega)
    · rw [nI_clamp (show c < 2 ^ 31 by omega), hM.at hcl]
      cases h1 : bAt B c with
      | none =>
        rw [show ((bAt B c).isSome && !y.1.1 c) = false by rw [h1]; rfl] at hF
        refine ⟨fun _ => B_X1_countGroups_47 G M F _ _ ?_, fun q => absurd (by decide) q⟩
        rw [← nI_succ]
        exact K_groups hb F f (c + 1) y M (by omega) (by omega) hM f0 hr hF
      | some k =>
        have hk := (hb.2.2.2.1 c k hcl h1).1
        refine ⟨fun q => absurd q (nI_pos (by omega)), fun _ => ⟨vc, ?_⟩⟩
        cases h2 : y.1.1 c with
        | true =>
          rw [show ((bAt B c).isSome && !y.1.1 c) = false by rw [h1, h2]; rfl] at hF
          refine ⟨fun _ => B_X1_countGroups_47 G M F _ _ ?_, fun q => absurd q ((hr c hcl).2 h2)⟩
          rw [← nI_succ]
          exact K_groups hb F f (c + 1) y M (by omega) (by omega) hM f0 hr hF
        | false =>
          rw [show ((bAt B c).isSome && !y.1.1 c) = true by rw [h1, h2]; rfl] at hF
          refine ⟨fun q => absurd ((hr c hcl).1 h2) q, fun _ => ?_⟩
          rw [← nI_succ]
          refine K_reach hb _ (nI_ne0 (by omega) (by omega)) hcl h2 hM hr (fun M' hM' f' hr' => B_X1_countGroups_47 G M' F _ _ ?_)
          rw [← nI_succ]
          exact K_groups hb F f (c + 1) (rReach B c y.1, y.2 + 1) M' (by omega) (show y.2 + 1 ≤ c + 1 by omega) hM' (f0.trans f') hr'.1 hF
theorem S_countGroups (hb : bOk B) {M : eM} (hM : cB M B) (F : Int32 → eM → Prop) (hF : ∀ M', cB M' B → fFr M M' 34 35 → F (nI (bGroups B)) M') : Cal G 0 68 (2, 0, 0) kX1_countGroups [.ref (G.1 23)] M (eFI F) := by
  have h49 := hb.c49
  refine C_X1_countGroups G M F ?_
  have key : ∀ i, i ≤ 49 → ∀ M1 : eM, fFr M M1 34 35 → (∀ j, j < i → M1 35 j = 0) → Ev (eZ G 0 68 0 0 (eFV (fun (M1 : eM) => Ev (eZ G 0 68 0 0 (eFI F)) G 0 68 (2, 0, 0) kX1_countGroups 12 [(0, .ref (G.1 23)), (1, .int 0), (2, .int 0)] [] M1 0 0))) G 0 68 (1, 0, 0) kJ7_fill_53178 5 [(0, .ref (G.1 35)), (1, .int 0), (2, .int (nI i)), (3, .int 49)] [] M1 0 0 := by
    refine eDown (P := fun i => ∀ M1 : eM, fFr M M1 34 35 → (∀ j, j < i → M1 35 j = 0) → Ev (eZ G 0 68 0 0 (eFV (fun (M1 : eM) => Ev (eZ G 0 68 0 0 (eFI F)) G 0 68 (2, 0, 0) kX1_countGroups 12 [(0, .ref (G.1 23)), (1, .int 0), (2, .int 0)] [] M1 0 0))) G 0 68 (1, 0, 0) kJ7_fill_53178 5 [(0, .ref (G.1 35)), (1, .int 0), (2, .int (nI i)), (3, .int 49)] [] M1 0 0) ?_ ?_
    · intro M1 f1 g1
      refine B_J7_fill_53178_35_5 G M1 _ _ _ _ ⟨fun _ => ?_, fun q => absurd (Int32.le_refl 49) q⟩
      exact K_groups hb F (bC B) 0 ((fun _ => false, fun _ => 0, 0), 0) M1 (Nat.zero_add _) (Nat.le_refl 0) (hM.g f1) f1 (fun d hd => ⟨fun _ => g1 d (by omega), fun z => absurd z Bool.false_ne_true⟩) hF
    · intro i hi hn M1 f1 g1
      refine B_J7_fill_53178_35_5 G M1 _ _ _ _ ⟨fun q => absurd q (nI_ge (b := 49) hi (by decide)), fun _ => ⟨vp_in_nI hi (by decide), ?_⟩⟩
      rw [nI_clamp (show i < 2 ^ 31 by omega), ← nI_succ]
      refine hn _ (fun c c1 c2 => by rw [eU_other _ _ _ c2]; exact f1 c c1 c2) (fun j hj => ?_)
      by_cases hq : j = i
      · rw [hq, eU_same]
      · rw [eU_place _ _ _ _ hq]; exact g1 j (by omega)
  exact C_J7_fill_53178_35 G M _ 0 (key 0 (Nat.zero_le _) M (fFr.refl _ _ _) (fun j hj => absurd hj (Nat.not_lt_zero _)))
/-! the model -/
theorem L_edge (hb : bOk B) (F : eM → Prop) {M0 : eM} {x : Nat} : ∀ (n e : Nat) (s : rS) (M : eM), e + n = 6 → mB 130 131 132 133 M B → fFr M0 M 138 139 → rM M 138 139 B s → rOk B s → x < s.2.2 → (∀ M', mB 130 131 132 133 M' B → fFr M0 M' 138 139 → rM M' 138 139 B (rEf B x n e s) → Ev (eZ G 100 40 0 0 (eFV F)) G 100 40 (3, 0, 0) kX13_reach 18 [(0, .ref (G.1 100)), (2, .int (nI (rEf B x n e s).2.2)), (3, .int (nI (x + 1)))] [] M' 0 0) → Ev (eZ G 100 40 0 0 (eFV F)) G 100 40 (3, 0, 0) kX13_reach 26 [(0, .ref (G.1 100)), (2, .int (nI s.2.2)), (3, .int (nI x)), (4, .int (nI e))] [] M 0 0
  | 0, e, s, M, he, hM, f0, hr, _, _, hF => by
    have he' : e = 6 := he
    subst he'
    refine B_X13_reach_26 G M F _ _ _ ⟨fun _ => ?_, fun q => absurd (Int32.le_refl 6) q⟩
    rw [← nI_succ]
    exact hF M hM f0 hr
  | n + 1, e, s, M, he, hM, f0, hr, ho, hx, hF => by
    have he6 : e < 6 := by omega
    have h49 := hb.c49
    have hl := ho.1
    have hqx := ho.2 x hx
    have hx49 : x < 49 := by omega
    have next : ∀ (M' : eM), mB 130 131 132 133 M' B → fFr M0 M' 138 139 → rM M' 138 139 B (rE B x e s) → Ev (eZ G 100 40 0 0 (eFV F)) G 100 40 (3, 0, 0) kX13_reach 99 [(0, .ref (G.1 100)), (2, .int (nI (rE B x e s).2.2)), (3, .int (nI x)), (4, .int (nI e))] [] M' 0 0 := by
      intro M' hM' f' hr'
      refine B_X13_reach_99 G M' F _ _ _ ?_
      rw [← nI_succ]
      obtain ⟨a1, a2⟩ := rE_ok hb ho hx he6
      exact L_edge hb F n (e + 1) (rE B x e s) M' (by omega) hM' f' hr' a1 (by omega) hF
    refine B_X13_reach_26 G M F _ _ _ ⟨fun q => absurd q (nI_ge (b := 6) he6 (by decide)), fun _ => ⟨vp_in_nI hx49 (by decide), ?_⟩⟩
    rw [nI_clamp (show x < 2 ^ 31 by omega), hr.2 x hx]
    refine S_beside G hb hM _ hqx he6 ?_
    cases h1 : bBes B (s.2.1 x) e with
    | none =>
      rw [rE_none h1] at next
      exact ⟨fun _ => next M hM f0 hr, fun q => absurd rfl q⟩
    | some d =>
      have hd := (hb.bes hqx he6 h1).1
      have vd : vp_in (nI d) 49 := vp_in_nI (by omega) (by decide)
      rw [eO_some, nI_clamp (show d < 2 ^ 31 by omega), hM.2.2.1 d hd]
      refine ⟨fun q => absurd q (eNeg d (by omega)), fun _ => ⟨vd, ?_⟩⟩
      cases h2 : bAt B d with
      | none =>
        rw [rE_skip h1 (show ((bAt B d).isSome && !s.1 d) = false by rw [h2]; rfl)] at next
        exact ⟨fun _ => next M hM f0 hr, fun q => absurd rfl q⟩
      | some k =>
        have hk := (hb.2.2.2.1 d k hd h2).1
        have h16 := hb.2.2.1
        refine ⟨fun q => absurd q (eNeg k (by omega)), fun _ => ⟨vd, ?_⟩⟩
        rw [hr.1 d hd]
        cases h3 : s.1 d with
        | true =>
          rw [rE_skip h1 (show ((bAt B d).isSome && !s.1 d) = false by rw [h2, h3]; rfl)] at next
          exact ⟨fun q => absurd q (by decide), fun _ => next M hM f0 hr⟩
        | false =>
          rw [rE_mark h1 (show ((bAt B d).isSome && !s.1 d) = true by rw [h2, h3]; rfl)] at next
          have hU := rU_pos (B := B) hd h3
          have hlt : s.2.2 < bC B := by omega
          refine ⟨fun _ => ⟨vd, vp_in_nI (by omega) (by decide), ?_⟩, fun q => absurd rfl q⟩
          rw [nI_clamp (show s.2.2 < 2 ^ 31 by omega), show (1 &&& 1 : Int32) = 1 from by decide, ← nI_succ]
          have ff := (fFr.two M 139 138 d s.2.2 1 (nI d)).swap
          exact next _ (hM.g ff) (f0.trans ff) (hr.mark (by decide))
theorem L_next (hb : bOk B) (F : eM → Prop) {M0 : eM} : ∀ (f x : Nat) (s : rS) (M : eM), x + f = bC B → mB 130 131 132 133 M B → fFr M0 M 138 139 → rM M 138 139 B s → rOk B s → (∀ M', mB 130 131 132 133 M' B → fFr M0 M' 138 139 → rM M' 138 139 B (rNf B f x s) → F M') → Ev (eZ G 100 40 0 0 (eFV F)) G 100 40 (3, 0, 0) kX13_reach 18 [(0, .ref (G.1 100)), (2, .int (nI s.2.2)), (3, .int (nI x))] [] M 0 0
  | 0, x, s, M, hx, hM, f0, hr, ho, hF => by
    have hx' : x = bC B := hx
    have h1 := ho.1
    have h49 := hb.c49
    exact B_X13_reach_18 G M F _ _ ⟨fun _ => hF M hM f0 hr, fun q => absurd (nI_le (by omega) (by omega)) q⟩
  | f + 1, x, s, M, hx, hM, f0, hr, ho, hF => by
    have h1 := ho.1
    have h49 := hb.c49
    unfold rNf at hF
    by_cases hq : x < s.2.2
    · rw [if_pos hq] at hF
      refine B_X13_reach_18 G M F _ _ ⟨fun q => absurd q (nI_ge hq (by omega)), fun _ => ?_⟩
      refine L_edge hb F 6 0 s M rfl hM f0 hr ho hq (fun M' hM' f' hr' => ?_)
      obtain ⟨a1, a2⟩ := rEf_ok hb 6 0 s ho hq (Nat.le_refl 6)
      exact L_next hb F f (x + 1) (rEf B x 6 0 s) M' (by omega) hM' f' hr' a1 hF
    · rw [if_neg hq] at hF
      exact B_X13_reach_18 G M F _ _ ⟨fun _ => hF M hM f0 hr, fun q => absurd (nI_le (by omega) (by omega)) q⟩
theorem L_reach (hb : bOk B) (F : eM → Prop) {M : eM} {c : Nat} {s : rS} (hc : c < bC B) (h0 : s.1 c = false) (hM : mB 130 131 132 133 M B) (hs : ∀ d, d < bC B → M 139 d = if s.1 d then 1 else 0) (hF : ∀ M', mB 130 131 132 133 M' B → fFr M M' 138 139 → rM M' 138 139 B (rReach B c s) → F M') : Cal G 100 40 (3, 0, 0) kX13_reach [.ref (G.1 100), .int (nI c)] M (eFV F) := by
  have h49 := hb.c49
  refine C_X13_reach G M F _ ⟨vp_in_nI (n := 0) (by decide) (by decide), vp_in_nI (by omega) (by decide), ?_⟩
  rw [nI_clamp (show c < 2 ^ 31 by omega), show (1 &&& 1 : Int32) = 1 from by decide]
  have ff := fFr.two M 138 139 0 c (nI c) 1
  exact L_next hb F (bC B) 0 (zU s.1 c true, zU s.2.1 0 c, 1) _ (Nat.zero_add _) (hM.g ff) ff (rM.start (by decide) hs) (rStart_ok hc h0) hF
theorem L_groups (hb : bOk B) (F : Int32 → eM → Prop) {M0 : eM} : ∀ (f c : Nat) (y : rS × Nat) (M : eM), c + f = bC B → mB 130 131 132 133 M B → fFr M0 M 138 139 → (∀ d, d < bC B → M 139 d = if y.1.1 d then 1 else 0) → (∀ M', mB 130 131 132 133 M' B → fFr M0 M' 138 139 → F (nI (rGf B f c y).2) M') → Ev (eZ G 100 40 0 0 (eFI F)) G 100 40 (4, 0, 0) kX13_groupsOf 25 [(0, .ref (G.1 100)), (1, .int (nI y.2)), (2, .int (nI c))] [] M 0 0
  | 0, c, y, M, hc, hM, f0, hr, hF => by
    have hc' : c = bC B := hc
    refine B_X13_groupsOf_25 G M F _ _ (S_cells G hM _ ⟨fun _ => hF M hM f0, fun q => absurd ?_ q⟩)
    rw [hc']; exact Int32.le_refl _
  | f + 1, c, y, M, hc, hM, f0, hr, hF => by
    have h49 := hb.c49
    have h16 := hb.2.2.1
    have hcl : c < bC B := by omega
    have vc : vp_in (nI c) 49 := vp_in_nI (by omega) (by decide)
    unfold rGf at hF
    refine B_X13_groupsOf_25 G M F _ _ (S_cells G hM _ ⟨fun q => absurd q (nI_ge hcl (by omega)), fun _ => ⟨vc, ?_⟩⟩)
    rw [nI_clamp (show c < 2 ^ 31 by omega), hM.2.2.1 c hcl, hr c hcl]
    cases h1 : bAt B c with
    | none =>
      rw [show ((bAt B c).isSome && !y.1.1 c) = false by rw [h1]; rfl] at hF
      refine ⟨fun _ => B_X13_groupsOf_66 G M F _ _ ?_, fun q => absurd rfl q⟩
      rw [← nI_succ]
      exact L_groups hb F f (c + 1) y M (by omega) hM f0 hr hF
    | some k =>
      have hk := (hb.2.2.2.1 c k hcl h1).1
      refine ⟨fun q => absurd q (eNeg k (by omega)), fun _ => ⟨vc, ?_⟩⟩
      cases h2 : y.1.1 c with
      | true =>
        rw [show ((bAt B c).isSome && !y.1.1 c) = false by rw [h1, h2]; rfl] at hF
        refine ⟨fun q => absurd q (by decide), fun _ => B_X13_groupsOf_66 G M F _ _ ?_⟩
        rw [← nI_succ]
        exact L_groups hb F f (c + 1) y M (by omega) hM f0 hr hF
      | false =>
        rw [show ((bAt B c).isSome && !y.1.1 c) = true by rw [h1, h2]; rfl] at hF
        refine ⟨fun _ => L_reach hb _ hcl h2 hM hr (fun M' hM' f' hr' => B_X13_groupsOf_66 G M' F _ _ ?_), fun q => absurd rfl q⟩
        rw [← nI_succ, ← nI_succ]
        exact L_groups hb F f (c + 1) (rReach B c y.1, y.2 + 1) M' (by omega) hM' (f0.trans f') hr'.1 hF
theorem S_groupsOf (hb : bOk B) {M : eM} (hM : mB 130 131 132 133 M B) (F : Int32 → eM → Prop) (hF : ∀ M', mB 130 131 132 133 M' B → fFr M M' 138 139 → F (nI (bGroups B)) M') : Cal G 100 40 (4, 0, 0) kX13_groupsOf [.ref (G.1 100)] M (eFI F) := by
  have h49 := hb.c49
  refine C_X13_groupsOf G M F ?_
  have key : ∀ i, i ≤ 49 → ∀ M1 : eM, fFr M M1 138 139 → (∀ j, j < i → M1 139 j = 0) → Ev (eZ G 100 40 0 0 (eFI F)) G 100 40 (4, 0, 0) kX13_groupsOf 2 [(0, .ref (G.1 100)), (1, .int (nI i))] [] M1 0 0 := by
    refine eDown (P := fun i => ∀ M1 : eM, fFr M M1 138 139 → (∀ j, j < i → M1 139 j = 0) → Ev (eZ G 100 40 0 0 (eFI F)) G 100 40 (4, 0, 0) kX13_groupsOf 2 [(0, .ref (G.1 100)), (1, .int (nI i))] [] M1 0 0) ?_ ?_
    · intro M1 f1 g1
      refine B_X13_groupsOf_2 G M1 F _ ⟨fun _ => ?_, fun q => absurd (Int32.le_refl 49) q⟩
      exact L_groups hb F (bC B) 0 ((fun _ => false, fun _ => 0, 0), 0) M1 (Nat.zero_add _) (hM.g f1) f1 (fun d hd => by rw [g1 d (by omega)]; rfl) hF
    · intro i hi hn M1 f1 g1
      refine B_X13_groupsOf_2 G M1 F _ ⟨fun q => absurd q (nI_ge (b := 49) hi (by decide)), fun _ => ⟨vp_in_nI hi (by decide), ?_⟩⟩
      rw [nI_clamp (show i < 2 ^ 31 by omega), ← nI_succ, show ((0 : Int32) &&& 1) = 0 from by decide]
      refine hn _ (fun c c1 c2 => by rw [eU_other _ _ _ c2]; exact f1 c c1 c2) (fun j hj => ?_)
      by_cases hq : j = i
      · rw [hq, eU_same]
      · rw [eU_place _ _ _ _ hq]; exact g1 j (by omega)
  exact key 0 (Nat.zero_le _) M (fFr.refl _ _ _) (fun j hj => absurd hj (Nat.not_lt_zero _))
end Groups
