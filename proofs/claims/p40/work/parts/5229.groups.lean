/-! ===== groups ===== -/
/-- the seen cells and the queue in memory: cells q of the queue and i of what is seen -/
def rM (M : eM) (q i : Nat) (B : eBd) (s : rS) : Prop := (∀ c, c < bC B → M i c = if s.1 c then 1 else 0) ∧ ∀ j, j < s.2.2 → M q j = nI (s.2.1 j)
theorem rM.mark {M : eM} {q i : Nat} {B : eBd} {s : rS} {d : Nat} (hqi : q ≠ i) (h : rM M q i B s) : rM (eU (eU M i d 1) q s.2.2 (nI d)) q i B (zU s.1 d true, zU s.2.1 s.2.2 d, s.2.2 + 1) := by
  refine ⟨fun c hc => ?_, fun j hj => ?_⟩
  · show _ = if zU s.1 d true c then 1 else 0
    rw [eU_cell _ _ _ _ (Ne.symm hqi)]
    by_cases hq : c = d
    · rw [hq, eU_same, zU_same]; rfl
    · rw [eU_place _ _ _ _ hq, zU_ne _ _ hq]; exact h.1 c hc
  · show _ = nI (zU s.2.1 s.2.2 d j)
    have hj' : j < s.2.2 + 1 := hj
    by_cases hq : j = s.2.2
    · rw [hq, eU_same, zU_same]
    · rw [eU_place _ _ _ _ hq, eU_cell _ _ _ _ hqi, zU_ne _ _ hq]; exact h.2 j (by omega)
theorem rM.start {M : eM} {q i : Nat} {B : eBd} {s : rS} {c : Nat} (hqi : q ≠ i) (h : ∀ c, c < bC B → M i c = if s.1 c then 1 else 0) : rM (eU (eU M q 0 (nI c)) i c 1) q i B (zU s.1 c true, zU s.2.1 0 c, 1) := by
  refine ⟨fun d hd => ?_, fun j hj => ?_⟩
  · show _ = if zU s.1 c true d then 1 else 0
    by_cases hq : d = c
    · rw [hq, eU_same, zU_same]; rfl
    · rw [eU_place _ _ _ _ hq, eU_cell _ _ _ _ (Ne.symm hqi), zU_ne _ _ hq]; exact h d hd
  · have hj0 : j = 0 := by
      have : j < 1 := hj
      omega
    show _ = nI (zU s.2.1 0 c j)
    rw [hj0, eU_cell _ _ _ _ hqi, eU_same, zU_same]
def fFr (M M' : eM) (a b : Nat) : Prop := ∀ c, c ≠ a → c ≠ b → M' c = M c
theorem fFr.refl (M : eM) (a b : Nat) : fFr M M a b := fun _ _ _ => rfl
theorem fFr.trans {M M1 M2 : eM} {a b : Nat} (h : fFr M M1 a b) (h1 : fFr M1 M2 a b) : fFr M M2 a b := fun c c1 c2 => (h1 c c1 c2).trans (h c c1 c2)
theorem fFr.two (M : eM) (a b j k : Nat) (v v' : Int32) : fFr M (eU (eU M a j v) b k v') a b := fun c c1 c2 => by rw [eU_other _ _ _ c2, eU_other _ _ _ c1]
theorem fFr.swap {M M' : eM} {a b : Nat} (h : fFr M M' a b) : fFr M M' b a := fun c c1 c2 => h c c2 c1
theorem cB.g {M M' : eM} {B : eBd} (h : cB M B) (hf : fFr M M' 34 35) : cB M' B := h.fr (fun c c1 c2 => hf c (by omega) (by omega))
theorem mB.g {M M' : eM} {B : eBd} (h : mB 130 131 132 133 M B) (hf : fFr M M' 138 139) : mB 130 131 132 133 M' B := h.of (hf _ (by decide) (by decide)) (hf _ (by decide) (by decide)) (hf _ (by decide) (by decide)) (hf _ (by decide) (by decide)) (hf _ (by decide) (by decide)) (hf _ (by decide) (by decide))
/-- what is marked, in the class: a number that isn't 0 -/
def rMs (M : eM) (B : eBd) (s : rS) : Prop := ∀ c, c < bC B → (s.1 c = false → M 35 c = 0) ∧ (s.1 c = true → M 35 c ≠ 0)
def rMk (M : eM) (B : eBd) (s : rS) : Prop := rMs M B s ∧ ∀ j, j < s.2.2 → M 34 j = nI (s.2.1 j)
theorem rMk.mark {M : eM} {B : eBd} {s : rS} {d : Nat} {g : Int32} (hg : g ≠ 0) (h : rMk M B s) : rMk (eU (eU M 35 d g) 34 s.2.2 (nI d)) B (zU s.1 d true, zU s.2.1 s.2.2 d, s.2.2 + 1) := by
  refine ⟨fun c hc => ?_, fun j hj => ?_⟩
  · show (zU s.1 d true c = false → _) ∧ (zU s.1 d true c = true → _)
    rw [eU_cell _ _ _ _ (show 35 ≠ 34 by decide)]
    by_cases hq : c = d
    · rw [hq, eU_same, zU_same]
      exact ⟨fun z => absurd z (by decide), fun _ => hg⟩
    · rw [eU_place _ _ _ _ hq, zU_ne _ _ hq]; exact h.1 c hc
  · show _ = nI (zU s.2.1 s.2.2 d j)
    have hj' : j < s.2.2 + 1 := hj
    by_cases hq : j = s.2.2
    · rw [hq, eU_same, zU_same]
    · rw [eU_place _ _ _ _ hq, eU_cell _ _ _ _ (show 34 ≠ 35 by decide), zU_ne _ _ hq]; exact h.2 j (by omega)
theorem rMk.start {M : eM} {B : eBd} {s : rS} {c : Nat} {g : Int32} (hg : g ≠ 0) (h : rMs M B s) : rMk (eU (eU M 34 0 (nI c)) 35 c g) B (zU s.1 c true, zU s.2.1 0 c, 1) := by
  refine ⟨fun d hd => ?_, fun j hj => ?_⟩
  · show (zU s.1 c true d = false → _) ∧ (zU s.1 c true d = true → _)
    by_cases hq : d = c
    · rw [hq, eU_same, zU_same]
      exact ⟨fun z => absurd z (by decide), fun _ => hg⟩
    · rw [eU_place _ _ _ _ hq, eU_cell _ _ _ _ (show 35 ≠ 34 by decide), zU_ne _ _ hq]; exact h d hd
  · have hj0 : j = 0 := by
      have : j < 1 := hj
      omega
    show _ = nI (zU s.2.1 0 c j)
    rw [hj0, eU_cell _ _ _ _ (show 34 ≠ 35 by decide), eU_same, zU_same]
section Groups
variable {G : eG} {B : eBd}
theorem K_edge (hb : bOk B) (F : eM → Prop) {M0 : eM} {x : Nat} {g : Int32} (hg : g ≠ 0) : ∀ (n e : Nat) (s : rS) (M : eM), e + n = 6 → cB M B → fFr M0 M 34 35 → rMk M B s → rOk B s → x < s.2.2 → (∀ M', cB M' B → fFr M0 M' 34 35 → rMk M' B (rEf B x n e s) → Ev (eZ G 0 68 0 0 (eFV F)) G 0 68 (1, 0, 0) kX1_markGroup 19 [(0, .ref (G.1 23)), (2, .int g), (3, .int (nI (rEf B x n e s).2.2)), (4, .int (nI (x + 1)))] [] M' 0 0) → Ev (eZ G 0 68 0 0 (eFV F)) G 0 68 (1, 0, 0) kX1_markGroup 37 [(0, .ref (G.1 23)), (2, .int g), (3, .int (nI s.2.2)), (4, .int (nI x)), (5, .int (nI e))] [] M 0 0
  | 0, e, s, M, he, hM, f0, hr, _, _, hF => by
    have he' : e = 6 := he
    subst he'
    refine B_X1_markGroup_37 G M F _ _ _ _ ⟨fun _ => ?_, fun q => absurd (Int32.le_refl 6) q⟩
    rw [← nI_succ]
    exact hF M hM f0 hr
  | n + 1, e, s, M, he, hM, f0, hr, ho, hx, hF => by
    have he6 : e < 6 := by omega
    have h49 := hb.c49
    have hl := ho.1
    have hqx := ho.2 x hx
    have hx49 : x < 49 := by omega
    -- the next edge, behind this one
    have next : ∀ (M' : eM), cB M' B → fFr M0 M' 34 35 → rMk M' B (rE B x e s) → Ev (eZ G 0 68 0 0 (eFV F)) G 0 68 (1, 0, 0) kX1_markGroup 116 [(0, .ref (G.1 23)), (2, .int g), (3, .int (nI (rE B x e s).2.2)), (4, .int (nI x)), (5, .int (nI e))] [] M' 0 0 := by
      intro M' hM' f' hr'
      refine B_X1_markGroup_116 G M' F _ _ _ _ ?_
      rw [← nI_succ]
      obtain ⟨a1, a2⟩ := rE_ok hb ho hx he6
      exact K_edge hb F hg n (e + 1) (rE B x e s) M' (by omega) hM' f' hr' a1 (by omega) hF
    refine B_X1_markGroup_37 G M F _ _ _ _ ⟨fun q => absurd q (nI_ge (b := 6) he6 (by decide)), fun _ => ⟨vp_in_nI hx49 (by decide), ?_⟩⟩
    rw [nI_clamp (show x < 2 ^ 31 by omega), hr.2 x hx, eIx, nI_clamp (show s.2.1 x * 6 + e < 2 ^ 31 by omega), hM.be hqx he6]
    refine ⟨vp_in_nI (by omega) (by decide), ?_⟩
    cases h1 : bBes B (s.2.1 x) e with
    | none =>
      rw [rE_none h1] at next
      exact ⟨fun _ => next M hM f0 hr, fun q => absurd (by decide) q⟩
    | some d =>
      have hd := (hb.bes hqx he6 h1).1
      have vd : vp_in (nI d) 49 := vp_in_nI (by omega) (by decide)
      rw [eO_some, nI_clamp (show d < 2 ^ 31 by omega), hM.at hd]
      refine ⟨fun q => absurd q (nI_pos (by omega)), fun _ => ⟨vd, ?_⟩⟩
      cases h2 : bAt B d with
      | none =>
        rw [rE_skip h1 (show ((bAt B d).isSome && !s.1 d) = false by rw [h2]; rfl)] at next
        exact ⟨fun _ => next M hM f0 hr, fun q => absurd (by decide) q⟩
      | some k =>
        have hk := (hb.2.2.2.1 d k hd h2).1
        have h16 := hb.2.2.1
        refine ⟨fun q => absurd q (nI_pos (by omega)), fun _ => ⟨vd, ?_⟩⟩
        cases h3 : s.1 d with
        | true =>
          rw [rE_skip h1 (show ((bAt B d).isSome && !s.1 d) = false by rw [h2, h3]; rfl)] at next
          exact ⟨fun _ => next M hM f0 hr, fun q => absurd q ((hr.1 d hd).2 h3)⟩
        | false =>
          rw [rE_mark h1 (show ((bAt B d).isSome && !s.1 d) = true by rw [h2, h3]; rfl)] at next
          have hU := rU_pos (B := B) hd h3
          have hlt : s.2.2 < bC B := by omega
          refine ⟨fun q => absurd ((hr.1 d hd).1 h3) q, fun _ => ⟨fun q => absurd q ?_, fun _ => ⟨vd, vp_in_nI (by omega) (by decide), ?_⟩⟩⟩
          · rw [hM.nc]; exact nI_ge hlt (by omega)
          · rw [nI_clamp (show s.2.2 < 2 ^ 31 by omega), ← nI_succ]
            have ff := (fFr.two M 35 34 d s.2.2 g (nI d)).swap
            exact next _ (hM.g ff) (f0.trans ff) (hr.mark hg)
theorem K_next (hb : bOk B) (F : eM → Prop) {M0 : eM} {g : Int32} (hg : g ≠ 0) : ∀ (f x : Nat) (s : rS) (M : eM), x + f = bC B → cB M B → fFr M0 M 34 35 → rMk M B s → rOk B s → (∀ M', cB M' B → fFr M0 M' 34 35 → rMk M' B (rNf B f x s) → F M') → Ev (eZ G 0 68 0 0 (eFV F)) G 0 68 (1, 0, 0) kX1_markGroup 19 [(0, .ref (G.1 23)), (2, .int g), (3, .int (nI s.2.2)), (4, .int (nI x))] [] M 0 0
  | 0, x, s, M, hx, hM, f0, hr, ho, hF => by
    have hx' : x = bC B := hx
    have h1 := ho.1
    have h49 := hb.c49
    exact B_X1_markGroup_19 G M F _ _ _ ⟨fun _ => hF M hM f0 hr, fun q => absurd (nI_le (by omega) (by omega)) q⟩
  | f + 1, x, s, M, hx, hM, f0, hr, ho, hF => by
    have h1 := ho.1
    have h49 := hb.c49
    unfold rNf at hF
    by_cases hq : x < s.2.2
    · rw [if_pos hq] at hF
      refine B_X1_markGroup_19 G M F _ _ _ ⟨fun q => absurd q (nI_ge hq (by omega)), fun _ => ⟨fun q => absurd q ?_, fun _ => ?_⟩⟩
      · rw [hM.nc]; exact nI_ge (by omega) (by omega)
      · refine K_edge hb F hg 6 0 s M rfl hM f0 hr ho hq (fun M' hM' f' hr' => ?_)
        obtain ⟨a1, a2⟩ := rEf_ok hb 6 0 s ho hq (Nat.le_refl 6)
        exact K_next hb F hg f (x + 1) (rEf B x 6 0 s) M' (by omega) hM' f' hr' a1 hF
    · rw [if_neg hq] at hF
      exact B_X1_markGroup_19 G M F _ _ _ ⟨fun _ => hF M hM f0 hr, fun q => absurd (nI_le (by omega) (by omega)) q⟩
theorem K_reach (hb : bOk B) (F : eM → Prop) {M : eM} {c : Nat} {s : rS} {g : Int32} (hg : g ≠ 0) (hc : c < bC B) (h0 : s.1 c = false) (hM : cB M B) (hs : rMs M B s) (hF : ∀ M', cB M' B → fFr M M' 34 35 → rMk M' B (rReach B c s) → F M') : Cal G 0 68 (1, 0, 0) kX1_markGroup [.ref (G.1 23), .int (nI c), .int g] M (eFV F) := by
  have h49 := hb.c49
  refine C_X1_markGroup G M F _ _ ⟨vp_in_nI (n := 0) (by decide) (by decide), vp_in_nI (by omega) (by decide), ?_⟩
  rw [nI_clamp (show c < 2 ^ 31 by omega)]
  have ff := fFr.two M 34 35 0 c (nI c) g
  exact K_next hb F hg (bC B) 0 (zU s.1 c true, zU s.2.1 0 c, 1) _ (Nat.zero_add _) (hM.g ff) ff (rMk.start hg hs) (rStart_ok hc h0) hF
theorem K_groups (hb : bOk B) (F : Int32 → eM → Prop) {M0 : eM} : ∀ (f c : Nat) (y : rS × Nat) (M : eM), c + f = bC B → y.2 ≤ c → cB M B → fFr M0 M 34 35 → rMs M B y.1 → (∀ M', cB M' B → fFr M0 M' 34 35 → F (nI (rGf B f c y).2) M') → Ev (eZ G 0 68 0 0 (eFI F)) G 0 68 (2, 0, 0) kX1_countGroups 12 [(0, .ref (G.1 23)), (1, .int (nI y.2)), (2, .int (nI c))] [] M 0 0
  | 0, c, y, M, hc, _, hM, f0, hr, hF => by
    have hc' : c = bC B := hc
    refine B_X1_countGroups_12 G M F _ _ ⟨fun _ => hF M hM f0, fun q => absurd ?_ q⟩
    rw [hM.nc, hc']; exact Int32.le_refl _
  | f + 1, c, y, M, hc, hy, hM, f0, hr, hF => by
    have h49 := hb.c49
    have h16 := hb.2.2.1
    have hcl : c < bC B := by omega
    have vc : vp_in (nI c) 49 := vp_in_nI (by omega) (by decide)
    unfold rGf at hF
    refine B_X1_countGroups_12 G M F _ _ ⟨fun q => absurd q ?_, fun _ => ⟨vc, ?_⟩⟩
    · rw [hM.nc]; exact nI_ge hcl (by omega)
    · rw [nI_clamp (show c < 2 ^ 31 by omega), hM.at hcl]
      cases h1 : bAt B c with
      | none =>
        rw [show ((bAt B c).isSome && !y.1.1 c) = false by rw [h1]; rfl] at hF
        refine ⟨fun _ => B_X1_countGroups_47 G M F _ _ ?_, fun q => absurd (by decide) q⟩
        rw [← nI_succ]
        exact K_groups hb F f (c + 1) y M (by omega) (by omega) hM f0 hr hF
      | some k =>
        have hk := (hb.2.2.2.1 c k hcl h1).1
        refine ⟨fun q => absurd q (nI_pos (by omega)), fun _ => ⟨vc, ?_⟩⟩
        cases h2 : y.1.1 c with
        | true =>
          rw [show ((bAt B c).isSome && !y.1.1 c) = false by rw [h1, h2]; rfl] at hF
          refine ⟨fun _ => B_X1_countGroups_47 G M F _ _ ?_, fun q => absurd q ((hr c hcl).2 h2)⟩
          rw [← nI_succ]
          exact K_groups hb F f (c + 1) y M (by omega) (by omega) hM f0 hr hF
        | false =>
          rw [show ((bAt B c).isSome && !y.1.1 c) = true by rw [h1, h2]; rfl] at hF
          refine ⟨fun q => absurd ((hr c hcl).1 h2) q, fun _ => ?_⟩
          rw [← nI_succ]
          refine K_reach hb _ (nI_ne0 (by omega) (by omega)) hcl h2 hM hr (fun M' hM' f' hr' => B_X1_countGroups_47 G M' F _ _ ?_)
          rw [← nI_succ]
          exact K_groups hb F f (c + 1) (rReach B c y.1, y.2 + 1) M' (by omega) (show y.2 + 1 ≤ c + 1 by omega) hM' (f0.trans f') hr'.1 hF
theorem S_countGroups (hb : bOk B) {M : eM} (hM : cB M B) (F : Int32 → eM → Prop) (hF : ∀ M', cB M' B → fFr M M' 34 35 → F (nI (bGroups B)) M') : Cal G 0 68 (2, 0, 0) kX1_countGroups [.ref (G.1 23)] M (eFI F) := by
  have h49 := hb.c49
  refine C_X1_countGroups G M F ?_
  have key : ∀ i, i ≤ 49 → ∀ M1 : eM, fFr M M1 34 35 → (∀ j, j < i → M1 35 j = 0) → Ev (eZ G 0 68 0 0 (eFV (fun (M1 : eM) => Ev (eZ G 0 68 0 0 (eFI F)) G 0 68 (2, 0, 0) kX1_countGroups 12 [(0, .ref (G.1 23)), (1, .int 0), (2, .int 0)] [] M1 0 0))) G 0 68 (1, 0, 0) kJ7_fill_53178 5 [(0, .ref (G.1 35)), (1, .int 0), (2, .int (nI i)), (3, .int 49)] [] M1 0 0 := by
    refine eDown (P := fun i => ∀ M1 : eM, fFr M M1 34 35 → (∀ j, j < i → M1 35 j = 0) → Ev (eZ G 0 68 0 0 (eFV (fun (M1 : eM) => Ev (eZ G 0 68 0 0 (eFI F)) G 0 68 (2, 0, 0) kX1_countGroups 12 [(0, .ref (G.1 23)), (1, .int 0), (2, .int 0)] [] M1 0 0))) G 0 68 (1, 0, 0) kJ7_fill_53178 5 [(0, .ref (G.1 35)), (1, .int 0), (2, .int (nI i)), (3, .int 49)] [] M1 0 0) ?_ ?_
    · intro M1 f1 g1
      refine B_J7_fill_53178_35_5 G M1 _ _ _ _ ⟨fun _ => ?_, fun q => absurd (Int32.le_refl 49) q⟩
      exact K_groups hb F (bC B) 0 ((fun _ => false, fun _ => 0, 0), 0) M1 (Nat.zero_add _) (Nat.le_refl 0) (hM.g f1) f1 (fun d hd => ⟨fun _ => g1 d (by omega), fun z => absurd z Bool.false_ne_true⟩) hF
    · intro i hi hn M1 f1 g1
      refine B_J7_fill_53178_35_5 G M1 _ _ _ _ ⟨fun q => absurd q (nI_ge (b := 49) hi (by decide)), fun _ => ⟨vp_in_nI hi (by decide), ?_⟩⟩
      rw [nI_clamp (show i < 2 ^ 31 by omega), ← nI_succ]
      refine hn _ (fun c c1 c2 => by rw [eU_other _ _ _ c2]; exact f1 c c1 c2) (fun j hj => ?_)
      by_cases hq : j = i
      · rw [hq, eU_same]
      · rw [eU_place _ _ _ _ hq]; exact g1 j (by omega)
  exact C_J7_fill_53178_35 G M _ 0 (key 0 (Nat.zero_le _) M (fFr.refl _ _ _) (fun j hj => absurd hj (Nat.not_lt_zero _)))
/-! the model -/
end Groups
