/-! ===== a contract over a part of the world holds over the whole: the rest stays ===== -/
def eMix (lo n : Nat) (M0 M : eM) : eM := fun c => if lo ≤ c ∧ c < lo + n then M0 c else M c
theorem eW_at {G : eG} {lo n : Nat} {M : eM} {D : va_G} {cl : List vw_C} {H : Heap} (h : va_P D cl (eW G lo n M) H) {c : Nat} (hc : lo ≤ c ∧ c < lo + n) : va_at D cl (G.1 c, eE G (esh c) (M c)) H := h (c - lo) _ (eW_get hc)
theorem eW_P {G : eG} {lo n : Nat} {M : eM} {D : va_G} {cl : List vw_C} {H : Heap} (h : ∀ c, lo ≤ c ∧ c < lo + n → va_at D cl (G.1 c, eE G (esh c) (M c)) H) : va_P D cl (eW G lo n M) H := by
  intro k q hq
  obtain ⟨h1, h2⟩ := eW_fst hq
  have e1 : k = (lo + k) - lo := by omega
  rw [e1, eW_get (c := lo + k) (by omega)] at hq
  cases hq
  exact h (lo + k) (by omega)
theorem eW_apart {G : eG} {lo n : Nat} {M : eM} {A : Nat → Prop} (h : va_D A (eW G lo n M)) {c d : Nat} (hc : lo ≤ c ∧ c < lo + n) (hd : lo ≤ d ∧ d < lo + n) (e : G.1 c = G.1 d) : c = d := by
  have := h.1 (c - lo) (d - lo) _ _ (eW_get hc) (eW_get hd) e
  omega
theorem eW_A {G : eG} {lo n : Nat} {M : eM} {A : Nat → Prop} (h : va_D A (eW G lo n M)) {c : Nat} (hc : lo ≤ c ∧ c < lo + n) : A (G.1 c) := h.2 (c - lo) _ (eW_get hc)
theorem Cal.frame {G : eG} {lo n lo' n' : Nat} (hsub : lo ≤ lo' ∧ lo' + n' ≤ lo + n) {b : eB} {K : eK} {av : List Value} {M : eM} {Fin : Option Value → eM → Prop} (h : Cal G lo' n' b K av M Fin) :
    Cal G lo n b K av M (fun v M' => ∃ M0, Fin v M0 ∧ M' = eMix lo' n' M0 M) := by
  intro la hfl A p e ha hc hk s m args below hf happ hP hK
  obtain ⟨q0, h1, h2, h3, h4, h5, h6⟩ := hP
  let A' : Nat → Prop := fun q => A q ∧ ∀ c, (lo ≤ c ∧ c < lo + n) → ¬ (lo' ≤ c ∧ c < lo' + n') → q ≠ G.1 c
  have hAA : ∀ q, A' q → A q := fun q z => z.1
  have hin : ∀ c, lo' ≤ c ∧ c < lo' + n' → lo ≤ c ∧ c < lo + n := fun c z => ⟨by omega, by omega⟩
  have hD' : va_D A' (eW G lo' n' M) := by
    refine ⟨fun i j x y hi hj hxy => ?_, fun k q hq => ?_⟩
    · obtain ⟨a1, a2⟩ := eW_fst hi
      obtain ⟨b1, b2⟩ := eW_fst hj
      have := eW_apart h6 (hin (lo' + i) (by omega)) (hin (lo' + j) (by omega)) (by rw [← a1, ← b1]; exact hxy)
      omega
    · obtain ⟨a1, a2⟩ := eW_fst hq
      rw [a1]
      exact ⟨eW_A h6 (hin (lo' + k) (by omega)), fun c hc1 hc2 e => hc2 (by have := eW_apart h6 (hin (lo' + k) (by omega)) hc1 e; omega)⟩
  have hpre : va_Pc av (eI G A' lo' n' M) args s := ⟨q0, h1, h2, h3.narrow hAA, fun q hq => ⟨h4 q hq, fun c hc1 _ e => by
      have := (eW_at h5 hc1).lt
      rw [e] at hq
      exact absurd this (Nat.not_lt.mpr hq)⟩, eW_P (fun c hc1 => eW_at h5 (hin c hc1)), hD'⟩
  obtain ⟨k, o, z1, z2, z3, ⟨⟨v, M0, e1, e2, e3⟩, e4⟩, L, z5, z6⟩ := h la hfl A' p e ha hc hk s m args below hf happ hpre hK
  refine ⟨k, o, z1, z2, z3, ⟨⟨v, eMix lo' n' M0 M, e1, ⟨M0, e2, rfl⟩, eW_P (fun c hc1 => ?_)⟩, ⟨e4.1, fun q hq hA => e4.2 q hq (fun z => hA z.1)⟩⟩, L, z5, fun q hq => (z6 q hq).1⟩
  by_cases hcc : lo' ≤ c ∧ c < lo' + n'
  · rw [show eMix lo' n' M0 M c = M0 c from if_pos hcc]
    exact eW_at e3 hcc
  · rw [show eMix lo' n' M0 M c = M c from if_neg hcc]
    have hat := eW_at h5 hc1
    exact hat.kept (e4.2 _ hat.lt (fun z => z.2 c hc1 hcc rfl))

