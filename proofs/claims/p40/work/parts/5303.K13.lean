/-! ===== an order made ===== -/
def oSt (ex : List Nat) (H0 H' : yH) (P : yH → Prop) : Prop := ∀ H'', (∀ b e, b ∉ ex → H0 b = none → H' b = some e → H'' b = some e) → P H''
theorem oSt.step {ex : List Nat} {H0 H' H2 : yH} {P : yH → Prop} (h : oSt ex H0 H' P) (k : yKp ex H' H2) : oSt ex H0 H2 P := fun H'' w => h H'' (fun b e n z y => w b e n z (k b e n y))
theorem oSt.of {ex : List Nat} {H0 Ha Hb : yH} {P : yH → Prop} (p : ∀ H'', yNw Ha Hb H'' → P H'') (m : yMn H0 Ha) (hx : ∀ b ∈ ex, Ha b ≠ none) : oSt ex H0 Hb P := fun H'' w => p H'' (fun b e n z => w b e (fun y => hx b y n) (m b n) z)
theorem oSt.imp {ex : List Nat} {H0 H' : yH} {P Q : yH → Prop} (h : oSt ex H0 H' P) (f : ∀ H'', P H'' → Q H'') : oSt ex H0 H' Q := fun H'' w => f H'' (h H'' w)
theorem oSt.and {ex : List Nat} {H0 H' : yH} {P Q : yH → Prop} (h : oSt ex H0 H' P) (h1 : oSt ex H0 H' Q) : oSt ex H0 H' (fun H'' => P H'' ∧ Q H'') := fun H'' w => ⟨h H'' w, h1 H'' w⟩
section OInit
variable {G : eG} {M : eM} {H : yH} {d N q : Nat}
theorem S_oinit {F : eM → yH → Prop} (hd : nD H d) (h1 : 1 ≤ N) (h16 : N ≤ 16) (hq : H q = some (.inr (12, [.int 0, .int 0, .null, .null]))) (h : ∀ H' o, oN o → oM N o → oSt [d, q] H H' (fun H'' => H'' q = H' q → nO G H'' q o) → (∃ x y s t, H' q = some (.inr (12, [x, y, .ref s, t])) ∧ H s = none) → nD H' d → yKp [d, q] H H' → F M H') : yCal G (7, 21, 83) kX14_init [.ref q, .ref d, .int (nI N)] M H (yFV F) := by
  have hqd : q ≠ d := fun z => by
    obtain ⟨s, e⟩ := hd
    rw [← z, hq] at e; simp at e
  refine C_X14_init G M H F q d (nI N) ⟨3, by decide, by decide, by decide, ⟨by decide, by decide⟩, fun s hs => ⟨_, (yLe.new hs _) _ _ hq, Nat.le_of_ble_eq_true rfl, ?_⟩⟩
  have hsq : s ≠ q := fun z => by rw [z, hq] at hs; cases hs
  have hsd : s ≠ d := hd.ne hs
  have ndq : s ∉ [d, q] := by simp [hsd, hsq]
  -- the end: the test
  have fin : ∀ (k u : Nat) (f : Nat → Option Nat) (xs : xS1 × xS1 × xS1) (H' : yH) (ca sl : Nat), k < 3 → u < N → (s1N xs.1 ∧ s1N xs.2.1 ∧ s1N xs.2.2) → (s1M N xs.1 ∧ s1M N xs.2.1 ∧ s1M N xs.2.2) → (k = 0 → ∃ a0 a1 a2, f 0 = some a0 ∧ f 1 = some a1 ∧ f 2 = some a2 ∧ oSt [d, q, s] H H' (fun H'' => nS1 H'' a0 xs.1 ∧ nS1 H'' a1 xs.2.1 ∧ nS1 H'' a2 xs.2.2)) → H' q = some (.inr (12, [.int (nI k), .int (nI u), .ref s, .null])) → H' s = some (.inl (G.2.2.2 7, (3, .inr (.inr (.inr (.inr f)))))) → nD H' d → yKp [d, q] H H' → ca ≤ 10 → sl ≤ 39 → Yx (yX "<init>") (yZ G 21 83 (yFV F)) G (eR (7, 21, 83)) kX14_init 113 [(0, .ref q), (1, .ref d), (2, .int (nI N))] [] M H' ca sl := by
    intro k u f xs H' ca sl hk hu hN hM hx e1 e2 d1 k1 hca hsl
    have fin2 : ∀ (H3 : yH) (tv : Value) (b : Bool) (xt : xT1), t1N xt → t1M N xt → (b = false → tv = .null) → (b = true → ∃ c, tv = .ref c ∧ oSt [d, q, s] H H3 (fun H'' => nT1 H'' c xt)) → nD H3 d → yKp [d] H' H3 → F M (yU H3 q (.inr (12, [.int (nI k), .int (nI u), .ref s, tv]))) := by
      intro H3 tv b xt t1 t2 t3 t4 d3 k3
      have kq : yKp [d, q, s] H3 (yU H3 q (.inr (12, [.int (nI k), .int (nI u), .ref s, tv]))) := (yKp.put _ _ _).mono (fun a ha => by rw [List.mem_singleton.mp ha]; simp)
      have k03 : yKp [d, q] H H3 := k1.trans (k3.mono (fun a ha => by rw [List.mem_singleton.mp ha]; simp))
      refine h _ ((k, u), xs, (b, xt)) ⟨hk, Nat.lt_of_lt_of_le hu h16, hN, t1⟩ ⟨hu, hM, t2⟩ (fun H'' w e => ?_) ⟨_, _, _, _, yU_same _ _ _, hs⟩ ?_ (k03.trans ((yKp.put _ _ _).mono (fun a ha => by rw [List.mem_singleton.mp ha]; simp)))
      · have hs3 : yU H3 q (.inr (12, [.int (nI k), .int (nI u), .ref s, tv])) s = some (.inl (G.2.2.2 7, (3, .inr (.inr (.inr (.inr f)))))) := by
          rw [yU_ne _ _ hsq]; exact k3 _ _ (by simp [hsd]) e2
        have w3 : ∀ b e, b ∉ [d, q, s] → H b = none → yU H3 q (.inr (12, [.int (nI k), .int (nI u), .ref s, tv])) b = some e → H'' b = some e := fun b e n z y => w b e (fun m => n (by simp at m; simp [m.elim (fun m => Or.inl m) (fun m => Or.inr (Or.inl m))])) z y
        refine ⟨s, tv, by rw [e]; exact yU_same _ _ _, fun z => ?_, t3, fun z => ?_⟩
        · obtain ⟨a0, a1, a2, g0, g1, g2, g3⟩ := hx z
          obtain ⟨y0, y1, y2⟩ := (g3.step (k3.mono (fun a ha => by rw [List.mem_singleton.mp ha]; simp))).step kq H'' w3
          exact ⟨f, a0, a1, a2, w _ _ ndq hs hs3, g0, g1, g2, y0, y1, y2⟩
        · obtain ⟨c, c1, c2⟩ := t4 z
          exact ⟨c, c1, c2.step kq H'' w3⟩
      · obtain ⟨x, ex⟩ := d3
        exact ⟨x, by rw [yU_ne _ _ (fun z => hqd z.symm)]; exact ex⟩
    have qd : q ∉ [d] := by simp [hqd]
    refine B_X14_init_113 G _ _ M H' F q d _ ⟨⟨by omega, by omega⟩, d1.is, S_next d1 (n := 2) (by decide) (by decide) (fun v H2 hv d2 k2 => ⟨fun z => ⟨⟨by omega, by omega⟩, S_test1 d2 h1 h16 (fun r H3 xt n3 m3 p3 d3 k3 => ⟨_, k3 _ _ qd (k2 _ _ qd e1), Nat.le_of_ble_eq_true rfl, ⟨by omega, by omega⟩, ?_⟩)⟩, fun z => ⟨_, k2 _ _ qd e1, Nat.le_of_ble_eq_true rfl, ⟨by omega, by omega⟩, ?_⟩⟩)⟩
    · refine fin2 H3 (.ref r) true xt n3 m3 (fun y => by cases y) (fun _ => ⟨r, rfl, oSt.of p3 ?_ (fun b hb => ?_)⟩) d3 (k2.trans k3)
      · refine yMn.trans (yMn.kp k1 (fun b hb => ?_)) (d2.mn k2)
        simp at hb
        rcases hb with rfl | rfl
        · obtain ⟨x, ex⟩ := d1; rw [ex]; exact fun z => by cases z
        · rw [e1]; exact fun z => by cases z
      · simp at hb
        rcases hb with rfl | rfl | rfl
        · obtain ⟨x, ex⟩ := d2; rw [ex]; exact fun z => by cases z
        · rw [k2 _ _ qd e1]; exact fun z => by cases z
        · rw [k2 _ _ (by simp [hsd]) e2]; exact fun z => by cases z
    · have tD := t0D_ok h1
      exact fin2 H2 .null false (20, t0D, t0D, t0D) ⟨by decide, tD.1, tD.1, tD.1⟩ ⟨tD.2, tD.2, tD.2⟩ (fun _ => rfl) (fun y => by cases y) d2 k2
  -- the sums of a put
  have loop : ∀ u, u < N → ∀ k, k ≤ 3 → ∀ (f : Nat → Option Nat) (xs : Nat → xS1) (H' : yH), (∀ j, j < k → s1N (xs j) ∧ s1M N (xs j) ∧ ∃ a, f j = some a ∧ oSt [d, q, s] H H' (fun H'' => nS1 H'' a (xs j))) → H' q = some (.inr (12, [.int 0, .int (nI u), .ref s, .null])) → H' s = some (.inl (G.2.2.2 7, (3, .inr (.inr (.inr (.inr f)))))) → nD H' d → yKp [d, q] H H' → ∀ ca sl, ca ≤ 1 + 3 * k → sl ≤ 3 + 12 * k → Yx (yX "<init>") (yZ G 21 83 (yFV F)) G (eR (7, 21, 83)) kX14_init 54 [(0, .ref q), (1, .ref d), (2, .int (nI N)), (4, .int (nI k))] [] M H' ca sl := by
    intro u hu
    refine eDown (P := fun k => ∀ (f : Nat → Option Nat) (xs : Nat → xS1) (H' : yH), (∀ j, j < k → s1N (xs j) ∧ s1M N (xs j) ∧ ∃ a, f j = some a ∧ oSt [d, q, s] H H' (fun H'' => nS1 H'' a (xs j))) → H' q = some (.inr (12, [.int 0, .int (nI u), .ref s, .null])) → H' s = some (.inl (G.2.2.2 7, (3, .inr (.inr (.inr (.inr f)))))) → nD H' d → yKp [d, q] H H' → ∀ ca sl, ca ≤ 1 + 3 * k → sl ≤ 3 + 12 * k → Yx (yX "<init>") (yZ G 21 83 (yFV F)) G (eR (7, 21, 83)) kX14_init 54 [(0, .ref q), (1, .ref d), (2, .int (nI N)), (4, .int (nI k))] [] M H' ca sl) ?_ ?_
    · intro f xs H' hx e1 e2 d1 k1 ca sl hca hsl
      obtain ⟨n0, m0, a0, f0, p0⟩ := hx 0 (by decide)
      obtain ⟨n1, m1, a1, f1, p1⟩ := hx 1 (by decide)
      obtain ⟨n2, m2, a2, f2, p2⟩ := hx 2 (by decide)
      exact B_X14_init_54 G _ _ M H' F q d _ _ ⟨fun _ => fin 0 u f (xs 0, xs 1, xs 2) H' ca sl (by decide) hu ⟨n0, n1, n2⟩ ⟨m0, m1, m2⟩ (fun _ => ⟨a0, a1, a2, f0, f1, f2, p0.and (p1.and p2)⟩) e1 e2 d1 k1 (by omega) (by omega), fun z => absurd (Int32.le_refl _) z⟩
    · intro k hk hn f xs H' hx e1 e2 d1 k1 ca sl hca hsl
      have qd : q ∉ [d] := by simp [hqd]
      have sd : s ∉ [d] := by simp [hsd]
      have mH : yMn H H' := yMn.kp k1 (fun b hb => by
        simp at hb
        rcases hb with rfl | rfl
        · obtain ⟨x, ex⟩ := d1; rw [ex]; exact fun z => by cases z
        · rw [e1]; exact fun z => by cases z)
      -- one more
      have more : ∀ (r : Nat) (H4 : yH) (x : xS1) (ca' sl' : Nat), s1N x → s1M N x → oSt [d, q, s] H H4 (fun H'' => nS1 H'' r x) → nD H4 d → yKp [d] H' H4 → ca' ≤ 1 + 3 * (k + 1) → sl' ≤ 3 + 12 * (k + 1) → Yx (yX "<init>") (yZ G 21 83 (yFV F)) G (eR (7, 21, 83)) kX14_init 54 [(0, .ref q), (1, .ref d), (2, .int (nI N)), (4, .int (nI k + 1))] [] M (yU H4 s (.inl (G.2.2.2 7, (3, .inr (.inr (.inr (.inr (va_up f (nI k).toNatClampNeg (some r))))))))) ca' sl' := by
        intro r H4 x ca' sl' nx mx px d4 k4 hc hs'
        rw [← nI_succ, nI_clamp (by omega)]
        have k4' : yKp [d, q, s] H' H4 := k4.mono (fun a ha => by rw [List.mem_singleton.mp ha]; simp)
        have ks : yKp [d, q, s] H4 (yU H4 s (.inl (G.2.2.2 7, (3, .inr (.inr (.inr (.inr (va_up f k (some r))))))))) := (yKp.put _ _ _).mono (fun a ha => by rw [List.mem_singleton.mp ha]; simp)
        refine hn _ (fun j => if j = k then x else xs j) _ (fun j hj => ?_) ?_ (yU_same _ _ _) ?_ ?_ _ _ hc hs'
        · by_cases hjk : j = k
          · subst hjk
            show s1N (if j = j then x else xs j) ∧ s1M N (if j = j then x else xs j) ∧ ∃ a, va_up f j (some r) j = some a ∧ oSt [d, q, s] H _ (fun H'' => nS1 H'' a (if j = j then x else xs j))
            rw [if_pos rfl]
            exact ⟨nx, mx, r, if_pos rfl, px.step ks⟩
          · show s1N (if j = k then x else xs j) ∧ s1M N (if j = k then x else xs j) ∧ ∃ a, va_up f k (some r) j = some a ∧ oSt [d, q, s] H _ (fun H'' => nS1 H'' a (if j = k then x else xs j))
            rw [if_neg hjk]
            obtain ⟨y1, y2, a, y3, y4⟩ := hx j (by omega)
            exact ⟨y1, y2, a, (if_neg hjk).trans y3, (y4.step k4').step ks⟩
        · rw [yU_ne _ _ (fun z => hsq z.symm)]; exact k4 _ _ qd e1
        · obtain ⟨y, ey⟩ := d4
          exact ⟨y, by rw [yU_ne _ _ (fun z => hsd z.symm)]; exact ey⟩
        · refine fun b e n z => ?_
          have hbs : b ≠ s := fun y => by rw [y, hs] at z; cases z
          rw [yU_ne _ _ hbs]
          exact k4 b e (fun y => n (by rw [List.mem_singleton.mp y]; simp)) (k1 b e n z)
      refine B_X14_init_54 G _ _ M H' F q d _ _ ⟨fun z => absurd z (nI_ge (b := 3) hk (by decide)), fun _ => B_X14_init_60 G _ _ M H' F q d _ _ ⟨0, yG.of e1 rfl, fun z => absurd rfl z, fun _ => ⟨s, yG.of e1 rfl, ⟨by omega, by omega⟩, d1.is, S_next d1 (n := 2) (by decide) (by decide) (fun v H2 hv d2 k2 => ⟨fun z => ?_, fun z => ?_⟩)⟩⟩⟩
      · refine ⟨⟨by omega, by omega⟩, S_sum1 d2 h1 h16 (fun r H3 x n3 m3 p3 d3 k3 => ?_)⟩
        have p3' : oSt [d, q, s] H H3 (fun H'' => nS1 H'' r x) := oSt.of p3 (mH.trans (d2.mn k2)) (fun b hb => by
          simp at hb
          rcases hb with rfl | rfl | rfl
          · obtain ⟨x, ex⟩ := d2; rw [ex]; exact fun z => by cases z
          · rw [k2 _ _ qd e1]; exact fun z => by cases z
          · rw [k2 _ _ sd e2]; exact fun z => by cases z)
        have hr := p3 H3 (yNw.self _ _)
        obtain ⟨fs, hfs⟩ := hr.is
        exact ⟨3, f, fs, k3 _ _ sd (k2 _ _ sd e2), vp_in_nI (by omega) (by decide), hfs, more r H3 x _ _ n3 m3 p3' d3 (k2.trans k3) (by omega) (by omega)⟩
      · refine ⟨⟨by omega, by omega⟩, fun p hp => ?_⟩
        have d2' := d2.le (yLe.new hp (.inr (11, [.int 0, .int 0, .null, .null])))
        refine ⟨⟨by omega, by omega⟩, d2'.is, S_next d2' (n := 7) (by decide) (by decide) (fun w H3 hw d3 k3 => ⟨⟨by omega, by omega⟩, S_fill (H := H2) (o3 := none) (o4 := none) (yKp.refl _ _) d2 hp d3 k3 (fun H4 e n d4 k4 => ?_)⟩)⟩
        have hpq : H4 p = some (.inr (11, [.int 0, .int (nI w), .null, .null])) := by rw [e]; exact yU_same _ _ _
        have px : oSt [d, q, s] H H4 (fun H'' => nS1 H'' p (0, w, lfD, lfD)) := fun H'' g => by
          have hpd : p ∉ [d, q, s] := fun y => by
            simp at y
            rcases y with y | y | y
            · exact d2.ne hp y
            · rw [y, k2 _ _ qd e1] at hp; cases hp
            · rw [y, k2 _ _ sd e2] at hp; cases hp
          exact ⟨fun _ => g p _ hpd ((mH.trans (d2.mn k2)) p hp) hpq, fun z => absurd (show 0 = 8 from z) (by decide), fun z => absurd (show 9 ≤ 0 from z) (by decide)⟩
        exact ⟨3, f, _, k4 _ _ sd (k2 _ _ sd e2), vp_in_nI (by omega) (by decide), hpq, more p H4 (0, w, lfD, lfD) _ _ ⟨(by show 0 < 15; decide), fun _ => ⟨(by show 0 < 8; decide), fun _ => (by show w < 10 ^ 6; omega), fun z => absurd (show 0 = 7 from z) (by decide)⟩, (lfD_ok N).1, (lfD_ok N).1⟩ ⟨fun _ z => absurd (show 0 = 7 from z) (by decide), (lfD_ok N).2, (lfD_ok N).2⟩ px d4 (k2.trans k4) (by omega) (by omega)⟩
  -- from the start
  have d1 : nD (yU (yU H s (.inl (G.2.2.2 7, (3, .inr (.inr (.inr (.inr (fun _ => none)))))))) q (.inr (12, [.int 0, .int 0, .ref s, .null]))) d := by
    obtain ⟨x, ex⟩ := hd
    exact ⟨x, by rw [yU_ne _ _ (fun z => hqd z.symm)]; exact (yLe.new hs _) _ _ ex⟩
  have qd : q ∉ [d] := by simp [hqd]
  have sd : s ∉ [d] := by simp [hsd]
  refine ⟨⟨by decide, by decide⟩, d1.is, S_next d1 (n := 6) (by decide) (by decide) (fun v H2 hv d2 k2 => ?_)⟩
  have q2 : H2 q = some (.inr (12, [.int 0, .int 0, .ref s, .null])) := k2 _ _ qd (yU_same _ _ _)
  have s2 : H2 s = some (.inl (G.2.2.2 7, (3, .inr (.inr (.inr (.inr (fun _ => none))))))) := k2 _ _ sd (by rw [yU_ne _ _ hsq]; exact yU_same _ _ _)
  have k02 : yKp [d, q] H H2 := fun b e n z => k2 b e (fun y => n (by rw [List.mem_singleton.mp y]; simp)) (by
    rw [yU_ne _ _ (fun y => n (by rw [y]; simp))]
    exact (yLe.new hs _) _ _ z)
  have rest : ∀ k, k < 3 → Yx (yX "<init>") (yZ G 21 83 (yFV F)) G (eR (7, 21, 83)) kX14_init 42 [(0, .ref q), (1, .ref d), (2, .int (nI N))] [] M (yU H2 q (.inr (12, [.int (nI k), .int 0, .ref s, .null]))) (0 + 1) (0 + 3) := by
    intro k hk
    have d3 : nD (yU H2 q (.inr (12, [.int (nI k), .int 0, .ref s, .null]))) d := by
      obtain ⟨x, ex⟩ := d2
      exact ⟨x, by rw [yU_ne _ _ (fun z => hqd z.symm)]; exact ex⟩
    refine B_X14_init_42 G _ _ M _ F q d _ ⟨⟨by decide, by decide⟩, d3.is, S_next d3 (n := N) (by omega) (by omega) (fun u H4 hu d4 k4 => ⟨_, k4 _ _ qd (yU_same _ _ _), Nat.le_of_ble_eq_true rfl, ?_⟩)⟩
    have d5 : nD (yU H4 q (.inr (12, [.int (nI k), .int (nI u), .ref s, .null]))) d := by
      obtain ⟨x, ex⟩ := d4
      exact ⟨x, by rw [yU_ne _ _ (fun z => hqd z.symm)]; exact ex⟩
    have s5 : yU H4 q (.inr (12, [.int (nI k), .int (nI u), .ref s, .null])) s = some (.inl (G.2.2.2 7, (3, .inr (.inr (.inr (.inr (fun _ => none))))))) := by
      rw [yU_ne _ _ hsq]
      exact k4 _ _ sd (by rw [yU_ne _ _ hsq]; exact s2)
    have k05 : yKp [d, q] H (yU H4 q (.inr (12, [.int (nI k), .int (nI u), .ref s, .null]))) := fun b e n z => by
      have nq : b ≠ q := fun y => n (by rw [y]; simp)
      rw [yU_ne _ _ nq]
      exact k4 b e (fun y => n (by rw [List.mem_singleton.mp y]; simp)) (by rw [yU_ne _ _ nq]; exact k02 b e n z)
    by_cases h0 : k = 0
    · subst h0
      exact loop u hu 0 (by decide) (fun _ => none) (fun _ => s1D) _ (fun j hj => absurd hj (Nat.not_lt_zero _)) (yU_same _ _ _) s5 d5 k05 _ _ (by decide) (by decide)
    · exact B_X14_init_54 G _ _ M _ F q d _ _ ⟨fun z => absurd z (nI_ge (a := 0) (b := 3) (by decide) (by decide)), fun _ => B_X14_init_60 G _ _ M _ F q d _ _ ⟨nI k, yG.of (yU_same _ _ _) rfl, fun _ => fin k u (fun _ => none) (s1D, s1D, s1D) _ _ _ hk hu ⟨(s1D_ok N).1, (s1D_ok N).1, (s1D_ok N).1⟩ ⟨(s1D_ok N).2, (s1D_ok N).2, (s1D_ok N).2⟩ (fun z => absurd z h0) (yU_same _ _ _) s5 d5 k05 (by decide) (by decide), fun z => absurd z (nI_ne0 (by omega) (by omega))⟩⟩
  refine ⟨fun z => ⟨fun y => ⟨_, q2, Nat.le_of_ble_eq_true rfl, rest 2 (by decide)⟩, fun y => ⟨_, q2, Nat.le_of_ble_eq_true rfl, rest 1 (by decide)⟩⟩, fun z => ⟨_, q2, Nat.le_of_ble_eq_true rfl, rest 0 (by decide)⟩⟩
end OInit
