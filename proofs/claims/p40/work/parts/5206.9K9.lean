/-! ===== numbers in decimal ===== -/
theorem nI_negT {n : Nat} (h : n < 2 ^ 31) : (-(nI n)).toInt = -(n : Int) := by
  rw [Int32.toInt_neg, nI_toInt h, eB32 (by omega) (by omega)]
theorem nN_le {a b : Nat} (ha : a < 2 ^ 31) (hb : b < 2 ^ 31) : -(nI a) ≤ -(nI b) ↔ b ≤ a := by
  rw [Int32.le_iff_toInt_le, nI_negT ha, nI_negT hb]; omega
theorem nN_lt {a b : Nat} (ha : a < 2 ^ 31) (hb : b < 2 ^ 31) : -(nI a) < -(nI b) ↔ b < a := by
  rw [Int32.lt_iff_toInt_lt, nI_negT ha, nI_negT hb]; omega
theorem nN_div {n : Nat} (h : n < 2 ^ 31) : -(nI n) / 100 = -(nI (n / 100)) := by
  refine Int32.toInt_inj.mp ?_
  rw [Int32.toInt_div_of_ne_right _ _ (by decide), nI_negT h, nI_negT (n := n / 100) (by omega), show (100 : Int32).toInt = 100 by decide, Int.neg_tdiv, Int.tdiv_eq_ediv_of_nonneg (by omega)]
  omega
theorem nN_rem {n : Nat} (h : n < 2 ^ 31) : -(nI n) / 100 * 100 - -(nI n) = nI (n % 100) := by
  rw [nN_div h]
  refine Int32.toInt_inj.mp ?_
  rw [Int32.toInt_sub, Int32.toInt_mul, nI_negT h, nI_negT (n := n / 100) (by omega), show (100 : Int32).toInt = 100 by decide, eB32 (n := -((n / 100 : Nat) : Int) * 100) (by omega) (by omega), nI_toInt (n := n % 100) (by omega), eB32 (by omega) (by omega)]
  omega
theorem nI_dec {p : Nat} (h : 1 ≤ p) : nI p + (-1) = nI (p - 1) := by
  obtain ⟨q, rfl⟩ : ∃ q, p = q + 1 := ⟨p - 1, by omega⟩
  rw [← Int32.sub_eq_add_neg, nI_pred, Nat.add_sub_cancel]
theorem dg_one {n : Nat} (h : n < 10) : dg n = [48 + n] := by
  show (if n < 10 then [48 + n] else dgs 9 (n / 10) ++ [48 + n % 10]) = _
  exact if_pos h
theorem dg_rec {n : Nat} (h : 10 ≤ n) (h9 : n < 10 ^ 9) : dg n = dg (n / 10) ++ [48 + n % 10] := by
  show (if n < 10 then [48 + n] else dgs 9 (n / 10) ++ [48 + n % 10]) = dgs (9 + 1) (n / 10) ++ _
  rw [if_neg (by omega), dgs_more 8 9 (n / 10) (by omega) (by decide)]
theorem dg_size : ∀ (i n : Nat), i ≤ 7 → n < 10 ^ (i + 1) → (i = 0 ∨ 10 ^ i ≤ n) → (dg n).length = i + 1
  | 0, n, _, h, _ => by rw [dg_one (by simpa using h)]; rfl
  | i + 1, n, hi, h, hp => by
    have hp1 : 10 ^ (i + 1) ≤ n := by
      rcases hp with hp | hp
      · omega
      · exact hp
    have p2 : (10 : Nat) ^ (i + 1 + 1) ≤ 10 ^ 9 := Nat.pow_le_pow_right (by decide) (by omega)
    have p0 : 1 ≤ (10 : Nat) ^ i := Nat.one_le_pow _ _ (by decide)
    rw [Nat.pow_succ] at h hp1
    rw [Nat.pow_succ] at p2
    rw [dg_rec (by omega) (by omega), List.length_append, dg_size i (n / 10) (by omega) (by omega) (Or.inr (by omega))]
    rfl
theorem dg_as (n : Nat) : yAs (dg n) := fun b hb => by
  have h := dg_digit n b hb
  have key : ∀ b, b < 128 ∨ tD b = false := fun b => by
    by_cases q : b < 128
    · exact Or.inl q
    · refine Or.inr ?_
      cases hq : tD b with
      | false => rfl
      | true =>
        unfold tD at hq
        simp at hq
        omega
  rcases key b with q | q
  · exact q
  · rw [q] at h; cases h
theorem yU_id {H : yH} {a : Nat} {e : va_E} (h : H a = some e) : yU H a e = H := by
  funext b
  by_cases q : b = a
  · subst q; rw [yU_same, h]
  · rw [yU_ne _ _ q]
theorem upd_fit {g : Nat → Int32} {i : Nat} {v : Int32} (hg : ∀ j, fits .byte (.int (g j)) = true) (hv : fits .byte (.int v) = true) (j : Nat) : fits .byte (.int (upd g i v j)) = true := by
  by_cases h : j = i
  · subst h; rw [pk_us]; exact hv
  · rw [pk_un h]; exact hg j
section DSpec
variable {G : eG} {M : eM} {H : yH}
theorem S_size {n : Nat} (hn : n < 1000000) : yRd G (1, 0, 0) kJ6_stringSize_0f7a4 [.int (nI n)] M H (.int (nI (dg n).length)) := by
  have key : ∀ d i, i + d = 6 → (i = 0 ∨ 10 ^ i ≤ n) → Yx (yX "stringSize") (yZ G 0 0 (yFI (fun r' M' H' => r' = nI (dg n).length ∧ M' = M ∧ H' = H))) G (eR (1, 0, 0)) kJ6_stringSize_0f7a4 16 [(0, .int (-(nI n))), (1, .int 0), (2, .int (-(nI (10 ^ (i + 1))))), (3, .int (nI (i + 1)))] [] M H 0 0 := by
    intro d
    induction d with
    | zero =>
      intro i hi hp
      have : i = 6 := by omega
      subst this
      rcases hp with hp | hp
      · omega
      · have : (10 : Nat) ^ 6 = 1000000 := by decide
        omega
    | succ d ih =>
      intro i hi hp
      have p1 : (10 : Nat) ^ (i + 1) ≤ 10 ^ 6 := Nat.pow_le_pow_right (by decide) (by omega)
      have p2 : (10 : Nat) ^ 6 = 1000000 := by decide
      have p3 : (10 : Nat) ^ (i + 1 + 1) = 10 ^ (i + 1) * 10 := Nat.pow_succ _ _
      refine B_J6_stringSize_0f7a4_16 G M H _ _ _ _ _ ⟨fun z => absurd z (nI_ge (b := 10) (by omega) (by decide)), fun _ => ⟨fun z => ?_, fun z => ?_⟩⟩
      · have hle := (nN_le (by omega) (by omega)).mp z
        have e : (10 : Int32) * -(nI (10 ^ (i + 1))) = -(nI (10 ^ (i + 1 + 1))) := by
          rw [p3, Int32.mul_neg, Nat.mul_comm, ← nI_mul]
          rfl
        rw [e, ← nI_succ]
        exact ih (i + 1) (by omega) (Or.inr hle)
      · have hlt : n < 10 ^ (i + 1) := Nat.lt_of_not_le (fun y => z ((nN_le (by omega) (by omega)).mpr y))
        refine ⟨?_, rfl, rfl⟩
        rw [dg_size i n (by omega) hlt hp, nI_01]
  refine yRd.of (C_J6_stringSize_0f7a4 G M H _ (nI n) ⟨fun z => absurd z (nI_pos (by omega)), fun _ => B_J6_stringSize_0f7a4_11 G M H _ _ _ ?_⟩)
  exact key 6 0 rfl (Or.inl rfl)
theorem S_getChars {a m c n : Nat} {g : Nat → Int32} {F : Int32 → eM → yH → Prop} (h : H a = some (.inl (G.2.2.2 1, (m, .inl g)))) (hn : n < 1000000) (hc : c + (dg n).length ≤ m) (hm : m < 2 ^ 31) (hF : ∀ g' : Nat → Int32, (∀ i, i < c → g' i = g i) → (∀ i, i < (dg n).length → g' (c + i) = nI ((dg n).getD i 0)) → ((∀ j, fits .byte (.int (g j)) = true) → ∀ j, fits .byte (.int (g' j)) = true) → F (nI c) M (yU H a (.inl (G.2.2.2 1, (m, .inl g'))))) : yCal G (1, 0, 0) kJ6_getChars_ba4f3 [.int (nI n), .int (nI (c + (dg n).length)), .ref a] M H (yFI F) := by
  have key : ∀ k w, w < k → w < 1000000 → ∀ (p : Nat) (g0 : Nat → Int32), c + (dg w).length = p → p ≤ m → (∀ g' : Nat → Int32, (∀ i, i < c → g' i = g0 i) → (∀ i, i < (dg w).length → g' (c + i) = nI ((dg w).getD i 0)) → (∀ j, p ≤ j → g' j = g0 j) → ((∀ j, fits .byte (.int (g0 j)) = true) → ∀ j, fits .byte (.int (g' j)) = true) → F (nI c) M (yU H a (.inl (G.2.2.2 1, (m, .inl g'))))) → Yx (yX "getChars") (yZ G 0 0 (yFI F)) G (eR (1, 0, 0)) kJ6_getChars_ba4f3 22 [(0, .int (-(nI w))), (2, .ref a), (5, .int (nI p)), (6, .int 0)] [] M (yU H a (.inl (G.2.2.2 1, (m, .inl g0)))) 0 0 := by
    intro k
    induction k with
    | zero => intro w hw; exact absurd hw (Nat.not_lt_zero _)
    | succ k ih =>
      intro w hw hw6 p g0 hp hpm fin
      have en : -(-(nI w)) = nI w := Int32.neg_neg
      have one : ∀ x, x < 100 → (eDo (nI x).toNatClampNeg).toInt8.toInt32 = nI (48 + x % 10) := fun x hx => by
        rw [nI_clamp (by omega)]; exact nar_b _ (by omega)
      have ten : ∀ x, x < 100 → (eDt (nI x).toNatClampNeg).toInt8.toInt32 = nI (48 + x / 10) := fun x hx => by
        rw [nI_clamp (by omega)]; exact nar_b _ (by omega)
      by_cases h100 : w < 100
      · by_cases h10 : w < 10
        · have hd := dg_one h10
          rw [hd] at hp fin
          have hp' : c + 1 = p := hp
          refine B_J6_getChars_ba4f3_22 G M _ F _ a _ _ ⟨fun _ => ?_, fun z => absurd ((nN_lt (a := 100) (b := w) (by decide) (by omega)).mpr h100) z⟩
          rw [en]
          refine ⟨vp_in_nI h100 (by decide), m, g0, yU_same _ _ _, ?_⟩
          rw [nI_dec (by omega), yU_yU, one w h100, nI_clamp (n := p - 1) (by omega)]
          refine ⟨vp_in_nI (by omega) hm, fun _ => B_J6_getChars_ba4f3_104 G M _ F a _ _ ⟨fun _ => ?_, fun z => absurd rfl z⟩, fun z => absurd ((nN_le (a := 9) (b := w) (by decide) (by omega)).mpr (by omega)) z⟩
          have ec : p - 1 = c := by omega
          rw [ec]
          refine fin _ (fun i hi => pk_un (by omega)) (fun i hi => ?_) (fun j hj => pk_un (by omega)) (fun q => upd_fit q (fit_b _ (by omega)))
          have : i = 0 := Nat.lt_one_iff.mp hi
          subst this
          rw [Nat.add_zero, pk_us, Nat.mod_eq_of_lt h10]
          rfl
        · have hd : dg w = [48 + w / 10, 48 + w % 10] := by rw [dg_rec (by omega) (by omega), dg_one (n := w / 10) (by omega)]; rfl
          rw [hd] at hp fin
          have hp' : c + 2 = p := hp
          refine B_J6_getChars_ba4f3_22 G M _ F _ a _ _ ⟨fun _ => ?_, fun z => absurd ((nN_lt (a := 100) (b := w) (by decide) (by omega)).mpr h100) z⟩
          rw [en]
          refine ⟨vp_in_nI h100 (by decide), m, g0, yU_same _ _ _, ?_⟩
          rw [nI_dec (by omega), yU_yU, one w h100, nI_clamp (n := p - 1) (by omega)]
          refine ⟨vp_in_nI (by omega) hm, fun z => absurd ((nN_le (a := 9) (b := w) (by decide) (by omega)).mp z) (by omega), fun _ => ⟨vp_in_nI h100 (by decide), m, _, yU_same _ _ _, ?_⟩⟩
          rw [nI_dec (by omega), yU_yU, ten w h100, nI_clamp (n := p - 1 - 1) (by omega)]
          refine ⟨vp_in_nI (by omega) hm, B_J6_getChars_ba4f3_104 G M _ F a _ _ ⟨fun _ => ?_, fun z => absurd rfl z⟩⟩
          have ec : p - 1 - 1 = c := by omega
          rw [ec]
          refine fin _ (fun i hi => by rw [pk_un (by omega), pk_un (by omega)]) (fun i hi => ?_) (fun j hj => by rw [pk_un (by omega), pk_un (by omega)]) (fun q => upd_fit (upd_fit q (fit_b _ (by omega))) (fit_b _ (by omega)))
          match i, hi with
          | 0, _ => rw [Nat.add_zero, pk_us]; rfl
          | 1, _ => rw [pk_un (by omega), show c + 1 = p - 1 by omega, pk_us]; rfl
      · have hd : dg w = dg (w / 100) ++ [48 + w % 100 / 10, 48 + w % 100 % 10] := by
          rw [dg_rec (by omega) (by omega), dg_rec (n := w / 10) (by omega) (by omega), List.append_assoc]
          congr 1
          · congr 1; omega
          · show [48 + w / 10 % 10, 48 + w % 10] = _
            rw [show w / 10 % 10 = w % 100 / 10 by omega, show w % 10 = w % 100 % 10 by omega]
        have hl : (dg w).length = (dg (w / 100)).length + 2 := by rw [hd, List.length_append]; rfl
        have h99 : w % 100 < 100 := Nat.mod_lt _ (by decide)
        refine B_J6_getChars_ba4f3_22 G M _ F _ a _ _ ⟨fun z => absurd ((nN_lt (a := 100) (b := w) (by decide) (by omega)).mp z) h100, fun _ => ?_⟩
        rw [nN_rem (by omega), nN_div (by omega)]
        refine ⟨vp_in_nI h99 (by decide), m, g0, yU_same _ _ _, ?_⟩
        rw [nI_dec (by omega), yU_yU, one _ h99, nI_clamp (n := p - 1) (by omega)]
        refine ⟨vp_in_nI (by omega) hm, vp_in_nI h99 (by decide), m, _, yU_same _ _ _, ?_⟩
        rw [nI_dec (by omega), yU_yU, ten _ h99, nI_clamp (n := p - 1 - 1) (by omega)]
        refine ⟨vp_in_nI (by omega) hm, ih (w / 100) (by omega) (by omega) (p - 1 - 1) _ (by omega) (by omega) (fun g' k1 k2 k3 k4 => ?_)⟩
        refine fin g' (fun i hi => ?_) (fun i hi => ?_) (fun j hj => ?_) (fun q => k4 (upd_fit (upd_fit q (fit_b _ (by omega))) (fit_b _ (by omega))))
        · rw [k1 i hi, pk_un (by omega), pk_un (by omega)]
        · by_cases hi1 : i < (dg (w / 100)).length
          · rw [k2 i hi1, hd, gD_apl hi1]
          · rw [hd, gD_apr (by omega)]
            by_cases hi2 : i = (dg (w / 100)).length
            · rw [hi2, Nat.sub_self, k3 _ (by omega), show c + (dg (w / 100)).length = p - 1 - 1 by omega, pk_us]
              rfl
            · rw [show i = (dg (w / 100)).length + 1 by omega, Nat.add_sub_cancel_left, k3 _ (by omega), pk_un (by omega), show c + ((dg (w / 100)).length + 1) = p - 1 by omega, pk_us]
              rfl
        · rw [k3 j (by omega), pk_un (by omega), pk_un (by omega)]
  refine C_J6_getChars_ba4f3 G M H F (nI n) _ a ⟨fun _ => B_J6_getChars_ba4f3_14 G M H F _ a _ _ ⟨fun z => absurd rfl z, fun _ => ?_⟩, fun z => absurd (nI_pos' (by omega)) z⟩
  have hk := key (n + 1) n (Nat.lt_succ_self n) hn _ g rfl hc (fun g' q1 q2 _ q4 => hF g' q1 q2 q4)
  rw [yU_id h] at hk
  exact hk
theorem S_appendI5 {a va m n : Nat} {bs : List Nat} {F : Nat → eM → yH → Prop} (h : ySB G H a va m bs) (hn : n < 1000000) (hl : bs.length + (dg n).length ≤ 1100) (hm : m ≤ 2200)
    (hF : ∀ va' m' H', ySB G H' a va' m' (bs ++ dg n) → m' ≤ 2200 → yKp [a, va] H H' → (va' = va ∨ H va' = none) → F a M H') : yCal G (5, 1, 2200) kJ5_append_c97b9 [.ref a, .int (nI n)] M H (yFR F) := by
  refine C_J5_append_c97b9 G M H F a (nI n) ⟨nI bs.length, yG.of h.1 rfl, ⟨by decide, by decide⟩, _, S_size hn, ⟨by decide, by decide⟩, yIs.of h.1, ?_⟩
  rw [nI_add]
  refine S_ensure h (by omega) hl hm (fun va' m' H1 k1 k2 k3 k4 k5 => ⟨⟨by decide, by decide⟩, yIs.of k1.1, true, S_isLatin k1, (fun z => by cases z), fun _ => ⟨va', yG.of k1.1 rfl, ⟨by decide, by decide⟩, ?_⟩⟩)
  obtain ⟨e1, g, e2, e4, e5, e6⟩ := k1
  refine S_getChars e2 hn k2 (by omega) (fun g' j1 j2 j3 => ?_)
  have hne : a ≠ va' := fun z => by rw [← z, e1] at e2; simp at e2
  have e3 : yU H1 va' (.inl (G.2.2.2 1, (m', .inl g'))) a = some (.inr (14, [.ref va', .int 0, .int 0, .int (nI bs.length)])) := by rw [yU_ne _ _ hne]; exact e1
  refine ⟨_, e3, Nat.le_of_ble_eq_true rfl, ⟨by decide, by decide⟩, ?_⟩
  rw [← List.length_append]
  refine hF va' m' _ ⟨yU_same _ _ _, g', ?_, fun i hi => ?_, j3 e5, by rw [List.length_append]; exact k2⟩ k3 (fun b e n z => ?_) k5
  · rw [yU_ne _ _ (fun z => hne z.symm)]; exact yU_same _ _ _
  · by_cases hi1 : i < bs.length
    · rw [j1 i hi1, e4 i hi1, gD_apl hi1]
    · rw [List.length_append] at hi
      have := j2 (i - bs.length) (by omega)
      rw [show bs.length + (i - bs.length) = i by omega] at this
      rw [this, gD_apr (by omega)]
  · have n1 : b ≠ a := fun y => n (by rw [y]; exact List.mem_cons_self)
    have n2 : b ≠ va' := fun y => by
      rcases k5 with k | k
      · exact n (by rw [y, k]; exact List.mem_cons_of_mem _ List.mem_cons_self)
      · rw [y, k] at z; cases z
    rw [yU_ne _ _ n1, yU_ne _ _ n2]
    exact k4 b e (fun y => n1 (List.mem_singleton.mp y)) z
theorem S_appendI {a va m n : Nat} {bs : List Nat} {F : Nat → eM → yH → Prop} (h : ySB G H a va m bs) (hn : n < 1000000) (hl : bs.length + (dg n).length ≤ 1100) (hm : m ≤ 2200)
    (hF : ∀ va' m' H', ySB G H' a va' m' (bs ++ dg n) → m' ≤ 2200 → yKp [a, va] H H' → (va' = va ∨ H va' = none) → F a M H') : yCal G (6, 1, 2200) kJ4_append_bf812 [.ref a, .int (nI n)] M H (yFR F) :=
  C_J4_append_bf812 G M H F a (nI n) ⟨⟨by decide, by decide⟩, yIs.of h.1, S_appendI5 h hn hl hm (fun va' m' H' q1 q2 q3 q4 => ⟨⟨by decide, by decide⟩, hF va' m' H' q1 q2 q3 q4⟩)⟩
end DSpec
