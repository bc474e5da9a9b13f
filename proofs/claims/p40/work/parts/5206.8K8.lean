/-! ===== what the JDK's texts and buffers do ===== -/
theorem eShl0 (x : Int32) : x <<< ((0 : Int32) &&& 31) = x := by
  rw [show ((0 : Int32) &&& 31) = 0 by decide]; simp
theorem va_cpyI {f g : Nat → Int32} {sp dp n i : Nat} (h : dp ≤ i) (h1 : i < dp + n) : va_cpy f g sp dp n i = f (sp + (i - dp)) := if_pos ⟨h, h1⟩
theorem va_cpyO {f g : Nat → Int32} {sp dp n i : Nat} (h : ¬ (dp ≤ i ∧ i < dp + n)) : va_cpy f g sp dp n i = g i := if_neg h
theorem va_cpyF {f g : Nat → Int32} {sp dp n : Nat} (hf : ∀ i, i < n → fits .byte (.int (f (sp + i))) = true) (hg : ∀ j, fits .byte (.int (g j)) = true) (j : Nat) : fits .byte (.int (va_cpy f g sp dp n j)) = true := by
  by_cases h : dp ≤ j ∧ j < dp + n
  · rw [va_cpyI h.1 h.2]; exact hf _ (by omega)
  · rw [va_cpyO h]; exact hg j
theorem fit_0 : fits .byte (.int 0) = true := by decide
theorem nI_s0 {x m : Nat} (hx : x < 2 ^ 31) (hm : m < 2 ^ 31) : nI x - nI m ≤ 0 ↔ x ≤ m := by
  rw [Int32.le_iff_toInt_le, Int32.toInt_sub, nI_toInt hx, nI_toInt hm, eB32 (by omega) (by omega), Int32.toInt_zero]
  omega
section JSpec
variable {G : eG} {M : eM} {H : yH}
theorem S_coder {a : Nat} {bs : List Nat} (h : yTx G H a bs) : yRd G (1, 0, 0) kJ0_coder_7d493 [.ref a] M H (.int 0) := by
  rcases h with ⟨va, hh, z, f, h1, -⟩ | ⟨b, j, tx, hA, hj, rfl, -⟩
  · exact yRd.of (C_J0_coder_7d493 G M H _ a ⟨0, yG.of h1 rfl, rfl, rfl, rfl, rfl⟩)
  · exact yRd.of (C_J0_coder_7d493_s G hA hj M H _ ⟨rfl, rfl, rfl⟩)
theorem S_length {a : Nat} {bs : List Nat} (h : yTx G H a bs) (hl : bs.length < 2 ^ 31) : yRd G (2, 0, 0) kJ0_length_8abf5 [.ref a] M H (.int (nI bs.length)) := by
  have hc := S_coder (M := M) h
  rcases h with ⟨va, hh, z, f, h1, h2, -⟩ | ⟨b, j, tx, hA, hj, rfl, e⟩
  · refine yRd.of (C_J0_length_8abf5 G M H _ a ⟨va, yG.of h1 rfl, bs.length, ⟨_, h2, rfl⟩, yIs.of h1, 0, hc, ?_, rfl, rfl⟩)
    rw [sc_shr0 hl]
  · refine yRd.of (C_J0_length_8abf5_s G hA hj M H _ ⟨0, hc, ?_, rfl, rfl⟩)
    rw [e, List.length_map, sc_shr0 hl]
theorem S_getBytes {t va m c : Nat} {bs : List Nat} {g : Nat → Int32} {F : eM → yH → Prop} (h : yTx G H t bs) (hs : yAs bs) (hva : H va = some (.inl (G.2.2.2 1, (m, .inl g)))) (hc : c + bs.length ≤ m) (hm : m < 2 ^ 31)
    (hF : ∀ g' : Nat → Int32, (∀ i, i < c → g' i = g i) → (∀ i, i < bs.length → g' (c + i) = nI (bs.getD i 0)) → ((∀ j, fits .byte (.int (g j)) = true) → ∀ j, fits .byte (.int (g' j)) = true) → F M (yU H va (.inl (G.2.2.2 1, (m, .inl g'))))) : yCal G (2, 0, 0) kJ0_getBytes_840e7 [.ref t, .ref va, .int (nI c), .int 0] M H (yFV F) := by
  have hcd := S_coder (M := M) h
  have n1 : ¬ nI bs.length < 0 := nI_pos (by omega)
  have n2 : ¬ nI c < 0 := nI_pos (by omega)
  have fin : ∀ f : Nat → Int32, (∀ i, i < bs.length → f i = nI (bs.getD i 0)) → F M (yU H va (.inl (G.2.2.2 1, (m, .inl (va_cpy f g 0 c bs.length))))) := fun f hf => by
    have hfit : ∀ i, i < bs.length → fits .byte (.int (f (0 + i))) = true := fun i hi => by rw [Nat.zero_add, hf i hi]; exact fit_b _ (hs.at i)
    refine hF _ (fun i hi => va_cpyO (by omega)) (fun i hi => ?_) (fun q => va_cpyF hfit q)
    rw [va_cpyI (by omega) (by omega), Nat.zero_add, Nat.add_sub_cancel_left]
    exact hf i hi
  rcases h with ⟨vt, hh, z, f, h1, h2, h3⟩ | ⟨b, j, tx, hA, hj, rfl, e⟩
  · refine C_J0_getBytes_840e7 G M H F t va (nI c) 0 ⟨yIs.of h1, 0, hcd, fun z => z rfl, fun _ => ⟨vt, yG.of h1 rfl, vt, yG.of h1 rfl, bs.length, ⟨_, h2, rfl⟩, bs.length, f, m, g, h2, hva, ?_⟩⟩
    rw [eShl0, nI_clamp (n := c) (by omega), nI_clamp (n := bs.length) (by omega), cl0]
    exact ⟨⟨by decide, n2, n1, by omega, hc⟩, fun i hi => by rw [Nat.zero_add, h3 i hi]; exact fit_b _ (hs.at i), fin f h3⟩
  · have hl : (tx.getD j []).length = bs.length := by rw [e, List.length_map]
    have hf : ∀ i, i < bs.length → (tx.getD j []).getD i 0 = nI (bs.getD i 0) := fun i hi => by
      rw [e, gD_map hi]
    refine C_J0_getBytes_840e7_s G hA hj M H F va (nI c) 0 ⟨0, hcd, fun z => z rfl, fun _ => ⟨m, g, hva, ?_⟩⟩
    rw [eShl0, hl, nI_clamp (n := c) (by omega), nI_clamp (n := bs.length) (by omega), cl0]
    exact ⟨⟨by decide, n2, n1, by omega, hc⟩, fun i hi => by rw [Nat.zero_add, hf i hi]; exact fit_b _ (hs.at i), fin _ hf⟩
theorem S_putAt {t a va m : Nat} {bs ts : List Nat} {F : eM → yH → Prop} (h : ySB G H a va m bs) (ht : yTx G H t ts) (hs : yAs ts) (hc : bs.length + ts.length ≤ m) (hm : m < 2 ^ 31)
    (hF : ∀ g' : Nat → Int32, (∀ i, i < bs.length → g' i = nI (bs.getD i 0)) → (∀ i, i < ts.length → g' (bs.length + i) = nI (ts.getD i 0)) → (∀ j, fits .byte (.int (g' j)) = true) → F M (yU H va (.inl (G.2.2.2 1, (m, .inl g'))))) : yCal G (3, 0, 0) kJ5_putStringAt_47b60 [.ref a, .int (nI bs.length), .ref t] M H (yFV F) := by
  obtain ⟨h1, g, h2, h3, h4, h5⟩ := h
  refine C_J5_putStringAt_47b60 G M H F a (nI bs.length) t ⟨yIs.of h1, C_J5_inflateIfNeededFor_a7421 G M H _ a t ⟨0, yG.of h1 rfl, ht.ts, 0, S_coder ht, fun _ => ⟨va, yG.of h1 rfl, 0, yG.of h1 rfl, ht.ts, ?_⟩, fun z => z rfl⟩⟩
  exact S_getBytes ht hs h2 hc hm (fun g' q1 q2 q3 => hF g' (fun i hi => (q1 i hi).trans (h3 i hi)) q2 (q3 h4))
theorem S_newLen {m p q : Nat} (h0 : 0 < m + max p q) (h : m + max p q < 2147483639) : yRd G (2, 0, 0) kJ8_newLength_cabcc [.int (nI m), .int (nI p), .int (nI q)] M H (.int (nI (m + max p q))) := by
  have e : nI m + (if nI p < nI q then nI q else nI p) = nI (m + max p q) := by
    by_cases hpq : p < q
    · rw [if_pos ((nI_ltI (by omega) (by omega)).mpr hpq), nI_add, Nat.max_eq_right (by omega)]
    · rw [if_neg (fun z => hpq ((nI_ltI (by omega) (by omega)).mp z)), nI_add, Nat.max_eq_left (by omega)]
  refine yRd.of (C_J8_newLength_cabcc G M H _ (nI m) (nI p) (nI q) ?_)
  rw [e]
  exact ⟨fun z => nI_nle h0 (by omega) z, fun _ => ⟨fun z => nI_nlt (a := 2147483639) (b := m + max p q) (by omega) (by omega) z, fun _ => ⟨rfl, rfl, rfl⟩⟩⟩
theorem S_newCap {a va m x : Nat} {bs : List Nat} (h : ySB G H a va m bs) (hx : m < x) (hx1 : x ≤ 1100) : yRd G (3, 0, 0) kJ5_newCapacity_0f7a4 [.ref a, .int (nI x)] M H (.int (nI (m + max (x - m) (m + 2)))) := by
  obtain ⟨h1, g, h2, h3, h4, h5⟩ := h
  have e1 : (nI x <<< ((0 : Int32) &&& 31)) - nI m = nI (x - m) := by rw [eShl0, nI_sub (by omega)]
  have e2 : nI m + ((2 : Int32) <<< ((0 : Int32) &&& 31)) = nI (m + 2) := by rw [eShl0]; exact nI_add m 2
  have hr : m + max (x - m) (m + 2) ≤ 2200 := by omega
  refine yRd.of (C_J5_newCapacity_0f7a4 G M H _ a (nI x) ⟨va, yG.of h1 rfl, m, ⟨_, h2, rfl⟩, 0, yG.of h1 rfl, 0, yG.of h1 rfl, nI (m + max (x - m) (m + 2)), ?_, fun _ => ⟨0, yG.of h1 rfl, ?_, rfl, rfl⟩, fun z => ?_⟩)
  · rw [e1, e2]; exact S_newLen (by omega) (by omega)
  · rw [sc_shr0 (by omega)]
  · have := (nI_eq (a := m + max (x - m) (m + 2)) (b := 2147483647) (by omega) (by decide)).mp z
    omega
theorem S_copyOf {va m c : Nat} {g : Nat → Int32} {F : Nat → eM → yH → Prop} (h : H va = some (.inl (G.2.2.2 1, (m, .inl g)))) (hg : ∀ j, fits .byte (.int (g j)) = true) (hc : m < c) (hc1 : c ≤ 2200)
    (hF : ∀ q, H q = none → ∀ g' : Nat → Int32, (∀ i, i < m → g' i = g i) → (∀ j, fits .byte (.int (g' j)) = true) → F q M (yU H q (.inl (G.2.2.2 1, (c, .inl g'))))) : yCal G (2, 1, 2200) kJ7_copyOf_9075b [.ref va, .int (nI c)] M H (yFR F) := by
  have hne : ¬ nI c = nI m := fun z => by have := (nI_eq (by omega) (by omega)).mp z; omega
  have e : (if nI c < nI m then nI c else nI m) = nI m := if_neg (nI_nlt (by omega) (by omega))
  refine C_J7_copyOf_9075b G M H F va (nI c) ⟨m, ⟨_, h, rfl⟩, fun _ => ⟨c, nI_pos (by omega), nI_clamp (by omega), by omega, ⟨by decide, by omega⟩, fun q hq => ⟨m, ⟨_, (yLe.new hq _) _ _ h, rfl⟩, ⟨by decide, by omega⟩, m, g, c, (fun _ => 0), (yLe.new hq _) _ _ h, yU_same _ _ _, ?_⟩⟩, fun z => absurd z hne⟩
  rw [e, nI_clamp (n := m) (by omega), cl0, yU_yU]
  exact ⟨⟨by decide, by decide, nI_pos (by omega), by omega, by omega⟩, fun i _ => hg _, ⟨by decide, by omega⟩, hF q hq _ (fun i hi => by rw [va_cpyI (by omega) (by omega)]; congr 1; omega) (va_cpyF (fun i _ => hg _) (fun _ => fit_0))⟩
theorem S_ensure {a va m x : Nat} {bs : List Nat} {F : eM → yH → Prop} (h : ySB G H a va m bs) (hx : bs.length ≤ x) (hx1 : x ≤ 1100) (hm : m ≤ 2200) (hF : ∀ va' m' H', ySB G H' a va' m' bs → x ≤ m' → m' ≤ 2200 → yKp [a] H H' → (va' = va ∨ H va' = none) → F M H') : yCal G (4, 1, 2200) kJ5_ensureCapacityInternal_d00df [.ref a, .int (nI x)] M H (yFV F) := by
  have h' := h
  obtain ⟨h1, g, h2, h3, h4, h5⟩ := h'
  refine C_J5_ensureCapacityInternal_d00df G M H F a (nI x) ⟨va, yG.of h1 rfl, m, ⟨_, h2, rfl⟩, 0, yG.of h1 rfl, ?_⟩
  rw [sc_shr0 (by omega)]
  refine ⟨fun q => ⟨⟨by decide, by decide⟩, hF va m H h ((nI_s0 (by omega) (by omega)).mp q) hm (yKp.refl _ _) (Or.inl rfl)⟩, fun q => ?_⟩
  have hlt : m < x := Nat.lt_of_not_le (fun z => q ((nI_s0 (by omega) (by omega)).mpr z))
  refine ⟨va, yG.of h1 rfl, ⟨by decide, by decide⟩, yIs.of h1, _, S_newCap h hlt hx1, 0, yG.of h1 rfl, ⟨by decide, by decide⟩, ?_⟩
  rw [eShl0]
  refine S_copyOf h2 h4 (by omega) (by omega) (fun r hr g' q1 q2 => ⟨_, (yLe.new hr _) _ _ h1, Nat.le_of_ble_eq_true rfl, ⟨by decide, by decide⟩, ?_⟩)
  have hne : r ≠ a := fun z => by rw [z, h1] at hr; cases hr
  refine hF r (m + max (x - m) (m + 2)) _ ⟨yU_same _ _ _, g', ?_, fun i hi => (q1 i (by omega)).trans (h3 i hi), q2, by omega⟩ (by omega) (by omega) (fun b e n z => ?_) (Or.inr hr)
  · rw [yU_ne _ _ hne]; exact yU_same _ _ _
  · rw [yU_ne _ _ (fun y => n (by rw [y]; exact List.mem_cons_self))]
    exact (yLe.new hr _) _ _ z
/-- append: the buffer holds the text behind its own -/
theorem S_append5 {a va m t : Nat} {bs ts : List Nat} {F : Nat → eM → yH → Prop} (h : ySB G H a va m bs) (ht : yTx G H t ts) (hs : yAs ts) (hl : bs.length + ts.length ≤ 1100) (hm : m ≤ 2200)
    (hF : ∀ va' m' H', ySB G H' a va' m' (bs ++ ts) → m' ≤ 2200 → yKp [a, va] H H' → (va' = va ∨ H va' = none) → F a M H') : yCal G (5, 1, 2200) kJ5_append_cf1ce [.ref a, .ref t] M H (yFR F) := by
  refine C_J5_append_cf1ce G M H F a t ⟨⟨by decide, by decide⟩, ht.ts, _, S_length ht (by omega), nI bs.length, yG.of h.1 rfl, ⟨by decide, by decide⟩, yIs.of h.1, ?_⟩
  rw [nI_add]
  refine S_ensure h (by omega) hl hm (fun va' m' H1 k1 k2 k3 k4 k5 => ⟨_, yG.of k1.1 rfl, ⟨by decide, by decide⟩, yIs.of k1.1, ?_⟩)
  refine S_putAt k1 (ht.buf k4 h.1) hs k2 (by omega) (fun g' j1 j2 j3 => ?_)
  obtain ⟨e1, g, e2, -⟩ := k1
  have hne : a ≠ va' := fun z => by rw [← z, e1] at e2; simp at e2
  have e3 : yU H1 va' (.inl (G.2.2.2 1, (m', .inl g'))) a = some (.inr (14, [.ref va', .int 0, .int 0, .int (nI bs.length)])) := by rw [yU_ne _ _ hne]; exact e1
  refine ⟨_, yG.of e3 rfl, _, e3, Nat.le_of_ble_eq_true rfl, ⟨by decide, by decide⟩, ?_⟩
  rw [nI_add, ← List.length_append]
  refine hF va' m' _ ⟨yU_same _ _ _, g', ?_, fun i hi => ?_, j3, by rw [List.length_append]; exact k2⟩ k3 (fun b e n z => ?_) k5
  · rw [yU_ne _ _ (fun z => hne z.symm)]; exact yU_same _ _ _
  · by_cases hi1 : i < bs.length
    · rw [j1 i hi1, gD_apl hi1]
    · rw [List.length_append] at hi
      have := j2 (i - bs.length) (by omega)
      rw [show bs.length + (i - bs.length) = i by omega] at this
      rw [this, gD_apr (by omega)]
  · have n1 : b ≠ a := fun y => n (by rw [y]; exact List.mem_cons_self)
    have n2 : b ≠ va' := fun y => by
      rcases k5 with k | k
      · exact n (by rw [y, k]; exact List.mem_cons_of_mem _ List.mem_cons_self)
      · rw [y, k] at z; cases z
    rw [yU_ne _ _ n1, yU_ne _ _ n2]
    exact k4 b e (fun y => n1 (List.mem_singleton.mp y)) z
theorem S_append {a va m t : Nat} {bs ts : List Nat} {F : Nat → eM → yH → Prop} (h : ySB G H a va m bs) (ht : yTx G H t ts) (hs : yAs ts) (hl : bs.length + ts.length ≤ 1100) (hm : m ≤ 2200)
    (hF : ∀ va' m' H', ySB G H' a va' m' (bs ++ ts) → m' ≤ 2200 → yKp [a, va] H H' → (va' = va ∨ H va' = none) → F a M H') : yCal G (6, 1, 2200) kJ4_append_15ec4 [.ref a, .ref t] M H (yFR F) :=
  C_J4_append_15ec4 G M H F a t ⟨⟨by decide, by decide⟩, yIs.of h.1, S_append5 h ht hs hl hm (fun va' m' H' q1 q2 q3 q4 => ⟨⟨by decide, by decide⟩, hF va' m' H' q1 q2 q3 q4⟩)⟩
/-- a new buffer -/
theorem S_sbInit {a : Nat} {F : eM → yH → Prop} (h : H a = some (.inr (14, [.null, .int 0, .int 0, .int 0]))) (hF : ∀ q H', H q = none → ySB G H' a q 16 [] → yKp [a] H H' → F M H') : yCal G (3, 1, 16) kJ4_init_da8c8 [.ref a] M H (yFV F) := by
  refine C_J4_init_da8c8 G M H F a ⟨⟨by decide, by decide⟩, C_J5_init_d00df G M H _ a 16 ⟨16, by decide, by decide, by decide, ⟨by decide, by decide⟩, fun q hq => ?_⟩⟩
  have hne : q ≠ a := fun z => by rw [z, h] at hq; cases hq
  refine ⟨_, (yLe.new hq _) _ _ h, Nat.le_of_ble_eq_true rfl, _, yU_same _ _ _, Nat.le_of_ble_eq_true rfl, ⟨by decide, by decide⟩, ⟨by decide, by decide⟩, ?_⟩
  refine hF q _ hq ⟨yU_same _ _ _, (fun _ => 0), ?_, fun i hi => absurd hi (Nat.not_lt_zero _), fun _ => fit_0, Nat.zero_le _⟩ (fun b e n z => ?_)
  · rw [yU_ne _ _ hne, yU_ne _ _ hne]; exact yU_same _ _ _
  · have n1 : b ≠ a := fun y => n (by rw [y]; exact List.mem_cons_self)
    rw [yU_ne _ _ n1, yU_ne _ _ n1]
    exact (yLe.new hq _) _ _ z
theorem S_copyRangeB {va m n : Nat} {g : Nat → Int32} {F : Nat → eM → yH → Prop} (h : H va = some (.inl (G.2.2.2 1, (m, .inl g)))) (hg : ∀ j, fits .byte (.int (g j)) = true) (hn : n ≤ m) (hm : m ≤ 2200) (hn1 : n ≤ 1100)
    (hF : ∀ q, H q = none → ∀ g' : Nat → Int32, (∀ i, i < n → g' i = g i) → F q M (yU H q (.inl (G.2.2.2 1, (n, .inl g'))))) : yCal G (2, 1, 1100) kJ7_copyOfRangeByte_39247 [.ref va, .int 0, .int (nI n)] M H (yFR F) := by
  have e0 : nI n - 0 = nI n := nI_sub (a := n) (b := 0) (Nat.zero_le _)
  have e1 : nI m - 0 = nI m := nI_sub (a := m) (b := 0) (Nat.zero_le _)
  have e : (if nI n < nI m then nI n else nI m) = nI n := by
    by_cases q : n < m
    · exact if_pos (nI_lt q (by omega))
    · rw [if_neg (nI_nlt (by omega) (by omega)), show m = n by omega]
  refine C_J7_copyOfRangeByte_39247 G M H F va 0 (nI n) ⟨⟨by decide, by decide⟩, C_J7_checkLength_df160 G M H _ 0 (nI n) ⟨fun _ => ?_, fun z => z (nI_pos' (by omega))⟩⟩
  rw [e0]
  refine ⟨n, nI_pos (by omega), nI_clamp (by omega), by omega, ⟨by decide, by omega⟩, fun q hq => ⟨m, ⟨_, (yLe.new hq _) _ _ h, rfl⟩, ⟨by decide, by omega⟩, m, g, n, (fun _ => 0), (yLe.new hq _) _ _ h, yU_same _ _ _, ?_⟩⟩
  rw [e1, e, nI_clamp (n := n) (by omega), cl0, yU_yU]
  exact ⟨⟨by decide, by decide, nI_pos (by omega), by omega, by omega⟩, fun i _ => hg _, ⟨by decide, by omega⟩, hF q hq _ (fun i hi => by rw [va_cpyI (by omega) (by omega)]; congr 1; omega)⟩
theorem S_copyRange {va m n : Nat} {g : Nat → Int32} {F : Nat → eM → yH → Prop} (h : H va = some (.inl (G.2.2.2 1, (m, .inl g)))) (hg : ∀ j, fits .byte (.int (g j)) = true) (hn : n ≤ m) (hm : m ≤ 2200) (hn1 : n ≤ 1100)
    (hF : ∀ q, H q = none → ∀ g' : Nat → Int32, (∀ i, i < n → g' i = g i) → F q M (yU H q (.inl (G.2.2.2 1, (n, .inl g'))))) : yCal G (3, 1, 1100) kJ7_copyOfRange_39247 [.ref va, .int 0, .int (nI n)] M H (yFR F) := by
  refine C_J7_copyOfRange_39247 G M H F va 0 (nI n) ⟨fun z => absurd rfl z, fun _ => ⟨m, ⟨_, h, rfl⟩, fun z => ?_, fun _ => ⟨⟨by decide, by decide⟩, ?_⟩⟩⟩
  · have hmn : n = m := (nI_eq (by omega) (by omega)).mp z
    subst hmn
    exact ⟨n, g, h, hg, ⟨by decide, by omega⟩, fun q hq => ⟨_, yU_same _ _ _, ⟨by decide, by omega⟩, hF q hq g (fun _ _ => rfl)⟩⟩
  · exact S_copyRangeB h hg hn hm hn1 (fun q hq g' q1 => ⟨⟨by decide, by decide⟩, hF q hq g' q1⟩)
theorem S_isLatin {a va m : Nat} {bs : List Nat} (h : ySB G H a va m bs) : yRd G (1, 0, 0) kJ5_isLatin1_aae02 [.ref a] M H (.int (eZi true)) :=
  yRd.ofZ (C_J5_isLatin1_aae02 G M H _ a ⟨0, yG.of h.1 rfl, fun z => absurd rfl z, fun _ => ⟨rfl, rfl, rfl⟩⟩)
theorem S_sbLen {a va m : Nat} {bs : List Nat} (h : ySB G H a va m bs) : yRd G (2, 0, 0) kJ4_length_8abf5 [.ref a] M H (.int (nI bs.length)) :=
  yRd.of (C_J4_length_8abf5 G M H _ a ⟨yIs.of h.1, _, yRd.of (C_J5_length_8abf5 G M H _ a ⟨_, yG.of h.1 rfl, rfl, rfl, rfl⟩), rfl, rfl, rfl⟩)
/-- toString: a text of its own -/
theorem S_toString {a va m : Nat} {bs : List Nat} {F : Nat → eM → yH → Prop} (h : ySB G H a va m bs) (hl : bs.length ≤ 1100) (hm : m ≤ 2200) (hF : ∀ q q2 H' f, H q = none → H q2 = none → yLe H H' → H' q = some (.inr (13, [.ref q2, .int 0, .int 0, .int 0])) → H' q2 = some (.inl (G.2.2.2 1, (bs.length, .inl f))) → (∀ i, i < bs.length → f i = nI (bs.getD i 0)) → F q M H') : yCal G (6, 2, 1104) kJ4_toString_0e30d [.ref a] M H (yFR F) := by
  refine C_J4_toString_0e30d G M H F a ⟨⟨by decide, by decide⟩, fun q hq => ⟨⟨by decide, by decide⟩, ?_⟩⟩
  have h' := h.le (yLe.new hq (.inr (13, [.null, .int 0, .int 0, .int 0])))
  refine C_J0_init_81219 G M _ _ q a ⟨⟨by decide, by decide⟩, C_J0_init_db425 G M _ _ q a ⟨⟨by decide, by decide⟩, yIs.of h'.1, va, ?_, ⟨by decide, by decide⟩, yIs.of h'.1, _, S_sbLen h', ⟨by decide, by decide⟩, yIs.of h'.1, true, S_isLatin h', (fun z => by cases z), fun _ => ⟨_, yU_same _ _ _, Nat.le_of_ble_eq_true rfl, ⟨by decide, by decide⟩, ?_⟩⟩⟩
  · exact (C_J5_getValue_6d5f1 G M _ (fun r M' H' => r = va ∧ M' = M ∧ H' = _) a ⟨va, yG.of h'.1 rfl, rfl, rfl, rfl⟩).imp (fun v M' H' ⟨r', e, e1, e2, e3⟩ => ⟨by rw [e, e1], e2, e3⟩)
  obtain ⟨e1, g, e2, e3, e4, e5⟩ := h
  have hqa : va ≠ q := fun z => by rw [z, hq] at e2; cases e2
  rw [yU_yU]
  refine S_copyRange (m := m) (g := g) (by rw [yU_ne _ _ hqa]; exact e2) e4 e5 hm hl (fun q2 hq2 g' k1 => ⟨_, (yLe.new hq2 _) _ _ (yU_same _ _ _), Nat.le_of_ble_eq_true rfl, ⟨by decide, by decide⟩, ⟨by decide, by decide⟩, ⟨by decide, by decide⟩, ?_⟩)
  · have hne : q2 ≠ q := fun z => by rw [z, yU_same] at hq2; cases hq2
    have hq2' : H q2 = none := by rw [yU_ne _ _ hne] at hq2; exact hq2
    refine hF q q2 _ g' hq hq2' (fun b e z => ?_) (yU_same _ _ _) (by rw [yU_ne _ _ hne]; exact yU_same _ _ _) (fun i hi => (k1 i hi).trans (e3 i hi))
    rw [yU_ne _ _ (fun y => by rw [y, hq] at z; cases z), yU_ne _ _ (fun y => by rw [y, hq2'] at z; cases z), yU_ne _ _ (fun y => by rw [y, hq] at z; cases z)]
    exact z
/-- charAt of a text of its own -/
theorem S_charAt {a va i : Nat} {hh z : Int32} {bs : List Nat} {f : Nat → Int32} (h1 : H a = some (.inr (13, [.ref va, .int 0, .int hh, .int z]))) (h2 : H va = some (.inl (G.2.2.2 1, (bs.length, .inl f)))) (h3 : ∀ i, i < bs.length → f i = nI (bs.getD i 0)) (hs : yAs bs) (hi : i < bs.length) (hl : bs.length < 2 ^ 31) : yRd G (4, 0, 0) kJ0_charAt_5068e [.ref a, .int (nI i)] M H (.int (nI (bs.getD i 0))) := by
  obtain ⟨c1, c2⟩ := nar_c _ (hs.at i)
  refine yRd.of (C_J0_charAt_5068e G M H _ a (nI i) ⟨yIs.of h1, true, yRd.ofZ (C_J0_isLatin1_aae02 G M H _ a ⟨0, yG.of h1 rfl, fun z => absurd rfl z, fun _ => ⟨rfl, rfl, rfl⟩⟩), (fun z => by cases z), fun _ => ⟨va, yG.of h1 rfl, nI (bs.getD i 0), ?_, c2, rfl, rfl, rfl⟩⟩)
  refine yRd.of (C_J1_charAt_3b067 G M H _ va (nI i) ⟨bs.length, ⟨_, h2, rfl⟩, (yCal.cls (C_check (nI_pos (by omega)) (nI_lt hi hl) (fun M' => M' = M) rfl)).imp (fun v M' H' ⟨⟨q1, q2⟩, q3⟩ => ?_)⟩)
  subst q2 q3
  refine ⟨q1, nI (bs.getD i 0), ⟨_, f, h2, vp_in_nI hi hl, by rw [nI_clamp (by omega)]; exact h3 i hi⟩, ?_⟩
  rw [c1]
  exact ⟨c2, rfl, rfl, rfl⟩
end JSpec
