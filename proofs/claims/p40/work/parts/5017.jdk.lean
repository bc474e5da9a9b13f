/-! ===== the JDK's methods that are called: texts, ordinal ===== -/
section EJdk
variable {G : eG} {lo n : Nat} {M : eM}
theorem C_coder {bs j : Nat} {tx : List (List Int32)} (hA : eStA G bs tx) (hj : j < tx.length) (F : Int32 → eM → Prop) (h : F 0 M) : Cal G lo n (1, 0, 0) kJ0_coder_7d493 [.ref (G.1 (bs + j))] M (eFI F) := by
  refine Cal.of (by decide +kernel) rfl (Nat.le_of_ble_eq_true rfl) ?_
  refine r_gets (w := .int 1) dJ0_coder_7d493_0 lFJ0_38 (fun h => h.2.2.2.2.2.2.2.2.2.2.2.1) ?_
  refine r_if_eq (t := 13) dJ0_coder_7d493_3 (by decide) (fun q => ?_) (fun q => ?_)
  · exact absurd q (by decide)
  refine r_aload_n 0 dJ0_coder_7d493_6 rfl rfl ?_
  refine r_scod hA hj dJ0_coder_7d493_7 lFJ0_15 ?_
  refine r_goto (t := 14) dJ0_coder_7d493_10 (by decide) ?_
  exact r_zret dJ0_coder_7d493_14 rfl rfl (by decide) (by decide) ⟨0, rfl, h⟩
theorem C_latin {bs j : Nat} {tx : List (List Int32)} (hA : eStA G bs tx) (hj : j < tx.length) (F : Bool → eM → Prop) (h : F true M) : Cal G lo n (1, 0, 0) kJ0_isLatin1_aae02 [.ref (G.1 (bs + j))] M (eFZ F) := by
  refine Cal.of (by decide +kernel) rfl (Nat.le_of_ble_eq_true rfl) ?_
  refine r_gets (w := .int 1) dJ0_isLatin1_aae02_0 lFJ0_38 (fun h => h.2.2.2.2.2.2.2.2.2.2.2.1) ?_
  refine r_if_eq (t := 17) dJ0_isLatin1_aae02_3 (by decide) (fun q => ?_) (fun q => ?_)
  · exact absurd q (by decide)
  refine r_aload_n 0 dJ0_isLatin1_aae02_6 rfl rfl ?_
  refine r_scod hA hj dJ0_isLatin1_aae02_7 lFJ0_15 ?_
  refine r_if_ne (t := 17) dJ0_isLatin1_aae02_10 (by decide) (fun q => ?_) (fun q => ?_)
  · exact absurd rfl q
  refine r_iconst (v := 1) dJ0_isLatin1_aae02_13 rfl ?_
  refine r_goto (t := 18) dJ0_isLatin1_aae02_14 (by decide) ?_
  exact r_iretZ1 dJ0_isLatin1_aae02_18 rfl (by decide) (by decide) h
theorem C_length {bs j : Nat} {tx : List (List Int32)} (hA : eStA G bs tx) (hj : j < tx.length) (hlen : (tx.getD j []).length < 2 ^ 31) (F : Int32 → eM → Prop) (h : F (nI (tx.getD j []).length) M) : Cal G lo n (2, 0, 0) kJ0_length_8abf5 [.ref (G.1 (bs + j))] M (eFI F) := by
  refine Cal.of (by decide +kernel) rfl (Nat.le_of_ble_eq_true rfl) ?_
  refine r_aload_n 0 dJ0_length_8abf5_0 rfl rfl ?_
  refine r_sval hA hj dJ0_length_8abf5_1 lFJ0_9 ?_
  refine r_slen hA hj rfl dJ0_length_8abf5_4 ?_
  refine r_aload_n 0 dJ0_length_8abf5_5 rfl rfl ?_
  refine r_callTI hA hj (b' := (1, 0, 0)) (S := [.int (nI (tx.getD j []).length)]) [] dJ0_length_8abf5_6 mJ0_coder_7d493 lMJ0_335 rfl rfl (by decide) (Nat.le_of_ble_eq_true rfl) (C_coder hA hj (fun r M' => r = 0 ∧ M' = M) ⟨rfl, rfl⟩) (fun r M1 q => ?_) rfl
  obtain ⟨rfl, rfl⟩ := q
  refine r_ishr dJ0_length_8abf5_9 ?_
  rw [sc_shr0 hlen]
  exact r_iretI dJ0_length_8abf5_10 rfl (by decide) (by decide) h
theorem C_pre {i k : Int32} {w : Option Nat} (h0 : ¬ i < 0) (h1 : i < k) (F : Int32 → eM → Prop) (h : F i M) : Cal G lo n (1, 0, 0) kJ3_checkIndex_8e157 [.int i, .int k, va_rf w] M (eFI F) := by
  have hl : (lg_sl [.int i, .int k, va_rf w]).length ≤ kMax kJ3_checkIndex_8e157 := by cases w <;> exact Nat.le_of_ble_eq_true rfl
  refine Cal.of (by decide +kernel) rfl hl ?_
  have he : lv_args 0 [.int i, .int k, va_rf w] = [(0, .int i), (1, .int k), (2, va_rf w)] := by cases w <;> rfl
  rw [he]
  refine r_iload_n 0 dJ3_checkIndex_8e157_0 rfl rfl ?_
  refine r_if_lt (t := 9) dJ3_checkIndex_8e157_1 (by decide) (fun q => absurd q h0) (fun q => ?_)
  refine r_iload_n 0 dJ3_checkIndex_8e157_4 rfl rfl ?_
  refine r_iload_n 1 dJ3_checkIndex_8e157_5 rfl rfl ?_
  refine r_icmp_lt (t := 16) dJ3_checkIndex_8e157_6 (by decide) (fun q => ?_) (fun q => absurd h1 q)
  refine r_iload_n 0 dJ3_checkIndex_8e157_16 rfl rfl ?_
  exact r_iretI dJ3_checkIndex_8e157_17 rfl (by decide) (by decide) h
theorem C_check {i k : Int32} (h0 : ¬ i < 0) (h1 : i < k) (F : eM → Prop) (h : F M) : Cal G lo n (2, 0, 0) kJ0_checkIndex_df160 [.int i, .int k] M (eFV F) := by
  refine Cal.of (by decide +kernel) rfl (Nat.le_of_ble_eq_true rfl) ?_
  refine r_iload_n 0 dJ0_checkIndex_df160_0 rfl rfl ?_
  refine r_iload_n 1 dJ0_checkIndex_df160_1 rfl rfl ?_
  refine r_getsQ dJ0_checkIndex_df160_2 lFJ0_1053 (fun h => h.2.2.2.2.2.2.2.2.2.2.2.2.1) (fun w => ?_)
  refine r_callSI (b' := (1, 0, 0)) (S := []) [.int i, .int k, va_rf w] dJ0_checkIndex_df160_5 mJ3_checkIndex_8e157 lMJ0_1059 rfl (by decide) (Nat.le_of_ble_eq_true rfl) (C_pre h0 h1 (fun r M' => M' = M) rfl) (fun r M1 q => ?_) rfl
  subst q
  refine r_pop dJ0_checkIndex_df160_8 rfl ?_
  exact r_vretV dJ0_checkIndex_df160_9 rfl (by decide) (by decide) h
theorem C_lcharAt {bs j : Nat} {tx : List (List Int32)} {i : Int32} (hA : eStA G bs tx) (hj : j < tx.length) (hlen : (tx.getD j []).length < 2 ^ 31) (hi : vp_in i (tx.getD j []).length) (F : Int32 → eM → Prop) (h : F ((tx.getD j []).getD i.toNatClampNeg 0 &&& 255) M) : Cal G lo n (3, 0, 0) kJ1_charAt_3b067 [.ref (G.1 (bs + 50 + j)), .int i] M (fun v M' => ∃ r : Int32, v = some (.int (r &&& 255)) ∧ F (r &&& 255) M') := by
  refine Cal.of (by decide +kernel) rfl (Nat.le_of_ble_eq_true rfl) ?_
  refine r_iload_n 1 dJ1_charAt_3b067_0 rfl rfl ?_
  refine r_aload_n 0 dJ1_charAt_3b067_1 rfl rfl ?_
  refine r_slen hA hj rfl dJ1_charAt_3b067_2 ?_
  refine r_callSV (b' := (2, 0, 0)) (S := []) [.int i, .int (nI (tx.getD j []).length)] dJ1_charAt_3b067_3 mJ0_checkIndex_df160 lMJ1_9 rfl (by decide) (Nat.le_of_ble_eq_true rfl) (C_check (eIn_lt hi hlen).1 (eIn_lt hi hlen).2 (fun M' => M' = M) rfl) (fun M1 q => ?_) rfl
  subst q
  refine r_aload_n 0 dJ1_charAt_3b067_6 rfl rfl ?_
  refine r_iload_n 1 dJ1_charAt_3b067_7 rfl rfl ?_
  refine r_sbyte hA hj hi dJ1_charAt_3b067_8 ?_
  refine r_sipush (v := 255) dJ1_charAt_3b067_9 rfl ?_
  refine r_iand dJ1_charAt_3b067_12 ?_
  refine r_i2c dJ1_charAt_3b067_13 ?_
  rw [sc_c2]
  exact r_zret dJ1_charAt_3b067_14 rfl (sc_nar _) (by decide) (by decide) ⟨_, rfl, h⟩
theorem C_charAt {bs j : Nat} {tx : List (List Int32)} {i : Int32} (hA : eStA G bs tx) (hj : j < tx.length) (hlen : (tx.getD j []).length < 2 ^ 31) (hi : vp_in i (tx.getD j []).length) (F : Int32 → eM → Prop) (h : F ((tx.getD j []).getD i.toNatClampNeg 0 &&& 255) M) : Cal G lo n (4, 0, 0) kJ0_charAt_5068e [.ref (G.1 (bs + j)), .int i] M (eFI F) := by
  refine Cal.of (by decide +kernel) rfl (Nat.le_of_ble_eq_true rfl) ?_
  refine r_aload_n 0 dJ0_charAt_5068e_0 rfl rfl ?_
  refine r_callTZ hA hj (b' := (1, 0, 0)) (S := []) [] dJ0_charAt_5068e_1 mJ0_isLatin1_aae02 lMJ0_492 rfl rfl (by decide) (Nat.le_of_ble_eq_true rfl) (C_latin hA hj (fun r M' => r = true ∧ M' = M) ⟨rfl, rfl⟩) (fun r M1 q => ?_) rfl
  obtain ⟨rfl, rfl⟩ := q
  refine r_zif_eq (t := 16) dJ0_charAt_5068e_4 (by decide) (fun q => by cases q) (fun q => ?_)
  refine r_aload_n 0 dJ0_charAt_5068e_7 rfl rfl ?_
  refine r_sval hA hj dJ0_charAt_5068e_8 lFJ0_9 ?_
  refine r_iload_n 1 dJ0_charAt_5068e_11 rfl rfl ?_
  refine r_callS (b' := (3, 0, 0)) (S := []) (As := [.ref (G.1 (bs + 50 + j)), .int i]) dJ0_charAt_5068e_12 mJ1_charAt_3b067 lMJ0_495 rfl (by decide) (Nat.le_of_ble_eq_true rfl) (C_lcharAt hA hj hlen hi F h) (fun v M1 q => ?_) rfl
  obtain ⟨r, rfl, hr⟩ := q
  exact r_zret dJ0_charAt_5068e_15 rfl (sc_nar _) (by decide) (by decide) ⟨_, rfl, hr⟩
/-- kind.ordinal() -/
theorem C_ordinal {x : Int32} (hx : 1 ≤ x ∧ x ≤ 44) (F : Int32 → eM → Prop) (h : F (x - 1) M) : Cal G lo n (1, 0, 0) kJx29ce0_ordinal_8abf5 [eV G 1 x] M (eFI F) := by
  obtain ⟨j, hj, rfl⟩ := eKr_nat hx
  have hl : (lg_sl [eV G 1 (nI (j + 1))]).length ≤ kMax kJx29ce0_ordinal_8abf5 := by rw [eKr_lit G j hj]; exact Nat.le_of_ble_eq_true rfl
  refine Cal.of (by decide +kernel) rfl hl ?_
  have he : lv_args 0 [eV G 1 (nI (j + 1))] = [(0, eV G 1 (nI (j + 1)))] := by rw [eKr_lit G j hj]; rfl
  rw [he]
  refine r_kload_n 0 dJx29ce0_ordinal_8abf5_0 rfl rfl ?_
  refine r_kord dJx29ce0_ordinal_8abf5_1 lFJx29ce0_7 hx ?_
  exact r_iretI dJx29ce0_ordinal_8abf5_4 rfl (by decide) (by decide) h
end EJdk
theorem C_floorMod {G : eG} {lo n : Nat} {M : eM} {x y : Int32} (hy : ¬ y = 0) (F : Int32 → eM → Prop) (h : F (eFm x y) M) : Cal G lo n (1, 0, 0) kJ9_floorMod_7cf53 [.int x, .int y] M (eFI F) := by
  refine Cal.ofF (by decide +kernel) rfl (Nat.le_of_ble_eq_true rfl) ?_
  unfold eFm at h
  refine r_iload_n 0 dJ9_floorMod_7cf53_0 rfl rfl ?_
  refine r_iload_n 1 dJ9_floorMod_7cf53_1 rfl rfl ?_
  refine r_irem dJ9_floorMod_7cf53_2 hy ?_
  refine r_istore_n (l' := [(2, .int (x - x / y * y)), (0, .int x), (1, .int y)]) dJ9_floorMod_7cf53_3 rfl (by decide) rfl ?_
  refine r_iload_n 1 dJ9_floorMod_7cf53_4 rfl rfl ?_
  refine r_iload_n 2 dJ9_floorMod_7cf53_5 rfl rfl ?_
  refine r_ixor dJ9_floorMod_7cf53_6 ?_
  refine r_if_ge (t := 18) dJ9_floorMod_7cf53_7 (by decide) (fun q => ?_) (fun q => ?_)
  · rw [if_pos q] at h
    refine r_iload_n 0 dJ9_floorMod_7cf53_18 rfl rfl ?_
    exact r_iretI dJ9_floorMod_7cf53_19 rfl (by decide) (by decide) h
  · rw [if_neg q] at h
    refine r_iload_n 0 dJ9_floorMod_7cf53_10 rfl rfl ?_
    refine r_if_eq (t := 18) dJ9_floorMod_7cf53_11 (by decide) (fun q => ?_) (fun q => ?_)
    · rw [if_pos q] at h
      refine r_iload_n 0 dJ9_floorMod_7cf53_18 rfl rfl ?_
      exact r_iretI dJ9_floorMod_7cf53_19 rfl (by decide) (by decide) h
    · rw [if_neg q] at h
      refine r_iload_n 0 dJ9_floorMod_7cf53_14 rfl rfl ?_
      refine r_iload_n 2 dJ9_floorMod_7cf53_15 rfl rfl ?_
      refine r_iadd dJ9_floorMod_7cf53_16 ?_
      exact r_iretI dJ9_floorMod_7cf53_17 rfl (by decide) (by decide) h
/-! texts, their letters by place -/
theorem eV_cat (G : eG) (x : Int32) : (eV G 1 x).category = 1 := by
  show (va_rf (eKr G x)).category = 1
  cases eKr G x <;> rfl
theorem Cal.ofK {G : eG} {lo n : Nat} {b : eB} {K : eK} {av : List Value} {M : eM} {Fin : Option Value → eM → Prop} (l : List (Nat × Value)) (hpl : plainName (kY K).cls = true) (hown : kOwn K = (kY K).cls) (hlen : (lg_sl av).length ≤ kMax K) (hl : lv_args 0 av = l)
    (body : Ev (eZ G lo n b.2.1 b.2.2 Fin) G lo n b K 0 l [] M 0 0) : Cal G lo n b K av M Fin := Cal.of hpl hown hlen (by rw [hl]; exact body)
theorem lg_len (vs : List Value) (h : ∀ v ∈ vs, v.category = 1) : (lg_sl vs).length = vs.length := by
  induction vs with
  | nil => rfl
  | cons v t ih =>
    have h1 := h v List.mem_cons_self
    have h2 := ih (fun w hw => h w (List.mem_cons_of_mem _ hw))
    simp only [lg_sl] at h2 ⊢
    simp [h1, h2]
theorem eCatI (x : Int32) : (Value.int x).category = 1 := rfl
theorem eCatR (a : Nat) : (Value.ref a).category = 1 := rfl

