/-! ===== a text taught ===== -/
theorem nI_or8 {p b : Nat} (hp : p < 2 ^ 23) (hb : b < 256) : nI (p * 256) ||| nI b = nI (p * 256 + b) := by
  apply Int32.toBitVec_inj.mp
  rw [Int32.toBitVec_or]
  apply BitVec.eq_of_toNat_eq
  rw [BitVec.toNat_or]
  have t : ∀ n, n < 2 ^ 32 → (nI n).toBitVec.toNat = n := fun n hn => by
    show n % 2 ^ 32 = n
    exact Nat.mod_eq_of_lt hn
  rw [t _ (by omega), t _ (by omega), t _ (by omega)]
  have e := Nat.shiftLeft_add_eq_or_of_lt (i := 8) (b := b) (by omega) p
  rw [Nat.shiftLeft_eq, show (2 : Nat) ^ 8 = 256 by decide] at e
  exact e.symm
theorem nI_sh8 {p : Nat} (hp : p < 2 ^ 23) : nI p <<< ((8 : Int32) &&& 31) = nI (p * 256) := by
  rw [pk_shlN ((8 : Int32) &&& 31) 8 (by decide) (by omega)]
theorem fB_n {n : Nat} (h : n < 2 ^ 31) : fB (nI n) = n % 256 := by
  unfold fB
  rw [nI_toInt h]
  omega
/-- bytes packed -/
def pkd (bs : List Nat) (s : Nat) : Nat → Nat
  | 0 => 0
  | e + 1 => pkd bs s e * 256 + bs.getD (s + e) 32
theorem gD32 {bs : List Nat} (h : yAs bs) (i : Nat) : bs.getD i 32 < 128 := by
  rw [List.getD_eq_getElem?_getD]
  cases hz : bs[i]? with
  | none => decide
  | some b => exact h b (List.mem_of_getElem? hz)
theorem pkd_lt {bs : List Nat} (h : yAs bs) (s : Nat) : pkd bs s 1 < 2 ^ 7 ∧ pkd bs s 2 < 2 ^ 15 ∧ pkd bs s 3 < 2 ^ 23 ∧ pkd bs s 4 < 2 ^ 31 := by
  have h0 := gD32 h (s + 0)
  have h1 := gD32 h (s + 1)
  have h2 := gD32 h (s + 2)
  have h3 := gD32 h (s + 3)
  have e1 : pkd bs s 1 = 0 * 256 + bs.getD (s + 0) 32 := rfl
  have e2 : pkd bs s 2 = pkd bs s 1 * 256 + bs.getD (s + 1) 32 := rfl
  have e3 : pkd bs s 3 = pkd bs s 2 * 256 + bs.getD (s + 2) 32 := rfl
  have e4 : pkd bs s 4 = pkd bs s 3 * 256 + bs.getD (s + 3) 32 := rfl
  omega
theorem pkd_lt23 {bs : List Nat} (h : yAs bs) (s : Nat) {e : Nat} (he : e < 4) : pkd bs s e < 2 ^ 23 := by
  have := pkd_lt h s
  match e, he with
  | 0, _ => show 0 < _; decide
  | 1, _ => omega
  | 2, _ => omega
  | 3, _ => omega
theorem fW_out {bt : Nat → Nat} {sz j : Nat} {x : Int32} (h : j < sz ∨ sz + 4 ≤ j) : fW bt sz x j = bt j := by
  unfold fW
  rw [zU_ne _ _ (by omega), zU_ne _ _ (by omega), zU_ne _ _ (by omega), zU_ne _ _ (by omega)]
theorem fW_in {bs : List Nat} (h : yAs bs) {bt : Nat → Nat} {sz s e : Nat} (he : e < 4) : fW bt sz (nI (pkd bs s 4)) (sz + e) = bs.getD (s + e) 32 := by
  have hl := pkd_lt h s
  have h0 := gD32 h (s + 0)
  have h1 := gD32 h (s + 1)
  have h2 := gD32 h (s + 2)
  have h3 := gD32 h (s + 3)
  have e1 : pkd bs s 1 = 0 * 256 + bs.getD (s + 0) 32 := rfl
  have e2 : pkd bs s 2 = pkd bs s 1 * 256 + bs.getD (s + 1) 32 := rfl
  have e3 : pkd bs s 3 = pkd bs s 2 * 256 + bs.getD (s + 2) 32 := rfl
  have e4 : pkd bs s 4 = pkd bs s 3 * 256 + bs.getD (s + 3) 32 := rfl
  unfold fW
  rw [pk_shrN hl.2.2.2 24 24 (by decide), pk_shrN hl.2.2.2 16 16 (by decide), pk_shrN hl.2.2.2 8 8 (by decide), pk_shrN hl.2.2.2 0 0 (by decide), fB_n (by omega), fB_n (by omega), fB_n (by omega), fB_n (by omega)]
  match e, he with
  | 0, _ =>
    rw [zU_ne _ _ (by omega), zU_ne _ _ (by omega), zU_ne _ _ (by omega), Nat.add_zero, zU_same]
    rw [Nat.add_zero] at *
    omega
  | 1, _ =>
    rw [zU_ne _ _ (by omega), zU_ne _ _ (by omega), zU_same]
    omega
  | 2, _ =>
    rw [zU_ne _ _ (by omega), zU_same]
    omega
  | 3, _ =>
    rw [zU_same]
    omega
theorem fW5_old {bt : Nat → Nat} {sz j : Nat} {a b c d e : Int32} (h : j < sz) : fW5 bt sz a b c d e j = bt j := by
  unfold fW5
  rw [fW_out (by omega), fW_out (by omega), fW_out (by omega), fW_out (by omega), fW_out (by omega)]
theorem fW5_new {bs : List Nat} (h : yAs bs) {bt : Nat → Nat} {sz j : Nat} (hj : j < 20) : fW5 bt sz (nI (pkd bs (sz + 4 * 0) 4)) (nI (pkd bs (sz + 4 * 1) 4)) (nI (pkd bs (sz + 4 * 2) 4)) (nI (pkd bs (sz + 4 * 3) 4)) (nI (pkd bs (sz + 4 * 4) 4)) (sz + j) = bs.getD (sz + j) 32 := by
  unfold fW5
  by_cases h4 : 16 ≤ j
  · obtain ⟨e, rfl⟩ : ∃ e, j = 16 + e := ⟨j - 16, by omega⟩
    rw [← Nat.add_assoc, fW_in h (by omega)]
  by_cases h3 : 12 ≤ j
  · obtain ⟨e, rfl⟩ : ∃ e, j = 12 + e := ⟨j - 12, by omega⟩
    rw [fW_out (by omega), ← Nat.add_assoc, fW_in h (by omega)]
  by_cases h2 : 8 ≤ j
  · obtain ⟨e, rfl⟩ : ∃ e, j = 8 + e := ⟨j - 8, by omega⟩
    rw [fW_out (by omega), fW_out (by omega), ← Nat.add_assoc, fW_in h (by omega)]
  by_cases h1 : 4 ≤ j
  · obtain ⟨e, rfl⟩ : ∃ e, j = 4 + e := ⟨j - 4, by omega⟩
    rw [fW_out (by omega), fW_out (by omega), fW_out (by omega), ← Nat.add_assoc, fW_in h (by omega)]
  · rw [fW_out (by omega), fW_out (by omega), fW_out (by omega), fW_out (by omega)]
    have := fW_in h (bt := bt) (sz := sz) (s := sz + 4 * 0) (e := j) (by omega)
    rw [this]
    rfl
section Taught
variable {G : eG}
set_option maxHeartbeats 4000000 in
theorem S_taught {t va : Nat} {hh z : Int32} {bs : List Nat} {ft : Nat → Int32} {S : gS} {M : eM} {H : yH} {F : Int32 → eM → yH → Prop} (e1 : H t = some (.inr (13, [.ref va, .int 0, .int hh, .int z]))) (e2 : H va = some (.inl (G.2.2.2 1, (bs.length, .inl ft)))) (e3 : ∀ i, i < bs.length → ft i = nI (bs.getD i 0)) (hs : yAs bs) (hl : bs.length ≤ 1100) (ho : sOk S) (hc : sC M S) (hz : gSz S = 0)
    (h : ∀ (M' : eM) (H' : yH) (bt : Nat → Nat), (∀ j, j < bs.length → bt j = bs.getD j 0) → sOk ((bs.length, bt), S.2) → sC M' (z_taught ((bs.length, bt), S.2)) → yLe H H' → F (z_taughtV ((bs.length, bt), S.2)) M' H') : yCal G (104, 1, 5) kL_taught [.ref (G.1 0), .ref t] M H (yFI F) := by
  refine C_L_taught G M H F t ⟨5, by decide, by decide, by decide, ⟨by decide, by decide⟩, fun q hq => ?_⟩
  have cx : ∀ f : Nat → Int32, yLe H (yU H q (.inl (G.2.2.2 0, (5, .inl f)))) := fun f => yLe.new hq _
  have tx : ∀ f : Nat → Int32, yTx G (yU H q (.inl (G.2.2.2 0, (5, .inl f)))) t bs := fun f => Or.inl ⟨va, hh, z, ft, cx f _ _ e1, cx f _ _ e2, e3⟩
  have is : ∀ f : Nat → Int32, yIs (yU H q (.inl (G.2.2.2 0, (5, .inl f)))) t 13 := fun f => yIs.of (cx f _ _ e1)
  -- a word
  have word : ∀ (M' : eM) (a k : Nat), a ≤ 1100 → k < 5 → (∀ f : Nat → Int32, (∀ j, j < k + 1 → f j = nI (pkd bs (a + 4 * j) 4)) → Yx (yX "taught") (yZ G 1 5 (yFI F)) G (eR (104, 1, 5)) kL_taught 17 [(0, .ref (G.1 0)), (1, .ref t), (2, .ref q), (3, .int (nI a)), (4, .int (nI (k + 1)))] [] M' (yU H q (.inl (G.2.2.2 0, (5, .inl f)))) (0 + 1) (0 + 5)) → ∀ e, e ≤ 4 → ∀ f : Nat → Int32, (∀ j, j < k → f j = nI (pkd bs (a + 4 * j) 4)) → f k = nI (pkd bs (a + 4 * k) e) → Yx (yX "taught") (yZ G 1 5 (yFI F)) G (eR (104, 1, 5)) kL_taught 36 [(0, .ref (G.1 0)), (1, .ref t), (2, .ref q), (3, .int (nI a)), (4, .int (nI k)), (5, .int (nI (a + 4 * k + e)))] [] M' (yU H q (.inl (G.2.2.2 0, (5, .inl f)))) (0 + 1) (0 + 5) := by
    intro M' a k ha hk hn
    have ee : nI a + (4 : Int32) * nI k + 4 = nI (a + 4 * k + 4) := by
      rw [show (4 : Int32) * nI k = nI (4 * k) from nI_mul 4 k, nI_add, show nI (a + 4 * k) + 4 = nI (a + 4 * k + 4) from nI_add _ 4]
    refine eDown (P := fun e => ∀ f : Nat → Int32, (∀ j, j < k → f j = nI (pkd bs (a + 4 * j) 4)) → f k = nI (pkd bs (a + 4 * k) e) → Yx (yX "taught") (yZ G 1 5 (yFI F)) G (eR (104, 1, 5)) kL_taught 36 [(0, .ref (G.1 0)), (1, .ref t), (2, .ref q), (3, .int (nI a)), (4, .int (nI k)), (5, .int (nI (a + 4 * k + e)))] [] M' (yU H q (.inl (G.2.2.2 0, (5, .inl f)))) (0 + 1) (0 + 5)) ?_ ?_
    · intro f hf hfk
      refine B_L_taught_36 G _ _ M' _ F t q _ _ _ ?_
      rw [ee, ← nI_succ]
      refine ⟨fun _ => hn f (fun j hj => ?_), fun y => absurd (Int32.le_refl _) y⟩
      by_cases hjk : j = k
      · rw [hjk]; exact hfk
      · exact hf j (by omega)
    · intro e he hn2 f hf hfk
      refine B_L_taught_36 G _ _ M' _ F t q _ _ _ ?_
      rw [ee]
      have lt := pkd_lt23 hs (a + 4 * k) he
      refine ⟨fun y => absurd y (nI_ge (by omega) (by omega)), fun _ => ⟨nI (pkd bs (a + 4 * k) e), ⟨5, f, yU_same _ _ _, vp_in_nI hk (by decide), by rw [nI_clamp (by omega)]; exact hfk⟩, ⟨by decide, by decide⟩, is f, _, S_length (tx f) (by omega), fun y => ?_, fun y => ?_⟩⟩
      · have hge : bs.length ≤ a + 4 * k + e := (nI_leI (by omega) (by omega)).mp y
        refine ⟨5, f, yU_same _ _ _, vp_in_nI hk (by decide), B_L_taught_81 G _ _ M' _ F t q _ _ _ ?_⟩
        rw [yU_yU, nI_sh8 lt, show nI (pkd bs (a + 4 * k) e * 256) ||| 32 = nI (pkd bs (a + 4 * k) e * 256 + 32) from nI_or8 lt (by decide), nI_clamp (n := k) (by omega), ← nI_succ]
        refine hn2 _ (fun j hj => ?_) ?_
        · rw [pk_un (by omega)]; exact hf j hj
        · rw [pk_us]
          show nI _ = nI (pkd bs (a + 4 * k) e * 256 + bs.getD (a + 4 * k + e) 32)
          rw [List.getD_eq_getElem?_getD, List.getElem?_eq_none hge]
          rfl
      · have hlt : a + 4 * k + e < bs.length := Nat.lt_of_not_le (fun w => y ((nI_leI (by omega) (by omega)).mpr w))
        have hb := hs.at (a + 4 * k + e)
        refine ⟨⟨by decide, by decide⟩, is f, _, S_charAt (cx f _ _ e1) (cx f _ _ e2) e3 hs hlt (by omega), 5, f, yU_same _ _ _, vp_in_nI hk (by decide), B_L_taught_81 G _ _ M' _ F t q _ _ _ ?_⟩
        rw [yU_yU, nI_sh8 lt, nI_or8 lt (by omega), nI_clamp (n := k) (by omega), ← nI_succ]
        refine hn2 _ (fun j hj => ?_) ?_
        · rw [pk_un (by omega)]; exact hf j hj
        · rw [pk_us]
          show nI _ = nI (pkd bs (a + 4 * k) e * 256 + bs.getD (a + 4 * k + e) 32)
          rw [List.getD_eq_getElem?_getD, List.getD_eq_getElem?_getD, List.getElem?_eq_getElem hlt]
          rfl
  -- five words, fed
  have feed : ∀ (M' : eM) (S' : gS) (a : Nat), a ≤ 1100 → sOk S' → sC M' S' → gSz S' = a → (∀ (M2 : eM) (f : Nat → Int32), sC M2 ((a + 20, fW5 (gBt S') a (nI (pkd bs (a + 4 * 0) 4)) (nI (pkd bs (a + 4 * 1) 4)) (nI (pkd bs (a + 4 * 2) 4)) (nI (pkd bs (a + 4 * 3) 4)) (nI (pkd bs (a + 4 * 4) 4))), S'.2) → Yx (yX "taught") (yZ G 1 5 (yFI F)) G (eR (104, 1, 5)) kL_taught 6 [(0, .ref (G.1 0)), (1, .ref t), (2, .ref q), (3, .int (nI (a + 20)))] [] M2 (yU H q (.inl (G.2.2.2 0, (5, .inl f)))) (0 + 1) (0 + 5)) → ∀ k, k ≤ 5 → ∀ f : Nat → Int32, (∀ j, j < k → f j = nI (pkd bs (a + 4 * j) 4)) → Yx (yX "taught") (yZ G 1 5 (yFI F)) G (eR (104, 1, 5)) kL_taught 17 [(0, .ref (G.1 0)), (1, .ref t), (2, .ref q), (3, .int (nI a)), (4, .int (nI k))] [] M' (yU H q (.inl (G.2.2.2 0, (5, .inl f)))) (0 + 1) (0 + 5) := by
    intro M' S' a ha ho' hc' hz' hn
    refine eDown (P := fun k => ∀ f : Nat → Int32, (∀ j, j < k → f j = nI (pkd bs (a + 4 * j) 4)) → Yx (yX "taught") (yZ G 1 5 (yFI F)) G (eR (104, 1, 5)) kL_taught 17 [(0, .ref (G.1 0)), (1, .ref t), (2, .ref q), (3, .int (nI a)), (4, .int (nI k))] [] M' (yU H q (.inl (G.2.2.2 0, (5, .inl f)))) (0 + 1) (0 + 5)) ?_ ?_
    · intro f hf
      have rd : ∀ j, j < 5 → yEI G (yU H q (.inl (G.2.2.2 0, (5, .inl f)))) q (nI j) (nI (pkd bs (a + 4 * j) 4)) := fun j hj => ⟨5, f, yU_same _ _ _, vp_in_nI hj (by decide), by rw [nI_clamp (by omega)]; exact hf j hj⟩
      refine B_L_taught_17 G _ _ M' _ F t q _ _ ⟨fun _ => ⟨_, rd 0 (by decide), _, rd 1 (by decide), _, rd 2 (by decide), _, rd 3 (by decide), _, rd 4 (by decide), ⟨by decide, by decide⟩, ?_⟩, fun y => absurd (Int32.le_refl _) y⟩
      have hfd := P_feed (G := G) ho' hc' (nI (pkd bs (a + 4 * 0) 4)) (nI (pkd bs (a + 4 * 1) 4)) (nI (pkd bs (a + 4 * 2) 4)) (nI (pkd bs (a + 4 * 3) 4)) (nI (pkd bs (a + 4 * 4) 4))
      have ef : z_feed S' (nI (pkd bs (a + 4 * 0) 4)) (nI (pkd bs (a + 4 * 1) 4)) (nI (pkd bs (a + 4 * 2) 4)) (nI (pkd bs (a + 4 * 3) 4)) (nI (pkd bs (a + 4 * 4) 4)) = (0, nI (a + 20), ((a + 20, fW5 (gBt S') a (nI (pkd bs (a + 4 * 0) 4)) (nI (pkd bs (a + 4 * 1) 4)) (nI (pkd bs (a + 4 * 2) 4)) (nI (pkd bs (a + 4 * 3) 4)) (nI (pkd bs (a + 4 * 4) 4))), S'.2)) := by
        unfold z_feed
        rw [hz', if_pos (by omega)]
      rw [ef] at hfd
      refine hfd.1 rfl _ (fun M2 c2 => ?_)
      rw [show nI a + 20 = nI (a + 20) from nI_add a 20]
      exact hn M2 f c2
    · intro k hk hn2 f hf
      refine B_L_taught_17 G _ _ M' _ F t q _ _ ⟨fun y => absurd y (nI_ge (b := 5) hk (by decide)), fun _ => ⟨5, f, yU_same _ _ _, vp_in_nI hk (by decide), ?_⟩⟩
      rw [yU_yU, nI_clamp (n := k) (by omega), show nI a + (4 : Int32) * nI k = nI (a + 4 * k) by rw [show (4 : Int32) * nI k = nI (4 * k) from nI_mul 4 k, nI_add]]
      exact word M' a k ha hk hn2 0 (Nat.zero_le _) _ (fun j hj => by rw [pk_un (by omega)]; exact hf j hj) pk_us
  -- all of it
  have all : ∀ (d i : Nat), bs.length ≤ 20 * i + 20 * d → 20 * i ≤ bs.length + 20 → ∀ (M' : eM) (f : Nat → Int32) (bt : Nat → Nat), sOk ((20 * i, bt), S.2) → sC M' ((20 * i, bt), S.2) → (∀ j, j < 20 * i → bt j = bs.getD j 32) → Yx (yX "taught") (yZ G 1 5 (yFI F)) G (eR (104, 1, 5)) kL_taught 6 [(0, .ref (G.1 0)), (1, .ref t), (2, .ref q), (3, .int (nI (20 * i)))] [] M' (yU H q (.inl (G.2.2.2 0, (5, .inl f)))) (0 + 1) (0 + 5) := by
    have done : ∀ i, bs.length ≤ 20 * i → 20 * i ≤ bs.length + 20 → ∀ (M' : eM) (f : Nat → Int32) (bt : Nat → Nat), sOk ((20 * i, bt), S.2) → sC M' ((20 * i, bt), S.2) → (∀ j, j < 20 * i → bt j = bs.getD j 32) → Yx (yX "taught") (yZ G 1 5 (yFI F)) G (eR (104, 1, 5)) kL_taught 6 [(0, .ref (G.1 0)), (1, .ref t), (2, .ref q), (3, .int (nI (20 * i)))] [] M' (yU H q (.inl (G.2.2.2 0, (5, .inl f)))) (0 + 1) (0 + 5) := by
      intro i hi hi2 M' f bt ho' hc' hb
      refine B_L_taught_6 G _ _ M' _ F t q _ ⟨⟨by decide, by decide⟩, is f, _, S_length (tx f) (by omega), fun _ => ⟨⟨by decide, by decide⟩, is f, _, S_length (tx f) (by omega), ⟨by decide, by decide⟩, ?_⟩, fun y => absurd (nI_le hi (by omega)) y⟩
      have ht := P_trim (G := G) ho' hc' (nI bs.length)
      have et : z_trim ((20 * i, bt), S.2) (nI bs.length) = (0, nI bs.length, ((bs.length, bt), S.2)) := by
        unfold z_trim
        rw [if_pos ⟨nI_pos' (by omega), nI_le (b := 20 * i) hi (by omega)⟩, nI_clamp (by omega)]
      rw [et] at ht
      refine ht.1 rfl _ (fun M2 c2 => ⟨⟨by decide, by decide⟩, P_teach c2 _ (fun M3 c3 => ⟨⟨by decide, by decide⟩, ?_⟩)⟩)
      refine h M3 _ bt (fun j hj => ?_) ⟨by show bs.length ≤ 2000; omega, ho'.2⟩ c3 (cx f)
      rw [hb j (by omega), List.getD_eq_getElem?_getD, List.getD_eq_getElem?_getD, List.getElem?_eq_getElem hj]
      rfl
    intro d
    induction d with
    | zero => intro i hi hi2; exact done i (by omega) hi2
    | succ d ih =>
      intro i hi hi2 M' f bt ho' hc' hb
      by_cases hge : bs.length ≤ 20 * i
      · exact done i hge hi2 M' f bt ho' hc' hb
      · refine B_L_taught_6 G _ _ M' _ F t q _ ⟨⟨by decide, by decide⟩, is f, _, S_length (tx f) (by omega), fun y => absurd y (nI_ge (by omega) (by omega)), fun _ => ?_⟩
        refine feed M' ((20 * i, bt), S.2) (20 * i) (by omega) ho' hc' rfl (fun M2 f2 c2 => ?_) 0 (Nat.zero_le _) f (fun j hj => absurd hj (Nat.not_lt_zero _))
        have e20 : 20 * i + 20 = 20 * (i + 1) := by omega
        rw [e20] at c2 ⊢
        refine ih (i + 1) (by omega) (by omega) M2 f2 _ ⟨by show 20 * (i + 1) ≤ 2000; omega, fW5_lt ho'.2.1, ho'.2.2⟩ c2 (fun j hj => ?_)
        show fW5 bt (20 * i) (nI (pkd bs (20 * i + 4 * 0) 4)) (nI (pkd bs (20 * i + 4 * 1) 4)) (nI (pkd bs (20 * i + 4 * 2) 4)) (nI (pkd bs (20 * i + 4 * 3) 4)) (nI (pkd bs (20 * i + 4 * 4) 4)) j = bs.getD j 32
        by_cases hj2 : j < 20 * i
        · rw [fW5_old hj2]; exact hb j hj2
        · have := fW5_new hs (bt := bt) (sz := 20 * i) (j := j - 20 * i) (by omega)
          rw [show 20 * i + (j - 20 * i) = j by omega] at this
          exact this
  have hS : ((20 * 0, gBt S), S.2) = S := by
    rw [show 20 * 0 = gSz S from hz.symm]
  exact all 1100 0 (by omega) (by omega) M (fun _ => 0) (gBt S) (by rw [hS]; exact ho) (by rw [hS]; exact hc) (fun j hj => absurd hj (by omega))
end Taught
