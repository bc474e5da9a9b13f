/-! ===== the world of fixed cells: a memory M gives each place of each cell an Int32; what a cell is, the table esh says ===== -/
/-- addresses of the cells, class ids, slots, array classes by tag -/
abbrev eG : Type := (Nat → Nat) × (Nat → ClassId) × (Nat → Nat → Nat) × (Nat → ClassId)
abbrev eM : Type := Nat → Nat → Int32
/-- an array: tag and length; an object: its class's place in vwCl, and its fields' codes -/
abbrev eSh : Type := (Nat × Nat) ⊕ (Nat × List Nat)
abbrev kW (K : eK) : Cond := .code (kY K) (kCode K) (kMax K) (kRet K)
def eshL : List eSh := [.inr (8, [3, 5, 10, 15, 16, 25, 18, 0]), .inr (6, [4, 0]), .inl (1, 2000), .inr (7, [3, 6, 7, 8, 9, 0]), .inl (3, 401), .inl (0, 401), .inl (0, 401), .inl (0, 401), .inr (5, [0, 0, 0, 11, 0, 12, 0, 13, 14, 0]), .inl (0, 48), .inl (40, 16), .inl (3, 400), .inl (0, 400), .inr (2, [5, 10, 1, 0]), .inr (3, [5, 10, 17, 0, 0, 1, 0]), .inl (0, 16), .inr (1, [25, 23, 19, 0, 0, 0]), .inl (0, 400), .inl (56, 16), .inl (3, 400), .inl (0, 400), .inr (5, [0, 0, 0, 24, 0, 20, 0, 21, 22, 0]), .inl (0, 48), .inr (0, [0, 0, 0, 0, 0, 26, 27, 28, 29, 30, 31, 32, 33, 34, 35, 36, 37]), .inl (0, 49), .inl (0, 16), .inl (0, 16), .inl (0, 48), .inl (0, 960), .inl (0, 294), .inl (0, 294), .inl (0, 49), .inl (0, 16), .inl (0, 16), .inl (0, 49), .inl (0, 49), .inr (4, [1, 0, 0, 0, 0]), .inr (4, [1, 0, 0, 0, 0]), .inr (4, [1, 0, 0, 0, 0]), .inr (4, [1, 0, 0, 0, 0]), .inr (4, [1, 0, 0, 0, 0]), .inr (4, [1, 0, 0, 0, 0]), .inr (4, [1, 0, 0, 0, 0]), .inr (4, [1, 0, 0, 0, 0]), .inr (4, [1, 0, 0, 0, 0]), .inr (4, [1, 0, 0, 0, 0]), .inr (4, [1, 0, 0, 0, 0]), .inr (4, [1, 0, 0, 0, 0]), .inr (4, [1, 0, 0, 0, 0]), .inr (4, [1, 0, 0, 0, 0]), .inr (4, [1, 0, 0, 0, 0]), .inr (4, [1, 0, 0, 0, 0]), .inr (4, [1, 0, 0, 0, 0]), .inr (4, [1, 0, 0, 0, 0]), .inr (4, [1, 0, 0, 0, 0]), .inr (4, [1, 0, 0, 0, 0]), .inr (4, [1, 0, 0, 0, 0]), .inr (4, [1, 0, 0, 0, 0]), .inr (4, [1, 0, 0, 0, 0]), .inr (4, [1, 0, 0, 0, 0]), .inr (4, [1, 0, 0, 0, 0]), .inr (4, [1, 0, 0, 0, 0]), .inr (4, [1, 0, 0, 0, 0]), .inr (4, [1, 0, 0, 0, 0]), .inr (4, [1, 0, 0, 0, 0]), .inr (4, [1, 0, 0, 0, 0]), .inr (4, [1, 0, 0, 0, 0]), .inr (4, [1, 0, 0, 0, 0])]
/-- what each cell is -/
def esh (c : Nat) : eSh := eshL.getD c (.inl (0, 0))
/-- the constant that a number names: 1 to 44 -/
def eKr (G : eG) (v : Int32) : Option Nat := if 1 ≤ v ∧ v ≤ 44 then some (G.1 (999 + v.toNatClampNeg)) else none
def eV (G : eG) (code : Nat) (v : Int32) : Value := match code with
  | 0 => .int v
  | 1 => va_rf (eKr G v)
  | n + 2 => .ref (G.1 n)
def eF (G : eG) : List Nat → Nat → (Nat → Int32) → List Value
  | [], _, _ => []
  | c :: cs, k, f => eV G c (f k) :: eF G cs (k + 1) f
def eE (G : eG) (s : eSh) (f : Nat → Int32) : va_E := match s with
  | .inl (0, n) => .inl (G.2.2.2 0, (n, .inl f))
  | .inl (1, n) => .inl (G.2.2.2 1, (n, .inl f))
  | .inl (2, n) => .inl (G.2.2.2 2, (n, .inl f))
  | .inl (3, n) => .inl (G.2.2.2 3, (n, .inr (.inr (.inr (.inr (fun j => eKr G (f j)))))))
  | .inl (t + 4, n) => .inl (G.2.2.2 4, (n, .inr (.inr (.inr (.inr (fun j => some (G.1 (t + j))))))))
  | .inr (ci, cs) => .inr (ci, eF G cs 0 f)
def eW (G : eG) (lo n : Nat) (M : eM) : va_W := (List.range n).map (fun i => (G.1 (lo + i), eE G (esh (lo + i)) (M (lo + i))))
def eU (M : eM) (c k : Nat) (v : Int32) : eM := fun c' k' => if c' = c ∧ k' = k then v else M c' k'
def eTy (G : eG) : List (ClassId × FieldType) := [(G.2.2.2 0, .int), (G.2.2.2 1, .byte), (G.2.2.2 2, .boolean), (G.2.2.2 3, .object "RingDomino$Kind"), (G.2.2.2 4, .object "RingDomino$Order"), (G.2.2.2 5, .array .int), (G.2.2.2 6, .object "RingDominoLaw$Order"), (G.2.2.2 7, .object "RingDominoLaw$Node")]
abbrev eD (G : eG) : va_G := (G.2.1, G.2.2.1)
theorem eU_same (M : eM) (c k : Nat) (v : Int32) : eU M c k v c k = v := if_pos ⟨rfl, rfl⟩
theorem eU_cell (M : eM) {c c' : Nat} (k k' : Nat) (v : Int32) (h : c' ≠ c) : eU M c k v c' k' = M c' k' := if_neg (fun q => h q.1)
theorem eU_place (M : eM) (c c' : Nat) {k k' : Nat} (v : Int32) (h : k' ≠ k) : eU M c k v c' k' = M c' k' := if_neg (fun q => h q.2)
theorem eU_other (M : eM) {c c' : Nat} (k : Nat) (v : Int32) (h : c' ≠ c) : eU M c k v c' = M c' := funext fun _ => eU_cell M _ _ v h
theorem eU_row (M : eM) (c k : Nat) (v : Int32) : eU M c k v c = upd (M c) k v := by
  funext j
  by_cases h : j = k
  · subst h; rw [eU_same]; exact (pk_us).symm
  · rw [eU_place M c c v h, pk_un h]
theorem eW_get {G : eG} {lo n c : Nat} {M : eM} (h : lo ≤ c ∧ c < lo + n) : (eW G lo n M)[c - lo]? = some (G.1 c, eE G (esh c) (M c)) := by
  have h1 : c - lo < n := by omega
  have h2 : lo + (c - lo) = c := by omega
  simp only [eW, List.getElem?_map, List.getElem?_range h1, Option.map_some, h2]
theorem eW_len (G : eG) (lo n : Nat) (M : eM) : (eW G lo n M).length = n := by simp [eW]
theorem eW_set {G : eG} {lo n c : Nat} {M M' : eM} (h : lo ≤ c ∧ c < lo + n) (hM : ∀ c', c' ≠ c → M' c' = M c') {e : va_E} (he : e = eE G (esh c) (M' c)) : (eW G lo n M).set (c - lo) (G.1 c, e) = eW G lo n M' := by
  refine List.ext_getElem? fun i => ?_
  by_cases hi : i = c - lo
  · subst hi
    rw [List.getElem?_set_self (by rw [eW_len]; omega), eW_get h, he]
  · rw [List.getElem?_set_ne (Ne.symm hi)]
    by_cases hn : i < n
    · have e1 : i = (lo + i) - lo := by omega
      rw [e1, eW_get (c := lo + i) (by omega), eW_get (c := lo + i) (by omega), hM (lo + i) (by omega)]
    · rw [List.getElem?_eq_none (by rw [eW_len]; omega), List.getElem?_eq_none (by rw [eW_len]; omega)]
theorem eF_get (G : eG) (cs : List Nat) : ∀ (j : Nat) (f : Nat → Int32) (k : Nat) (code : Nat), cs[k]? = some code → (eF G cs j f)[k]? = some (eV G code (f (j + k))) := by
  induction cs with
  | nil => intro j f k code h; simp at h
  | cons a l ih =>
    intro j f k code h
    cases k with
    | zero => simp only [List.getElem?_cons_zero, Option.some.injEq] at h; subst h; simp [eF]
    | succ k =>
      rw [List.getElem?_cons_succ] at h
      have := ih (j + 1) f k code h
      rw [show j + 1 + k = j + (k + 1) by omega] at this
      simp only [eF, List.getElem?_cons_succ]
      exact this
theorem eF_len (G : eG) (cs : List Nat) : ∀ (j : Nat) (f : Nat → Int32), (eF G cs j f).length = cs.length := by
  induction cs with
  | nil => intro j f; rfl
  | cons a l ih => intro j f; simp [eF, ih]
theorem eF_set (G : eG) (cs : List Nat) : ∀ (j : Nat) (f : Nat → Int32) (k code : Nat) (v : Int32), cs[k]? = some code → (eF G cs j f).set k (eV G code v) = eF G cs j (upd f (j + k) v) := by
  induction cs with
  | nil => intro j f k code v h; simp at h
  | cons a l ih =>
    intro j f k code v h
    cases k with
    | zero =>
      simp only [List.getElem?_cons_zero, Option.some.injEq] at h
      subst h
      have hl : ∀ (l : List Nat) (i : Nat), j < i → eF G l i (upd f j v) = eF G l i f := by
        intro l
        induction l with
        | nil => intro i _; rfl
        | cons b l ih2 => intro i hi; simp only [eF]; rw [ih2 (i + 1) (by omega), pk_un (by omega)]
      simp only [eF, List.set_cons_zero, Nat.add_zero]
      rw [hl l (j + 1) (by omega), pk_us]
    | succ k =>
      rw [List.getElem?_cons_succ] at h
      have h2 := ih (j + 1) f k code v h
      rw [show j + 1 + k = j + (k + 1) by omega] at h2
      simp only [eF, List.set_cons_succ]
      rw [h2, pk_un (by omega)]
/-! the statics: what nobody writes -/
def eStr (G : eG) (b : Nat) (tx : List (List Int32)) (A : Nat → Prop) (U : State) (H : Heap) : Prop :=
  ∀ k, k < tx.length → va_O "java/lang/String" (G.1 (b + k)) A U H ∧ va_OF "java/lang/String" "coder" "B" (.int 0) (G.1 (b + k)) A U H ∧ va_OF "java/lang/String" "value" "[B" (.ref (G.1 (b + 50 + k))) (G.1 (b + k)) A U H ∧ va_T .byte (G.1 (b + 50 + k)) (tx.getD k []).length (fun j => .int ((tx.getD k []).getD j 0)) A U H
def eTb (G : eG) (c : Nat) (C n d : String) (ty : FieldType) (N : Nat) (f : Nat → Value) (A : Nat → Prop) (U : State) (H : Heap) : Prop :=
  va_Z C n d (.ref (G.1 c)) A U H ∧ va_T ty (G.1 c) N f A U H
def eWd : List (List Int32) := [[114, 111, 117, 110, 100], [112, 108, 97, 99, 101, 100], [109, 97, 116, 99, 104, 101, 115], [112, 111, 105, 110, 116, 115], [114, 105, 110, 103, 115], [102, 114, 101, 101], [119, 97, 121, 115, 32, 111, 102]]
def eSg : List (List Int32) := [[43], [45], [42], [47], [60], [62], [61], [60, 61], [62, 61]]
def eLt : List (List Int32) := [[98, 111, 97, 114, 100, 32], [32, 98, 121, 32], [59, 10], [116, 105, 108, 101, 32, 116], [32], [59], [59], [32, 119, 104, 101, 110, 32], [], [119, 97, 121, 115, 32, 111, 102, 32, 116], [45], [109, 105, 110, 40], [44], [41], [109, 97, 120, 40], [32, 44, 32], [111, 110, 32, 116], [102, 105, 116, 115, 32, 116], [110, 111, 116, 32], [91], [32, 97, 110, 100, 32], [93], [32, 111, 114, 32], [40], [116, 97, 107, 101, 32, 116], [102, 105, 116, 32, 116], [112, 117, 116, 32, 116], [32, 97, 116, 32], [44], [32, 116, 117, 114, 110, 101, 100, 32]]
def eLw : List (String × Nat × String × Nat) := [("RingDominoLaw", 47, "board ", 1700), ("RingDominoLaw", 58, " by ", 1701), ("RingDominoLaw", 60, ";\n", 1702), ("RingDominoLaw", 68, "tile t", 1703), ("RingDominoLaw", 70, " ", 1704), ("RingDominoLaw", 72, ";", 1705), ("RingDominoLaw$Order", 41, ";", 1706), ("RingDominoLaw$Order", 46, " when ", 1707), ("RingDominoLaw$Node", 43, "", 1708), ("RingDominoLaw$Node", 56, "ways of t", 1709), ("RingDominoLaw$Node", 58, "-", 1710), ("RingDominoLaw$Node", 63, "min(", 1711), ("RingDominoLaw$Node", 65, ",", 1712), ("RingDominoLaw$Node", 67, ")", 1713), ("RingDominoLaw$Node", 69, "max(", 1714), ("RingDominoLaw$Node", 71, " , ", 1715), ("RingDominoLaw$Node", 73, "on t", 1716), ("RingDominoLaw$Node", 75, "fits t", 1717), ("RingDominoLaw$Node", 77, "not ", 1718), ("RingDominoLaw$Node", 79, "[", 1719), ("RingDominoLaw$Node", 81, " and ", 1720), ("RingDominoLaw$Node", 83, "]", 1721), ("RingDominoLaw$Node", 85, " or ", 1722), ("RingDominoLaw$Node", 93, "(", 1723), ("RingDominoLaw$Order", 59, "take t", 1724), ("RingDominoLaw$Order", 61, "fit t", 1725), ("RingDominoLaw$Order", 66, "put t", 1726), ("RingDominoLaw$Order", 68, " at ", 1727), ("RingDominoLaw$Order", 70, ",", 1728), ("RingDominoLaw$Order", 72, " turned ", 1729)]
def eDo (j : Nat) : Int32 := nI (48 + j % 10)
def eDt (j : Nat) : Int32 := nI (48 + j / 10)
/-- the six ways -/
def eWy (G : eG) (A : Nat → Prop) (U : State) (H : Heap) : Prop :=
  eTb G 1303 "RingDominoLaw$Game" "WAY" "[[I" (.array .int) 6 (fun j => .ref (G.1 (1320 + j))) A U H ∧ ∀ j, j < 6 → va_T .int (G.1 (1320 + j)) 2 (fun i => .int (if i = 0 then eCol j else eRow j)) A U H
def eSt (G : eG) (A : Nat → Prop) (U : State) (H : Heap) : Prop :=
  va_En "RingDomino$Kind" "LRingDomino$Kind;" eKn [("java/lang/Enum", "ordinal", "I", eOrd)] (fun k => G.1 (1000 + k)) A U H ∧
  (∀ k, k < 44 → va_OF "RingDomino$Kind" "text" "Ljava/lang/String;" (.ref (G.1 (1100 + k))) (G.1 (1000 + k)) A U H) ∧
  eStr G 1100 eKtx A U H ∧ eStr G 1400 eWd A U H ∧
  eTb G 1300 "RingDomino$Kind" "ALL" "[LRingDomino$Kind;" (.object "RingDomino$Kind") 44 (fun j => .ref (G.1 (1000 + j))) A U H ∧
  eTb G 1301 "RingDomino$Board" "COLUMN_STEPS" "[I" .int 6 (fun j => .int (eCol j)) A U H ∧
  eTb G 1302 "RingDomino$Board" "ROW_STEPS" "[I" .int 6 (fun j => .int (eRow j)) A U H ∧
  eWy G A U H ∧
  eTb G 1304 "RingDominoLaw" "SIGNS" "[Ljava/lang/String;" (.object "java/lang/String") 9 (fun j => .ref (G.1 (1500 + j))) A U H ∧
  eTb G 1305 "RingDominoLaw" "WORDS" "[Ljava/lang/String;" (.object "java/lang/String") 7 (fun j => .ref (G.1 (1400 + j))) A U H ∧
  eTb G 1306 "RingDomino$1" "$SwitchMap$RingDomino$Kind" "[I" .int 44 (fun j => .int (eSw j)) A U H ∧
  va_Z "java/lang/String" "COMPACT_STRINGS" "Z" (.int 1) A U H ∧
  va_Zq "jdk/internal/util/Preconditions" "SIOOBE_FORMATTER" "Ljava/util/function/BiFunction;" A U H ∧
  vx_Zq Bundle.tN "UNASSIGNED_STACK" Bundle.steD A U H ∧ vx_Zq Bundle.tN "SUPPRESSED_SENTINEL" Bundle.listD A U H ∧
  (eStr G 1500 eSg A U H ∧ eStr G 1700 eLt A U H ∧
  eTb G 1307 "java/lang/Integer" "DigitOnes" "[B" .byte 100 (fun j => .int (eDo j)) A U H ∧
  eTb G 1308 "java/lang/Integer" "DigitTens" "[B" .byte 100 (fun j => .int (eDt j)) A U H)
theorem eStr.moved {G : eG} {b : Nat} {tx : List (List Int32)} {A : Nat → Prop} {u U : State} {H : Heap} (hvm : u.vm.Alike U.vm) (h : eStr G b tx A u H) : eStr G b tx A U H :=
  fun k hk => ⟨va_O.moved hvm (h k hk).1, va_OF.moved hvm (h k hk).2.1, va_OF.moved hvm (h k hk).2.2.1, va_T.moved hvm (h k hk).2.2.2⟩
theorem eStr.kept {G : eG} {b : Nat} {tx : List (List Int32)} {A : Nat → Prop} {U : State} {H H1 : Heap} (h : eStr G b tx A U H) (hq : ∀ a : Nat, a < H.size → ¬ A a → H1[a]? = H[a]?) : eStr G b tx A U H1 :=
  fun k hk => ⟨(h k hk).1.kept hq, (h k hk).2.1.kept hq, (h k hk).2.2.1.kept hq, (h k hk).2.2.2.kept hq⟩
theorem eTb.moved {G : eG} {c : Nat} {C n d : String} {ty : FieldType} {N : Nat} {f : Nat → Value} {A : Nat → Prop} {u U : State} {H : Heap} (hvm : u.vm.Alike U.vm) (h : eTb G c C n d ty N f A u H) : eTb G c C n d ty N f A U H := ⟨va_Z.moved hvm h.1, va_T.moved hvm h.2⟩
theorem eTb.kept {G : eG} {c : Nat} {C n d : String} {ty : FieldType} {N : Nat} {f : Nat → Value} {A : Nat → Prop} {U : State} {H H1 : Heap} (h : eTb G c C n d ty N f A U H) (hq : ∀ a : Nat, a < H.size → ¬ A a → H1[a]? = H[a]?) : eTb G c C n d ty N f A U H1 := ⟨h.1.kept hq, h.2.kept hq⟩
theorem eWy.moved {G : eG} {A : Nat → Prop} {u U : State} {H : Heap} (hvm : u.vm.Alike U.vm) (h : eWy G A u H) : eWy G A U H := ⟨h.1.moved hvm, fun j hj => va_T.moved hvm (h.2 j hj)⟩
theorem eWy.kept {G : eG} {A : Nat → Prop} {U : State} {H H1 : Heap} (h : eWy G A U H) (hq : ∀ a : Nat, a < H.size → ¬ A a → H1[a]? = H[a]?) : eWy G A U H1 := ⟨h.1.kept hq, fun j hj => (h.2 j hj).kept hq⟩
theorem eSt.moved {G : eG} {A : Nat → Prop} {u U : State} {H : Heap} (hvm : u.vm.Alike U.vm) (h : eSt G A u H) : eSt G A U H := by
  obtain ⟨h1, h2, h3, h4, h5, h6, h7, h8, h9, h10, h11, h12, h13, h14, h15, h16, h17, h18, h19⟩ := h
  exact ⟨h1.moved hvm, fun k hk => va_OF.moved hvm (h2 k hk), h3.moved hvm, h4.moved hvm, h5.moved hvm, h6.moved hvm, h7.moved hvm, h8.moved hvm, h9.moved hvm, h10.moved hvm, h11.moved hvm, va_Z.moved hvm h12, va_Zq.moved hvm h13, vx_Zq.moved hvm h14, vx_Zq.moved hvm h15, h16.moved hvm, h17.moved hvm, h18.moved hvm, h19.moved hvm⟩
theorem eSt.kept {G : eG} {A : Nat → Prop} {U : State} {H H1 : Heap} (h : eSt G A U H) (hq : ∀ a : Nat, a < H.size → ¬ A a → H1[a]? = H[a]?) : eSt G A U H1 := by
  obtain ⟨h1, h2, h3, h4, h5, h6, h7, h8, h9, h10, h11, h12, h13, h14, h15, h16, h17, h18, h19⟩ := h
  exact ⟨h1.kept hq, fun k hk => (h2 k hk).kept hq, h3.kept hq, h4.kept hq, h5.kept hq, h6.kept hq, h7.kept hq, h8.kept hq, h9.kept hq, h10.kept hq, h11.kept hq, h12.kept hq, h13.kept hq, h14.kept hq, h15.kept hq, h16.kept hq, h17.kept hq, h18.kept hq, h19.kept hq⟩
/-! the tables' words at any state -/
def eOk (w : Cond) : Bool := goodWord w || (match w with | .fieldLinkNest .. => true | .methodLinkNest .. => true | .castable .. => true | .declares _ => true | _ => false)
theorem eOk_ot {w : Cond} (h : eOk w = true) : w.onTables = true ∨ ∃ ty, w = .arrayClass ty := by
  by_cases hg : goodWord w = true
  · rcases good_of_word hg with h1 | h1
    · simp only [Bool.and_eq_true] at h1
      exact Or.inl h1.1
    · exact Or.inr h1
  · simp only [eOk, hg, Bool.false_or] at h
    cases w <;> first | exact Or.inl rfl | (simp at h)
theorem eOk_warm {w : Cond} (ho : eOk w = true) {args a' : Array Value} {s U : State} (hW : s.WarmedH U.vm) (h : w.before args s = true) : w.before a' U = true := by
  by_cases hg : goodWord w = true
  · exact word_at hW (good_of_word hg) h
  · simp only [eOk, hg, Bool.false_or] at ho
    cases w with
    | fieldLinkNest a i b n d hh => exact va_Nw.use rfl (va_Nw.warmF hW (va_Nw.of rfl h))
    | methodLinkNest a i x hh => exact va_Nw.use rfl (va_Nw.warmM hW (va_Nw.of rfl h))
    | castable a t => exact va_Nw.use rfl (va_Nw.warmC hW (va_Nw.of rfl h))
    | declares x => exact va_Nw.use rfl (va_Nw.warmD hW (va_Nw.of rfl h))
    | _ => simp at ho
def eTbl : List Cond := lw_tbl.filter eOk
theorem eIn {w : Cond} (h : w ∈ lw_tbl) (ho : eOk w = true) : w ∈ eTbl := List.mem_filter.mpr ⟨h, ho⟩
theorem eIn_ok {w : Cond} (h : w ∈ eTbl) : eOk w = true := (List.mem_filter.mp h).2
theorem eInU {C : String} {T : u_T} {N : Nat} (h : ∀ w ∈ u_ws C T N, w ∈ lw_tbl) : ∀ w ∈ u_ws C T N, w ∈ eTbl := by
  intro w hw
  refine eIn (h w hw) ?_
  obtain ⟨k, -, rfl⟩ := List.mem_map.mp hw
  unfold u_lay
  split <;> rfl
/-- every word of the tables, of the machine alone -/
def eTB (U : State) : Prop := ∀ w ∈ eTbl, w.before #[] U = true
/-- the texts that the class throws with: where they are loaded -/
def eMs (G : eG) (U : State) : Prop := ∀ q ∈ eMsg ++ eLw, vk_R q.1 q.2.1 q.2.2.1 (G.1 q.2.2.2) U
theorem eMs.warm {G : eG} {s U : State} (hW : s.WarmedH U.vm) (h : eMs G s) : eMs G U := fun q hq => vk_R.warm hW (h q hq)
theorem eMs.same {G : eG} {u U : State} (hv : U.vm = u.vm) (h : eMs G u) : eMs G U := fun q hq => vk_R.same hv (h q hq)

