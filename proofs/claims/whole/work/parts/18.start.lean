/-! ===== what the law's start gives: the statics, the texts, the classes ===== -/
theorem n_tS {args : Array Value} {s : State} {t u : Term} {a : Nat} (h : (Cond.eq t u).before args s = true) (hu : u.eval args s none [] s = some (.ref a)) : t.eval args s none [] s = some (.ref a) := by
  obtain ⟨w, h1, h2⟩ := Cond.eq_one (show (Cond.eq t u).holds args s none s [] = true from h)
  rw [hu] at h2
  rw [h1, ← h2]
/-- a text: its object, its bytes -/
def nStr (a v : Nat) (tx : List Int32) (A : Nat → Prop) (s : State) : Prop :=
  va_O "java/lang/String" a A s s.heap ∧ va_OF "java/lang/String" "coder" "B" (.int 0) a A s s.heap ∧ va_OF "java/lang/String" "value" "[B" (.ref v) a A s s.heap ∧ va_T .byte v tx.length (fun j => .int (tx.getD j 0)) A s s.heap
theorem n_str {args : Array Value} {s : State} {A : Nat → Prop} {t : Term} (tx : List Int32) (hN : tx.length < 2 ^ 31) (h1 : (Cond.exactly t "java/lang/String").before args s = true) (h2 : (Cond.eq (.field t "java/lang/String" "coder" "B") (.int 0)).before args s = true) (h3 : (Cond.arrayOf (.field t "java/lang/String" "value" "[B") .byte).before args s = true) (h4 : (Cond.eq (.length (.field t "java/lang/String" "value" "[B")) (.int (Int32.ofNat tx.length))).before args s = true)
    (h5 : ∀ j, j < tx.length → (Cond.eq (.elem (.field t "java/lang/String" "value" "[B") (.int (Int32.ofNat j))) (.int (tx.getD j 0))).before args s = true) (hA : ∀ a : Nat, a < s.heap.size → ¬ A a) : ∃ a v : Nat, t.eval args s none [] s = some (.ref a) ∧ nStr a v tx A s := by
  obtain ⟨a, c, cA, kA, q1, q2, q3, q4, q5, q6, -⟩ := Cond.exactly_spec (args := args) (first := s) (o := none) (s := s) (idx := []) (t := t) (cls := "java/lang/String") h1
  obtain ⟨v, hv, hT⟩ := va_Tof (f := fun j => .int (tx.getD j 0)) (A := A) hN h3 (va_eqt h4) (fun j hj => va_eqt (h5 j hj)) hA
  exact ⟨a, v, q1, ⟨cA, q3, q5, by rw [q6]; exact q2, hA a (Array.getElem?_eq_some_iff.mp q3).1⟩, vk_OFof q1 (va_eqt h2) hA, vk_OFof q1 hv hA, hT⟩
/-- a constant of the enum -/
def nKd (nm : String) (k : Int32) (tx : List Int32) (a t v : Nat) (A : Nat → Prop) (args : Array Value) (s : State) : Prop :=
  (Term.static "RingDomino$Kind" nm "LRingDomino$Kind;").eval args s none [] s = some (.ref a) ∧ va_Z "RingDomino$Kind" nm "LRingDomino$Kind;" (.ref a) A s s.heap ∧ va_O "RingDomino$Kind" a A s s.heap ∧ va_OF "java/lang/Enum" "ordinal" "I" (.int k) a A s s.heap ∧ va_OF "RingDomino$Kind" "text" "Ljava/lang/String;" (.ref t) a A s s.heap ∧ nStr t v tx A s
theorem n_kd {args : Array Value} {s : State} {A : Nat → Prop} {nm : String} {k : Int32} {t : Term} (tx : List Int32) (hN : tx.length < 2 ^ 31) (h1 : (Cond.exactly t "java/lang/String").before args s = true) (h2 : (Cond.eq (.field t "java/lang/String" "coder" "B") (.int 0)).before args s = true) (h3 : (Cond.arrayOf (.field t "java/lang/String" "value" "[B") .byte).before args s = true) (h4 : (Cond.eq (.length (.field t "java/lang/String" "value" "[B")) (.int (Int32.ofNat tx.length))).before args s = true)
    (h5 : ∀ j, j < tx.length → (Cond.eq (.elem (.field t "java/lang/String" "value" "[B") (.int (Int32.ofNat j))) (.int (tx.getD j 0))).before args s = true) (hA : ∀ a : Nat, a < s.heap.size → ¬ A a)
    (g1 : (Cond.exactly (.static "RingDomino$Kind" nm "LRingDomino$Kind;") "RingDomino$Kind").before args s = true) (g2 : (Cond.eq (.field (.static "RingDomino$Kind" nm "LRingDomino$Kind;") "java/lang/Enum" "ordinal" "I") (.int k)).before args s = true) (g3 : (Cond.eq (.field (.static "RingDomino$Kind" nm "LRingDomino$Kind;") "RingDomino$Kind" "text" "Ljava/lang/String;") t).before args s = true)
    (g4 : (Cond.laysStatic "RingDomino$Kind" nm "LRingDomino$Kind;").before args s = true) (g5 : (Cond.initialized "RingDomino$Kind").before args s = true) : ∃ q : Nat × Nat × Nat, nKd nm k tx q.1 q.2.1 q.2.2 A args s := by
  obtain ⟨st, v, e1, hS⟩ := n_str tx hN h1 h2 h3 h4 h5 hA
  obtain ⟨a, c, cA, kA, q1, q2, q3, q4, q5, q6, -⟩ := Cond.exactly_spec (args := args) (first := s) (o := none) (s := s) (idx := []) (t := .static "RingDomino$Kind" nm "LRingDomino$Kind;") (cls := "RingDomino$Kind") g1
  exact ⟨(a, st, v), q1, va_Zref g4 g5 q1 hA, ⟨cA, q3, q5, by rw [q6]; exact q2, hA a (Array.getElem?_eq_some_iff.mp q3).1⟩, vk_OFof q1 (va_eqt g2) hA, vk_OFof q1 (n_tS g3 e1) hA, hS⟩
/-- a static table -/
theorem n_tab {args : Array Value} {s : State} {A : Nat → Prop} {C n d : String} {ty : FieldType} {N : Nat} {f : Nat → Value} (hN : N < 2 ^ 31) (h1 : (Cond.arrayOf (.static C n d) ty).before args s = true) (h2 : (Cond.eq (.length (.static C n d)) (.int (Int32.ofNat N))).before args s = true) (h3 : ∀ j, j < N → (Term.elem (.static C n d) (.int (Int32.ofNat j))).eval args s none [] s = some (f j)) (g4 : (Cond.laysStatic C n d).before args s = true) (g5 : (Cond.initialized C).before args s = true) (hA : ∀ a : Nat, a < s.heap.size → ¬ A a) : ∃ t : Nat, va_Z C n d (.ref t) A s s.heap ∧ va_T ty t N f A s s.heap := by
  obtain ⟨t, e1, hT⟩ := va_Tof hN h1 (va_eqt h2) h3 hA
  exact ⟨t, va_Zref g4 g5 e1 hA, hT⟩
theorem n_all {N : Nat} {α : Type} {P : Nat → α → Prop} (d : α) (h : ∀ k, k < N → ∃ q, P k q) : ∃ f : Nat → α, ∀ k, k < N → P k (f k) := by
  have h0 : ∀ k, ∃ q, k < N → P k q := fun k => by
    by_cases hk : k < N
    · obtain ⟨q, hq⟩ := h k hk
      exact ⟨q, fun _ => hq⟩
    · exact ⟨d, fun z => absurd z hk⟩
  obtain ⟨f, hf⟩ := Classical.axiomOfChoice h0
  exact ⟨f, hf⟩
section Start
variable {args : Array Value} {s : State} {A : Nat → Prop}
set_option maxRecDepth 100000 in
theorem n_kd0 (n1 : ∀ c ∈ flatC narrow_1_1, c.before args s = true) (n2 : ∀ c ∈ flatC narrow_1_2, c.before args s = true) (n3 : ∀ c ∈ flatC narrow_1_3, c.before args s = true) (ht : ∀ w ∈ lw_tbl, w.before args s = true) (hA : ∀ a : Nat, a < s.heap.size → ¬ A a) : ∃ q : Nat × Nat × Nat, nKd "BOARD" 0 [98, 111, 97, 114, 100] q.1 q.2.1 q.2.2 A args s :=
  n_kd (t := .string "RingDomino$Kind" 160) [98, 111, 97, 114, 100] (by decide) (n2 _ (List.mem_of_getElem? (i := 303) rfl)) (n2 _ (List.mem_of_getElem? (i := 304) rfl)) (n2 _ (List.mem_of_getElem? (i := 305) rfl)) (n2 _ (List.mem_of_getElem? (i := 306) rfl)) (fun j hj => by
      match j, hj with
      | 0, _ => exact (n2 _ (List.mem_of_getElem? (i := 307) rfl))
      | 1, _ => exact (n2 _ (List.mem_of_getElem? (i := 308) rfl))
      | 2, _ => exact (n2 _ (List.mem_of_getElem? (i := 309) rfl))
      | 3, _ => exact (n2 _ (List.mem_of_getElem? (i := 310) rfl))
      | 4, _ => exact (n2 _ (List.mem_of_getElem? (i := 311) rfl))
      | j + 5, hj => exact absurd hj (by simp)) hA (n1 _ (List.mem_of_getElem? (i := 86) rfl)) (n1 _ (List.mem_of_getElem? (i := 87) rfl)) (n1 _ (List.mem_of_getElem? (i := 88) rfl)) (ht _ (tb3 _ (List.mem_of_getElem? (i := 17) rfl))) (ht _ (tb1 _ (List.mem_of_getElem? (i := 7) rfl)))
set_option maxRecDepth 100000 in
theorem n_kd1 (n1 : ∀ c ∈ flatC narrow_1_1, c.before args s = true) (n2 : ∀ c ∈ flatC narrow_1_2, c.before args s = true) (n3 : ∀ c ∈ flatC narrow_1_3, c.before args s = true) (ht : ∀ w ∈ lw_tbl, w.before args s = true) (hA : ∀ a : Nat, a < s.heap.size → ¬ A a) : ∃ q : Nat × Nat × Nat, nKd "BY" 1 [98, 121] q.1 q.2.1 q.2.2 A args s :=
  n_kd (t := .string "RingDomino$Kind" 166) [98, 121] (by decide) (n2 _ (List.mem_of_getElem? (i := 312) rfl)) (n2 _ (List.mem_of_getElem? (i := 313) rfl)) (n2 _ (List.mem_of_getElem? (i := 314) rfl)) (n2 _ (List.mem_of_getElem? (i := 315) rfl)) (fun j hj => by
      match j, hj with
      | 0, _ => exact (n2 _ (List.mem_of_getElem? (i := 316) rfl))
      | 1, _ => exact (n2 _ (List.mem_of_getElem? (i := 317) rfl))
      | j + 2, hj => exact absurd hj (by simp)) hA (n1 _ (List.mem_of_getElem? (i := 89) rfl)) (n1 _ (List.mem_of_getElem? (i := 90) rfl)) (n1 _ (List.mem_of_getElem? (i := 91) rfl)) (ht _ (tb3 _ (List.mem_of_getElem? (i := 24) rfl))) (ht _ (tb1 _ (List.mem_of_getElem? (i := 7) rfl)))
set_option maxRecDepth 100000 in
theorem n_kd2 (n1 : ∀ c ∈ flatC narrow_1_1, c.before args s = true) (n2 : ∀ c ∈ flatC narrow_1_2, c.before args s = true) (n3 : ∀ c ∈ flatC narrow_1_3, c.before args s = true) (ht : ∀ w ∈ lw_tbl, w.before args s = true) (hA : ∀ a : Nat, a < s.heap.size → ¬ A a) : ∃ q : Nat × Nat × Nat, nKd "TILE" 2 [116, 105, 108, 101] q.1 q.2.1 q.2.2 A args s :=
  n_kd (t := .string "RingDomino$Kind" 169) [116, 105, 108, 101] (by decide) (n2 _ (List.mem_of_getElem? (i := 323) rfl)) (n2 _ (List.mem_of_getElem? (i := 324) rfl)) (n2 _ (List.mem_of_getElem? (i := 325) rfl)) (n2 _ (List.mem_of_getElem? (i := 326) rfl)) (fun j hj => by
      match j, hj with
      | 0, _ => exact (n2 _ (List.mem_of_getElem? (i := 327) rfl))
      | 1, _ => exact (n2 _ (List.mem_of_getElem? (i := 328) rfl))
      | 2, _ => exact (n2 _ (List.mem_of_getElem? (i := 329) rfl))
      | 3, _ => exact (n2 _ (List.mem_of_getElem? (i := 330) rfl))
      | j + 4, hj => exact absurd hj (by simp)) hA (n1 _ (List.mem_of_getElem? (i := 95) rfl)) (n1 _ (List.mem_of_getElem? (i := 96) rfl)) (n1 _ (List.mem_of_getElem? (i := 97) rfl)) (ht _ (tb3 _ (List.mem_of_getElem? (i := 28) rfl))) (ht _ (tb1 _ (List.mem_of_getElem? (i := 7) rfl)))
set_option maxRecDepth 100000 in
theorem n_kd3 (n1 : ∀ c ∈ flatC narrow_1_1, c.before args s = true) (n2 : ∀ c ∈ flatC narrow_1_2, c.before args s = true) (n3 : ∀ c ∈ flatC narrow_1_3, c.before args s = true) (ht : ∀ w ∈ lw_tbl, w.before args s = true) (hA : ∀ a : Nat, a < s.heap.size → ¬ A a) : ∃ q : Nat × Nat × Nat, nKd "PUT" 3 [112, 117, 116] q.1 q.2.1 q.2.2 A args s :=
  n_kd (t := .string "RingDomino$Kind" 172) [112, 117, 116] (by decide) (n2 _ (List.mem_of_getElem? (i := 331) rfl)) (n2 _ (List.mem_of_getElem? (i := 332) rfl)) (n2 _ (List.mem_of_getElem? (i := 333) rfl)) (n2 _ (List.mem_of_getElem? (i := 334) rfl)) (fun j hj => by
      match j, hj with
      | 0, _ => exact (n2 _ (List.mem_of_getElem? (i := 335) rfl))
      | 1, _ => exact (n2 _ (List.mem_of_getElem? (i := 336) rfl))
      | 2, _ => exact (n2 _ (List.mem_of_getElem? (i := 337) rfl))
      | j + 3, hj => exact absurd hj (by simp)) hA (n1 _ (List.mem_of_getElem? (i := 98) rfl)) (n1 _ (List.mem_of_getElem? (i := 99) rfl)) (n1 _ (List.mem_of_getElem? (i := 100) rfl)) (ht _ (tb3 _ (List.mem_of_getElem? (i := 39) rfl))) (ht _ (tb1 _ (List.mem_of_getElem? (i := 7) rfl)))
set_option maxRecDepth 100000 in
theorem n_kd4 (n1 : ∀ c ∈ flatC narrow_1_1, c.before args s = true) (n2 : ∀ c ∈ flatC narrow_1_2, c.before args s = true) (n3 : ∀ c ∈ flatC narrow_1_3, c.before args s = true) (ht : ∀ w ∈ lw_tbl, w.before args s = true) (hA : ∀ a : Nat, a < s.heap.size → ¬ A a) : ∃ q : Nat × Nat × Nat, nKd "AT" 4 [97, 116] q.1 q.2.1 q.2.2 A args s :=
  n_kd (t := .string "RingDomino$Kind" 175) [97, 116] (by decide) (n2 _ (List.mem_of_getElem? (i := 353) rfl)) (n2 _ (List.mem_of_getElem? (i := 354) rfl)) (n2 _ (List.mem_of_getElem? (i := 355) rfl)) (n2 _ (List.mem_of_getElem? (i := 356) rfl)) (fun j hj => by
      match j, hj with
      | 0, _ => exact (n2 _ (List.mem_of_getElem? (i := 357) rfl))
      | 1, _ => exact (n2 _ (List.mem_of_getElem? (i := 358) rfl))
      | j + 2, hj => exact absurd hj (by simp)) hA (n1 _ (List.mem_of_getElem? (i := 107) rfl)) (n1 _ (List.mem_of_getElem? (i := 108) rfl)) (n1 _ (List.mem_of_getElem? (i := 109) rfl)) (ht _ (tb3 _ (List.mem_of_getElem? (i := 49) rfl))) (ht _ (tb1 _ (List.mem_of_getElem? (i := 7) rfl)))
set_option maxRecDepth 100000 in
theorem n_kd5 (n1 : ∀ c ∈ flatC narrow_1_1, c.before args s = true) (n2 : ∀ c ∈ flatC narrow_1_2, c.before args s = true) (n3 : ∀ c ∈ flatC narrow_1_3, c.before args s = true) (ht : ∀ w ∈ lw_tbl, w.before args s = true) (hA : ∀ a : Nat, a < s.heap.size → ¬ A a) : ∃ q : Nat × Nat × Nat, nKd "TURNED" 5 [116, 117, 114, 110, 101, 100] q.1 q.2.1 q.2.2 A args s :=
  n_kd (t := .string "RingDomino$Kind" 178) [116, 117, 114, 110, 101, 100] (by decide) (n3 _ (List.mem_of_getElem? (i := 8) rfl)) (n3 _ (List.mem_of_getElem? (i := 9) rfl)) (n3 _ (List.mem_of_getElem? (i := 10) rfl)) (n3 _ (List.mem_of_getElem? (i := 11) rfl)) (fun j hj => by
      match j, hj with
      | 0, _ => exact (n3 _ (List.mem_of_getElem? (i := 12) rfl))
      | 1, _ => exact (n3 _ (List.mem_of_getElem? (i := 13) rfl))
      | 2, _ => exact (n3 _ (List.mem_of_getElem? (i := 14) rfl))
      | 3, _ => exact (n3 _ (List.mem_of_getElem? (i := 15) rfl))
      | 4, _ => exact (n3 _ (List.mem_of_getElem? (i := 16) rfl))
      | 5, _ => exact (n3 _ (List.mem_of_getElem? (i := 17) rfl))
      | j + 6, hj => exact absurd hj (by simp)) hA (n1 _ (List.mem_of_getElem? (i := 187) rfl)) (n1 _ (List.mem_of_getElem? (i := 188) rfl)) (n1 _ (List.mem_of_getElem? (i := 189) rfl)) (ht _ (tb3 _ (List.mem_of_getElem? (i := 95) rfl))) (ht _ (tb1 _ (List.mem_of_getElem? (i := 7) rfl)))
set_option maxRecDepth 100000 in
theorem n_kd6 (n1 : ∀ c ∈ flatC narrow_1_1, c.before args s = true) (n2 : ∀ c ∈ flatC narrow_1_2, c.before args s = true) (n3 : ∀ c ∈ flatC narrow_1_3, c.before args s = true) (ht : ∀ w ∈ lw_tbl, w.before args s = true) (hA : ∀ a : Nat, a < s.heap.size → ¬ A a) : ∃ q : Nat × Nat × Nat, nKd "TAKE" 6 [116, 97, 107, 101] q.1 q.2.1 q.2.2 A args s :=
  n_kd (t := .string "RingDomino$Kind" 181) [116, 97, 107, 101] (by decide) (n2 _ (List.mem_of_getElem? (i := 338) rfl)) (n2 _ (List.mem_of_getElem? (i := 339) rfl)) (n2 _ (List.mem_of_getElem? (i := 340) rfl)) (n2 _ (List.mem_of_getElem? (i := 341) rfl)) (fun j hj => by
      match j, hj with
      | 0, _ => exact (n2 _ (List.mem_of_getElem? (i := 342) rfl))
      | 1, _ => exact (n2 _ (List.mem_of_getElem? (i := 343) rfl))
      | 2, _ => exact (n2 _ (List.mem_of_getElem? (i := 344) rfl))
      | 3, _ => exact (n2 _ (List.mem_of_getElem? (i := 345) rfl))
      | j + 4, hj => exact absurd hj (by simp)) hA (n1 _ (List.mem_of_getElem? (i := 101) rfl)) (n1 _ (List.mem_of_getElem? (i := 102) rfl)) (n1 _ (List.mem_of_getElem? (i := 103) rfl)) (ht _ (tb3 _ (List.mem_of_getElem? (i := 41) rfl))) (ht _ (tb1 _ (List.mem_of_getElem? (i := 7) rfl)))
set_option maxRecDepth 100000 in
theorem n_kd7 (n1 : ∀ c ∈ flatC narrow_1_1, c.before args s = true) (n2 : ∀ c ∈ flatC narrow_1_2, c.before args s = true) (n3 : ∀ c ∈ flatC narrow_1_3, c.before args s = true) (ht : ∀ w ∈ lw_tbl, w.before args s = true) (hA : ∀ a : Nat, a < s.heap.size → ¬ A a) : ∃ q : Nat × Nat × Nat, nKd "FIT" 7 [102, 105, 116] q.1 q.2.1 q.2.2 A args s :=
  n_kd (t := .string "RingDomino$Kind" 184) [102, 105, 116] (by decide) (n2 _ (List.mem_of_getElem? (i := 346) rfl)) (n2 _ (List.mem_of_getElem? (i := 347) rfl)) (n2 _ (List.mem_of_getElem? (i := 348) rfl)) (n2 _ (List.mem_of_getElem? (i := 349) rfl)) (fun j hj => by
      match j, hj with
      | 0, _ => exact (n2 _ (List.mem_of_getElem? (i := 350) rfl))
      | 1, _ => exact (n2 _ (List.mem_of_getElem? (i := 351) rfl))
      | 2, _ => exact (n2 _ (List.mem_of_getElem? (i := 352) rfl))
      | j + 3, hj => exact absurd hj (by simp)) hA (n1 _ (List.mem_of_getElem? (i := 104) rfl)) (n1 _ (List.mem_of_getElem? (i := 105) rfl)) (n1 _ (List.mem_of_getElem? (i := 106) rfl)) (ht _ (tb3 _ (List.mem_of_getElem? (i := 43) rfl))) (ht _ (tb1 _ (List.mem_of_getElem? (i := 7) rfl)))
set_option maxRecDepth 100000 in
theorem n_kd8 (n1 : ∀ c ∈ flatC narrow_1_1, c.before args s = true) (n2 : ∀ c ∈ flatC narrow_1_2, c.before args s = true) (n3 : ∀ c ∈ flatC narrow_1_3, c.before args s = true) (ht : ∀ w ∈ lw_tbl, w.before args s = true) (hA : ∀ a : Nat, a < s.heap.size → ¬ A a) : ∃ q : Nat × Nat × Nat, nKd "WHEN" 8 [119, 104, 101, 110] q.1 q.2.1 q.2.2 A args s :=
  n_kd (t := .string "RingDomino$Kind" 187) [119, 104, 101, 110] (by decide) (n3 _ (List.mem_of_getElem? (i := 18) rfl)) (n3 _ (List.mem_of_getElem? (i := 19) rfl)) (n3 _ (List.mem_of_getElem? (i := 20) rfl)) (n3 _ (List.mem_of_getElem? (i := 21) rfl)) (fun j hj => by
      match j, hj with
      | 0, _ => exact (n3 _ (List.mem_of_getElem? (i := 22) rfl))
      | 1, _ => exact (n3 _ (List.mem_of_getElem? (i := 23) rfl))
      | 2, _ => exact (n3 _ (List.mem_of_getElem? (i := 24) rfl))
      | 3, _ => exact (n3 _ (List.mem_of_getElem? (i := 25) rfl))
      | j + 4, hj => exact absurd hj (by simp)) hA (n1 _ (List.mem_of_getElem? (i := 190) rfl)) (n1 _ (List.mem_of_getElem? (i := 191) rfl)) (n1 _ (List.mem_of_getElem? (i := 192) rfl)) (ht _ (tb3 _ (List.mem_of_getElem? (i := 101) rfl))) (ht _ (tb1 _ (List.mem_of_getElem? (i := 7) rfl)))
set_option maxRecDepth 100000 in
theorem n_kd9 (n1 : ∀ c ∈ flatC narrow_1_1, c.before args s = true) (n2 : ∀ c ∈ flatC narrow_1_2, c.before args s = true) (n3 : ∀ c ∈ flatC narrow_1_3, c.before args s = true) (ht : ∀ w ∈ lw_tbl, w.before args s = true) (hA : ∀ a : Nat, a < s.heap.size → ¬ A a) : ∃ q : Nat × Nat × Nat, nKd "ROUND" 9 [114, 111, 117, 110, 100] q.1 q.2.1 q.2.2 A args s :=
  n_kd (t := .string "RingDomino$Kind" 190) [114, 111, 117, 110, 100] (by decide) (n3 _ (List.mem_of_getElem? (i := 285) rfl)) (n3 _ (List.mem_of_getElem? (i := 286) rfl)) (n3 _ (List.mem_of_getElem? (i := 287) rfl)) (n3 _ (List.mem_of_getElem? (i := 288) rfl)) (fun j hj => by
      match j, hj with
      | 0, _ => exact (n3 _ (List.mem_of_getElem? (i := 289) rfl))
      | 1, _ => exact (n3 _ (List.mem_of_getElem? (i := 290) rfl))
      | 2, _ => exact (n3 _ (List.mem_of_getElem? (i := 291) rfl))
      | 3, _ => exact (n3 _ (List.mem_of_getElem? (i := 292) rfl))
      | 4, _ => exact (n3 _ (List.mem_of_getElem? (i := 293) rfl))
      | j + 5, hj => exact absurd hj (by simp)) hA (n1 _ (List.mem_of_getElem? (i := 270) rfl)) (n1 _ (List.mem_of_getElem? (i := 271) rfl)) (n1 _ (List.mem_of_getElem? (i := 272) rfl)) (ht _ (tb8 _ (List.mem_of_getElem? (i := 232) rfl))) (ht _ (tb1 _ (List.mem_of_getElem? (i := 7) rfl)))
set_option maxRecDepth 100000 in
theorem n_kd10 (n1 : ∀ c ∈ flatC narrow_1_1, c.before args s = true) (n2 : ∀ c ∈ flatC narrow_1_2, c.before args s = true) (n3 : ∀ c ∈ flatC narrow_1_3, c.before args s = true) (ht : ∀ w ∈ lw_tbl, w.before args s = true) (hA : ∀ a : Nat, a < s.heap.size → ¬ A a) : ∃ q : Nat × Nat × Nat, nKd "PLACED" 10 [112, 108, 97, 99, 101, 100] q.1 q.2.1 q.2.2 A args s :=
  n_kd (t := .string "RingDomino$Kind" 193) [112, 108, 97, 99, 101, 100] (by decide) (n3 _ (List.mem_of_getElem? (i := 295) rfl)) (n3 _ (List.mem_of_getElem? (i := 296) rfl)) (n3 _ (List.mem_of_getElem? (i := 297) rfl)) (n3 _ (List.mem_of_getElem? (i := 298) rfl)) (fun j hj => by
      match j, hj with
      | 0, _ => exact (n3 _ (List.mem_of_getElem? (i := 299) rfl))
      | 1, _ => exact (n3 _ (List.mem_of_getElem? (i := 300) rfl))
      | 2, _ => exact (n3 _ (List.mem_of_getElem? (i := 301) rfl))
      | 3, _ => exact (n3 _ (List.mem_of_getElem? (i := 302) rfl))
      | 4, _ => exact (n3 _ (List.mem_of_getElem? (i := 303) rfl))
      | 5, _ => exact (n3 _ (List.mem_of_getElem? (i := 304) rfl))
      | j + 6, hj => exact absurd hj (by simp)) hA (n1 _ (List.mem_of_getElem? (i := 273) rfl)) (n1 _ (List.mem_of_getElem? (i := 274) rfl)) (n1 _ (List.mem_of_getElem? (i := 275) rfl)) (ht _ (tb8 _ (List.mem_of_getElem? (i := 233) rfl))) (ht _ (tb1 _ (List.mem_of_getElem? (i := 7) rfl)))
set_option maxRecDepth 100000 in
theorem n_kd11 (n1 : ∀ c ∈ flatC narrow_1_1, c.before args s = true) (n2 : ∀ c ∈ flatC narrow_1_2, c.before args s = true) (n3 : ∀ c ∈ flatC narrow_1_3, c.before args s = true) (ht : ∀ w ∈ lw_tbl, w.before args s = true) (hA : ∀ a : Nat, a < s.heap.size → ¬ A a) : ∃ q : Nat × Nat × Nat, nKd "MATCHES" 11 [109, 97, 116, 99, 104, 101, 115] q.1 q.2.1 q.2.2 A args s :=
  n_kd (t := .string "RingDomino$Kind" 196) [109, 97, 116, 99, 104, 101, 115] (by decide) (n3 _ (List.mem_of_getElem? (i := 306) rfl)) (n3 _ (List.mem_of_getElem? (i := 307) rfl)) (n3 _ (List.mem_of_getElem? (i := 308) rfl)) (n3 _ (List.mem_of_getElem? (i := 309) rfl)) (fun j hj => by
      match j, hj with
      | 0, _ => exact (n3 _ (List.mem_of_getElem? (i := 310) rfl))
      | 1, _ => exact (n3 _ (List.mem_of_getElem? (i := 311) rfl))
      | 2, _ => exact (n3 _ (List.mem_of_getElem? (i := 312) rfl))
      | 3, _ => exact (n3 _ (List.mem_of_getElem? (i := 313) rfl))
      | 4, _ => exact (n3 _ (List.mem_of_getElem? (i := 314) rfl))
      | 5, _ => exact (n3 _ (List.mem_of_getElem? (i := 315) rfl))
      | 6, _ => exact (n3 _ (List.mem_of_getElem? (i := 316) rfl))
      | j + 7, hj => exact absurd hj (by simp)) hA (n1 _ (List.mem_of_getElem? (i := 276) rfl)) (n1 _ (List.mem_of_getElem? (i := 277) rfl)) (n1 _ (List.mem_of_getElem? (i := 278) rfl)) (ht _ (tb8 _ (List.mem_of_getElem? (i := 234) rfl))) (ht _ (tb1 _ (List.mem_of_getElem? (i := 7) rfl)))
set_option maxRecDepth 100000 in
theorem n_kd12 (n1 : ∀ c ∈ flatC narrow_1_1, c.before args s = true) (n2 : ∀ c ∈ flatC narrow_1_2, c.before args s = true) (n3 : ∀ c ∈ flatC narrow_1_3, c.before args s = true) (ht : ∀ w ∈ lw_tbl, w.before args s = true) (hA : ∀ a : Nat, a < s.heap.size → ¬ A a) : ∃ q : Nat × Nat × Nat, nKd "POINTS" 12 [112, 111, 105, 110, 116, 115] q.1 q.2.1 q.2.2 A args s :=
  n_kd (t := .string "RingDomino$Kind" 199) [112, 111, 105, 110, 116, 115] (by decide) (n3 _ (List.mem_of_getElem? (i := 318) rfl)) (n3 _ (List.mem_of_getElem? (i := 319) rfl)) (n3 _ (List.mem_of_getElem? (i := 320) rfl)) (n3 _ (List.mem_of_getElem? (i := 321) rfl)) (fun j hj => by
      match j, hj with
      | 0, _ => exact (n3 _ (List.mem_of_getElem? (i := 322) rfl))
      | 1, _ => exact (n3 _ (List.mem_of_getElem? (i := 323) rfl))
      | 2, _ => exact (n3 _ (List.mem_of_getElem? (i := 324) rfl))
      | 3, _ => exact (n3 _ (List.mem_of_getElem? (i := 325) rfl))
      | 4, _ => exact (n3 _ (List.mem_of_getElem? (i := 326) rfl))
      | 5, _ => exact (n3 _ (List.mem_of_getElem? (i := 327) rfl))
      | j + 6, hj => exact absurd hj (by simp)) hA (n1 _ (List.mem_of_getElem? (i := 279) rfl)) (n1 _ (List.mem_of_getElem? (i := 280) rfl)) (n1 _ (List.mem_of_getElem? (i := 281) rfl)) (ht _ (tb8 _ (List.mem_of_getElem? (i := 235) rfl))) (ht _ (tb1 _ (List.mem_of_getElem? (i := 7) rfl)))
set_option maxRecDepth 100000 in
theorem n_kd13 (n1 : ∀ c ∈ flatC narrow_1_1, c.before args s = true) (n2 : ∀ c ∈ flatC narrow_1_2, c.before args s = true) (n3 : ∀ c ∈ flatC narrow_1_3, c.before args s = true) (ht : ∀ w ∈ lw_tbl, w.before args s = true) (hA : ∀ a : Nat, a < s.heap.size → ¬ A a) : ∃ q : Nat × Nat × Nat, nKd "RINGS" 13 [114, 105, 110, 103, 115] q.1 q.2.1 q.2.2 A args s :=
  n_kd (t := .string "RingDomino$Kind" 202) [114, 105, 110, 103, 115] (by decide) (n3 _ (List.mem_of_getElem? (i := 329) rfl)) (n3 _ (List.mem_of_getElem? (i := 330) rfl)) (n3 _ (List.mem_of_getElem? (i := 331) rfl)) (n3 _ (List.mem_of_getElem? (i := 332) rfl)) (fun j hj => by
      match j, hj with
      | 0, _ => exact (n3 _ (List.mem_of_getElem? (i := 333) rfl))
      | 1, _ => exact (n3 _ (List.mem_of_getElem? (i := 334) rfl))
      | 2, _ => exact (n3 _ (List.mem_of_getElem? (i := 335) rfl))
      | 3, _ => exact (n3 _ (List.mem_of_getElem? (i := 336) rfl))
      | 4, _ => exact (n3 _ (List.mem_of_getElem? (i := 337) rfl))
      | j + 5, hj => exact absurd hj (by simp)) hA (n1 _ (List.mem_of_getElem? (i := 282) rfl)) (n1 _ (List.mem_of_getElem? (i := 283) rfl)) (n1 _ (List.mem_of_getElem? (i := 284) rfl)) (ht _ (tb8 _ (List.mem_of_getElem? (i := 236) rfl))) (ht _ (tb1 _ (List.mem_of_getElem? (i := 7) rfl)))
set_option maxRecDepth 100000 in
theorem n_kd14 (n1 : ∀ c ∈ flatC narrow_1_1, c.before args s = true) (n2 : ∀ c ∈ flatC narrow_1_2, c.before args s = true) (n3 : ∀ c ∈ flatC narrow_1_3, c.before args s = true) (ht : ∀ w ∈ lw_tbl, w.before args s = true) (hA : ∀ a : Nat, a < s.heap.size → ¬ A a) : ∃ q : Nat × Nat × Nat, nKd "FREE" 14 [102, 114, 101, 101] q.1 q.2.1 q.2.2 A args s :=
  n_kd (t := .string "RingDomino$Kind" 205) [102, 114, 101, 101] (by decide) (n3 _ (List.mem_of_getElem? (i := 339) rfl)) (n3 _ (List.mem_of_getElem? (i := 340) rfl)) (n3 _ (List.mem_of_getElem? (i := 341) rfl)) (n3 _ (List.mem_of_getElem? (i := 342) rfl)) (fun j hj => by
      match j, hj with
      | 0, _ => exact (n3 _ (List.mem_of_getElem? (i := 343) rfl))
      | 1, _ => exact (n3 _ (List.mem_of_getElem? (i := 344) rfl))
      | 2, _ => exact (n3 _ (List.mem_of_getElem? (i := 345) rfl))
      | 3, _ => exact (n3 _ (List.mem_of_getElem? (i := 346) rfl))
      | j + 4, hj => exact absurd hj (by simp)) hA (n1 _ (List.mem_of_getElem? (i := 285) rfl)) (n1 _ (List.mem_of_getElem? (i := 286) rfl)) (n1 _ (List.mem_of_getElem? (i := 287) rfl)) (ht _ (tb8 _ (List.mem_of_getElem? (i := 237) rfl))) (ht _ (tb1 _ (List.mem_of_getElem? (i := 7) rfl)))
set_option maxRecDepth 100000 in
theorem n_kd15 (n1 : ∀ c ∈ flatC narrow_1_1, c.before args s = true) (n2 : ∀ c ∈ flatC narrow_1_2, c.before args s = true) (n3 : ∀ c ∈ flatC narrow_1_3, c.before args s = true) (ht : ∀ w ∈ lw_tbl, w.before args s = true) (hA : ∀ a : Nat, a < s.heap.size → ¬ A a) : ∃ q : Nat × Nat × Nat, nKd "WAYS" 15 [119, 97, 121, 115] q.1 q.2.1 q.2.2 A args s :=
  n_kd (t := .string "RingDomino$Kind" 208) [119, 97, 121, 115] (by decide) (n2 _ (List.mem_of_getElem? (i := 359) rfl)) (n2 _ (List.mem_of_getElem? (i := 360) rfl)) (n2 _ (List.mem_of_getElem? (i := 361) rfl)) (n2 _ (List.mem_of_getElem? (i := 362) rfl)) (fun j hj => by
      match j, hj with
      | 0, _ => exact (n2 _ (List.mem_of_getElem? (i := 363) rfl))
      | 1, _ => exact (n2 _ (List.mem_of_getElem? (i := 364) rfl))
      | 2, _ => exact (n2 _ (List.mem_of_getElem? (i := 365) rfl))
      | 3, _ => exact (n2 _ (List.mem_of_getElem? (i := 366) rfl))
      | j + 4, hj => exact absurd hj (by simp)) hA (n1 _ (List.mem_of_getElem? (i := 157) rfl)) (n1 _ (List.mem_of_getElem? (i := 158) rfl)) (n1 _ (List.mem_of_getElem? (i := 159) rfl)) (ht _ (tb3 _ (List.mem_of_getElem? (i := 75) rfl))) (ht _ (tb1 _ (List.mem_of_getElem? (i := 7) rfl)))
set_option maxRecDepth 100000 in
theorem n_kd16 (n1 : ∀ c ∈ flatC narrow_1_1, c.before args s = true) (n2 : ∀ c ∈ flatC narrow_1_2, c.before args s = true) (n3 : ∀ c ∈ flatC narrow_1_3, c.before args s = true) (ht : ∀ w ∈ lw_tbl, w.before args s = true) (hA : ∀ a : Nat, a < s.heap.size → ¬ A a) : ∃ q : Nat × Nat × Nat, nKd "OF" 16 [111, 102] q.1 q.2.1 q.2.2 A args s :=
  n_kd (t := .string "RingDomino$Kind" 211) [111, 102] (by decide) (n2 _ (List.mem_of_getElem? (i := 367) rfl)) (n2 _ (List.mem_of_getElem? (i := 368) rfl)) (n2 _ (List.mem_of_getElem? (i := 369) rfl)) (n2 _ (List.mem_of_getElem? (i := 370) rfl)) (fun j hj => by
      match j, hj with
      | 0, _ => exact (n2 _ (List.mem_of_getElem? (i := 371) rfl))
      | 1, _ => exact (n2 _ (List.mem_of_getElem? (i := 372) rfl))
      | j + 2, hj => exact absurd hj (by simp)) hA (n1 _ (List.mem_of_getElem? (i := 160) rfl)) (n1 _ (List.mem_of_getElem? (i := 161) rfl)) (n1 _ (List.mem_of_getElem? (i := 162) rfl)) (ht _ (tb3 _ (List.mem_of_getElem? (i := 77) rfl))) (ht _ (tb1 _ (List.mem_of_getElem? (i := 7) rfl)))
set_option maxRecDepth 100000 in
theorem n_kd17 (n1 : ∀ c ∈ flatC narrow_1_1, c.before args s = true) (n2 : ∀ c ∈ flatC narrow_1_2, c.before args s = true) (n3 : ∀ c ∈ flatC narrow_1_3, c.before args s = true) (ht : ∀ w ∈ lw_tbl, w.before args s = true) (hA : ∀ a : Nat, a < s.heap.size → ¬ A a) : ∃ q : Nat × Nat × Nat, nKd "ON" 17 [111, 110] q.1 q.2.1 q.2.2 A args s :=
  n_kd (t := .string "RingDomino$Kind" 214) [111, 110] (by decide) (n3 _ (List.mem_of_getElem? (i := 348) rfl)) (n3 _ (List.mem_of_getElem? (i := 349) rfl)) (n3 _ (List.mem_of_getElem? (i := 350) rfl)) (n3 _ (List.mem_of_getElem? (i := 351) rfl)) (fun j hj => by
      match j, hj with
      | 0, _ => exact (n3 _ (List.mem_of_getElem? (i := 352) rfl))
      | 1, _ => exact (n3 _ (List.mem_of_getElem? (i := 353) rfl))
      | j + 2, hj => exact absurd hj (by simp)) hA (n1 _ (List.mem_of_getElem? (i := 288) rfl)) (n1 _ (List.mem_of_getElem? (i := 289) rfl)) (n1 _ (List.mem_of_getElem? (i := 290) rfl)) (ht _ (tb8 _ (List.mem_of_getElem? (i := 238) rfl))) (ht _ (tb1 _ (List.mem_of_getElem? (i := 7) rfl)))
set_option maxRecDepth 100000 in
theorem n_kd18 (n1 : ∀ c ∈ flatC narrow_1_1, c.before args s = true) (n2 : ∀ c ∈ flatC narrow_1_2, c.before args s = true) (n3 : ∀ c ∈ flatC narrow_1_3, c.before args s = true) (ht : ∀ w ∈ lw_tbl, w.before args s = true) (hA : ∀ a : Nat, a < s.heap.size → ¬ A a) : ∃ q : Nat × Nat × Nat, nKd "FITS" 18 [102, 105, 116, 115] q.1 q.2.1 q.2.2 A args s :=
  n_kd (t := .string "RingDomino$Kind" 217) [102, 105, 116, 115] (by decide) (n3 _ (List.mem_of_getElem? (i := 355) rfl)) (n3 _ (List.mem_of_getElem? (i := 356) rfl)) (n3 _ (List.mem_of_getElem? (i := 357) rfl)) (n3 _ (List.mem_of_getElem? (i := 358) rfl)) (fun j hj => by
      match j, hj with
      | 0, _ => exact (n3 _ (List.mem_of_getElem? (i := 359) rfl))
      | 1, _ => exact (n3 _ (List.mem_of_getElem? (i := 360) rfl))
      | 2, _ => exact (n3 _ (List.mem_of_getElem? (i := 361) rfl))
      | 3, _ => exact (n3 _ (List.mem_of_getElem? (i := 362) rfl))
      | j + 4, hj => exact absurd hj (by simp)) hA (n1 _ (List.mem_of_getElem? (i := 291) rfl)) (n1 _ (List.mem_of_getElem? (i := 292) rfl)) (n1 _ (List.mem_of_getElem? (i := 293) rfl)) (ht _ (tb8 _ (List.mem_of_getElem? (i := 239) rfl))) (ht _ (tb1 _ (List.mem_of_getElem? (i := 7) rfl)))
set_option maxRecDepth 100000 in
theorem n_kd19 (n1 : ∀ c ∈ flatC narrow_1_1, c.before args s = true) (n2 : ∀ c ∈ flatC narrow_1_2, c.before args s = true) (n3 : ∀ c ∈ flatC narrow_1_3, c.before args s = true) (ht : ∀ w ∈ lw_tbl, w.before args s = true) (hA : ∀ a : Nat, a < s.heap.size → ¬ A a) : ∃ q : Nat × Nat × Nat, nKd "NOT" 19 [110, 111, 116] q.1 q.2.1 q.2.2 A args s :=
  n_kd (t := .string "RingDomino$Kind" 220) [110, 111, 116] (by decide) (n3 _ (List.mem_of_getElem? (i := 26) rfl)) (n3 _ (List.mem_of_getElem? (i := 27) rfl)) (n3 _ (List.mem_of_getElem? (i := 28) rfl)) (n3 _ (List.mem_of_getElem? (i := 29) rfl)) (fun j hj => by
      match j, hj with
      | 0, _ => exact (n3 _ (List.mem_of_getElem? (i := 30) rfl))
      | 1, _ => exact (n3 _ (List.mem_of_getElem? (i := 31) rfl))
      | 2, _ => exact (n3 _ (List.mem_of_getElem? (i := 32) rfl))
      | j + 3, hj => exact absurd hj (by simp)) hA (n1 _ (List.mem_of_getElem? (i := 193) rfl)) (n1 _ (List.mem_of_getElem? (i := 194) rfl)) (n1 _ (List.mem_of_getElem? (i := 195) rfl)) (ht _ (tb3 _ (List.mem_of_getElem? (i := 115) rfl))) (ht _ (tb1 _ (List.mem_of_getElem? (i := 7) rfl)))
set_option maxRecDepth 100000 in
theorem n_kd20 (n1 : ∀ c ∈ flatC narrow_1_1, c.before args s = true) (n2 : ∀ c ∈ flatC narrow_1_2, c.before args s = true) (n3 : ∀ c ∈ flatC narrow_1_3, c.before args s = true) (ht : ∀ w ∈ lw_tbl, w.before args s = true) (hA : ∀ a : Nat, a < s.heap.size → ¬ A a) : ∃ q : Nat × Nat × Nat, nKd "AND" 20 [97, 110, 100] q.1 q.2.1 q.2.2 A args s :=
  n_kd (t := .string "RingDomino$Kind" 223) [97, 110, 100] (by decide) (n3 _ (List.mem_of_getElem? (i := 70) rfl)) (n3 _ (List.mem_of_getElem? (i := 71) rfl)) (n3 _ (List.mem_of_getElem? (i := 72) rfl)) (n3 _ (List.mem_of_getElem? (i := 73) rfl)) (fun j hj => by
      match j, hj with
      | 0, _ => exact (n3 _ (List.mem_of_getElem? (i := 74) rfl))
      | 1, _ => exact (n3 _ (List.mem_of_getElem? (i := 75) rfl))
      | 2, _ => exact (n3 _ (List.mem_of_getElem? (i := 76) rfl))
      | j + 3, hj => exact absurd hj (by simp)) hA (n1 _ (List.mem_of_getElem? (i := 217) rfl)) (n1 _ (List.mem_of_getElem? (i := 218) rfl)) (n1 _ (List.mem_of_getElem? (i := 219) rfl)) (ht _ (tb3 _ (List.mem_of_getElem? (i := 131) rfl))) (ht _ (tb1 _ (List.mem_of_getElem? (i := 7) rfl)))
set_option maxRecDepth 100000 in
theorem n_kd21 (n1 : ∀ c ∈ flatC narrow_1_1, c.before args s = true) (n2 : ∀ c ∈ flatC narrow_1_2, c.before args s = true) (n3 : ∀ c ∈ flatC narrow_1_3, c.before args s = true) (ht : ∀ w ∈ lw_tbl, w.before args s = true) (hA : ∀ a : Nat, a < s.heap.size → ¬ A a) : ∃ q : Nat × Nat × Nat, nKd "OR" 21 [111, 114] q.1 q.2.1 q.2.2 A args s :=
  n_kd (t := .string "RingDomino$Kind" 226) [111, 114] (by decide) (n3 _ (List.mem_of_getElem? (i := 77) rfl)) (n3 _ (List.mem_of_getElem? (i := 78) rfl)) (n3 _ (List.mem_of_getElem? (i := 79) rfl)) (n3 _ (List.mem_of_getElem? (i := 80) rfl)) (fun j hj => by
      match j, hj with
      | 0, _ => exact (n3 _ (List.mem_of_getElem? (i := 81) rfl))
      | 1, _ => exact (n3 _ (List.mem_of_getElem? (i := 82) rfl))
      | j + 2, hj => exact absurd hj (by simp)) hA (n1 _ (List.mem_of_getElem? (i := 220) rfl)) (n1 _ (List.mem_of_getElem? (i := 221) rfl)) (n1 _ (List.mem_of_getElem? (i := 222) rfl)) (ht _ (tb3 _ (List.mem_of_getElem? (i := 133) rfl))) (ht _ (tb1 _ (List.mem_of_getElem? (i := 7) rfl)))
set_option maxRecDepth 100000 in
theorem n_kd22 (n1 : ∀ c ∈ flatC narrow_1_1, c.before args s = true) (n2 : ∀ c ∈ flatC narrow_1_2, c.before args s = true) (n3 : ∀ c ∈ flatC narrow_1_3, c.before args s = true) (ht : ∀ w ∈ lw_tbl, w.before args s = true) (hA : ∀ a : Nat, a < s.heap.size → ¬ A a) : ∃ q : Nat × Nat × Nat, nKd "MIN" 22 [109, 105, 110] q.1 q.2.1 q.2.2 A args s :=
  n_kd (t := .string "RingDomino$Kind" 229) [109, 105, 110] (by decide) (n3 _ (List.mem_of_getElem? (i := 364) rfl)) (n3 _ (List.mem_of_getElem? (i := 365) rfl)) (n3 _ (List.mem_of_getElem? (i := 366) rfl)) (n3 _ (List.mem_of_getElem? (i := 367) rfl)) (fun j hj => by
      match j, hj with
      | 0, _ => exact (n3 _ (List.mem_of_getElem? (i := 368) rfl))
      | 1, _ => exact (n3 _ (List.mem_of_getElem? (i := 369) rfl))
      | 2, _ => exact (n3 _ (List.mem_of_getElem? (i := 370) rfl))
      | j + 3, hj => exact absurd hj (by simp)) hA (n1 _ (List.mem_of_getElem? (i := 294) rfl)) (n1 _ (List.mem_of_getElem? (i := 295) rfl)) (n1 _ (List.mem_of_getElem? (i := 296) rfl)) (ht _ (tb9 _ (List.mem_of_getElem? (i := 0) rfl))) (ht _ (tb1 _ (List.mem_of_getElem? (i := 7) rfl)))
set_option maxRecDepth 100000 in
theorem n_kd23 (n1 : ∀ c ∈ flatC narrow_1_1, c.before args s = true) (n2 : ∀ c ∈ flatC narrow_1_2, c.before args s = true) (n3 : ∀ c ∈ flatC narrow_1_3, c.before args s = true) (ht : ∀ w ∈ lw_tbl, w.before args s = true) (hA : ∀ a : Nat, a < s.heap.size → ¬ A a) : ∃ q : Nat × Nat × Nat, nKd "MAX" 23 [109, 97, 120] q.1 q.2.1 q.2.2 A args s :=
  n_kd (t := .string "RingDomino$Kind" 232) [109, 97, 120] (by decide) (n3 _ (List.mem_of_getElem? (i := 372) rfl)) (n3 _ (List.mem_of_getElem? (i := 373) rfl)) (n3 _ (List.mem_of_getElem? (i := 374) rfl)) (n3 _ (List.mem_of_getElem? (i := 375) rfl)) (fun j hj => by
      match j, hj with
      | 0, _ => exact (n3 _ (List.mem_of_getElem? (i := 376) rfl))
      | 1, _ => exact (n3 _ (List.mem_of_getElem? (i := 377) rfl))
      | 2, _ => exact (n3 _ (List.mem_of_getElem? (i := 378) rfl))
      | j + 3, hj => exact absurd hj (by simp)) hA (n1 _ (List.mem_of_getElem? (i := 297) rfl)) (n1 _ (List.mem_of_getElem? (i := 298) rfl)) (n1 _ (List.mem_of_getElem? (i := 299) rfl)) (ht _ (tb9 _ (List.mem_of_getElem? (i := 1) rfl))) (ht _ (tb1 _ (List.mem_of_getElem? (i := 7) rfl)))
set_option maxRecDepth 100000 in
theorem n_kd24 (n1 : ∀ c ∈ flatC narrow_1_1, c.before args s = true) (n2 : ∀ c ∈ flatC narrow_1_2, c.before args s = true) (n3 : ∀ c ∈ flatC narrow_1_3, c.before args s = true) (ht : ∀ w ∈ lw_tbl, w.before args s = true) (hA : ∀ a : Nat, a < s.heap.size → ¬ A a) : ∃ q : Nat × Nat × Nat, nKd "OPEN" 24 [40] q.1 q.2.1 q.2.2 A args s :=
  n_kd (t := .string "RingDomino$Kind" 235) [40] (by decide) (n2 _ (List.mem_of_getElem? (i := 378) rfl)) (n2 _ (List.mem_of_getElem? (i := 379) rfl)) (n2 _ (List.mem_of_getElem? (i := 380) rfl)) (n2 _ (List.mem_of_getElem? (i := 381) rfl)) (fun j hj => by
      match j, hj with
      | 0, _ => exact (n2 _ (List.mem_of_getElem? (i := 382) rfl))
      | j + 1, hj => exact absurd hj (by simp)) hA (n1 _ (List.mem_of_getElem? (i := 169) rfl)) (n1 _ (List.mem_of_getElem? (i := 170) rfl)) (n1 _ (List.mem_of_getElem? (i := 171) rfl)) (ht _ (tb3 _ (List.mem_of_getElem? (i := 83) rfl))) (ht _ (tb1 _ (List.mem_of_getElem? (i := 7) rfl)))
set_option maxRecDepth 100000 in
theorem n_kd25 (n1 : ∀ c ∈ flatC narrow_1_1, c.before args s = true) (n2 : ∀ c ∈ flatC narrow_1_2, c.before args s = true) (n3 : ∀ c ∈ flatC narrow_1_3, c.before args s = true) (ht : ∀ w ∈ lw_tbl, w.before args s = true) (hA : ∀ a : Nat, a < s.heap.size → ¬ A a) : ∃ q : Nat × Nat × Nat, nKd "CLOSE" 25 [41] q.1 q.2.1 q.2.2 A args s :=
  n_kd (t := .string "RingDomino$Kind" 238) [41] (by decide) (n2 _ (List.mem_of_getElem? (i := 383) rfl)) (n2 _ (List.mem_of_getElem? (i := 384) rfl)) (n2 _ (List.mem_of_getElem? (i := 385) rfl)) (n2 _ (List.mem_of_getElem? (i := 386) rfl)) (fun j hj => by
      match j, hj with
      | 0, _ => exact (n2 _ (List.mem_of_getElem? (i := 387) rfl))
      | j + 1, hj => exact absurd hj (by simp)) hA (n1 _ (List.mem_of_getElem? (i := 172) rfl)) (n1 _ (List.mem_of_getElem? (i := 173) rfl)) (n1 _ (List.mem_of_getElem? (i := 174) rfl)) (ht _ (tb3 _ (List.mem_of_getElem? (i := 85) rfl))) (ht _ (tb1 _ (List.mem_of_getElem? (i := 7) rfl)))
set_option maxRecDepth 100000 in
theorem n_kd26 (n1 : ∀ c ∈ flatC narrow_1_1, c.before args s = true) (n2 : ∀ c ∈ flatC narrow_1_2, c.before args s = true) (n3 : ∀ c ∈ flatC narrow_1_3, c.before args s = true) (ht : ∀ w ∈ lw_tbl, w.before args s = true) (hA : ∀ a : Nat, a < s.heap.size → ¬ A a) : ∃ q : Nat × Nat × Nat, nKd "OPEN_TEST" 26 [91] q.1 q.2.1 q.2.2 A args s :=
  n_kd (t := .string "RingDomino$Kind" 241) [91] (by decide) (n3 _ (List.mem_of_getElem? (i := 33) rfl)) (n3 _ (List.mem_of_getElem? (i := 34) rfl)) (n3 _ (List.mem_of_getElem? (i := 35) rfl)) (n3 _ (List.mem_of_getElem? (i := 36) rfl)) (fun j hj => by
      match j, hj with
      | 0, _ => exact (n3 _ (List.mem_of_getElem? (i := 37) rfl))
      | j + 1, hj => exact absurd hj (by simp)) hA (n1 _ (List.mem_of_getElem? (i := 196) rfl)) (n1 _ (List.mem_of_getElem? (i := 197) rfl)) (n1 _ (List.mem_of_getElem? (i := 198) rfl)) (ht _ (tb3 _ (List.mem_of_getElem? (i := 117) rfl))) (ht _ (tb1 _ (List.mem_of_getElem? (i := 7) rfl)))
set_option maxRecDepth 100000 in
theorem n_kd27 (n1 : ∀ c ∈ flatC narrow_1_1, c.before args s = true) (n2 : ∀ c ∈ flatC narrow_1_2, c.before args s = true) (n3 : ∀ c ∈ flatC narrow_1_3, c.before args s = true) (ht : ∀ w ∈ lw_tbl, w.before args s = true) (hA : ∀ a : Nat, a < s.heap.size → ¬ A a) : ∃ q : Nat × Nat × Nat, nKd "CLOSE_TEST" 27 [93] q.1 q.2.1 q.2.2 A args s :=
  n_kd (t := .string "RingDomino$Kind" 244) [93] (by decide) (n3 _ (List.mem_of_getElem? (i := 38) rfl)) (n3 _ (List.mem_of_getElem? (i := 39) rfl)) (n3 _ (List.mem_of_getElem? (i := 40) rfl)) (n3 _ (List.mem_of_getElem? (i := 41) rfl)) (fun j hj => by
      match j, hj with
      | 0, _ => exact (n3 _ (List.mem_of_getElem? (i := 42) rfl))
      | j + 1, hj => exact absurd hj (by simp)) hA (n1 _ (List.mem_of_getElem? (i := 199) rfl)) (n1 _ (List.mem_of_getElem? (i := 200) rfl)) (n1 _ (List.mem_of_getElem? (i := 201) rfl)) (ht _ (tb3 _ (List.mem_of_getElem? (i := 119) rfl))) (ht _ (tb1 _ (List.mem_of_getElem? (i := 7) rfl)))
set_option maxRecDepth 100000 in
theorem n_kd28 (n1 : ∀ c ∈ flatC narrow_1_1, c.before args s = true) (n2 : ∀ c ∈ flatC narrow_1_2, c.before args s = true) (n3 : ∀ c ∈ flatC narrow_1_3, c.before args s = true) (ht : ∀ w ∈ lw_tbl, w.before args s = true) (hA : ∀ a : Nat, a < s.heap.size → ¬ A a) : ∃ q : Nat × Nat × Nat, nKd "SEMICOLON" 28 [59] q.1 q.2.1 q.2.2 A args s :=
  n_kd (t := .string "RingDomino$Kind" 247) [59] (by decide) (n2 _ (List.mem_of_getElem? (i := 318) rfl)) (n2 _ (List.mem_of_getElem? (i := 319) rfl)) (n2 _ (List.mem_of_getElem? (i := 320) rfl)) (n2 _ (List.mem_of_getElem? (i := 321) rfl)) (fun j hj => by
      match j, hj with
      | 0, _ => exact (n2 _ (List.mem_of_getElem? (i := 322) rfl))
      | j + 1, hj => exact absurd hj (by simp)) hA (n1 _ (List.mem_of_getElem? (i := 92) rfl)) (n1 _ (List.mem_of_getElem? (i := 93) rfl)) (n1 _ (List.mem_of_getElem? (i := 94) rfl)) (ht _ (tb3 _ (List.mem_of_getElem? (i := 26) rfl))) (ht _ (tb1 _ (List.mem_of_getElem? (i := 7) rfl)))
set_option maxRecDepth 100000 in
theorem n_kd29 (n1 : ∀ c ∈ flatC narrow_1_1, c.before args s = true) (n2 : ∀ c ∈ flatC narrow_1_2, c.before args s = true) (n3 : ∀ c ∈ flatC narrow_1_3, c.before args s = true) (ht : ∀ w ∈ lw_tbl, w.before args s = true) (hA : ∀ a : Nat, a < s.heap.size → ¬ A a) : ∃ q : Nat × Nat × Nat, nKd "COMMA" 29 [44] q.1 q.2.1 q.2.2 A args s :=
  n_kd (t := .string "RingDomino$Kind" 250) [44] (by decide) (n2 _ (List.mem_of_getElem? (i := 388) rfl)) (n2 _ (List.mem_of_getElem? (i := 389) rfl)) (n2 _ (List.mem_of_getElem? (i := 390) rfl)) (n2 _ (List.mem_of_getElem? (i := 391) rfl)) (fun j hj => by
      match j, hj with
      | 0, _ => exact (n2 _ (List.mem_of_getElem? (i := 392) rfl))
      | j + 1, hj => exact absurd hj (by simp)) hA (n1 _ (List.mem_of_getElem? (i := 175) rfl)) (n1 _ (List.mem_of_getElem? (i := 176) rfl)) (n1 _ (List.mem_of_getElem? (i := 177) rfl)) (ht _ (tb3 _ (List.mem_of_getElem? (i := 87) rfl))) (ht _ (tb1 _ (List.mem_of_getElem? (i := 7) rfl)))
set_option maxRecDepth 100000 in
theorem n_kd30 (n1 : ∀ c ∈ flatC narrow_1_1, c.before args s = true) (n2 : ∀ c ∈ flatC narrow_1_2, c.before args s = true) (n3 : ∀ c ∈ flatC narrow_1_3, c.before args s = true) (ht : ∀ w ∈ lw_tbl, w.before args s = true) (hA : ∀ a : Nat, a < s.heap.size → ¬ A a) : ∃ q : Nat × Nat × Nat, nKd "PLUS" 30 [43] q.1 q.2.1 q.2.2 A args s :=
  n_kd (t := .string "RingDomino$Kind" 253) [43] (by decide) (n3 _ (List.mem_of_getElem? (i := 3) rfl)) (n3 _ (List.mem_of_getElem? (i := 4) rfl)) (n3 _ (List.mem_of_getElem? (i := 5) rfl)) (n3 _ (List.mem_of_getElem? (i := 6) rfl)) (fun j hj => by
      match j, hj with
      | 0, _ => exact (n3 _ (List.mem_of_getElem? (i := 7) rfl))
      | j + 1, hj => exact absurd hj (by simp)) hA (n1 _ (List.mem_of_getElem? (i := 184) rfl)) (n1 _ (List.mem_of_getElem? (i := 185) rfl)) (n1 _ (List.mem_of_getElem? (i := 186) rfl)) (ht _ (tb3 _ (List.mem_of_getElem? (i := 93) rfl))) (ht _ (tb1 _ (List.mem_of_getElem? (i := 7) rfl)))
set_option maxRecDepth 100000 in
theorem n_kd31 (n1 : ∀ c ∈ flatC narrow_1_1, c.before args s = true) (n2 : ∀ c ∈ flatC narrow_1_2, c.before args s = true) (n3 : ∀ c ∈ flatC narrow_1_3, c.before args s = true) (ht : ∀ w ∈ lw_tbl, w.before args s = true) (hA : ∀ a : Nat, a < s.heap.size → ¬ A a) : ∃ q : Nat × Nat × Nat, nKd "MINUS" 31 [45] q.1 q.2.1 q.2.2 A args s :=
  n_kd (t := .string "RingDomino$Kind" 256) [45] (by decide) (n2 _ (List.mem_of_getElem? (i := 373) rfl)) (n2 _ (List.mem_of_getElem? (i := 374) rfl)) (n2 _ (List.mem_of_getElem? (i := 375) rfl)) (n2 _ (List.mem_of_getElem? (i := 376) rfl)) (fun j hj => by
      match j, hj with
      | 0, _ => exact (n2 _ (List.mem_of_getElem? (i := 377) rfl))
      | j + 1, hj => exact absurd hj (by simp)) hA (n1 _ (List.mem_of_getElem? (i := 163) rfl)) (n1 _ (List.mem_of_getElem? (i := 164) rfl)) (n1 _ (List.mem_of_getElem? (i := 165) rfl)) (ht _ (tb3 _ (List.mem_of_getElem? (i := 79) rfl))) (ht _ (tb1 _ (List.mem_of_getElem? (i := 7) rfl)))
set_option maxRecDepth 100000 in
theorem n_kd32 (n1 : ∀ c ∈ flatC narrow_1_1, c.before args s = true) (n2 : ∀ c ∈ flatC narrow_1_2, c.before args s = true) (n3 : ∀ c ∈ flatC narrow_1_3, c.before args s = true) (ht : ∀ w ∈ lw_tbl, w.before args s = true) (hA : ∀ a : Nat, a < s.heap.size → ¬ A a) : ∃ q : Nat × Nat × Nat, nKd "TIMES" 32 [42] q.1 q.2.1 q.2.2 A args s :=
  n_kd (t := .string "RingDomino$Kind" 259) [42] (by decide) (n2 _ (List.mem_of_getElem? (i := 393) rfl)) (n2 _ (List.mem_of_getElem? (i := 394) rfl)) (n2 _ (List.mem_of_getElem? (i := 395) rfl)) (n2 _ (List.mem_of_getElem? (i := 396) rfl)) (fun j hj => by
      match j, hj with
      | 0, _ => exact (n2 _ (List.mem_of_getElem? (i := 397) rfl))
      | j + 1, hj => exact absurd hj (by simp)) hA (n1 _ (List.mem_of_getElem? (i := 178) rfl)) (n1 _ (List.mem_of_getElem? (i := 179) rfl)) (n1 _ (List.mem_of_getElem? (i := 180) rfl)) (ht _ (tb3 _ (List.mem_of_getElem? (i := 89) rfl))) (ht _ (tb1 _ (List.mem_of_getElem? (i := 7) rfl)))
set_option maxRecDepth 100000 in
theorem n_kd33 (n1 : ∀ c ∈ flatC narrow_1_1, c.before args s = true) (n2 : ∀ c ∈ flatC narrow_1_2, c.before args s = true) (n3 : ∀ c ∈ flatC narrow_1_3, c.before args s = true) (ht : ∀ w ∈ lw_tbl, w.before args s = true) (hA : ∀ a : Nat, a < s.heap.size → ¬ A a) : ∃ q : Nat × Nat × Nat, nKd "OVER" 33 [47] q.1 q.2.1 q.2.2 A args s :=
  n_kd (t := .string "RingDomino$Kind" 262) [47] (by decide) (n2 _ (List.mem_of_getElem? (i := 398) rfl)) (n2 _ (List.mem_of_getElem? (i := 399) rfl)) (n3 _ (List.mem_of_getElem? (i := 0) rfl)) (n3 _ (List.mem_of_getElem? (i := 1) rfl)) (fun j hj => by
      match j, hj with
      | 0, _ => exact (n3 _ (List.mem_of_getElem? (i := 2) rfl))
      | j + 1, hj => exact absurd hj (by simp)) hA (n1 _ (List.mem_of_getElem? (i := 181) rfl)) (n1 _ (List.mem_of_getElem? (i := 182) rfl)) (n1 _ (List.mem_of_getElem? (i := 183) rfl)) (ht _ (tb3 _ (List.mem_of_getElem? (i := 91) rfl))) (ht _ (tb1 _ (List.mem_of_getElem? (i := 7) rfl)))
set_option maxRecDepth 100000 in
theorem n_kd34 (n1 : ∀ c ∈ flatC narrow_1_1, c.before args s = true) (n2 : ∀ c ∈ flatC narrow_1_2, c.before args s = true) (n3 : ∀ c ∈ flatC narrow_1_3, c.before args s = true) (ht : ∀ w ∈ lw_tbl, w.before args s = true) (hA : ∀ a : Nat, a < s.heap.size → ¬ A a) : ∃ q : Nat × Nat × Nat, nKd "LESS" 34 [60] q.1 q.2.1 q.2.2 A args s :=
  n_kd (t := .string "RingDomino$Kind" 265) [60] (by decide) (n3 _ (List.mem_of_getElem? (i := 43) rfl)) (n3 _ (List.mem_of_getElem? (i := 44) rfl)) (n3 _ (List.mem_of_getElem? (i := 45) rfl)) (n3 _ (List.mem_of_getElem? (i := 46) rfl)) (fun j hj => by
      match j, hj with
      | 0, _ => exact (n3 _ (List.mem_of_getElem? (i := 47) rfl))
      | j + 1, hj => exact absurd hj (by simp)) hA (n1 _ (List.mem_of_getElem? (i := 202) rfl)) (n1 _ (List.mem_of_getElem? (i := 203) rfl)) (n1 _ (List.mem_of_getElem? (i := 204) rfl)) (ht _ (tb3 _ (List.mem_of_getElem? (i := 121) rfl))) (ht _ (tb1 _ (List.mem_of_getElem? (i := 7) rfl)))
set_option maxRecDepth 100000 in
theorem n_kd35 (n1 : ∀ c ∈ flatC narrow_1_1, c.before args s = true) (n2 : ∀ c ∈ flatC narrow_1_2, c.before args s = true) (n3 : ∀ c ∈ flatC narrow_1_3, c.before args s = true) (ht : ∀ w ∈ lw_tbl, w.before args s = true) (hA : ∀ a : Nat, a < s.heap.size → ¬ A a) : ∃ q : Nat × Nat × Nat, nKd "MORE" 35 [62] q.1 q.2.1 q.2.2 A args s :=
  n_kd (t := .string "RingDomino$Kind" 268) [62] (by decide) (n3 _ (List.mem_of_getElem? (i := 48) rfl)) (n3 _ (List.mem_of_getElem? (i := 49) rfl)) (n3 _ (List.mem_of_getElem? (i := 50) rfl)) (n3 _ (List.mem_of_getElem? (i := 51) rfl)) (fun j hj => by
      match j, hj with
      | 0, _ => exact (n3 _ (List.mem_of_getElem? (i := 52) rfl))
      | j + 1, hj => exact absurd hj (by simp)) hA (n1 _ (List.mem_of_getElem? (i := 205) rfl)) (n1 _ (List.mem_of_getElem? (i := 206) rfl)) (n1 _ (List.mem_of_getElem? (i := 207) rfl)) (ht _ (tb3 _ (List.mem_of_getElem? (i := 123) rfl))) (ht _ (tb1 _ (List.mem_of_getElem? (i := 7) rfl)))
set_option maxRecDepth 100000 in
theorem n_kd36 (n1 : ∀ c ∈ flatC narrow_1_1, c.before args s = true) (n2 : ∀ c ∈ flatC narrow_1_2, c.before args s = true) (n3 : ∀ c ∈ flatC narrow_1_3, c.before args s = true) (ht : ∀ w ∈ lw_tbl, w.before args s = true) (hA : ∀ a : Nat, a < s.heap.size → ¬ A a) : ∃ q : Nat × Nat × Nat, nKd "EQUAL" 36 [61] q.1 q.2.1 q.2.2 A args s :=
  n_kd (t := .string "RingDomino$Kind" 271) [61] (by decide) (n3 _ (List.mem_of_getElem? (i := 53) rfl)) (n3 _ (List.mem_of_getElem? (i := 54) rfl)) (n3 _ (List.mem_of_getElem? (i := 55) rfl)) (n3 _ (List.mem_of_getElem? (i := 56) rfl)) (fun j hj => by
      match j, hj with
      | 0, _ => exact (n3 _ (List.mem_of_getElem? (i := 57) rfl))
      | j + 1, hj => exact absurd hj (by simp)) hA (n1 _ (List.mem_of_getElem? (i := 208) rfl)) (n1 _ (List.mem_of_getElem? (i := 209) rfl)) (n1 _ (List.mem_of_getElem? (i := 210) rfl)) (ht _ (tb3 _ (List.mem_of_getElem? (i := 125) rfl))) (ht _ (tb1 _ (List.mem_of_getElem? (i := 7) rfl)))
set_option maxRecDepth 100000 in
theorem n_kd37 (n1 : ∀ c ∈ flatC narrow_1_1, c.before args s = true) (n2 : ∀ c ∈ flatC narrow_1_2, c.before args s = true) (n3 : ∀ c ∈ flatC narrow_1_3, c.before args s = true) (ht : ∀ w ∈ lw_tbl, w.before args s = true) (hA : ∀ a : Nat, a < s.heap.size → ¬ A a) : ∃ q : Nat × Nat × Nat, nKd "AT_MOST" 37 [60, 61] q.1 q.2.1 q.2.2 A args s :=
  n_kd (t := .string "RingDomino$Kind" 274) [60, 61] (by decide) (n3 _ (List.mem_of_getElem? (i := 58) rfl)) (n3 _ (List.mem_of_getElem? (i := 59) rfl)) (n3 _ (List.mem_of_getElem? (i := 60) rfl)) (n3 _ (List.mem_of_getElem? (i := 61) rfl)) (fun j hj => by
      match j, hj with
      | 0, _ => exact (n3 _ (List.mem_of_getElem? (i := 62) rfl))
      | 1, _ => exact (n3 _ (List.mem_of_getElem? (i := 63) rfl))
      | j + 2, hj => exact absurd hj (by simp)) hA (n1 _ (List.mem_of_getElem? (i := 211) rfl)) (n1 _ (List.mem_of_getElem? (i := 212) rfl)) (n1 _ (List.mem_of_getElem? (i := 213) rfl)) (ht _ (tb3 _ (List.mem_of_getElem? (i := 127) rfl))) (ht _ (tb1 _ (List.mem_of_getElem? (i := 7) rfl)))
set_option maxRecDepth 100000 in
theorem n_kd38 (n1 : ∀ c ∈ flatC narrow_1_1, c.before args s = true) (n2 : ∀ c ∈ flatC narrow_1_2, c.before args s = true) (n3 : ∀ c ∈ flatC narrow_1_3, c.before args s = true) (ht : ∀ w ∈ lw_tbl, w.before args s = true) (hA : ∀ a : Nat, a < s.heap.size → ¬ A a) : ∃ q : Nat × Nat × Nat, nKd "AT_LEAST" 38 [62, 61] q.1 q.2.1 q.2.2 A args s :=
  n_kd (t := .string "RingDomino$Kind" 277) [62, 61] (by decide) (n3 _ (List.mem_of_getElem? (i := 64) rfl)) (n3 _ (List.mem_of_getElem? (i := 65) rfl)) (n3 _ (List.mem_of_getElem? (i := 66) rfl)) (n3 _ (List.mem_of_getElem? (i := 67) rfl)) (fun j hj => by
      match j, hj with
      | 0, _ => exact (n3 _ (List.mem_of_getElem? (i := 68) rfl))
      | 1, _ => exact (n3 _ (List.mem_of_getElem? (i := 69) rfl))
      | j + 2, hj => exact absurd hj (by simp)) hA (n1 _ (List.mem_of_getElem? (i := 214) rfl)) (n1 _ (List.mem_of_getElem? (i := 215) rfl)) (n1 _ (List.mem_of_getElem? (i := 216) rfl)) (ht _ (tb3 _ (List.mem_of_getElem? (i := 129) rfl))) (ht _ (tb1 _ (List.mem_of_getElem? (i := 7) rfl)))
set_option maxRecDepth 100000 in
theorem n_kd39 (n1 : ∀ c ∈ flatC narrow_1_1, c.before args s = true) (n2 : ∀ c ∈ flatC narrow_1_2, c.before args s = true) (n3 : ∀ c ∈ flatC narrow_1_3, c.before args s = true) (ht : ∀ w ∈ lw_tbl, w.before args s = true) (hA : ∀ a : Nat, a < s.heap.size → ¬ A a) : ∃ q : Nat × Nat × Nat, nKd "NUMBER" 39 [] q.1 q.2.1 q.2.2 A args s :=
  n_kd (t := .string "RingDomino$Kind" 280) [] (by decide) (n2 _ (List.mem_of_getElem? (i := 299) rfl)) (n2 _ (List.mem_of_getElem? (i := 300) rfl)) (n2 _ (List.mem_of_getElem? (i := 301) rfl)) (n2 _ (List.mem_of_getElem? (i := 302) rfl)) (fun j hj => by
      match j, hj with
      | j + 0, hj => exact absurd hj (by simp)) hA (n1 _ (List.mem_of_getElem? (i := 83) rfl)) (n1 _ (List.mem_of_getElem? (i := 84) rfl)) (n1 _ (List.mem_of_getElem? (i := 85) rfl)) (ht _ (tb2 _ (List.mem_of_getElem? (i := 234) rfl))) (ht _ (tb1 _ (List.mem_of_getElem? (i := 7) rfl)))
set_option maxRecDepth 100000 in
theorem n_kd40 (n1 : ∀ c ∈ flatC narrow_1_1, c.before args s = true) (n2 : ∀ c ∈ flatC narrow_1_2, c.before args s = true) (n3 : ∀ c ∈ flatC narrow_1_3, c.before args s = true) (ht : ∀ w ∈ lw_tbl, w.before args s = true) (hA : ∀ a : Nat, a < s.heap.size → ¬ A a) : ∃ q : Nat × Nat × Nat, nKd "NAME" 40 [] q.1 q.2.1 q.2.2 A args s :=
  n_kd (t := .string "RingDomino$Kind" 280) [] (by decide) (n2 _ (List.mem_of_getElem? (i := 299) rfl)) (n2 _ (List.mem_of_getElem? (i := 300) rfl)) (n2 _ (List.mem_of_getElem? (i := 301) rfl)) (n2 _ (List.mem_of_getElem? (i := 302) rfl)) (fun j hj => by
      match j, hj with
      | j + 0, hj => exact absurd hj (by simp)) hA (n1 _ (List.mem_of_getElem? (i := 26) rfl)) (n1 _ (List.mem_of_getElem? (i := 27) rfl)) (n1 _ (List.mem_of_getElem? (i := 28) rfl)) (ht _ (tb2 _ (List.mem_of_getElem? (i := 174) rfl))) (ht _ (tb1 _ (List.mem_of_getElem? (i := 7) rfl)))
set_option maxRecDepth 100000 in
theorem n_kd41 (n1 : ∀ c ∈ flatC narrow_1_1, c.before args s = true) (n2 : ∀ c ∈ flatC narrow_1_2, c.before args s = true) (n3 : ∀ c ∈ flatC narrow_1_3, c.before args s = true) (ht : ∀ w ∈ lw_tbl, w.before args s = true) (hA : ∀ a : Nat, a < s.heap.size → ¬ A a) : ∃ q : Nat × Nat × Nat, nKd "END" 41 [] q.1 q.2.1 q.2.2 A args s :=
  n_kd (t := .string "RingDomino$Kind" 280) [] (by decide) (n2 _ (List.mem_of_getElem? (i := 299) rfl)) (n2 _ (List.mem_of_getElem? (i := 300) rfl)) (n2 _ (List.mem_of_getElem? (i := 301) rfl)) (n2 _ (List.mem_of_getElem? (i := 302) rfl)) (fun j hj => by
      match j, hj with
      | j + 0, hj => exact absurd hj (by simp)) hA (n1 _ (List.mem_of_getElem? (i := 2) rfl)) (n1 _ (List.mem_of_getElem? (i := 3) rfl)) (n1 _ (List.mem_of_getElem? (i := 4) rfl)) (ht _ (tb1 _ (List.mem_of_getElem? (i := 98) rfl))) (ht _ (tb1 _ (List.mem_of_getElem? (i := 7) rfl)))
set_option maxRecDepth 100000 in
theorem n_kd42 (n1 : ∀ c ∈ flatC narrow_1_1, c.before args s = true) (n2 : ∀ c ∈ flatC narrow_1_2, c.before args s = true) (n3 : ∀ c ∈ flatC narrow_1_3, c.before args s = true) (ht : ∀ w ∈ lw_tbl, w.before args s = true) (hA : ∀ a : Nat, a < s.heap.size → ¬ A a) : ∃ q : Nat × Nat × Nat, nKd "WRONG" 42 [] q.1 q.2.1 q.2.2 A args s :=
  n_kd (t := .string "RingDomino$Kind" 280) [] (by decide) (n2 _ (List.mem_of_getElem? (i := 299) rfl)) (n2 _ (List.mem_of_getElem? (i := 300) rfl)) (n2 _ (List.mem_of_getElem? (i := 301) rfl)) (n2 _ (List.mem_of_getElem? (i := 302) rfl)) (fun j hj => by
      match j, hj with
      | j + 0, hj => exact absurd hj (by simp)) hA (n1 _ (List.mem_of_getElem? (i := 23) rfl)) (n1 _ (List.mem_of_getElem? (i := 24) rfl)) (n1 _ (List.mem_of_getElem? (i := 25) rfl)) (ht _ (tb2 _ (List.mem_of_getElem? (i := 172) rfl))) (ht _ (tb1 _ (List.mem_of_getElem? (i := 7) rfl)))
set_option maxRecDepth 100000 in
theorem n_kd43 (n1 : ∀ c ∈ flatC narrow_1_1, c.before args s = true) (n2 : ∀ c ∈ flatC narrow_1_2, c.before args s = true) (n3 : ∀ c ∈ flatC narrow_1_3, c.before args s = true) (ht : ∀ w ∈ lw_tbl, w.before args s = true) (hA : ∀ a : Nat, a < s.heap.size → ¬ A a) : ∃ q : Nat × Nat × Nat, nKd "NEGATE" 43 [] q.1 q.2.1 q.2.2 A args s :=
  n_kd (t := .string "RingDomino$Kind" 280) [] (by decide) (n2 _ (List.mem_of_getElem? (i := 299) rfl)) (n2 _ (List.mem_of_getElem? (i := 300) rfl)) (n2 _ (List.mem_of_getElem? (i := 301) rfl)) (n2 _ (List.mem_of_getElem? (i := 302) rfl)) (fun j hj => by
      match j, hj with
      | j + 0, hj => exact absurd hj (by simp)) hA (n1 _ (List.mem_of_getElem? (i := 166) rfl)) (n1 _ (List.mem_of_getElem? (i := 167) rfl)) (n1 _ (List.mem_of_getElem? (i := 168) rfl)) (ht _ (tb3 _ (List.mem_of_getElem? (i := 81) rfl))) (ht _ (tb1 _ (List.mem_of_getElem? (i := 7) rfl)))
theorem n_kinds (n1 : ∀ c ∈ flatC narrow_1_1, c.before args s = true) (n2 : ∀ c ∈ flatC narrow_1_2, c.before args s = true) (n3 : ∀ c ∈ flatC narrow_1_3, c.before args s = true) (ht : ∀ w ∈ lw_tbl, w.before args s = true) (hA : ∀ a : Nat, a < s.heap.size → ¬ A a) : ∃ f : Nat → Nat × Nat × Nat, ∀ k, k < 44 → nKd (eKn.getD k "") (eOrd.getD k 0) (eKtx.getD k []) (f k).1 (f k).2.1 (f k).2.2 A args s := by
  refine n_all (P := fun k (q : Nat × Nat × Nat) => nKd (eKn.getD k "") (eOrd.getD k 0) (eKtx.getD k []) q.1 q.2.1 q.2.2 A args s) (0, 0, 0) (fun k hk => ?_)
  match k, hk with
  | 0, _ => exact n_kd0 n1 n2 n3 ht hA
  | 1, _ => exact n_kd1 n1 n2 n3 ht hA
  | 2, _ => exact n_kd2 n1 n2 n3 ht hA
  | 3, _ => exact n_kd3 n1 n2 n3 ht hA
  | 4, _ => exact n_kd4 n1 n2 n3 ht hA
  | 5, _ => exact n_kd5 n1 n2 n3 ht hA
  | 6, _ => exact n_kd6 n1 n2 n3 ht hA
  | 7, _ => exact n_kd7 n1 n2 n3 ht hA
  | 8, _ => exact n_kd8 n1 n2 n3 ht hA
  | 9, _ => exact n_kd9 n1 n2 n3 ht hA
  | 10, _ => exact n_kd10 n1 n2 n3 ht hA
  | 11, _ => exact n_kd11 n1 n2 n3 ht hA
  | 12, _ => exact n_kd12 n1 n2 n3 ht hA
  | 13, _ => exact n_kd13 n1 n2 n3 ht hA
  | 14, _ => exact n_kd14 n1 n2 n3 ht hA
  | 15, _ => exact n_kd15 n1 n2 n3 ht hA
  | 16, _ => exact n_kd16 n1 n2 n3 ht hA
  | 17, _ => exact n_kd17 n1 n2 n3 ht hA
  | 18, _ => exact n_kd18 n1 n2 n3 ht hA
  | 19, _ => exact n_kd19 n1 n2 n3 ht hA
  | 20, _ => exact n_kd20 n1 n2 n3 ht hA
  | 21, _ => exact n_kd21 n1 n2 n3 ht hA
  | 22, _ => exact n_kd22 n1 n2 n3 ht hA
  | 23, _ => exact n_kd23 n1 n2 n3 ht hA
  | 24, _ => exact n_kd24 n1 n2 n3 ht hA
  | 25, _ => exact n_kd25 n1 n2 n3 ht hA
  | 26, _ => exact n_kd26 n1 n2 n3 ht hA
  | 27, _ => exact n_kd27 n1 n2 n3 ht hA
  | 28, _ => exact n_kd28 n1 n2 n3 ht hA
  | 29, _ => exact n_kd29 n1 n2 n3 ht hA
  | 30, _ => exact n_kd30 n1 n2 n3 ht hA
  | 31, _ => exact n_kd31 n1 n2 n3 ht hA
  | 32, _ => exact n_kd32 n1 n2 n3 ht hA
  | 33, _ => exact n_kd33 n1 n2 n3 ht hA
  | 34, _ => exact n_kd34 n1 n2 n3 ht hA
  | 35, _ => exact n_kd35 n1 n2 n3 ht hA
  | 36, _ => exact n_kd36 n1 n2 n3 ht hA
  | 37, _ => exact n_kd37 n1 n2 n3 ht hA
  | 38, _ => exact n_kd38 n1 n2 n3 ht hA
  | 39, _ => exact n_kd39 n1 n2 n3 ht hA
  | 40, _ => exact n_kd40 n1 n2 n3 ht hA
  | 41, _ => exact n_kd41 n1 n2 n3 ht hA
  | 42, _ => exact n_kd42 n1 n2 n3 ht hA
  | 43, _ => exact n_kd43 n1 n2 n3 ht hA
  | k + 44, hk => exact absurd hk (by omega)
set_option maxRecDepth 100000 in
theorem n_wd0 (n1 : ∀ c ∈ flatC narrow_1_1, c.before args s = true) (n2 : ∀ c ∈ flatC narrow_1_2, c.before args s = true) (n3 : ∀ c ∈ flatC narrow_1_3, c.before args s = true) (ht : ∀ w ∈ lw_tbl, w.before args s = true) (hA : ∀ a : Nat, a < s.heap.size → ¬ A a) : ∃ q : Nat × Nat, (Term.string "RingDominoModel" 428).eval args s none [] s = some (.ref q.1) ∧ nStr q.1 q.2 [98, 111, 97, 114, 100] A s := by
  obtain ⟨a, v, e1, h⟩ := n_str (t := .string "RingDominoModel" 428) [98, 111, 97, 114, 100] (by decide) (n3 _ (List.mem_of_getElem? (i := 83) rfl)) (n3 _ (List.mem_of_getElem? (i := 84) rfl)) (n3 _ (List.mem_of_getElem? (i := 85) rfl)) (n3 _ (List.mem_of_getElem? (i := 86) rfl)) (fun j hj => by
      match j, hj with
      | 0, _ => exact (n3 _ (List.mem_of_getElem? (i := 87) rfl))
      | 1, _ => exact (n3 _ (List.mem_of_getElem? (i := 88) rfl))
      | 2, _ => exact (n3 _ (List.mem_of_getElem? (i := 89) rfl))
      | 3, _ => exact (n3 _ (List.mem_of_getElem? (i := 90) rfl))
      | 4, _ => exact (n3 _ (List.mem_of_getElem? (i := 91) rfl))
      | j + 5, hj => exact absurd hj (by simp)) hA
  exact ⟨(a, v), e1, h⟩
set_option maxRecDepth 100000 in
theorem n_wd1 (n1 : ∀ c ∈ flatC narrow_1_1, c.before args s = true) (n2 : ∀ c ∈ flatC narrow_1_2, c.before args s = true) (n3 : ∀ c ∈ flatC narrow_1_3, c.before args s = true) (ht : ∀ w ∈ lw_tbl, w.before args s = true) (hA : ∀ a : Nat, a < s.heap.size → ¬ A a) : ∃ q : Nat × Nat, (Term.string "RingDominoModel" 430).eval args s none [] s = some (.ref q.1) ∧ nStr q.1 q.2 [98, 121] A s := by
  obtain ⟨a, v, e1, h⟩ := n_str (t := .string "RingDominoModel" 430) [98, 121] (by decide) (n3 _ (List.mem_of_getElem? (i := 93) rfl)) (n3 _ (List.mem_of_getElem? (i := 94) rfl)) (n3 _ (List.mem_of_getElem? (i := 95) rfl)) (n3 _ (List.mem_of_getElem? (i := 96) rfl)) (fun j hj => by
      match j, hj with
      | 0, _ => exact (n3 _ (List.mem_of_getElem? (i := 97) rfl))
      | 1, _ => exact (n3 _ (List.mem_of_getElem? (i := 98) rfl))
      | j + 2, hj => exact absurd hj (by simp)) hA
  exact ⟨(a, v), e1, h⟩
set_option maxRecDepth 100000 in
theorem n_wd2 (n1 : ∀ c ∈ flatC narrow_1_1, c.before args s = true) (n2 : ∀ c ∈ flatC narrow_1_2, c.before args s = true) (n3 : ∀ c ∈ flatC narrow_1_3, c.before args s = true) (ht : ∀ w ∈ lw_tbl, w.before args s = true) (hA : ∀ a : Nat, a < s.heap.size → ¬ A a) : ∃ q : Nat × Nat, (Term.string "RingDominoModel" 432).eval args s none [] s = some (.ref q.1) ∧ nStr q.1 q.2 [116, 105, 108, 101] A s := by
  obtain ⟨a, v, e1, h⟩ := n_str (t := .string "RingDominoModel" 432) [116, 105, 108, 101] (by decide) (n3 _ (List.mem_of_getElem? (i := 100) rfl)) (n3 _ (List.mem_of_getElem? (i := 101) rfl)) (n3 _ (List.mem_of_getElem? (i := 102) rfl)) (n3 _ (List.mem_of_getElem? (i := 103) rfl)) (fun j hj => by
      match j, hj with
      | 0, _ => exact (n3 _ (List.mem_of_getElem? (i := 104) rfl))
      | 1, _ => exact (n3 _ (List.mem_of_getElem? (i := 105) rfl))
      | 2, _ => exact (n3 _ (List.mem_of_getElem? (i := 106) rfl))
      | 3, _ => exact (n3 _ (List.mem_of_getElem? (i := 107) rfl))
      | j + 4, hj => exact absurd hj (by simp)) hA
  exact ⟨(a, v), e1, h⟩
set_option maxRecDepth 100000 in
theorem n_wd3 (n1 : ∀ c ∈ flatC narrow_1_1, c.before args s = true) (n2 : ∀ c ∈ flatC narrow_1_2, c.before args s = true) (n3 : ∀ c ∈ flatC narrow_1_3, c.before args s = true) (ht : ∀ w ∈ lw_tbl, w.before args s = true) (hA : ∀ a : Nat, a < s.heap.size → ¬ A a) : ∃ q : Nat × Nat, (Term.string "RingDominoModel" 433).eval args s none [] s = some (.ref q.1) ∧ nStr q.1 q.2 [112, 117, 116] A s := by
  obtain ⟨a, v, e1, h⟩ := n_str (t := .string "RingDominoModel" 433) [112, 117, 116] (by decide) (n3 _ (List.mem_of_getElem? (i := 109) rfl)) (n3 _ (List.mem_of_getElem? (i := 110) rfl)) (n3 _ (List.mem_of_getElem? (i := 111) rfl)) (n3 _ (List.mem_of_getElem? (i := 112) rfl)) (fun j hj => by
      match j, hj with
      | 0, _ => exact (n3 _ (List.mem_of_getElem? (i := 113) rfl))
      | 1, _ => exact (n3 _ (List.mem_of_getElem? (i := 114) rfl))
      | 2, _ => exact (n3 _ (List.mem_of_getElem? (i := 115) rfl))
      | j + 3, hj => exact absurd hj (by simp)) hA
  exact ⟨(a, v), e1, h⟩
set_option maxRecDepth 100000 in
theorem n_wd4 (n1 : ∀ c ∈ flatC narrow_1_1, c.before args s = true) (n2 : ∀ c ∈ flatC narrow_1_2, c.before args s = true) (n3 : ∀ c ∈ flatC narrow_1_3, c.before args s = true) (ht : ∀ w ∈ lw_tbl, w.before args s = true) (hA : ∀ a : Nat, a < s.heap.size → ¬ A a) : ∃ q : Nat × Nat, (Term.string "RingDominoModel" 434).eval args s none [] s = some (.ref q.1) ∧ nStr q.1 q.2 [97, 116] A s := by
  obtain ⟨a, v, e1, h⟩ := n_str (t := .string "RingDominoModel" 434) [97, 116] (by decide) (n3 _ (List.mem_of_getElem? (i := 117) rfl)) (n3 _ (List.mem_of_getElem? (i := 118) rfl)) (n3 _ (List.mem_of_getElem? (i := 119) rfl)) (n3 _ (List.mem_of_getElem? (i := 120) rfl)) (fun j hj => by
      match j, hj with
      | 0, _ => exact (n3 _ (List.mem_of_getElem? (i := 121) rfl))
      | 1, _ => exact (n3 _ (List.mem_of_getElem? (i := 122) rfl))
      | j + 2, hj => exact absurd hj (by simp)) hA
  exact ⟨(a, v), e1, h⟩
set_option maxRecDepth 100000 in
theorem n_wd5 (n1 : ∀ c ∈ flatC narrow_1_1, c.before args s = true) (n2 : ∀ c ∈ flatC narrow_1_2, c.before args s = true) (n3 : ∀ c ∈ flatC narrow_1_3, c.before args s = true) (ht : ∀ w ∈ lw_tbl, w.before args s = true) (hA : ∀ a : Nat, a < s.heap.size → ¬ A a) : ∃ q : Nat × Nat, (Term.string "RingDominoModel" 435).eval args s none [] s = some (.ref q.1) ∧ nStr q.1 q.2 [116, 117, 114, 110, 101, 100] A s := by
  obtain ⟨a, v, e1, h⟩ := n_str (t := .string "RingDominoModel" 435) [116, 117, 114, 110, 101, 100] (by decide) (n3 _ (List.mem_of_getElem? (i := 124) rfl)) (n3 _ (List.mem_of_getElem? (i := 125) rfl)) (n3 _ (List.mem_of_getElem? (i := 126) rfl)) (n3 _ (List.mem_of_getElem? (i := 127) rfl)) (fun j hj => by
      match j, hj with
      | 0, _ => exact (n3 _ (List.mem_of_getElem? (i := 128) rfl))
      | 1, _ => exact (n3 _ (List.mem_of_getElem? (i := 129) rfl))
      | 2, _ => exact (n3 _ (List.mem_of_getElem? (i := 130) rfl))
      | 3, _ => exact (n3 _ (List.mem_of_getElem? (i := 131) rfl))
      | 4, _ => exact (n3 _ (List.mem_of_getElem? (i := 132) rfl))
      | 5, _ => exact (n3 _ (List.mem_of_getElem? (i := 133) rfl))
      | j + 6, hj => exact absurd hj (by simp)) hA
  exact ⟨(a, v), e1, h⟩
set_option maxRecDepth 100000 in
theorem n_wd6 (n1 : ∀ c ∈ flatC narrow_1_1, c.before args s = true) (n2 : ∀ c ∈ flatC narrow_1_2, c.before args s = true) (n3 : ∀ c ∈ flatC narrow_1_3, c.before args s = true) (ht : ∀ w ∈ lw_tbl, w.before args s = true) (hA : ∀ a : Nat, a < s.heap.size → ¬ A a) : ∃ q : Nat × Nat, (Term.string "RingDominoModel" 437).eval args s none [] s = some (.ref q.1) ∧ nStr q.1 q.2 [116, 97, 107, 101] A s := by
  obtain ⟨a, v, e1, h⟩ := n_str (t := .string "RingDominoModel" 437) [116, 97, 107, 101] (by decide) (n3 _ (List.mem_of_getElem? (i := 135) rfl)) (n3 _ (List.mem_of_getElem? (i := 136) rfl)) (n3 _ (List.mem_of_getElem? (i := 137) rfl)) (n3 _ (List.mem_of_getElem? (i := 138) rfl)) (fun j hj => by
      match j, hj with
      | 0, _ => exact (n3 _ (List.mem_of_getElem? (i := 139) rfl))
      | 1, _ => exact (n3 _ (List.mem_of_getElem? (i := 140) rfl))
      | 2, _ => exact (n3 _ (List.mem_of_getElem? (i := 141) rfl))
      | 3, _ => exact (n3 _ (List.mem_of_getElem? (i := 142) rfl))
      | j + 4, hj => exact absurd hj (by simp)) hA
  exact ⟨(a, v), e1, h⟩
set_option maxRecDepth 100000 in
theorem n_wd7 (n1 : ∀ c ∈ flatC narrow_1_1, c.before args s = true) (n2 : ∀ c ∈ flatC narrow_1_2, c.before args s = true) (n3 : ∀ c ∈ flatC narrow_1_3, c.before args s = true) (ht : ∀ w ∈ lw_tbl, w.before args s = true) (hA : ∀ a : Nat, a < s.heap.size → ¬ A a) : ∃ q : Nat × Nat, (Term.string "RingDominoModel" 438).eval args s none [] s = some (.ref q.1) ∧ nStr q.1 q.2 [102, 105, 116] A s := by
  obtain ⟨a, v, e1, h⟩ := n_str (t := .string "RingDominoModel" 438) [102, 105, 116] (by decide) (n3 _ (List.mem_of_getElem? (i := 144) rfl)) (n3 _ (List.mem_of_getElem? (i := 145) rfl)) (n3 _ (List.mem_of_getElem? (i := 146) rfl)) (n3 _ (List.mem_of_getElem? (i := 147) rfl)) (fun j hj => by
      match j, hj with
      | 0, _ => exact (n3 _ (List.mem_of_getElem? (i := 148) rfl))
      | 1, _ => exact (n3 _ (List.mem_of_getElem? (i := 149) rfl))
      | 2, _ => exact (n3 _ (List.mem_of_getElem? (i := 150) rfl))
      | j + 3, hj => exact absurd hj (by simp)) hA
  exact ⟨(a, v), e1, h⟩
set_option maxRecDepth 100000 in
theorem n_wd8 (n1 : ∀ c ∈ flatC narrow_1_1, c.before args s = true) (n2 : ∀ c ∈ flatC narrow_1_2, c.before args s = true) (n3 : ∀ c ∈ flatC narrow_1_3, c.before args s = true) (ht : ∀ w ∈ lw_tbl, w.before args s = true) (hA : ∀ a : Nat, a < s.heap.size → ¬ A a) : ∃ q : Nat × Nat, (Term.string "RingDominoModel" 440).eval args s none [] s = some (.ref q.1) ∧ nStr q.1 q.2 [119, 104, 101, 110] A s := by
  obtain ⟨a, v, e1, h⟩ := n_str (t := .string "RingDominoModel" 440) [119, 104, 101, 110] (by decide) (n3 _ (List.mem_of_getElem? (i := 152) rfl)) (n3 _ (List.mem_of_getElem? (i := 153) rfl)) (n3 _ (List.mem_of_getElem? (i := 154) rfl)) (n3 _ (List.mem_of_getElem? (i := 155) rfl)) (fun j hj => by
      match j, hj with
      | 0, _ => exact (n3 _ (List.mem_of_getElem? (i := 156) rfl))
      | 1, _ => exact (n3 _ (List.mem_of_getElem? (i := 157) rfl))
      | 2, _ => exact (n3 _ (List.mem_of_getElem? (i := 158) rfl))
      | 3, _ => exact (n3 _ (List.mem_of_getElem? (i := 159) rfl))
      | j + 4, hj => exact absurd hj (by simp)) hA
  exact ⟨(a, v), e1, h⟩
set_option maxRecDepth 100000 in
theorem n_wd9 (n1 : ∀ c ∈ flatC narrow_1_1, c.before args s = true) (n2 : ∀ c ∈ flatC narrow_1_2, c.before args s = true) (n3 : ∀ c ∈ flatC narrow_1_3, c.before args s = true) (ht : ∀ w ∈ lw_tbl, w.before args s = true) (hA : ∀ a : Nat, a < s.heap.size → ¬ A a) : ∃ q : Nat × Nat, (Term.string "RingDominoModel" 442).eval args s none [] s = some (.ref q.1) ∧ nStr q.1 q.2 [114, 111, 117, 110, 100] A s := by
  obtain ⟨a, v, e1, h⟩ := n_str (t := .string "RingDominoModel" 442) [114, 111, 117, 110, 100] (by decide) (n3 _ (List.mem_of_getElem? (i := 161) rfl)) (n3 _ (List.mem_of_getElem? (i := 162) rfl)) (n3 _ (List.mem_of_getElem? (i := 163) rfl)) (n3 _ (List.mem_of_getElem? (i := 164) rfl)) (fun j hj => by
      match j, hj with
      | 0, _ => exact (n3 _ (List.mem_of_getElem? (i := 165) rfl))
      | 1, _ => exact (n3 _ (List.mem_of_getElem? (i := 166) rfl))
      | 2, _ => exact (n3 _ (List.mem_of_getElem? (i := 167) rfl))
      | 3, _ => exact (n3 _ (List.mem_of_getElem? (i := 168) rfl))
      | 4, _ => exact (n3 _ (List.mem_of_getElem? (i := 169) rfl))
      | j + 5, hj => exact absurd hj (by simp)) hA
  exact ⟨(a, v), e1, h⟩
set_option maxRecDepth 100000 in
theorem n_wd10 (n1 : ∀ c ∈ flatC narrow_1_1, c.before args s = true) (n2 : ∀ c ∈ flatC narrow_1_2, c.before args s = true) (n3 : ∀ c ∈ flatC narrow_1_3, c.before args s = true) (ht : ∀ w ∈ lw_tbl, w.before args s = true) (hA : ∀ a : Nat, a < s.heap.size → ¬ A a) : ∃ q : Nat × Nat, (Term.string "RingDominoModel" 444).eval args s none [] s = some (.ref q.1) ∧ nStr q.1 q.2 [112, 108, 97, 99, 101, 100] A s := by
  obtain ⟨a, v, e1, h⟩ := n_str (t := .string "RingDominoModel" 444) [112, 108, 97, 99, 101, 100] (by decide) (n3 _ (List.mem_of_getElem? (i := 170) rfl)) (n3 _ (List.mem_of_getElem? (i := 171) rfl)) (n3 _ (List.mem_of_getElem? (i := 172) rfl)) (n3 _ (List.mem_of_getElem? (i := 173) rfl)) (fun j hj => by
      match j, hj with
      | 0, _ => exact (n3 _ (List.mem_of_getElem? (i := 174) rfl))
      | 1, _ => exact (n3 _ (List.mem_of_getElem? (i := 175) rfl))
      | 2, _ => exact (n3 _ (List.mem_of_getElem? (i := 176) rfl))
      | 3, _ => exact (n3 _ (List.mem_of_getElem? (i := 177) rfl))
      | 4, _ => exact (n3 _ (List.mem_of_getElem? (i := 178) rfl))
      | 5, _ => exact (n3 _ (List.mem_of_getElem? (i := 179) rfl))
      | j + 6, hj => exact absurd hj (by simp)) hA
  exact ⟨(a, v), e1, h⟩
set_option maxRecDepth 100000 in
theorem n_wd11 (n1 : ∀ c ∈ flatC narrow_1_1, c.before args s = true) (n2 : ∀ c ∈ flatC narrow_1_2, c.before args s = true) (n3 : ∀ c ∈ flatC narrow_1_3, c.before args s = true) (ht : ∀ w ∈ lw_tbl, w.before args s = true) (hA : ∀ a : Nat, a < s.heap.size → ¬ A a) : ∃ q : Nat × Nat, (Term.string "RingDominoModel" 445).eval args s none [] s = some (.ref q.1) ∧ nStr q.1 q.2 [109, 97, 116, 99, 104, 101, 115] A s := by
  obtain ⟨a, v, e1, h⟩ := n_str (t := .string "RingDominoModel" 445) [109, 97, 116, 99, 104, 101, 115] (by decide) (n3 _ (List.mem_of_getElem? (i := 180) rfl)) (n3 _ (List.mem_of_getElem? (i := 181) rfl)) (n3 _ (List.mem_of_getElem? (i := 182) rfl)) (n3 _ (List.mem_of_getElem? (i := 183) rfl)) (fun j hj => by
      match j, hj with
      | 0, _ => exact (n3 _ (List.mem_of_getElem? (i := 184) rfl))
      | 1, _ => exact (n3 _ (List.mem_of_getElem? (i := 185) rfl))
      | 2, _ => exact (n3 _ (List.mem_of_getElem? (i := 186) rfl))
      | 3, _ => exact (n3 _ (List.mem_of_getElem? (i := 187) rfl))
      | 4, _ => exact (n3 _ (List.mem_of_getElem? (i := 188) rfl))
      | 5, _ => exact (n3 _ (List.mem_of_getElem? (i := 189) rfl))
      | 6, _ => exact (n3 _ (List.mem_of_getElem? (i := 190) rfl))
      | j + 7, hj => exact absurd hj (by simp)) hA
  exact ⟨(a, v), e1, h⟩
set_option maxRecDepth 100000 in
theorem n_wd12 (n1 : ∀ c ∈ flatC narrow_1_1, c.before args s = true) (n2 : ∀ c ∈ flatC narrow_1_2, c.before args s = true) (n3 : ∀ c ∈ flatC narrow_1_3, c.before args s = true) (ht : ∀ w ∈ lw_tbl, w.before args s = true) (hA : ∀ a : Nat, a < s.heap.size → ¬ A a) : ∃ q : Nat × Nat, (Term.string "RingDominoModel" 446).eval args s none [] s = some (.ref q.1) ∧ nStr q.1 q.2 [112, 111, 105, 110, 116, 115] A s := by
  obtain ⟨a, v, e1, h⟩ := n_str (t := .string "RingDominoModel" 446) [112, 111, 105, 110, 116, 115] (by decide) (n3 _ (List.mem_of_getElem? (i := 191) rfl)) (n3 _ (List.mem_of_getElem? (i := 192) rfl)) (n3 _ (List.mem_of_getElem? (i := 193) rfl)) (n3 _ (List.mem_of_getElem? (i := 194) rfl)) (fun j hj => by
      match j, hj with
      | 0, _ => exact (n3 _ (List.mem_of_getElem? (i := 195) rfl))
      | 1, _ => exact (n3 _ (List.mem_of_getElem? (i := 196) rfl))
      | 2, _ => exact (n3 _ (List.mem_of_getElem? (i := 197) rfl))
      | 3, _ => exact (n3 _ (List.mem_of_getElem? (i := 198) rfl))
      | 4, _ => exact (n3 _ (List.mem_of_getElem? (i := 199) rfl))
      | 5, _ => exact (n3 _ (List.mem_of_getElem? (i := 200) rfl))
      | j + 6, hj => exact absurd hj (by simp)) hA
  exact ⟨(a, v), e1, h⟩
set_option maxRecDepth 100000 in
theorem n_wd13 (n1 : ∀ c ∈ flatC narrow_1_1, c.before args s = true) (n2 : ∀ c ∈ flatC narrow_1_2, c.before args s = true) (n3 : ∀ c ∈ flatC narrow_1_3, c.before args s = true) (ht : ∀ w ∈ lw_tbl, w.before args s = true) (hA : ∀ a : Nat, a < s.heap.size → ¬ A a) : ∃ q : Nat × Nat, (Term.string "RingDominoModel" 447).eval args s none [] s = some (.ref q.1) ∧ nStr q.1 q.2 [114, 105, 110, 103, 115] A s := by
  obtain ⟨a, v, e1, h⟩ := n_str (t := .string "RingDominoModel" 447) [114, 105, 110, 103, 115] (by decide) (n3 _ (List.mem_of_getElem? (i := 201) rfl)) (n3 _ (List.mem_of_getElem? (i := 202) rfl)) (n3 _ (List.mem_of_getElem? (i := 203) rfl)) (n3 _ (List.mem_of_getElem? (i := 204) rfl)) (fun j hj => by
      match j, hj with
      | 0, _ => exact (n3 _ (List.mem_of_getElem? (i := 205) rfl))
      | 1, _ => exact (n3 _ (List.mem_of_getElem? (i := 206) rfl))
      | 2, _ => exact (n3 _ (List.mem_of_getElem? (i := 207) rfl))
      | 3, _ => exact (n3 _ (List.mem_of_getElem? (i := 208) rfl))
      | 4, _ => exact (n3 _ (List.mem_of_getElem? (i := 209) rfl))
      | j + 5, hj => exact absurd hj (by simp)) hA
  exact ⟨(a, v), e1, h⟩
set_option maxRecDepth 100000 in
theorem n_wd14 (n1 : ∀ c ∈ flatC narrow_1_1, c.before args s = true) (n2 : ∀ c ∈ flatC narrow_1_2, c.before args s = true) (n3 : ∀ c ∈ flatC narrow_1_3, c.before args s = true) (ht : ∀ w ∈ lw_tbl, w.before args s = true) (hA : ∀ a : Nat, a < s.heap.size → ¬ A a) : ∃ q : Nat × Nat, (Term.string "RingDominoModel" 448).eval args s none [] s = some (.ref q.1) ∧ nStr q.1 q.2 [102, 114, 101, 101] A s := by
  obtain ⟨a, v, e1, h⟩ := n_str (t := .string "RingDominoModel" 448) [102, 114, 101, 101] (by decide) (n3 _ (List.mem_of_getElem? (i := 210) rfl)) (n3 _ (List.mem_of_getElem? (i := 211) rfl)) (n3 _ (List.mem_of_getElem? (i := 212) rfl)) (n3 _ (List.mem_of_getElem? (i := 213) rfl)) (fun j hj => by
      match j, hj with
      | 0, _ => exact (n3 _ (List.mem_of_getElem? (i := 214) rfl))
      | 1, _ => exact (n3 _ (List.mem_of_getElem? (i := 215) rfl))
      | 2, _ => exact (n3 _ (List.mem_of_getElem? (i := 216) rfl))
      | 3, _ => exact (n3 _ (List.mem_of_getElem? (i := 217) rfl))
      | j + 4, hj => exact absurd hj (by simp)) hA
  exact ⟨(a, v), e1, h⟩
set_option maxRecDepth 100000 in
theorem n_wd15 (n1 : ∀ c ∈ flatC narrow_1_1, c.before args s = true) (n2 : ∀ c ∈ flatC narrow_1_2, c.before args s = true) (n3 : ∀ c ∈ flatC narrow_1_3, c.before args s = true) (ht : ∀ w ∈ lw_tbl, w.before args s = true) (hA : ∀ a : Nat, a < s.heap.size → ¬ A a) : ∃ q : Nat × Nat, (Term.string "RingDominoModel" 450).eval args s none [] s = some (.ref q.1) ∧ nStr q.1 q.2 [119, 97, 121, 115] A s := by
  obtain ⟨a, v, e1, h⟩ := n_str (t := .string "RingDominoModel" 450) [119, 97, 121, 115] (by decide) (n3 _ (List.mem_of_getElem? (i := 218) rfl)) (n3 _ (List.mem_of_getElem? (i := 219) rfl)) (n3 _ (List.mem_of_getElem? (i := 220) rfl)) (n3 _ (List.mem_of_getElem? (i := 221) rfl)) (fun j hj => by
      match j, hj with
      | 0, _ => exact (n3 _ (List.mem_of_getElem? (i := 222) rfl))
      | 1, _ => exact (n3 _ (List.mem_of_getElem? (i := 223) rfl))
      | 2, _ => exact (n3 _ (List.mem_of_getElem? (i := 224) rfl))
      | 3, _ => exact (n3 _ (List.mem_of_getElem? (i := 225) rfl))
      | j + 4, hj => exact absurd hj (by simp)) hA
  exact ⟨(a, v), e1, h⟩
set_option maxRecDepth 100000 in
theorem n_wd16 (n1 : ∀ c ∈ flatC narrow_1_1, c.before args s = true) (n2 : ∀ c ∈ flatC narrow_1_2, c.before args s = true) (n3 : ∀ c ∈ flatC narrow_1_3, c.before args s = true) (ht : ∀ w ∈ lw_tbl, w.before args s = true) (hA : ∀ a : Nat, a < s.heap.size → ¬ A a) : ∃ q : Nat × Nat, (Term.string "RingDominoModel" 451).eval args s none [] s = some (.ref q.1) ∧ nStr q.1 q.2 [111, 102] A s := by
  obtain ⟨a, v, e1, h⟩ := n_str (t := .string "RingDominoModel" 451) [111, 102] (by decide) (n3 _ (List.mem_of_getElem? (i := 227) rfl)) (n3 _ (List.mem_of_getElem? (i := 228) rfl)) (n3 _ (List.mem_of_getElem? (i := 229) rfl)) (n3 _ (List.mem_of_getElem? (i := 230) rfl)) (fun j hj => by
      match j, hj with
      | 0, _ => exact (n3 _ (List.mem_of_getElem? (i := 231) rfl))
      | 1, _ => exact (n3 _ (List.mem_of_getElem? (i := 232) rfl))
      | j + 2, hj => exact absurd hj (by simp)) hA
  exact ⟨(a, v), e1, h⟩
set_option maxRecDepth 100000 in
theorem n_wd17 (n1 : ∀ c ∈ flatC narrow_1_1, c.before args s = true) (n2 : ∀ c ∈ flatC narrow_1_2, c.before args s = true) (n3 : ∀ c ∈ flatC narrow_1_3, c.before args s = true) (ht : ∀ w ∈ lw_tbl, w.before args s = true) (hA : ∀ a : Nat, a < s.heap.size → ¬ A a) : ∃ q : Nat × Nat, (Term.string "RingDominoModel" 453).eval args s none [] s = some (.ref q.1) ∧ nStr q.1 q.2 [111, 110] A s := by
  obtain ⟨a, v, e1, h⟩ := n_str (t := .string "RingDominoModel" 453) [111, 110] (by decide) (n3 _ (List.mem_of_getElem? (i := 234) rfl)) (n3 _ (List.mem_of_getElem? (i := 235) rfl)) (n3 _ (List.mem_of_getElem? (i := 236) rfl)) (n3 _ (List.mem_of_getElem? (i := 237) rfl)) (fun j hj => by
      match j, hj with
      | 0, _ => exact (n3 _ (List.mem_of_getElem? (i := 238) rfl))
      | 1, _ => exact (n3 _ (List.mem_of_getElem? (i := 239) rfl))
      | j + 2, hj => exact absurd hj (by simp)) hA
  exact ⟨(a, v), e1, h⟩
set_option maxRecDepth 100000 in
theorem n_wd18 (n1 : ∀ c ∈ flatC narrow_1_1, c.before args s = true) (n2 : ∀ c ∈ flatC narrow_1_2, c.before args s = true) (n3 : ∀ c ∈ flatC narrow_1_3, c.before args s = true) (ht : ∀ w ∈ lw_tbl, w.before args s = true) (hA : ∀ a : Nat, a < s.heap.size → ¬ A a) : ∃ q : Nat × Nat, (Term.string "RingDominoModel" 455).eval args s none [] s = some (.ref q.1) ∧ nStr q.1 q.2 [102, 105, 116, 115] A s := by
  obtain ⟨a, v, e1, h⟩ := n_str (t := .string "RingDominoModel" 455) [102, 105, 116, 115] (by decide) (n3 _ (List.mem_of_getElem? (i := 240) rfl)) (n3 _ (List.mem_of_getElem? (i := 241) rfl)) (n3 _ (List.mem_of_getElem? (i := 242) rfl)) (n3 _ (List.mem_of_getElem? (i := 243) rfl)) (fun j hj => by
      match j, hj with
      | 0, _ => exact (n3 _ (List.mem_of_getElem? (i := 244) rfl))
      | 1, _ => exact (n3 _ (List.mem_of_getElem? (i := 245) rfl))
      | 2, _ => exact (n3 _ (List.mem_of_getElem? (i := 246) rfl))
      | 3, _ => exact (n3 _ (List.mem_of_getElem? (i := 247) rfl))
      | j + 4, hj => exact absurd hj (by simp)) hA
  exact ⟨(a, v), e1, h⟩
set_option maxRecDepth 100000 in
theorem n_wd19 (n1 : ∀ c ∈ flatC narrow_1_1, c.before args s = true) (n2 : ∀ c ∈ flatC narrow_1_2, c.before args s = true) (n3 : ∀ c ∈ flatC narrow_1_3, c.before args s = true) (ht : ∀ w ∈ lw_tbl, w.before args s = true) (hA : ∀ a : Nat, a < s.heap.size → ¬ A a) : ∃ q : Nat × Nat, (Term.string "RingDominoModel" 456).eval args s none [] s = some (.ref q.1) ∧ nStr q.1 q.2 [110, 111, 116] A s := by
  obtain ⟨a, v, e1, h⟩ := n_str (t := .string "RingDominoModel" 456) [110, 111, 116] (by decide) (n3 _ (List.mem_of_getElem? (i := 248) rfl)) (n3 _ (List.mem_of_getElem? (i := 249) rfl)) (n3 _ (List.mem_of_getElem? (i := 250) rfl)) (n3 _ (List.mem_of_getElem? (i := 251) rfl)) (fun j hj => by
      match j, hj with
      | 0, _ => exact (n3 _ (List.mem_of_getElem? (i := 252) rfl))
      | 1, _ => exact (n3 _ (List.mem_of_getElem? (i := 253) rfl))
      | 2, _ => exact (n3 _ (List.mem_of_getElem? (i := 254) rfl))
      | j + 3, hj => exact absurd hj (by simp)) hA
  exact ⟨(a, v), e1, h⟩
set_option maxRecDepth 100000 in
theorem n_wd20 (n1 : ∀ c ∈ flatC narrow_1_1, c.before args s = true) (n2 : ∀ c ∈ flatC narrow_1_2, c.before args s = true) (n3 : ∀ c ∈ flatC narrow_1_3, c.before args s = true) (ht : ∀ w ∈ lw_tbl, w.before args s = true) (hA : ∀ a : Nat, a < s.heap.size → ¬ A a) : ∃ q : Nat × Nat, (Term.string "RingDominoModel" 458).eval args s none [] s = some (.ref q.1) ∧ nStr q.1 q.2 [97, 110, 100] A s := by
  obtain ⟨a, v, e1, h⟩ := n_str (t := .string "RingDominoModel" 458) [97, 110, 100] (by decide) (n3 _ (List.mem_of_getElem? (i := 256) rfl)) (n3 _ (List.mem_of_getElem? (i := 257) rfl)) (n3 _ (List.mem_of_getElem? (i := 258) rfl)) (n3 _ (List.mem_of_getElem? (i := 259) rfl)) (fun j hj => by
      match j, hj with
      | 0, _ => exact (n3 _ (List.mem_of_getElem? (i := 260) rfl))
      | 1, _ => exact (n3 _ (List.mem_of_getElem? (i := 261) rfl))
      | 2, _ => exact (n3 _ (List.mem_of_getElem? (i := 262) rfl))
      | j + 3, hj => exact absurd hj (by simp)) hA
  exact ⟨(a, v), e1, h⟩
set_option maxRecDepth 100000 in
theorem n_wd21 (n1 : ∀ c ∈ flatC narrow_1_1, c.before args s = true) (n2 : ∀ c ∈ flatC narrow_1_2, c.before args s = true) (n3 : ∀ c ∈ flatC narrow_1_3, c.before args s = true) (ht : ∀ w ∈ lw_tbl, w.before args s = true) (hA : ∀ a : Nat, a < s.heap.size → ¬ A a) : ∃ q : Nat × Nat, (Term.string "RingDominoModel" 460).eval args s none [] s = some (.ref q.1) ∧ nStr q.1 q.2 [111, 114] A s := by
  obtain ⟨a, v, e1, h⟩ := n_str (t := .string "RingDominoModel" 460) [111, 114] (by decide) (n3 _ (List.mem_of_getElem? (i := 264) rfl)) (n3 _ (List.mem_of_getElem? (i := 265) rfl)) (n3 _ (List.mem_of_getElem? (i := 266) rfl)) (n3 _ (List.mem_of_getElem? (i := 267) rfl)) (fun j hj => by
      match j, hj with
      | 0, _ => exact (n3 _ (List.mem_of_getElem? (i := 268) rfl))
      | 1, _ => exact (n3 _ (List.mem_of_getElem? (i := 269) rfl))
      | j + 2, hj => exact absurd hj (by simp)) hA
  exact ⟨(a, v), e1, h⟩
set_option maxRecDepth 100000 in
theorem n_wd22 (n1 : ∀ c ∈ flatC narrow_1_1, c.before args s = true) (n2 : ∀ c ∈ flatC narrow_1_2, c.before args s = true) (n3 : ∀ c ∈ flatC narrow_1_3, c.before args s = true) (ht : ∀ w ∈ lw_tbl, w.before args s = true) (hA : ∀ a : Nat, a < s.heap.size → ¬ A a) : ∃ q : Nat × Nat, (Term.string "RingDominoModel" 462).eval args s none [] s = some (.ref q.1) ∧ nStr q.1 q.2 [109, 105, 110] A s := by
  obtain ⟨a, v, e1, h⟩ := n_str (t := .string "RingDominoModel" 462) [109, 105, 110] (by decide) (n3 _ (List.mem_of_getElem? (i := 271) rfl)) (n3 _ (List.mem_of_getElem? (i := 272) rfl)) (n3 _ (List.mem_of_getElem? (i := 273) rfl)) (n3 _ (List.mem_of_getElem? (i := 274) rfl)) (fun j hj => by
      match j, hj with
      | 0, _ => exact (n3 _ (List.mem_of_getElem? (i := 275) rfl))
      | 1, _ => exact (n3 _ (List.mem_of_getElem? (i := 276) rfl))
      | 2, _ => exact (n3 _ (List.mem_of_getElem? (i := 277) rfl))
      | j + 3, hj => exact absurd hj (by simp)) hA
  exact ⟨(a, v), e1, h⟩
set_option maxRecDepth 100000 in
theorem n_wd23 (n1 : ∀ c ∈ flatC narrow_1_1, c.before args s = true) (n2 : ∀ c ∈ flatC narrow_1_2, c.before args s = true) (n3 : ∀ c ∈ flatC narrow_1_3, c.before args s = true) (ht : ∀ w ∈ lw_tbl, w.before args s = true) (hA : ∀ a : Nat, a < s.heap.size → ¬ A a) : ∃ q : Nat × Nat, (Term.string "RingDominoModel" 463).eval args s none [] s = some (.ref q.1) ∧ nStr q.1 q.2 [109, 97, 120] A s := by
  obtain ⟨a, v, e1, h⟩ := n_str (t := .string "RingDominoModel" 463) [109, 97, 120] (by decide) (n3 _ (List.mem_of_getElem? (i := 278) rfl)) (n3 _ (List.mem_of_getElem? (i := 279) rfl)) (n3 _ (List.mem_of_getElem? (i := 280) rfl)) (n3 _ (List.mem_of_getElem? (i := 281) rfl)) (fun j hj => by
      match j, hj with
      | 0, _ => exact (n3 _ (List.mem_of_getElem? (i := 282) rfl))
      | 1, _ => exact (n3 _ (List.mem_of_getElem? (i := 283) rfl))
      | 2, _ => exact (n3 _ (List.mem_of_getElem? (i := 284) rfl))
      | j + 3, hj => exact absurd hj (by simp)) hA
  exact ⟨(a, v), e1, h⟩
def nWix : List (String × Nat) := [("RingDominoModel", 428), ("RingDominoModel", 430), ("RingDominoModel", 432), ("RingDominoModel", 433), ("RingDominoModel", 434), ("RingDominoModel", 435), ("RingDominoModel", 437), ("RingDominoModel", 438), ("RingDominoModel", 440), ("RingDominoModel", 442), ("RingDominoModel", 444), ("RingDominoModel", 445), ("RingDominoModel", 446), ("RingDominoModel", 447), ("RingDominoModel", 448), ("RingDominoModel", 450), ("RingDominoModel", 451), ("RingDominoModel", 453), ("RingDominoModel", 455), ("RingDominoModel", 456), ("RingDominoModel", 458), ("RingDominoModel", 460), ("RingDominoModel", 462), ("RingDominoModel", 463)]
theorem n_words (n1 : ∀ c ∈ flatC narrow_1_1, c.before args s = true) (n2 : ∀ c ∈ flatC narrow_1_2, c.before args s = true) (n3 : ∀ c ∈ flatC narrow_1_3, c.before args s = true) (ht : ∀ w ∈ lw_tbl, w.before args s = true) (hA : ∀ a : Nat, a < s.heap.size → ¬ A a) : ∃ f : Nat → Nat × Nat, ∀ k, k < 24 → (Term.string (nWix.getD k ("", 0)).1 (nWix.getD k ("", 0)).2).eval args s none [] s = some (.ref (f k).1) ∧ nStr (f k).1 (f k).2 (eWtx.getD k []) A s := by
  refine n_all (P := fun k (q : Nat × Nat) => (Term.string (nWix.getD k ("", 0)).1 (nWix.getD k ("", 0)).2).eval args s none [] s = some (.ref q.1) ∧ nStr q.1 q.2 (eWtx.getD k []) A s) (0, 0) (fun k hk => ?_)
  match k, hk with
  | 0, _ => exact n_wd0 n1 n2 n3 ht hA
  | 1, _ => exact n_wd1 n1 n2 n3 ht hA
  | 2, _ => exact n_wd2 n1 n2 n3 ht hA
  | 3, _ => exact n_wd3 n1 n2 n3 ht hA
  | 4, _ => exact n_wd4 n1 n2 n3 ht hA
  | 5, _ => exact n_wd5 n1 n2 n3 ht hA
  | 6, _ => exact n_wd6 n1 n2 n3 ht hA
  | 7, _ => exact n_wd7 n1 n2 n3 ht hA
  | 8, _ => exact n_wd8 n1 n2 n3 ht hA
  | 9, _ => exact n_wd9 n1 n2 n3 ht hA
  | 10, _ => exact n_wd10 n1 n2 n3 ht hA
  | 11, _ => exact n_wd11 n1 n2 n3 ht hA
  | 12, _ => exact n_wd12 n1 n2 n3 ht hA
  | 13, _ => exact n_wd13 n1 n2 n3 ht hA
  | 14, _ => exact n_wd14 n1 n2 n3 ht hA
  | 15, _ => exact n_wd15 n1 n2 n3 ht hA
  | 16, _ => exact n_wd16 n1 n2 n3 ht hA
  | 17, _ => exact n_wd17 n1 n2 n3 ht hA
  | 18, _ => exact n_wd18 n1 n2 n3 ht hA
  | 19, _ => exact n_wd19 n1 n2 n3 ht hA
  | 20, _ => exact n_wd20 n1 n2 n3 ht hA
  | 21, _ => exact n_wd21 n1 n2 n3 ht hA
  | 22, _ => exact n_wd22 n1 n2 n3 ht hA
  | 23, _ => exact n_wd23 n1 n2 n3 ht hA
  | k + 24, hk => exact absurd hk (by omega)
set_option maxRecDepth 100000 in
theorem n_ms0 (n1 : ∀ c ∈ flatC narrow_1_1, c.before args s = true) (n2 : ∀ c ∈ flatC narrow_1_2, c.before args s = true) (n3 : ∀ c ∈ flatC narrow_1_3, c.before args s = true) (ht : ∀ w ∈ lw_tbl, w.before args s = true) (hA : ∀ a : Nat, a < s.heap.size → ¬ A a) : ∃ a : Nat, vk_R "RingDomino" 74 "the tape would be longer than 2000 bytes" a s := by
  obtain ⟨a, c, cA, kA, q1, -⟩ := Cond.exactly_spec (args := args) (first := s) (o := none) (s := s) (idx := []) (t := .string "RingDomino" 74) (cls := "java/lang/String") (n1 _ (List.mem_of_getElem? (i := 379) rfl))
  exact ⟨a, vk_R.of (ht _ (tb5 _ (List.mem_of_getElem? (i := 27) rfl))) q1⟩
set_option maxRecDepth 100000 in
theorem n_ms1 (n1 : ∀ c ∈ flatC narrow_1_1, c.before args s = true) (n2 : ∀ c ∈ flatC narrow_1_2, c.before args s = true) (n3 : ∀ c ∈ flatC narrow_1_3, c.before args s = true) (ht : ∀ w ∈ lw_tbl, w.before args s = true) (hA : ∀ a : Nat, a < s.heap.size → ¬ A a) : ∃ a : Nat, vk_R "RingDomino" 88 "not a length up to that of the tape" a s := by
  obtain ⟨a, c, cA, kA, q1, -⟩ := Cond.exactly_spec (args := args) (first := s) (o := none) (s := s) (idx := []) (t := .string "RingDomino" 88) (cls := "java/lang/String") (n2 _ (List.mem_of_getElem? (i := 23) rfl))
  exact ⟨a, vk_R.of (ht _ (tb5 _ (List.mem_of_getElem? (i := 74) rfl))) q1⟩
set_option maxRecDepth 100000 in
theorem n_ms2 (n1 : ∀ c ∈ flatC narrow_1_1, c.before args s = true) (n2 : ∀ c ∈ flatC narrow_1_2, c.before args s = true) (n3 : ∀ c ∈ flatC narrow_1_3, c.before args s = true) (ht : ∀ w ∈ lw_tbl, w.before args s = true) (hA : ∀ a : Nat, a < s.heap.size → ¬ A a) : ∃ a : Nat, vk_R "RingDomino" 285 "no such cell" a s := by
  obtain ⟨a, c, cA, kA, q1, -⟩ := Cond.exactly_spec (args := args) (first := s) (o := none) (s := s) (idx := []) (t := .string "RingDomino" 285) (cls := "java/lang/String") (n2 _ (List.mem_of_getElem? (i := 62) rfl))
  exact ⟨a, vk_R.of (ht _ (tb5 _ (List.mem_of_getElem? (i := 102) rfl))) q1⟩
set_option maxRecDepth 100000 in
theorem n_ms3 (n1 : ∀ c ∈ flatC narrow_1_1, c.before args s = true) (n2 : ∀ c ∈ flatC narrow_1_2, c.before args s = true) (n3 : ∀ c ∈ flatC narrow_1_3, c.before args s = true) (ht : ∀ w ∈ lw_tbl, w.before args s = true) (hA : ∀ a : Nat, a < s.heap.size → ¬ A a) : ∃ a : Nat, vk_R "RingDomino" 295 "no tile lies there" a s := by
  obtain ⟨a, c, cA, kA, q1, -⟩ := Cond.exactly_spec (args := args) (first := s) (o := none) (s := s) (idx := []) (t := .string "RingDomino" 295) (cls := "java/lang/String") (n2 _ (List.mem_of_getElem? (i := 78) rfl))
  exact ⟨a, vk_R.of (ht _ (tb5 _ (List.mem_of_getElem? (i := 120) rfl))) q1⟩
set_option maxRecDepth 100000 in
theorem n_ms4 (n1 : ∀ c ∈ flatC narrow_1_1, c.before args s = true) (n2 : ∀ c ∈ flatC narrow_1_2, c.before args s = true) (n3 : ∀ c ∈ flatC narrow_1_3, c.before args s = true) (ht : ∀ w ∈ lw_tbl, w.before args s = true) (hA : ∀ a : Nat, a < s.heap.size → ¬ A a) : ∃ a : Nat, vk_R "RingDomino" 293 "an edge or a turn is 0 to 5" a s := by
  obtain ⟨a, c, cA, kA, q1, -⟩ := Cond.exactly_spec (args := args) (first := s) (o := none) (s := s) (idx := []) (t := .string "RingDomino" 293) (cls := "java/lang/String") (n2 _ (List.mem_of_getElem? (i := 100) rfl))
  exact ⟨a, vk_R.of (ht _ (tb5 _ (List.mem_of_getElem? (i := 132) rfl))) q1⟩
set_option maxRecDepth 100000 in
theorem n_ms5 (n1 : ∀ c ∈ flatC narrow_1_1, c.before args s = true) (n2 : ∀ c ∈ flatC narrow_1_2, c.before args s = true) (n3 : ∀ c ∈ flatC narrow_1_3, c.before args s = true) (ht : ∀ w ∈ lw_tbl, w.before args s = true) (hA : ∀ a : Nat, a < s.heap.size → ¬ A a) : ∃ a : Nat, vk_R "RingDomino" 291 "no such tile" a s := by
  obtain ⟨a, c, cA, kA, q1, -⟩ := Cond.exactly_spec (args := args) (first := s) (o := none) (s := s) (idx := []) (t := .string "RingDomino" 291) (cls := "java/lang/String") (n2 _ (List.mem_of_getElem? (i := 131) rfl))
  exact ⟨a, vk_R.of (ht _ (tb5 _ (List.mem_of_getElem? (i := 160) rfl))) q1⟩
set_option maxRecDepth 100000 in
theorem n_ms6 (n1 : ∀ c ∈ flatC narrow_1_1, c.before args s = true) (n2 : ∀ c ∈ flatC narrow_1_2, c.before args s = true) (n3 : ∀ c ∈ flatC narrow_1_3, c.before args s = true) (ht : ∀ w ∈ lw_tbl, w.before args s = true) (hA : ∀ a : Nat, a < s.heap.size → ¬ A a) : ∃ a : Nat, vk_R "RingDomino" 297 "the tile lies nowhere" a s := by
  obtain ⟨a, c, cA, kA, q1, -⟩ := Cond.exactly_spec (args := args) (first := s) (o := none) (s := s) (idx := []) (t := .string "RingDomino" 297) (cls := "java/lang/String") (n2 _ (List.mem_of_getElem? (i := 147) rfl))
  exact ⟨a, vk_R.of (ht _ (tb5 _ (List.mem_of_getElem? (i := 172) rfl))) q1⟩
set_option maxRecDepth 100000 in
theorem n_ms7 (n1 : ∀ c ∈ flatC narrow_1_1, c.before args s = true) (n2 : ∀ c ∈ flatC narrow_1_2, c.before args s = true) (n3 : ∀ c ∈ flatC narrow_1_3, c.before args s = true) (ht : ∀ w ∈ lw_tbl, w.before args s = true) (hA : ∀ a : Nat, a < s.heap.size → ¬ A a) : ∃ a : Nat, vk_R "RingDomino" 201 "the tile is not left over" a s := by
  obtain ⟨a, c, cA, kA, q1, -⟩ := Cond.exactly_spec (args := args) (first := s) (o := none) (s := s) (idx := []) (t := .string "RingDomino" 201) (cls := "java/lang/String") (n2 _ (List.mem_of_getElem? (i := 172) rfl))
  exact ⟨a, vk_R.of (ht _ (tb5 _ (List.mem_of_getElem? (i := 225) rfl))) q1⟩
set_option maxRecDepth 100000 in
theorem n_ms8 (n1 : ∀ c ∈ flatC narrow_1_1, c.before args s = true) (n2 : ∀ c ∈ flatC narrow_1_2, c.before args s = true) (n3 : ∀ c ∈ flatC narrow_1_3, c.before args s = true) (ht : ∀ w ∈ lw_tbl, w.before args s = true) (hA : ∀ a : Nat, a < s.heap.size → ¬ A a) : ∃ a : Nat, vk_R "RingDomino" 209 "the tile lies somewhere, or does not fit there so" a s := by
  obtain ⟨a, c, cA, kA, q1, -⟩ := Cond.exactly_spec (args := args) (first := s) (o := none) (s := s) (idx := []) (t := .string "RingDomino" 209) (cls := "java/lang/String") (n2 _ (List.mem_of_getElem? (i := 201) rfl))
  exact ⟨a, vk_R.of (ht _ (tb6 _ (List.mem_of_getElem? (i := 1) rfl))) q1⟩
set_option maxRecDepth 100000 in
theorem n_ms9 (n1 : ∀ c ∈ flatC narrow_1_1, c.before args s = true) (n2 : ∀ c ∈ flatC narrow_1_2, c.before args s = true) (n3 : ∀ c ∈ flatC narrow_1_3, c.before args s = true) (ht : ∀ w ∈ lw_tbl, w.before args s = true) (hA : ∀ a : Nat, a < s.heap.size → ¬ A a) : ∃ a : Nat, vk_R "RingDomino" 299 "the tile has no way" a s := by
  obtain ⟨a, c, cA, kA, q1, -⟩ := Cond.exactly_spec (args := args) (first := s) (o := none) (s := s) (idx := []) (t := .string "RingDomino" 299) (cls := "java/lang/String") (n2 _ (List.mem_of_getElem? (i := 254) rfl))
  exact ⟨a, vk_R.of (ht _ (tb6 _ (List.mem_of_getElem? (i := 23) rfl))) q1⟩
set_option maxRecDepth 100000 in
theorem n_ms10 (n1 : ∀ c ∈ flatC narrow_1_1, c.before args s = true) (n2 : ∀ c ∈ flatC narrow_1_2, c.before args s = true) (n3 : ∀ c ∈ flatC narrow_1_3, c.before args s = true) (ht : ∀ w ∈ lw_tbl, w.before args s = true) (hA : ∀ a : Nat, a < s.heap.size → ¬ A a) : ∃ a : Nat, vk_R "RingDomino" 301 "rounds are 1 to 20" a s := by
  obtain ⟨a, c, cA, kA, q1, -⟩ := Cond.exactly_spec (args := args) (first := s) (o := none) (s := s) (idx := []) (t := .string "RingDomino" 301) (cls := "java/lang/String") (n2 _ (List.mem_of_getElem? (i := 277) rfl))
  exact ⟨a, vk_R.of (ht _ (tb6 _ (List.mem_of_getElem? (i := 36) rfl))) q1⟩
theorem n_msgs (n1 : ∀ c ∈ flatC narrow_1_1, c.before args s = true) (n2 : ∀ c ∈ flatC narrow_1_2, c.before args s = true) (n3 : ∀ c ∈ flatC narrow_1_3, c.before args s = true) (ht : ∀ w ∈ lw_tbl, w.before args s = true) (hA : ∀ a : Nat, a < s.heap.size → ¬ A a) : ∃ f : Nat → Nat, ∀ k, k < 11 → vk_R (eMsg.getD k ("", 0, "", 0)).1 (eMsg.getD k ("", 0, "", 0)).2.1 (eMsg.getD k ("", 0, "", 0)).2.2.1 (f k) s := by
  refine n_all (P := fun k (q : Nat) => vk_R (eMsg.getD k ("", 0, "", 0)).1 (eMsg.getD k ("", 0, "", 0)).2.1 (eMsg.getD k ("", 0, "", 0)).2.2.1 q s) 0 (fun k hk => ?_)
  match k, hk with
  | 0, _ => exact n_ms0 n1 n2 n3 ht hA
  | 1, _ => exact n_ms1 n1 n2 n3 ht hA
  | 2, _ => exact n_ms2 n1 n2 n3 ht hA
  | 3, _ => exact n_ms3 n1 n2 n3 ht hA
  | 4, _ => exact n_ms4 n1 n2 n3 ht hA
  | 5, _ => exact n_ms5 n1 n2 n3 ht hA
  | 6, _ => exact n_ms6 n1 n2 n3 ht hA
  | 7, _ => exact n_ms7 n1 n2 n3 ht hA
  | 8, _ => exact n_ms8 n1 n2 n3 ht hA
  | 9, _ => exact n_ms9 n1 n2 n3 ht hA
  | 10, _ => exact n_ms10 n1 n2 n3 ht hA
  | k + 11, hk => exact absurd hk (by omega)
set_option maxRecDepth 100000 in
theorem n_t1301 (n1 : ∀ c ∈ flatC narrow_1_1, c.before args s = true) (n2 : ∀ c ∈ flatC narrow_1_2, c.before args s = true) (n3 : ∀ c ∈ flatC narrow_1_3, c.before args s = true) (ht : ∀ w ∈ lw_tbl, w.before args s = true) (hA : ∀ a : Nat, a < s.heap.size → ¬ A a) : ∃ t : Nat, va_Z "RingDomino$Board" "COLUMN_STEPS" "[I" (.ref t) A s s.heap ∧ va_T .int t 6 (fun j => .int (eCol j)) A s s.heap := by
  refine n_tab (by decide) (n1 _ (List.mem_of_getElem? (i := 6) rfl)) (n1 _ (List.mem_of_getElem? (i := 7) rfl)) (fun j hj => ?_) (ht _ (tb2 _ (List.mem_of_getElem? (i := 68) rfl))) (ht _ (tb1 _ (List.mem_of_getElem? (i := 10) rfl))) hA
  match j, hj with
  | 0, _ => exact va_eqt (n1 _ (List.mem_of_getElem? (i := 8) rfl))
  | 1, _ => exact va_eqt (n1 _ (List.mem_of_getElem? (i := 9) rfl))
  | 2, _ => exact va_eqt (n1 _ (List.mem_of_getElem? (i := 10) rfl))
  | 3, _ => exact va_eqt (n1 _ (List.mem_of_getElem? (i := 11) rfl))
  | 4, _ => exact va_eqt (n1 _ (List.mem_of_getElem? (i := 12) rfl))
  | 5, _ => exact va_eqt (n1 _ (List.mem_of_getElem? (i := 13) rfl))
  | j + 6, hj => exact absurd hj (by omega)
set_option maxRecDepth 100000 in
theorem n_t1302 (n1 : ∀ c ∈ flatC narrow_1_1, c.before args s = true) (n2 : ∀ c ∈ flatC narrow_1_2, c.before args s = true) (n3 : ∀ c ∈ flatC narrow_1_3, c.before args s = true) (ht : ∀ w ∈ lw_tbl, w.before args s = true) (hA : ∀ a : Nat, a < s.heap.size → ¬ A a) : ∃ t : Nat, va_Z "RingDomino$Board" "ROW_STEPS" "[I" (.ref t) A s s.heap ∧ va_T .int t 6 (fun j => .int (eRow j)) A s s.heap := by
  refine n_tab (by decide) (n1 _ (List.mem_of_getElem? (i := 15) rfl)) (n1 _ (List.mem_of_getElem? (i := 16) rfl)) (fun j hj => ?_) (ht _ (tb2 _ (List.mem_of_getElem? (i := 70) rfl))) (ht _ (tb1 _ (List.mem_of_getElem? (i := 10) rfl))) hA
  match j, hj with
  | 0, _ => exact va_eqt (n1 _ (List.mem_of_getElem? (i := 17) rfl))
  | 1, _ => exact va_eqt (n1 _ (List.mem_of_getElem? (i := 18) rfl))
  | 2, _ => exact va_eqt (n1 _ (List.mem_of_getElem? (i := 19) rfl))
  | 3, _ => exact va_eqt (n1 _ (List.mem_of_getElem? (i := 20) rfl))
  | 4, _ => exact va_eqt (n1 _ (List.mem_of_getElem? (i := 21) rfl))
  | 5, _ => exact va_eqt (n1 _ (List.mem_of_getElem? (i := 22) rfl))
  | j + 6, hj => exact absurd hj (by omega)
set_option maxRecDepth 100000 in
theorem n_t1303 (n1 : ∀ c ∈ flatC narrow_1_1, c.before args s = true) (n2 : ∀ c ∈ flatC narrow_1_2, c.before args s = true) (n3 : ∀ c ∈ flatC narrow_1_3, c.before args s = true) (ht : ∀ w ∈ lw_tbl, w.before args s = true) (hA : ∀ a : Nat, a < s.heap.size → ¬ A a) : ∃ t : Nat, va_Z "RingDominoModel" "RIGHT" "[I" (.ref t) A s s.heap ∧ va_T .int t 6 (fun j => .int (eCol j)) A s s.heap := by
  refine n_tab (by decide) (n1 _ (List.mem_of_getElem? (i := 253) rfl)) (n1 _ (List.mem_of_getElem? (i := 254) rfl)) (fun j hj => ?_) (ht _ (tb7 _ (List.mem_of_getElem? (i := 220) rfl))) (ht _ (tb1 _ (List.mem_of_getElem? (i := 14) rfl))) hA
  match j, hj with
  | 0, _ => exact va_eqt (n1 _ (List.mem_of_getElem? (i := 255) rfl))
  | 1, _ => exact va_eqt (n1 _ (List.mem_of_getElem? (i := 256) rfl))
  | 2, _ => exact va_eqt (n1 _ (List.mem_of_getElem? (i := 257) rfl))
  | 3, _ => exact va_eqt (n1 _ (List.mem_of_getElem? (i := 258) rfl))
  | 4, _ => exact va_eqt (n1 _ (List.mem_of_getElem? (i := 259) rfl))
  | 5, _ => exact va_eqt (n1 _ (List.mem_of_getElem? (i := 260) rfl))
  | j + 6, hj => exact absurd hj (by omega)
set_option maxRecDepth 100000 in
theorem n_t1304 (n1 : ∀ c ∈ flatC narrow_1_1, c.before args s = true) (n2 : ∀ c ∈ flatC narrow_1_2, c.before args s = true) (n3 : ∀ c ∈ flatC narrow_1_3, c.before args s = true) (ht : ∀ w ∈ lw_tbl, w.before args s = true) (hA : ∀ a : Nat, a < s.heap.size → ¬ A a) : ∃ t : Nat, va_Z "RingDominoModel" "DOWN" "[I" (.ref t) A s s.heap ∧ va_T .int t 6 (fun j => .int (eRow j)) A s s.heap := by
  refine n_tab (by decide) (n1 _ (List.mem_of_getElem? (i := 262) rfl)) (n1 _ (List.mem_of_getElem? (i := 263) rfl)) (fun j hj => ?_) (ht _ (tb7 _ (List.mem_of_getElem? (i := 222) rfl))) (ht _ (tb1 _ (List.mem_of_getElem? (i := 14) rfl))) hA
  match j, hj with
  | 0, _ => exact va_eqt (n1 _ (List.mem_of_getElem? (i := 264) rfl))
  | 1, _ => exact va_eqt (n1 _ (List.mem_of_getElem? (i := 265) rfl))
  | 2, _ => exact va_eqt (n1 _ (List.mem_of_getElem? (i := 266) rfl))
  | 3, _ => exact va_eqt (n1 _ (List.mem_of_getElem? (i := 267) rfl))
  | 4, _ => exact va_eqt (n1 _ (List.mem_of_getElem? (i := 268) rfl))
  | 5, _ => exact va_eqt (n1 _ (List.mem_of_getElem? (i := 269) rfl))
  | j + 6, hj => exact absurd hj (by omega)
set_option maxRecDepth 100000 in
theorem n_t1306 (n1 : ∀ c ∈ flatC narrow_1_1, c.before args s = true) (n2 : ∀ c ∈ flatC narrow_1_2, c.before args s = true) (n3 : ∀ c ∈ flatC narrow_1_3, c.before args s = true) (ht : ∀ w ∈ lw_tbl, w.before args s = true) (hA : ∀ a : Nat, a < s.heap.size → ¬ A a) : ∃ t : Nat, va_Z "RingDomino$1" "$SwitchMap$RingDomino$Kind" "[I" (.ref t) A s s.heap ∧ va_T .int t 44 (fun j => .int (eSw j)) A s s.heap := by
  refine n_tab (by decide) (n1 _ (List.mem_of_getElem? (i := 111) rfl)) (n1 _ (List.mem_of_getElem? (i := 112) rfl)) (fun j hj => ?_) (ht _ (tb3 _ (List.mem_of_getElem? (i := 63) rfl))) (ht _ (tb1 _ (List.mem_of_getElem? (i := 26) rfl))) hA
  match j, hj with
  | 0, _ => exact va_eqt (n1 _ (List.mem_of_getElem? (i := 113) rfl))
  | 1, _ => exact va_eqt (n1 _ (List.mem_of_getElem? (i := 114) rfl))
  | 2, _ => exact va_eqt (n1 _ (List.mem_of_getElem? (i := 115) rfl))
  | 3, _ => exact va_eqt (n1 _ (List.mem_of_getElem? (i := 116) rfl))
  | 4, _ => exact va_eqt (n1 _ (List.mem_of_getElem? (i := 117) rfl))
  | 5, _ => exact va_eqt (n1 _ (List.mem_of_getElem? (i := 118) rfl))
  | 6, _ => exact va_eqt (n1 _ (List.mem_of_getElem? (i := 119) rfl))
  | 7, _ => exact va_eqt (n1 _ (List.mem_of_getElem? (i := 120) rfl))
  | 8, _ => exact va_eqt (n1 _ (List.mem_of_getElem? (i := 121) rfl))
  | 9, _ => exact va_eqt (n1 _ (List.mem_of_getElem? (i := 122) rfl))
  | 10, _ => exact va_eqt (n1 _ (List.mem_of_getElem? (i := 123) rfl))
  | 11, _ => exact va_eqt (n1 _ (List.mem_of_getElem? (i := 124) rfl))
  | 12, _ => exact va_eqt (n1 _ (List.mem_of_getElem? (i := 125) rfl))
  | 13, _ => exact va_eqt (n1 _ (List.mem_of_getElem? (i := 126) rfl))
  | 14, _ => exact va_eqt (n1 _ (List.mem_of_getElem? (i := 127) rfl))
  | 15, _ => exact va_eqt (n1 _ (List.mem_of_getElem? (i := 128) rfl))
  | 16, _ => exact va_eqt (n1 _ (List.mem_of_getElem? (i := 129) rfl))
  | 17, _ => exact va_eqt (n1 _ (List.mem_of_getElem? (i := 130) rfl))
  | 18, _ => exact va_eqt (n1 _ (List.mem_of_getElem? (i := 131) rfl))
  | 19, _ => exact va_eqt (n1 _ (List.mem_of_getElem? (i := 132) rfl))
  | 20, _ => exact va_eqt (n1 _ (List.mem_of_getElem? (i := 133) rfl))
  | 21, _ => exact va_eqt (n1 _ (List.mem_of_getElem? (i := 134) rfl))
  | 22, _ => exact va_eqt (n1 _ (List.mem_of_getElem? (i := 135) rfl))
  | 23, _ => exact va_eqt (n1 _ (List.mem_of_getElem? (i := 136) rfl))
  | 24, _ => exact va_eqt (n1 _ (List.mem_of_getElem? (i := 137) rfl))
  | 25, _ => exact va_eqt (n1 _ (List.mem_of_getElem? (i := 138) rfl))
  | 26, _ => exact va_eqt (n1 _ (List.mem_of_getElem? (i := 139) rfl))
  | 27, _ => exact va_eqt (n1 _ (List.mem_of_getElem? (i := 140) rfl))
  | 28, _ => exact va_eqt (n1 _ (List.mem_of_getElem? (i := 141) rfl))
  | 29, _ => exact va_eqt (n1 _ (List.mem_of_getElem? (i := 142) rfl))
  | 30, _ => exact va_eqt (n1 _ (List.mem_of_getElem? (i := 143) rfl))
  | 31, _ => exact va_eqt (n1 _ (List.mem_of_getElem? (i := 144) rfl))
  | 32, _ => exact va_eqt (n1 _ (List.mem_of_getElem? (i := 145) rfl))
  | 33, _ => exact va_eqt (n1 _ (List.mem_of_getElem? (i := 146) rfl))
  | 34, _ => exact va_eqt (n1 _ (List.mem_of_getElem? (i := 147) rfl))
  | 35, _ => exact va_eqt (n1 _ (List.mem_of_getElem? (i := 148) rfl))
  | 36, _ => exact va_eqt (n1 _ (List.mem_of_getElem? (i := 149) rfl))
  | 37, _ => exact va_eqt (n1 _ (List.mem_of_getElem? (i := 150) rfl))
  | 38, _ => exact va_eqt (n1 _ (List.mem_of_getElem? (i := 151) rfl))
  | 39, _ => exact va_eqt (n1 _ (List.mem_of_getElem? (i := 152) rfl))
  | 40, _ => exact va_eqt (n1 _ (List.mem_of_getElem? (i := 153) rfl))
  | 41, _ => exact va_eqt (n1 _ (List.mem_of_getElem? (i := 154) rfl))
  | 42, _ => exact va_eqt (n1 _ (List.mem_of_getElem? (i := 155) rfl))
  | 43, _ => exact va_eqt (n1 _ (List.mem_of_getElem? (i := 156) rfl))
  | j + 44, hj => exact absurd hj (by omega)
set_option maxRecDepth 100000 in
theorem n_t1300 (n1 : ∀ c ∈ flatC narrow_1_1, c.before args s = true) (n2 : ∀ c ∈ flatC narrow_1_2, c.before args s = true) (n3 : ∀ c ∈ flatC narrow_1_3, c.before args s = true) (ht : ∀ w ∈ lw_tbl, w.before args s = true) (hA : ∀ a : Nat, a < s.heap.size → ¬ A a) {f : Nat → Nat × Nat × Nat} (hf : ∀ k, k < 44 → nKd (eKn.getD k "") (eOrd.getD k 0) (eKtx.getD k []) (f k).1 (f k).2.1 (f k).2.2 A args s) : ∃ t : Nat, va_Z "RingDomino$Kind" "ALL" "[LRingDomino$Kind;" (.ref t) A s s.heap ∧ va_T (.object "RingDomino$Kind") t 44 (fun j => .ref (f j).1) A s s.heap := by
  refine n_tab (by decide) (n1 _ (List.mem_of_getElem? (i := 31) rfl)) (n1 _ (List.mem_of_getElem? (i := 32) rfl)) (fun j hj => ?_) (ht _ (tb2 _ (List.mem_of_getElem? (i := 180) rfl))) (ht _ (tb1 _ (List.mem_of_getElem? (i := 7) rfl))) hA
  match j, hj with
  | 0, hj => exact n_tS (n1 _ (List.mem_of_getElem? (i := 34) rfl)) (hf 0 hj).1
  | 1, hj => exact n_tS (n1 _ (List.mem_of_getElem? (i := 35) rfl)) (hf 1 hj).1
  | 2, hj => exact n_tS (n1 _ (List.mem_of_getElem? (i := 36) rfl)) (hf 2 hj).1
  | 3, hj => exact n_tS (n1 _ (List.mem_of_getElem? (i := 37) rfl)) (hf 3 hj).1
  | 4, hj => exact n_tS (n1 _ (List.mem_of_getElem? (i := 38) rfl)) (hf 4 hj).1
  | 5, hj => exact n_tS (n1 _ (List.mem_of_getElem? (i := 39) rfl)) (hf 5 hj).1
  | 6, hj => exact n_tS (n1 _ (List.mem_of_getElem? (i := 40) rfl)) (hf 6 hj).1
  | 7, hj => exact n_tS (n1 _ (List.mem_of_getElem? (i := 41) rfl)) (hf 7 hj).1
  | 8, hj => exact n_tS (n1 _ (List.mem_of_getElem? (i := 42) rfl)) (hf 8 hj).1
  | 9, hj => exact n_tS (n1 _ (List.mem_of_getElem? (i := 43) rfl)) (hf 9 hj).1
  | 10, hj => exact n_tS (n1 _ (List.mem_of_getElem? (i := 44) rfl)) (hf 10 hj).1
  | 11, hj => exact n_tS (n1 _ (List.mem_of_getElem? (i := 45) rfl)) (hf 11 hj).1
  | 12, hj => exact n_tS (n1 _ (List.mem_of_getElem? (i := 46) rfl)) (hf 12 hj).1
  | 13, hj => exact n_tS (n1 _ (List.mem_of_getElem? (i := 47) rfl)) (hf 13 hj).1
  | 14, hj => exact n_tS (n1 _ (List.mem_of_getElem? (i := 48) rfl)) (hf 14 hj).1
  | 15, hj => exact n_tS (n1 _ (List.mem_of_getElem? (i := 49) rfl)) (hf 15 hj).1
  | 16, hj => exact n_tS (n1 _ (List.mem_of_getElem? (i := 50) rfl)) (hf 16 hj).1
  | 17, hj => exact n_tS (n1 _ (List.mem_of_getElem? (i := 51) rfl)) (hf 17 hj).1
  | 18, hj => exact n_tS (n1 _ (List.mem_of_getElem? (i := 52) rfl)) (hf 18 hj).1
  | 19, hj => exact n_tS (n1 _ (List.mem_of_getElem? (i := 53) rfl)) (hf 19 hj).1
  | 20, hj => exact n_tS (n1 _ (List.mem_of_getElem? (i := 54) rfl)) (hf 20 hj).1
  | 21, hj => exact n_tS (n1 _ (List.mem_of_getElem? (i := 55) rfl)) (hf 21 hj).1
  | 22, hj => exact n_tS (n1 _ (List.mem_of_getElem? (i := 56) rfl)) (hf 22 hj).1
  | 23, hj => exact n_tS (n1 _ (List.mem_of_getElem? (i := 57) rfl)) (hf 23 hj).1
  | 24, hj => exact n_tS (n1 _ (List.mem_of_getElem? (i := 58) rfl)) (hf 24 hj).1
  | 25, hj => exact n_tS (n1 _ (List.mem_of_getElem? (i := 59) rfl)) (hf 25 hj).1
  | 26, hj => exact n_tS (n1 _ (List.mem_of_getElem? (i := 60) rfl)) (hf 26 hj).1
  | 27, hj => exact n_tS (n1 _ (List.mem_of_getElem? (i := 61) rfl)) (hf 27 hj).1
  | 28, hj => exact n_tS (n1 _ (List.mem_of_getElem? (i := 62) rfl)) (hf 28 hj).1
  | 29, hj => exact n_tS (n1 _ (List.mem_of_getElem? (i := 63) rfl)) (hf 29 hj).1
  | 30, hj => exact n_tS (n1 _ (List.mem_of_getElem? (i := 64) rfl)) (hf 30 hj).1
  | 31, hj => exact n_tS (n1 _ (List.mem_of_getElem? (i := 65) rfl)) (hf 31 hj).1
  | 32, hj => exact n_tS (n1 _ (List.mem_of_getElem? (i := 66) rfl)) (hf 32 hj).1
  | 33, hj => exact n_tS (n1 _ (List.mem_of_getElem? (i := 67) rfl)) (hf 33 hj).1
  | 34, hj => exact n_tS (n1 _ (List.mem_of_getElem? (i := 68) rfl)) (hf 34 hj).1
  | 35, hj => exact n_tS (n1 _ (List.mem_of_getElem? (i := 69) rfl)) (hf 35 hj).1
  | 36, hj => exact n_tS (n1 _ (List.mem_of_getElem? (i := 70) rfl)) (hf 36 hj).1
  | 37, hj => exact n_tS (n1 _ (List.mem_of_getElem? (i := 71) rfl)) (hf 37 hj).1
  | 38, hj => exact n_tS (n1 _ (List.mem_of_getElem? (i := 72) rfl)) (hf 38 hj).1
  | 39, hj => exact n_tS (n1 _ (List.mem_of_getElem? (i := 73) rfl)) (hf 39 hj).1
  | 40, hj => exact n_tS (n1 _ (List.mem_of_getElem? (i := 74) rfl)) (hf 40 hj).1
  | 41, hj => exact n_tS (n1 _ (List.mem_of_getElem? (i := 75) rfl)) (hf 41 hj).1
  | 42, hj => exact n_tS (n1 _ (List.mem_of_getElem? (i := 76) rfl)) (hf 42 hj).1
  | 43, hj => exact n_tS (n1 _ (List.mem_of_getElem? (i := 77) rfl)) (hf 43 hj).1
  | j + 44, hj => exact absurd hj (by omega)
set_option maxRecDepth 100000 in
theorem n_t1305 (n1 : ∀ c ∈ flatC narrow_1_1, c.before args s = true) (n2 : ∀ c ∈ flatC narrow_1_2, c.before args s = true) (n3 : ∀ c ∈ flatC narrow_1_3, c.before args s = true) (ht : ∀ w ∈ lw_tbl, w.before args s = true) (hA : ∀ a : Nat, a < s.heap.size → ¬ A a) {f : Nat → Nat × Nat} (hf : ∀ k, k < 24 → (Term.string (nWix.getD k ("", 0)).1 (nWix.getD k ("", 0)).2).eval args s none [] s = some (.ref (f k).1) ∧ nStr (f k).1 (f k).2 (eWtx.getD k []) A s) : ∃ t : Nat, va_Z "RingDominoModel" "WORDS" "[Ljava/lang/String;" (.ref t) A s s.heap ∧ va_T (.object "java/lang/String") t 24 (fun j => .ref (f j).1) A s s.heap := by
  refine n_tab (by decide) (n1 _ (List.mem_of_getElem? (i := 226) rfl)) (n1 _ (List.mem_of_getElem? (i := 227) rfl)) (fun j hj => ?_) (ht _ (tb7 _ (List.mem_of_getElem? (i := 51) rfl))) (ht _ (tb1 _ (List.mem_of_getElem? (i := 14) rfl))) hA
  match j, hj with
  | 0, hj => exact n_tS (n1 _ (List.mem_of_getElem? (i := 228) rfl)) (hf 0 hj).1
  | 1, hj => exact n_tS (n1 _ (List.mem_of_getElem? (i := 229) rfl)) (hf 1 hj).1
  | 2, hj => exact n_tS (n1 _ (List.mem_of_getElem? (i := 230) rfl)) (hf 2 hj).1
  | 3, hj => exact n_tS (n1 _ (List.mem_of_getElem? (i := 231) rfl)) (hf 3 hj).1
  | 4, hj => exact n_tS (n1 _ (List.mem_of_getElem? (i := 232) rfl)) (hf 4 hj).1
  | 5, hj => exact n_tS (n1 _ (List.mem_of_getElem? (i := 233) rfl)) (hf 5 hj).1
  | 6, hj => exact n_tS (n1 _ (List.mem_of_getElem? (i := 234) rfl)) (hf 6 hj).1
  | 7, hj => exact n_tS (n1 _ (List.mem_of_getElem? (i := 235) rfl)) (hf 7 hj).1
  | 8, hj => exact n_tS (n1 _ (List.mem_of_getElem? (i := 236) rfl)) (hf 8 hj).1
  | 9, hj => exact n_tS (n1 _ (List.mem_of_getElem? (i := 237) rfl)) (hf 9 hj).1
  | 10, hj => exact n_tS (n1 _ (List.mem_of_getElem? (i := 238) rfl)) (hf 10 hj).1
  | 11, hj => exact n_tS (n1 _ (List.mem_of_getElem? (i := 239) rfl)) (hf 11 hj).1
  | 12, hj => exact n_tS (n1 _ (List.mem_of_getElem? (i := 240) rfl)) (hf 12 hj).1
  | 13, hj => exact n_tS (n1 _ (List.mem_of_getElem? (i := 241) rfl)) (hf 13 hj).1
  | 14, hj => exact n_tS (n1 _ (List.mem_of_getElem? (i := 242) rfl)) (hf 14 hj).1
  | 15, hj => exact n_tS (n1 _ (List.mem_of_getElem? (i := 243) rfl)) (hf 15 hj).1
  | 16, hj => exact n_tS (n1 _ (List.mem_of_getElem? (i := 244) rfl)) (hf 16 hj).1
  | 17, hj => exact n_tS (n1 _ (List.mem_of_getElem? (i := 245) rfl)) (hf 17 hj).1
  | 18, hj => exact n_tS (n1 _ (List.mem_of_getElem? (i := 246) rfl)) (hf 18 hj).1
  | 19, hj => exact n_tS (n1 _ (List.mem_of_getElem? (i := 247) rfl)) (hf 19 hj).1
  | 20, hj => exact n_tS (n1 _ (List.mem_of_getElem? (i := 248) rfl)) (hf 20 hj).1
  | 21, hj => exact n_tS (n1 _ (List.mem_of_getElem? (i := 249) rfl)) (hf 21 hj).1
  | 22, hj => exact n_tS (n1 _ (List.mem_of_getElem? (i := 250) rfl)) (hf 22 hj).1
  | 23, hj => exact n_tS (n1 _ (List.mem_of_getElem? (i := 251) rfl)) (hf 23 hj).1
  | j + 24, hj => exact absurd hj (by omega)
/-- the addresses of what the start holds -/
def nF (fk : Nat → Nat × Nat × Nat) (fw : Nat → Nat × Nat) (ft fm : Nat → Nat) : Nat → Nat := fun c => if c < 1100 then (fk (c - 1000)).1 else if c < 1150 then (fk (c - 1100)).2.1 else if c < 1300 then (fk (c - 1150)).2.2 else if c < 1400 then ft (c - 1300) else if c < 1450 then (fw (c - 1400)).1 else if c < 1600 then (fw (c - 1450)).2 else fm (c - 1600)
set_option maxRecDepth 100000 in
theorem n_start (n1 : ∀ c ∈ flatC narrow_1_1, c.before args s = true) (n2 : ∀ c ∈ flatC narrow_1_2, c.before args s = true) (n3 : ∀ c ∈ flatC narrow_1_3, c.before args s = true) (ht : ∀ w ∈ lw_tbl, w.before args s = true) (hA : ∀ a : Nat, a < s.heap.size → ¬ A a) : ∃ F : Nat → Nat, ∀ Y : (Nat → ClassId) × (Nat → Nat → Nat) × (Nat → ClassId), eSt (F, Y) A s s.heap ∧ eMs (F, Y) s := by
  obtain ⟨fk, hk⟩ := n_kinds n1 n2 n3 ht hA
  obtain ⟨fw, hw⟩ := n_words n1 n2 n3 ht hA
  obtain ⟨fm, hm⟩ := n_msgs n1 n2 n3 ht hA
  obtain ⟨t0, z0⟩ := n_t1300 n1 n2 n3 ht hA hk
  obtain ⟨t1, z1⟩ := n_t1301 n1 n2 n3 ht hA
  obtain ⟨t2, z2⟩ := n_t1302 n1 n2 n3 ht hA
  obtain ⟨t3, z3⟩ := n_t1303 n1 n2 n3 ht hA
  obtain ⟨t4, z4⟩ := n_t1304 n1 n2 n3 ht hA
  obtain ⟨t5, z5⟩ := n_t1305 n1 n2 n3 ht hA hw
  obtain ⟨t6, z6⟩ := n_t1306 n1 n2 n3 ht hA
  refine ⟨nF fk fw (fun j => ([t0, t1, t2, t3, t4, t5, t6] : List Nat).getD j 0) fm, fun Y => ?_⟩
  have e0 : ∀ k, k < 44 → nF fk fw (fun j => ([t0, t1, t2, t3, t4, t5, t6] : List Nat).getD j 0) fm (1000 + k) = (fk k).1 := fun k hk => by
    unfold nF
    rw [if_pos (by omega), Nat.add_sub_cancel_left]
  have e1 : ∀ k, k < 44 → nF fk fw (fun j => ([t0, t1, t2, t3, t4, t5, t6] : List Nat).getD j 0) fm (1100 + k) = (fk k).2.1 := fun k hk => by
    unfold nF
    rw [if_neg (by omega), if_pos (by omega), Nat.add_sub_cancel_left]
  have e2 : ∀ k, k < 44 → nF fk fw (fun j => ([t0, t1, t2, t3, t4, t5, t6] : List Nat).getD j 0) fm (1100 + 50 + k) = (fk k).2.2 := fun k hk => by
    unfold nF
    rw [if_neg (by omega), if_neg (by omega), if_pos (by omega), show 1100 + 50 + k - 1150 = k by omega]
  have e3 : ∀ k, k < 24 → nF fk fw (fun j => ([t0, t1, t2, t3, t4, t5, t6] : List Nat).getD j 0) fm (1400 + k) = (fw k).1 := fun k hk => by
    unfold nF
    rw [if_neg (by omega), if_neg (by omega), if_neg (by omega), if_neg (by omega), if_pos (by omega), Nat.add_sub_cancel_left]
  have e4 : ∀ k, k < 24 → nF fk fw (fun j => ([t0, t1, t2, t3, t4, t5, t6] : List Nat).getD j 0) fm (1400 + 50 + k) = (fw k).2 := fun k hk => by
    unfold nF
    rw [if_neg (by omega), if_neg (by omega), if_neg (by omega), if_neg (by omega), if_neg (by omega), if_pos (by omega), show 1400 + 50 + k - 1450 = k by omega]
  have e5 : ∀ k, nF fk fw (fun j => ([t0, t1, t2, t3, t4, t5, t6] : List Nat).getD j 0) fm (1600 + k) = fm k := fun k => by
    unfold nF
    rw [if_neg (by omega), if_neg (by omega), if_neg (by omega), if_neg (by omega), if_neg (by omega), if_neg (by omega), Nat.add_sub_cancel_left]
  generalize hF : nF fk fw (fun j => ([t0, t1, t2, t3, t4, t5, t6] : List Nat).getD j 0) fm = F at e0 e1 e2 e3 e4 e5
  have g0 : F 1300 = t0 := by rw [← hF]; rfl
  have g1 : F 1301 = t1 := by rw [← hF]; rfl
  have g2 : F 1302 = t2 := by rw [← hF]; rfl
  have g3 : F 1303 = t3 := by rw [← hF]; rfl
  have g4 : F 1304 = t4 := by rw [← hF]; rfl
  have g5 : F 1305 = t5 := by rw [← hF]; rfl
  have g6 : F 1306 = t6 := by rw [← hF]; rfl
  refine ⟨⟨⟨fun k hk' => ?_, fun i j hi hj e => ?_⟩, fun k hk' => ?_, fun k hk' => ?_, fun k hk' => ?_, ?_, ?_, ?_, ?_, ?_, ?_, ?_, ?_, ?_, ?_, ?_⟩, fun q hq => ?_⟩
  · have hk2 : k < 44 := hk'
    obtain ⟨q1, q2, q3, q4, q5, q6⟩ := hk k hk2
    show va_Z _ _ _ (.ref (F (1000 + k))) A s s.heap ∧ va_O _ (F (1000 + k)) A s s.heap ∧ _
    rw [e0 k hk2]
    refine ⟨q2, q3, fun q hq => ?_⟩
    rw [List.mem_singleton.mp hq]
    show va_OF _ _ _ _ (F (1000 + k)) A s s.heap
    rw [e0 k hk2]
    exact q4
  · have hi2 : i < 44 := hi
    have hj2 : j < 44 := hj
    replace e : F (1000 + i) = F (1000 + j) := e
    rw [e0 i hi2, e0 j hj2] at e
    obtain ⟨-, -, -, ⟨cf, k, fi, f, cell, o1, o2, o3, o4, o5, o6⟩, -⟩ := hk i hi2
    obtain ⟨-, -, -, ⟨cf', k', fi', f', cell', p1, p2, p3, p4, p5, p6⟩, -⟩ := hk j hj2
    rw [e] at o3
    cases o1.symm.trans p1
    cases o3.symm.trans p3
    have h := o5.symm.trans p5
    have h2 : eOrd.getD i 0 = eOrd.getD j 0 := by
      injection h with h
      injection h with h
    have key : ∀ i, i < 44 → ∀ j, j < 44 → eOrd.getD i 0 = eOrd.getD j 0 → i = j := by decide +kernel
    exact key i hi2 j hj2 h2
  · obtain ⟨q1, q2, q3, q4, q5, q6⟩ := hk k hk'
    show va_OF _ _ _ (.ref (F (1100 + k))) (F (1000 + k)) A s s.heap
    rw [e0 k hk', e1 k hk']
    exact q5
  · have hk2 : k < 44 := hk'
    obtain ⟨q1, q2, q3, q4, q5, q6⟩ := hk k hk2
    show va_O _ (F (1100 + k)) A s s.heap ∧ va_OF _ _ _ _ (F (1100 + k)) A s s.heap ∧ va_OF _ _ _ (.ref (F (1100 + 50 + k))) (F (1100 + k)) A s s.heap ∧ va_T _ (F (1100 + 50 + k)) _ _ A s s.heap
    rw [e1 k hk2, e2 k hk2]
    exact q6
  · have hk2 : k < 24 := hk'
    obtain ⟨q1, q6⟩ := hw k hk2
    show va_O _ (F (1400 + k)) A s s.heap ∧ va_OF _ _ _ _ (F (1400 + k)) A s s.heap ∧ va_OF _ _ _ (.ref (F (1400 + 50 + k))) (F (1400 + k)) A s s.heap ∧ va_T _ (F (1400 + 50 + k)) _ _ A s s.heap
    rw [e3 k hk2, e4 k hk2]
    exact q6
  · show va_Z _ _ _ (.ref (F 1300)) A s s.heap ∧ va_T _ (F 1300) 44 (fun j => .ref (F (1000 + j))) A s s.heap
    rw [g0]
    refine ⟨z0.1, ?_⟩
    obtain ⟨cell, w1, w2, w3, w4, w5, w6, w7⟩ := z0.2
    exact ⟨cell, w1, w2, w3, w4, w5, fun j hj => by show cell.slots[j]? = some (.ref (F (1000 + j))); rw [e0 j hj]; exact w6 j hj, w7⟩
  · show va_Z _ _ _ (.ref (F 1301)) A s s.heap ∧ va_T _ (F 1301) 6 _ A s s.heap
    rw [g1]; exact z1
  · show va_Z _ _ _ (.ref (F 1302)) A s s.heap ∧ va_T _ (F 1302) 6 _ A s s.heap
    rw [g2]; exact z2
  · show va_Z _ _ _ (.ref (F 1303)) A s s.heap ∧ va_T _ (F 1303) 6 _ A s s.heap
    rw [g3]; exact z3
  · show va_Z _ _ _ (.ref (F 1304)) A s s.heap ∧ va_T _ (F 1304) 6 _ A s s.heap
    rw [g4]; exact z4
  · show va_Z _ _ _ (.ref (F 1305)) A s s.heap ∧ va_T _ (F 1305) 24 (fun j => .ref (F (1400 + j))) A s s.heap
    rw [g5]
    refine ⟨z5.1, ?_⟩
    obtain ⟨cell, w1, w2, w3, w4, w5, w6, w7⟩ := z5.2
    exact ⟨cell, w1, w2, w3, w4, w5, fun j hj => by show cell.slots[j]? = some (.ref (F (1400 + j))); rw [e3 j hj]; exact w6 j hj, w7⟩
  · show va_Z _ _ _ (.ref (F 1306)) A s s.heap ∧ va_T _ (F 1306) 44 _ A s s.heap
    rw [g6]; exact z6
  · exact va_Zof (ht _ (tb2 _ (List.mem_of_getElem? (i := 194) rfl))) (ht _ (tb1 _ (List.mem_of_getElem? (i := 22) rfl))) (va_eqi (n1 _ (List.mem_of_getElem? (i := 78) rfl))) hA
  · exact va_Zqof (ht _ (tb2 _ (List.mem_of_getElem? (i := 210) rfl))) (ht _ (tb1 _ (List.mem_of_getElem? (i := 24) rfl))) (n1 _ (List.mem_of_getElem? (i := 79) rfl)) hA
  · exact vx_Zqof (ht _ (tb5 _ (List.mem_of_getElem? (i := 13) rfl))) (ht _ (tb1 _ (List.mem_of_getElem? (i := 17) rfl))) (n1 _ (List.mem_of_getElem? (i := 223) rfl)) hA
  · exact vx_Zqof (ht _ (tb5 _ (List.mem_of_getElem? (i := 15) rfl))) (ht _ (tb1 _ (List.mem_of_getElem? (i := 17) rfl))) (n1 _ (List.mem_of_getElem? (i := 224) rfl)) hA
  · have key : ∀ q ∈ eMsg, ∃ k, k < 11 ∧ q = eMsg.getD k ("", 0, "", 0) ∧ q.2.2.2 = 1600 + k := by decide +kernel
    obtain ⟨k, hk', r1, r2⟩ := key q hq
    show vk_R q.1 q.2.1 q.2.2.1 (F q.2.2.2) s
    rw [r2, e5, r1]
    exact hm k hk'
theorem n_cls (n1 : ∀ c ∈ flatC narrow_1_1, c.before args s = true) (n2 : ∀ c ∈ flatC narrow_1_2, c.before args s = true) (n3 : ∀ c ∈ flatC narrow_1_3, c.before args s = true) (ht : ∀ w ∈ lw_tbl, w.before args s = true) (hA : ∀ a : Nat, a < s.heap.size → ¬ A a) : ∃ f : Nat → ClassId × (Nat → Nat), ∀ k, k < 12 → ∀ q, vwCl[k]? = some q → u_Kn s q.1 q.2.1 q.2.2 (f k).1 (f k).2 := by
  refine n_all (P := fun k (f : ClassId × (Nat → Nat)) => ∀ q, vwCl[k]? = some q → u_Kn s q.1 q.2.1 q.2.2 f.1 f.2) (0, fun _ => 0) (fun k hk => ?_)
  match k, hk with
  | 0, _ =>
    obtain ⟨c, i, h⟩ := u_known (C := RX1) (T := TX1) (N := 17) (n := 17) ht inX1 (ht _ (tb1 _ (List.mem_of_getElem? (i := 212) rfl)))
    exact ⟨(c, i), fun q hq => by cases hq; exact h⟩
  | 1, _ =>
    obtain ⟨c, i, h⟩ := u_known (C := RX2) (T := TX2) (N := 6) (n := 6) ht inX2 (ht _ (tb2 _ (List.mem_of_getElem? (i := 42) rfl)))
    exact ⟨(c, i), fun q hq => by cases hq; exact h⟩
  | 2, _ =>
    obtain ⟨c, i, h⟩ := u_known (C := RX3) (T := TX3) (N := 4) (n := 4) ht inX3 (ht _ (tb1 _ (List.mem_of_getElem? (i := 161) rfl)))
    exact ⟨(c, i), fun q hq => by cases hq; exact h⟩
  | 3, _ =>
    obtain ⟨c, i, h⟩ := u_known (C := RX5) (T := TX5) (N := 7) (n := 7) ht inX5 (ht _ (tb1 _ (List.mem_of_getElem? (i := 182) rfl)))
    exact ⟨(c, i), fun q hq => by cases hq; exact h⟩
  | 4, _ =>
    obtain ⟨c, i, h⟩ := u_known (C := RX6) (T := TX6) (N := 5) (n := 5) ht inX6 (ht _ (tb1 _ (List.mem_of_getElem? (i := 92) rfl)))
    exact ⟨(c, i), fun q hq => by cases hq; exact h⟩
  | 5, _ =>
    obtain ⟨c, i, h⟩ := u_known (C := RX7) (T := TX7) (N := 10) (n := 10) ht inX7 (ht _ (tb1 _ (List.mem_of_getElem? (i := 84) rfl)))
    exact ⟨(c, i), fun q hq => by cases hq; exact h⟩
  | 6, _ =>
    obtain ⟨c, i, h⟩ := u_known (C := RX8) (T := TX8) (N := 2) (n := 2) ht inX8 (ht _ (tb1 _ (List.mem_of_getElem? (i := 39) rfl)))
    exact ⟨(c, i), fun q hq => by cases hq; exact h⟩
  | 7, _ =>
    obtain ⟨c, i, h⟩ := u_known (C := RX9) (T := TX9) (N := 6) (n := 6) ht inX9 (ht _ (tb1 _ (List.mem_of_getElem? (i := 55) rfl)))
    exact ⟨(c, i), fun q hq => by cases hq; exact h⟩
  | 8, _ =>
    obtain ⟨c, i, h⟩ := u_known (C := RX10) (T := TX10) (N := 8) (n := 8) ht inX10 (ht _ (tb1 _ (List.mem_of_getElem? (i := 31) rfl)))
    exact ⟨(c, i), fun q hq => by cases hq; exact h⟩
  | 9, _ =>
    obtain ⟨c, i, h⟩ := u_known (C := RX11) (T := TX11) (N := 5) (n := 5) ht inX11 (ht _ (tb6 _ (List.mem_of_getElem? (i := 133) rfl)))
    exact ⟨(c, i), fun q hq => by cases hq; exact h⟩
  | 10, _ =>
    obtain ⟨c, i, h⟩ := u_known (C := RX12) (T := TX12) (N := 15) (n := 15) ht inX12 (ht _ (tb6 _ (List.mem_of_getElem? (i := 66) rfl)))
    exact ⟨(c, i), fun q hq => by cases hq; exact h⟩
  | 11, _ =>
    obtain ⟨c, i, h⟩ := u_known (C := RX13) (T := TX13) (N := 24) (n := 24) ht inX13 (ht _ (tb6 _ (List.mem_of_getElem? (i := 60) rfl)))
    exact ⟨(c, i), fun q hq => by cases hq; exact h⟩
  | k + 12, hk => exact absurd hk (by omega)
theorem n_arp {ty : FieldType} (hp : ∀ (U : State) (cA : ClassId), va_RA U cA ty = (U.vm.findClass ("[" ++ ty.toString) = some cA)) (h : (Cond.arrayClass ty).before args s = true) : ∃ c : ClassId, ArrOfT s c ty ∧ va_RA s c ty := by
  obtain ⟨c, k, comp, h1, h2, h3⟩ := Cond.arrayClass_spec (args := args) (first := s) (o := none) (s := s) (idx := []) h
  exact ⟨c, fun n z => ⟨fun k h => (by cases h), k, h2, comp, h3⟩, by rw [hp]; exact h1⟩
theorem n_aro {C : String} (h : (Cond.arrayOver (.object C)).before args s = true) : ∃ c : ClassId, ArrOfT s c (.object C) ∧ va_RA s c (.object C) := by
  obtain ⟨comp, c, k, h1, h2, h3, h4, h5⟩ := Cond.arrayOver_spec h
  exact ⟨c, fun n z => ⟨fun k h => (by cases h), k, h3, comp, h4⟩, k, comp, h3, h4, h1, h5⟩
def nTy (cA : Nat → ClassId) : List (ClassId × FieldType) := [(cA 0, .int), (cA 1, .byte), (cA 2, .boolean), (cA 3, .object "RingDomino$Kind"), (cA 4, .object "RingDomino$Order"), (cA 5, .long)]
def nTyL : List FieldType := [.int, .byte, .boolean, .object "RingDomino$Kind", .object "RingDomino$Order", .long]
theorem n_arr (n1 : ∀ c ∈ flatC narrow_1_1, c.before args s = true) (n2 : ∀ c ∈ flatC narrow_1_2, c.before args s = true) (n3 : ∀ c ∈ flatC narrow_1_3, c.before args s = true) (ht : ∀ w ∈ lw_tbl, w.before args s = true) (hA : ∀ a : Nat, a < s.heap.size → ¬ A a) : ∃ f : Nat → ClassId, ∀ k, k < 6 → ArrOfT s (f k) (nTyL.getD k .int) ∧ va_RA s (f k) (nTyL.getD k .int) := by
  refine n_all (P := fun k (f : ClassId) => ArrOfT s f (nTyL.getD k .int) ∧ va_RA s f (nTyL.getD k .int)) 0 (fun k hk => ?_)
  match k, hk with
  | 0, _ => exact n_arp (fun _ _ => rfl) (ht _ xa_int)
  | 1, _ => exact n_arp (fun _ _ => rfl) (ht _ xa_byte)
  | 2, _ => exact n_arp (fun _ _ => rfl) (ht _ xa_boolean)
  | 3, _ => exact n_aro (ht _ (tb1 _ (List.mem_of_getElem? (i := 61) rfl)))
  | 4, _ => exact n_aro (ht _ (tb1 _ (List.mem_of_getElem? (i := 90) rfl)))
  | 5, _ => exact n_arp (fun _ _ => rfl) (ht _ xa_long)
  | k + 6, hk => exact absurd hk (by omega)
theorem n_xN (n1 : ∀ c ∈ flatC narrow_1_1, c.before args s = true) (n2 : ∀ c ∈ flatC narrow_1_2, c.before args s = true) (n3 : ∀ c ∈ flatC narrow_1_3, c.before args s = true) (ht : ∀ w ∈ lw_tbl, w.before args s = true) (hA : ∀ a : Nat, a < s.heap.size → ¬ A a) : xN0 s := ⟨va_AO.of (ht _ (tb1 _ (List.mem_of_getElem? (i := 61) rfl))), va_AO.of (ht _ (tb1 _ (List.mem_of_getElem? (i := 90) rfl))), va_Nc.of (n1 _ (List.mem_of_getElem? (i := 343) rfl))⟩
theorem n_G (n1 : ∀ c ∈ flatC narrow_1_1, c.before args s = true) (n2 : ∀ c ∈ flatC narrow_1_2, c.before args s = true) (n3 : ∀ c ∈ flatC narrow_1_3, c.before args s = true) (ht : ∀ w ∈ lw_tbl, w.before args s = true) (hA : ∀ a : Nat, a < s.heap.size → ¬ A a) : ∃ G : eG, va_K (eD G) vwCl (eTy G) s ∧ eSt G A s s.heap ∧ eMs G s := by
  obtain ⟨fc, hc⟩ := n_cls n1 n2 n3 ht hA
  obtain ⟨fa, ha⟩ := n_arr n1 n2 n3 ht hA
  obtain ⟨F, hF⟩ := n_start n1 n2 n3 ht hA
  refine ⟨(F, (fun k => (fc k).1, fun k => (fc k).2, fa)), ⟨fun c q hq => ?_, fun k q hk => ?_⟩, (hF _).1, (hF _).2⟩
  · have hlt : c < 12 := (List.getElem?_eq_some_iff.mp hq).1
    exact hc c hlt q hq
  · have hlt : k < 6 := (List.getElem?_eq_some_iff.mp hk).1
    match k, hlt, hk with
    | 0, _, hk => cases hk; exact ha 0 (by decide)
    | 1, _, hk => cases hk; exact ha 1 (by decide)
    | 2, _, hk => cases hk; exact ha 2 (by decide)
    | 3, _, hk => cases hk; exact ha 3 (by decide)
    | 4, _, hk => cases hk; exact ha 4 (by decide)
    | 5, _, hk => cases hk; exact ha 5 (by decide)
    | k + 6, hlt, _ => exact absurd hlt (by omega)
end Start
