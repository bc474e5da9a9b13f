/-! ===== texts on the heap ===== -/
/-- a text: of the law's own, or static -/
def yTs (G : eG) (H : yH) (a : Nat) : Prop := yIs H a 13 ∨ ∃ (bs j : Nat) (tx : List (List Int32)), eStA G bs tx ∧ j < tx.length ∧ a = G.1 (bs + j)
section YTexts
variable {X : xX} {Z : eZt} {G : eG} {R : Room} {K : eK} {pc : Nat} {l l' : List (Nat × Value)} {S : List Value} {M : eM} {H : yH} {ca sl index : Nat}
theorem y_callX (hX : yXok X) {K' : eK} {b' : eB} {As : List Value} {a k : Nat} {Fin : Option Value → eM → yH → Prop} (hT : yTs G H a) (hdg : decode (kCode K) pc = .ok (.invokevirtual index, 3)) (hm : eMV K' k) (hlk : Cond.methodLink (kOwn K) index (kY K') ∈ lw_tbl) (hcn : (kY K').cls = "java/lang/String") (hk : As.length = k) (hb : xFit R b' K' ca sl) (hS : (S.map fun v => v.category).sum ≤ 8)
    (hcal : yCal G b' K' (.ref a :: As) M H Fin) (kk : ∀ (v : Option Value) (M' : eM) (H' : yH), Fin v M' H' → Yx X Z G R K (pc + 3) l (v.toList ++ S) M' H' (ca + b'.2.1) (sl + b'.2.2)) {S0 : List Value} (hS0 : S0 = As.reverse ++ .ref a :: S) : Yx X Z G R K pc l S0 M H ca sl := by
  rcases hT with ⟨fs, hi⟩ | ⟨bs, j, tx, hA, hj, rfl⟩
  · exact y_callV hX hdg hm hlk clJ0 hcn hi hk hb hS hcal kk hS0
  · exact y_callT hX hA hj hdg hm hlk hcn hk hb hS hcal kk hS0
end YTexts
def yAs (bs : List Nat) : Prop := ∀ b ∈ bs, b < 128
theorem yAs.nil : yAs [] := fun _ h => absurd h List.not_mem_nil
theorem yAs.app {a b : List Nat} (h : yAs a) (h1 : yAs b) : yAs (a ++ b) := fun x hx => (List.mem_append.mp hx).elim (h x) (h1 x)
theorem gD_lt {bs : List Nat} {i : Nat} (hi : i < bs.length) : bs.getD i 0 = bs[i] := by rw [List.getD_eq_getElem?_getD, List.getElem?_eq_getElem hi]; rfl
theorem gD_ge {bs : List Nat} {i : Nat} (hi : bs.length ≤ i) : bs.getD i 0 = 0 := by rw [List.getD_eq_getElem?_getD, List.getElem?_eq_none hi]; rfl
theorem gD_map {bs : List Nat} {i : Nat} (hi : i < bs.length) : (bs.map nI).getD i 0 = nI (bs.getD i 0) := by rw [gD_lt hi, List.getD_eq_getElem?_getD, List.getElem?_map, List.getElem?_eq_getElem hi]; rfl
theorem gD_apl {bs cs : List Nat} {i : Nat} (hi : i < bs.length) : (bs ++ cs).getD i 0 = bs.getD i 0 := by rw [List.getD_eq_getElem?_getD, List.getD_eq_getElem?_getD, List.getElem?_append_left hi]
theorem gD_apr {bs cs : List Nat} {i : Nat} (hi : bs.length ≤ i) : (bs ++ cs).getD i 0 = cs.getD (i - bs.length) 0 := by rw [List.getD_eq_getElem?_getD, List.getD_eq_getElem?_getD, List.getElem?_append_right hi]
theorem yAs.at {bs : List Nat} (h : yAs bs) (i : Nat) : bs.getD i 0 < 128 := by
  by_cases hi : i < bs.length
  · rw [gD_lt hi]; exact h _ (List.getElem_mem hi)
  · rw [gD_ge (Nat.le_of_not_lt hi)]; decide
theorem fit_b : ∀ b, b < 128 → fits .byte (.int (nI b)) = true := by decide +kernel
theorem nar_b : ∀ b, b < 128 → (nI b).toInt8.toInt32 = nI b := by decide +kernel
theorem nar_c : ∀ b, b < 128 → ((nI b &&& 255).toUInt32 % 65536).toInt32 = nI b ∧ narrow .char (.int (nI b)) = .int (nI b) := by decide +kernel
/-- a text and its bytes -/
def yTx (G : eG) (H : yH) (a : Nat) (bs : List Nat) : Prop :=
  (∃ (va : Nat) (h z : Int32) (f : Nat → Int32), H a = some (.inr (13, [.ref va, .int 0, .int h, .int z])) ∧ H va = some (.inl (G.2.2.2 1, (bs.length, .inl f))) ∧ ∀ i, i < bs.length → f i = nI (bs.getD i 0)) ∨
  (∃ (b j : Nat) (tx : List (List Int32)), eStA G b tx ∧ j < tx.length ∧ a = G.1 (b + j) ∧ tx.getD j [] = bs.map nI)
theorem yTx.ts {G : eG} {H : yH} {a : Nat} {bs : List Nat} (h : yTx G H a bs) : yTs G H a := by
  rcases h with ⟨va, hh, z, f, h1, -⟩ | ⟨b, j, tx, hA, hj, e, -⟩
  · exact Or.inl (yIs.of h1)
  · exact Or.inr ⟨b, j, tx, hA, hj, e⟩
theorem yTx.le {G : eG} {H H' : yH} {a : Nat} {bs : List Nat} (h : yTx G H a bs) (hl : yLe H H') : yTx G H' a bs := by
  rcases h with ⟨va, hh, z, f, h1, h2, h3⟩ | h
  · exact Or.inl ⟨va, hh, z, f, hl _ _ h1, hl _ _ h2, h3⟩
  · exact Or.inr h
/-- only a buffer's own fields change -/
theorem yTx.buf {G : eG} {H H' : yH} {a b : Nat} {bs : List Nat} (h : yTx G H a bs) (hk : yKp [b] H H') {fs : List Value} (hb : H b = some (.inr (14, fs))) : yTx G H' a bs := by
  rcases h with ⟨va, hh, z, f, h1, h2, h3⟩ | h
  · refine Or.inl ⟨va, hh, z, f, hk _ _ (fun q => ?_) h1, hk _ _ (fun q => ?_) h2, h3⟩
    · rw [List.mem_singleton.mp q, hb] at h1; simp at h1
    · rw [List.mem_singleton.mp q, hb] at h2; simp at h2
  · exact Or.inr h
/-- a buffer: its array, how much it holds, the bytes -/
def ySB (G : eG) (H : yH) (a va m : Nat) (bs : List Nat) : Prop :=
  H a = some (.inr (14, [.ref va, .int 0, .int 0, .int (nI bs.length)])) ∧ ∃ g : Nat → Int32, H va = some (.inl (G.2.2.2 1, (m, .inl g))) ∧ (∀ i, i < bs.length → g i = nI (bs.getD i 0)) ∧ (∀ j, fits .byte (.int (g j)) = true) ∧ bs.length ≤ m
theorem ySB.kp {G : eG} {H H' : yH} {a va m : Nat} {bs : List Nat} (h : ySB G H a va m bs) {ex : List Nat} (hk : yKp ex H H') (h1 : a ∉ ex) (h2 : va ∉ ex) : ySB G H' a va m bs := by
  obtain ⟨e1, g, e2, e3⟩ := h
  exact ⟨hk _ _ h1 e1, g, hk _ _ h2 e2, e3⟩
theorem ySB.le {G : eG} {H H' : yH} {a va m : Nat} {bs : List Nat} (h : ySB G H a va m bs) (hl : yLe H H') : ySB G H' a va m bs := h.kp (yKp.of hl []) List.not_mem_nil List.not_mem_nil
