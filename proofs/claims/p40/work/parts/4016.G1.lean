/-! ===== p40: pieces of a text and their tokens ===== -/
/-- the rest of the text is l -/
def tS (bt : Nat → Nat) (sz p : Nat) (l : List Nat) : Prop := tF bt sz p l ∧ p + l.length = sz
/-- what may follow: 1 no letter and no digit, 2 no = -/
def nxc (c : Nat) (rest : List Nat) : Prop := ∀ b, rest.head? = some b → (c = 1 → tLD b = false) ∧ (c = 2 → b ≠ 61)
def Fr (c : Nat) (f : List Nat) (ks : List xTk) : Prop := ∀ (bt : Nat → Nat) (sz p : Nat) (rest : List Nat), tS bt sz p (f ++ rest) → nxc c rest → tR bt sz p ks (tEnd bt sz tB (p + f.length))
/-- how a piece begins -/
def hdc (c : Nat) (g : List Nat) : Prop := ∃ b t, g = b :: t ∧ tB b = false ∧ (c = 1 → tLD b = false) ∧ (c = 2 → b ≠ 61)
theorem tS.next {bt : Nat → Nat} {sz p : Nat} {f rest : List Nat} (h : tS bt sz p (f ++ rest)) : (rest = [] ∧ p + f.length = sz) ∨ ∃ b t, rest = b :: t ∧ p + f.length < sz ∧ bt (p + f.length) = b := by
  cases rest with
  | nil =>
    left
    have := h.2
    rw [List.append_nil] at this
    exact ⟨rfl, this⟩
  | cons b t =>
    right
    have := h.1.right.head
    exact ⟨b, t, rfl, this.1, this.2⟩
theorem tS.right {bt : Nat → Nat} {sz p : Nat} {f rest : List Nat} (h : tS bt sz p (f ++ rest)) : tS bt sz (p + f.length) rest := ⟨h.1.right, by have := h.2; rw [List.length_append] at this; omega⟩
theorem nxc0 (rest : List Nat) : nxc 0 rest := fun b _ => ⟨fun z => absurd z (by decide), fun z => absurd z (by decide)⟩
theorem Fr.cat0 {c1 c2 : Nat} {f g : List Nat} {ks ks' : List xTk} (h1 : Fr c1 f ks) (h2 : Fr c2 g ks') (hg : hdc c1 g) : Fr c2 (f ++ g) (ks ++ ks') := by
  intro bt sz p rest hs hn
  obtain ⟨b, t, rfl, hb, h3, h4⟩ := hg
  rw [List.append_assoc] at hs
  have r1 := h1 bt sz p _ hs (fun b' hb' => by
    have e : b = b' := Option.some.inj hb'
    rw [← e]
    exact ⟨h3, h4⟩)
  have hr := hs.right
  have hh := hr.1.head
  rw [tEnd_no (by rw [hh.2]; exact hb)] at r1
  have r2 := h2 bt sz _ rest hr hn
  rw [List.length_append, ← Nat.add_assoc]
  exact r1.app r2
theorem Fr.cat1 {c1 c2 x : Nat} {f g : List Nat} {ks ks' : List xTk} (h1 : Fr c1 f ks) (hx : x = 32 ∨ x = 10) (h2 : Fr c2 g ks') (hg : hdc 0 g) : Fr c2 (f ++ (x :: g)) (ks ++ ks') := by
  intro bt sz p rest hs hn
  obtain ⟨b, t, rfl, hb, -, -⟩ := hg
  rw [List.append_assoc] at hs
  have hB : tB x = true := by rcases hx with rfl | rfl <;> rfl
  have r1 := h1 bt sz p _ hs (fun b' hb' => by
    have e : x = b' := Option.some.inj hb'
    rw [← e]
    rcases hx with rfl | rfl
    · exact ⟨fun _ => rfl, fun _ => by decide⟩
    · exact ⟨fun _ => rfl, fun _ => by decide⟩)
  have hr := hs.right
  have hh := hr.1.head
  have hr2 : tS bt sz (p + f.length + 1) ((b :: t) ++ rest) := tS.right (f := [x]) hr
  have hh2 := hr2.1.head
  rw [tEnd_yes hh.1 (by rw [hh.2]; exact hB), tEnd_no (by rw [hh2.2]; exact hb)] at r1
  have r2 := h2 bt sz _ rest hr2 hn
  rw [List.length_append, List.length_cons, show p + (f.length + ((b :: t).length + 1)) = p + f.length + 1 + (b :: t).length by omega]
  exact r1.app r2
theorem Fr.word {w : List Nat} (h0 : 1 ≤ w.length ∧ w.length ≤ 10) (h1 : tL (w.getD 0 0) = true) (h2 : ∀ x ∈ w, tLD x = true) : Fr 1 w [(wTxt w 41, w)] := by
  intro bt sz p rest hs hn
  have hl := hs.1.left
  have t := tok_word hl h0 h1 h2 (fun hq => by
    rcases hs.next with ⟨-, e⟩ | ⟨b, t, rfl, -, e⟩
    · omega
    · rw [e]; exact (hn b rfl).1 rfl)
  exact ⟨⟨t.1, t.2.1, t.2.2, hl⟩, rfl⟩
theorem Fr.num {n f : Nat} (hn : n < 10 ^ (f + 1)) (hf : f ≤ 5) : Fr 1 (dg n) [(40, dg n)] := by
  intro bt sz p rest hs hx
  have hl := hs.1.left
  have h0 := dg_len hn (show f ≤ 9 by omega)
  have t := tok_num hl ⟨h0.1, by omega⟩ (dg_digit n) (fun hq => by
    rcases hs.next with ⟨-, e⟩ | ⟨b, t, rfl, -, e⟩
    · omega
    · rw [e]
      have := (hx b rfl).1 rfl
      unfold tLD at this
      rw [Bool.or_eq_false_iff] at this
      exact this.2)
  exact ⟨⟨t.1, t.2.1, t.2.2, hl⟩, rfl⟩
theorem Fr.sign {b : Nat} (h1 : tL b = false) (h2 : tD b = false) (h3 : b ≠ 60 ∧ b ≠ 62) : Fr 0 [b] [(wTxt [b] 43, [b])] := by
  intro bt sz p rest hs _
  have hl := hs.1.left
  have t := tok_sign hl h1 h2 (fun z => by omega)
  exact ⟨⟨t.1, t.2.1, t.2.2, hl⟩, rfl⟩
theorem Fr.lt {b : Nat} (h3 : b = 60 ∨ b = 62) : Fr 2 [b] [(wTxt [b] 43, [b])] := by
  intro bt sz p rest hs hn
  have hl := hs.1.left
  have t := tok_sign hl (by rcases h3 with rfl | rfl <;> decide) (by rcases h3 with rfl | rfl <;> decide) (fun _ hq => by
    rcases hs.next with ⟨-, e⟩ | ⟨c, t, rfl, -, e⟩
    · have e' : p + 1 = sz := e
      omega
    · have e' : bt (p + 1) = c := e
      rw [e']; exact (hn c rfl).2 rfl)
  exact ⟨⟨t.1, t.2.1, t.2.2, hl⟩, rfl⟩
theorem Fr.le {b : Nat} (h3 : b = 60 ∨ b = 62) : Fr 0 [b, 61] [(wTxt [b, 61] 43, [b, 61])] := by
  intro bt sz p rest hs hn
  have hl := hs.1.left
  have t := tok_sign2 hl h3
  exact ⟨⟨t.1, t.2.1, t.2.2, hl⟩, rfl⟩
theorem Fr.weak {f : List Nat} {ks : List xTk} (h : Fr 0 f ks) (c : Nat) : Fr c f ks := fun bt sz p rest hs _ => h bt sz p rest hs (nxc0 rest)
/-- the tiles' names: t and a number below 16 -/
def tnm (k : Nat) : List Nat := 116 :: dg k
theorem tnm_all : ∀ k, k < 16 → (1 ≤ (tnm k).length ∧ (tnm k).length ≤ 10) ∧ tL ((tnm k).getD 0 0) = true ∧ (∀ x ∈ tnm k, tLD x = true) ∧ wTxt (tnm k) 41 = 41 := by decide +kernel
theorem tnm_inj : ∀ k, k < 16 → ∀ i, i < 16 → tnm k = tnm i → k = i := by decide +kernel
theorem Fr.name {k : Nat} (hk : k < 16) : Fr 1 (tnm k) [(41, tnm k)] := by
  obtain ⟨h1, h2, h3, h4⟩ := tnm_all k hk
  have := Fr.word h1 h2 h3
  rw [h4] at this
  exact this
/-- a text wholly read -/
theorem Fr.all {c : Nat} {f : List Nat} {ks : List xTk} (h : Fr c f ks) {bt : Nat → Nat} (hf : tF bt f.length 0 f) (h0 : hdc 0 f) : tR bt f.length (tEnd bt f.length tB 0) ks f.length := by
  obtain ⟨b, t, rfl, hb, -, -⟩ := h0
  have hh := hf.head
  rw [tEnd_no (by rw [hh.2]; exact hb)]
  have := h bt _ 0 [] ⟨by rw [List.append_nil]; exact hf, by rw [List.append_nil, Nat.zero_add]⟩ (fun b hb => by cases hb)
  rw [Nat.zero_add, tEnd_off (Nat.le_refl _)] at this
  exact this
