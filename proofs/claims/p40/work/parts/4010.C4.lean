/-! ===== p40: the law's orders and games, read ===== -/
/-- 0 put, 1 take, 2 fit; the tile; three sums; whether there is a test, and it -/
abbrev xO : Type := (Nat × Nat) × (xS1 × xS1 × xS1) × (Bool × xT1)
def xEnd (o : xO) : List Nat := if o.2.2.1 then 9 :: t1K o.2.2.2 else []
def xHd (o : xO) : List Nat := if o.1.1 = 0 then [4, 41, 5] ++ (s1K o.2.1.1 ++ (30 :: (s1K o.2.1.2.1 ++ (6 :: s1K o.2.1.2.2)))) else [6 + o.1.1, 41]
def xK (o : xO) : List Nat := xHd o ++ xEnd o
def xOk (o : xO) : Prop := o.1.1 < 3 ∧ (s1Ok o.2.1.1 ∧ s1Ok o.2.1.2.1 ∧ s1Ok o.2.1.2.2) ∧ t1Ok o.2.2.2
def xP1 (p : Nat) : Nat := p + 3
def xP2 (p : Nat) (o : xO) : Nat := p + 3 + (s1K o.2.1.1).length + 1
def xP3 (p : Nat) (o : xO) : Nat := xP2 p o + (s1K o.2.1.2.1).length + 1
def xP (p b : Nat) (o : xO) : pOrd :=
  if o.1.1 = 0 then ((4, p + 1, b), (s1C (xP1 p) b o.2.1.1, s1C (xP2 p o) (b + s1L o.2.1.1) o.2.1.2.1, s1C (xP3 p o) (b + s1L o.2.1.1 + s1L o.2.1.2.1) o.2.1.2.2), (if o.2.2.1 then (t1C (p + (xHd o).length + 1) (b + s1L o.2.1.1 + s1L o.2.1.2.1 + s1L o.2.1.2.2) o.2.2.2, true) else ([], false)))
  else ((6 + o.1.1, p + 1, b), ([], [], []), (if o.2.2.1 then (t1C (p + 3) b o.2.2.2, true) else ([], false)))
def xL (o : xO) : Nat := (if o.1.1 = 0 then s1L o.2.1.1 + s1L o.2.1.2.1 + s1L o.2.1.2.2 else 0) + (if o.2.2.1 then t1L o.2.2.2 else 0)
theorem xP_len (p b : Nat) (o : xO) : (oCode (xP p b o)).length = xL o := by
  unfold oCode xP xL
  by_cases h0 : o.1.1 = 0
  · rw [if_pos h0, if_pos h0]
    show (s1C _ _ _ ++ (s1C _ _ _ ++ (s1C _ _ _ ++ (if o.2.2.1 then (t1C _ _ o.2.2.2, true) else (([] : List pSt), false)).1))).length = _
    rw [List.length_append, List.length_append, List.length_append, s1C_len, s1C_len, s1C_len]
    cases o.2.2.1 with
    | true => rw [if_pos rfl, if_pos rfl, t1C_len]; omega
    | false => rw [if_neg Bool.false_ne_true, if_neg Bool.false_ne_true, List.length_nil]; omega
  · rw [if_neg h0, if_neg h0]
    show (([] : List pSt) ++ ([] ++ ([] ++ (if o.2.2.1 then (t1C _ _ o.2.2.2, true) else (([] : List pSt), false)).1))).length = _
    cases o.2.2.1 with
    | true => rw [if_pos rfl, if_pos rfl, List.nil_append, List.nil_append, List.nil_append, t1C_len]; omega
    | false => rfl
section Orders
variable {tk : Nat → Nat} {p b n : Nat}
theorem when_ok {o : xO} (ho : xOk o) (hn : 17 ≤ n) {h : Nat × Nat × Nat} {s : List pSt × List pSt × List pSt} {q b' : Nat} (ht : tks tk q (xEnd o ++ [29])) : pWhen tk n h s q b' = some (.inr (q + (xEnd o).length, (h, s, if o.2.2.1 then (t1C (q + 1) b' o.2.2.2, true) else ([], false)))) := by
  unfold pWhen
  unfold xEnd at ht ⊢
  cases hb : o.2.2.1 with
  | true =>
    rw [hb, if_pos rfl] at ht
    have k9 := ht.left.head
    have tT := ht.left.tail
    have k29 := ht.right.head
    rw [List.length_cons, show q + ((t1K o.2.2.2).length + 1) = q + 1 + (t1K o.2.2.2).length by omega] at k29
    rw [if_pos k9, if_pos rfl, if_pos rfl]
    have v := t1_all (d := 0) (b := b') ho.2.2 (by omega) tT (by rw [k29]; unfold kEnd; omega) (by rw [k29]; decide) (by rw [k29]; decide) n hn
    rw [v]
    show (some (Sum.inr (q + 1 + (t1K o.2.2.2).length, (h, s, (t1C (q + 1) b' o.2.2.2, true)))) : Option (Nat ⊕ (Nat × pOrd))) = _
    rw [List.length_cons, show q + ((t1K o.2.2.2).length + 1) = q + 1 + (t1K o.2.2.2).length by omega]
  | false =>
    rw [hb, if_neg Bool.false_ne_true] at ht
    have k29 := ht.right.head
    rw [if_neg (by rw [show tk q = 29 from k29]; decide), if_neg Bool.false_ne_true, if_neg Bool.false_ne_true]
    rfl
theorem order_ok {o : xO} (ho : xOk o) (hn : 17 ≤ n) (ht : tks tk p (xK o ++ [29])) : pOrder tk n p b = some (.inr (p + (xK o).length, xP p b o)) := by
  unfold xK at ht ⊢
  rw [List.append_assoc] at ht
  rw [List.length_append]
  obtain ⟨h3, ⟨hs1, hs2, hs3⟩, -⟩ := id ho
  unfold pOrder xP
  by_cases h0 : o.1.1 = 0
  · rw [if_pos h0]
    have hh : xHd o = [4, 41, 5] ++ (s1K o.2.1.1 ++ (30 :: (s1K o.2.1.2.1 ++ (6 :: s1K o.2.1.2.2)))) := if_pos h0
    have hd := ht.left
    have hw := ht.right
    rw [hh] at hd
    have k4 := hd.left.head
    have k41 := hd.left.tail.head
    have k5 := hd.left.tail.tail.head
    have e1 := hd.right.left
    have k30 := hd.right.right.head
    have e2 := hd.right.right.tail.left
    have k6 := hd.right.right.tail.right.head
    have e3 := hd.right.right.tail.right.tail
    rw [show ([4, 41, 5] : List Nat).length = 3 from rfl] at e1 k30 e2 k6 e3
    have len : (xHd o).length = 3 + (s1K o.2.1.1).length + 1 + (s1K o.2.1.2.1).length + 1 + (s1K o.2.1.2.2).length := by
      rw [hh]
      simp only [List.length_append, List.length_cons, List.length_nil]
      omega
    have p3 : p + (xHd o).length = xP3 p o + (s1K o.2.1.2.2).length := by
      rw [len]
      unfold xP3 xP2
      omega
    -- what follows the third sum
    have kw : kEnd (tk (xP3 p o + (s1K o.2.1.2.2).length)) := by
      rw [← p3]
      unfold xEnd at hw
      cases hb : o.2.2.1 with
      | true =>
        rw [hb, if_pos rfl] at hw
        have := hw.left.head
        rw [this]
        unfold kEnd
        omega
      | false =>
        rw [hb, if_neg Bool.false_ne_true] at hw
        have := hw.right.head
        rw [show p + (xHd o).length + ([] : List Nat).length = p + (xHd o).length from rfl] at this
        rw [this]
        unfold kEnd
        omega
    have v1 := s1_sum (tk := tk) (d := 0) (b := b) hs1.1 hs1.2.1 hs1.2.2 (by omega) e1 (by rw [k30]; unfold kEnd; omega) n (by omega)
    have v2 := s1_sum (tk := tk) (d := 0) (b := b + (s1C (p + 3) b o.2.1.1).length) hs2.1 hs2.2.1 hs2.2.2 (by omega) e2 (by rw [k6]; unfold kEnd; omega) n (by omega)
    have v3 := s1_sum (tk := tk) (d := 0) (b := b + (s1C (p + 3) b o.2.1.1).length + (s1C (xP2 p o) (b + (s1C (p + 3) b o.2.1.1).length) o.2.1.2.1).length) (p := xP3 p o) hs3.1 hs3.2.1 hs3.2.2 (by omega) e3 kw n (by omega)
    unfold gEat
    rw [if_pos k41, if_pos k4, if_pos k5, v1]
    show (if tk (p + 3 + (s1K o.2.1.1).length) = 30 then gThen (pE tk n 3 0 (xP2 p o) (b + (s1C (p + 3) b o.2.1.1).length)) _ else _) = _
    rw [if_pos k30]
    rw [show pE tk n 3 0 (xP2 p o) (b + (s1C (p + 3) b o.2.1.1).length) = some (.inr (xP2 p o + (s1K o.2.1.2.1).length, s1C (xP2 p o) (b + (s1C (p + 3) b o.2.1.1).length) o.2.1.2.1)) from v2]
    show (if tk (xP2 p o + (s1K o.2.1.2.1).length) = 6 then gThen (pE tk n 3 0 (xP3 p o) (b + (s1C (p + 3) b o.2.1.1).length + (s1C (xP2 p o) (b + (s1C (p + 3) b o.2.1.1).length) o.2.1.2.1).length)) _ else _) = _
    rw [if_pos (show tk (xP2 p o + (s1K o.2.1.2.1).length) = 6 from k6), v3]
    show pWhen tk n (tk p, p + 1, b) (s1C (p + 3) b o.2.1.1, s1C (xP2 p o) (b + (s1C (p + 3) b o.2.1.1).length) o.2.1.2.1, s1C (xP3 p o) (b + (s1C (p + 3) b o.2.1.1).length + (s1C (xP2 p o) (b + (s1C (p + 3) b o.2.1.1).length) o.2.1.2.1).length) o.2.1.2.2) (xP3 p o + (s1K o.2.1.2.2).length) _ = _
    rw [← p3, when_ok ho hn hw, s1C_len, s1C_len, s1C_len, k4, show p + ((xHd o).length + (xEnd o).length) = p + (xHd o).length + (xEnd o).length by omega]
    rfl
  · rw [if_neg h0]
    have hh : xHd o = [6 + o.1.1, 41] := if_neg h0
    have hd := ht.left
    have hw := ht.right
    rw [hh] at hd hw ⊢
    have k4 := hd.head
    have k41 := hd.tail.head
    rw [show ([6 + o.1.1, 41] : List Nat).length = 2 from rfl] at hw ⊢
    unfold gEat
    rw [if_pos k41, if_neg (by omega), when_ok ho hn hw, k4, show p + (2 + (xEnd o).length) = p + 2 + (xEnd o).length by omega]
end Orders
