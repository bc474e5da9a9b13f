/-! ===== p40: the whole of a game of the law, read ===== -/
def tlK : Nat → List Nat
  | 0 => []
  | n + 1 => [3, 41, 40, 40, 40, 29] ++ tlK n
theorem tlK_len : ∀ n : Nat, (tlK n).length = 6 * n
  | 0 => rfl
  | n + 1 => by
    show ([3, 41, 40, 40, 40, 29] ++ tlK n).length = _
    rw [List.length_append, tlK_len n]
    show 6 + 6 * n = _
    omega
def orK : List xO → List Nat
  | [] => []
  | o :: os => (xK o ++ [29]) ++ orK os
def orP : Nat → Nat → List xO → List pOrd
  | _, _, [] => []
  | p, b, o :: os => xP p b o :: orP (p + (xK o).length + 1) (b + xL o) os
def gmK (brd : Bool) (nt : Nat) (os : List xO) : List Nat := (if brd then [1, 40, 2, 40, 29] else []) ++ (tlK nt ++ orK os)
def gmP (brd : Bool) (nt : Nat) : Nat := (if brd then 5 else 0) + 6 * nt
section Lines
variable {tk : Nat → Nat} {n : Nat}
theorem lines_or (hn : 17 ≤ n) : ∀ (os : List xO) (f p b : Nat) (acc : List pOrd), (∀ o ∈ os, xOk o) → tks tk p (orK os) → tk (p + (orK os).length) = 42 → os.length < f → pLines tk n f p b acc = some (.inr (acc ++ orP p b os))
  | [], 0, _, _, _, _, _, _, hf => absurd hf (by omega)
  | [], f + 1, p, b, acc, _, _, h42, _ => by
    unfold pLines
    rw [if_pos (show tk p = 42 from h42)]
    show _ = some (Sum.inr (acc ++ []))
    rw [List.append_nil]
  | o :: os, 0, _, _, _, _, _, _, hf => absurd hf (by omega)
  | o :: os, f + 1, p, b, acc, ho, ht, h42, hf => by
    have h1 := ho o List.mem_cons_self
    have hx : tks tk p (xK o ++ [29]) := ht.left
    have hr := ht.right
    have len : (xK o ++ [29]).length = (xK o).length + 1 := by rw [List.length_append, List.length_singleton]
    have k29 := hx.right.head
    rw [len, show p + ((xK o).length + 1) = p + (xK o).length + 1 by omega] at hr
    have kp : tk p = 4 ∨ tk p = 7 ∨ tk p = 8 := by
      have hh := hx.left
      unfold xK xHd at hh
      by_cases h0 : o.1.1 = 0
      · rw [if_pos h0] at hh
        exact Or.inl hh.left.left.head
      · rw [if_neg h0] at hh
        have := hh.left.head
        have := h1.1
        omega
    unfold pLines
    rw [if_neg (by omega), if_neg (by omega), if_pos kp, order_ok h1 hn hx]
    show (if tk (p + (xK o).length) = 29 then pLines tk n f (p + (xK o).length + 1) (b + (oCode (xP p b o)).length) (acc ++ [xP p b o]) else some (.inl (p + (xK o).length))) = _
    rw [if_pos k29, xP_len, lines_or hn os f (p + (xK o).length + 1) (b + xL o) (acc ++ [xP p b o]) (fun o' h => ho o' (List.mem_cons_of_mem _ h)) hr (by
      have e : (orK (o :: os)).length = (xK o).length + 1 + (orK os).length := by
        show ((xK o ++ [29]) ++ orK os).length = _
        rw [List.length_append, len]
      rw [e] at h42
      rw [show p + (xK o).length + 1 + (orK os).length = p + ((xK o).length + 1 + (orK os).length) by omega]
      exact h42) (by have : os.length + 1 < f + 1 := hf; omega), List.append_assoc]
    rfl
theorem lines_tl : ∀ (nt f p b : Nat) (acc : List pOrd), tks tk p (tlK nt) → pLines tk n (nt + f) p b acc = pLines tk n f (p + 6 * nt) b acc
  | 0, f, p, b, acc, _ => by rw [Nat.zero_add, Nat.mul_zero, Nat.add_zero]
  | nt + 1, f, p, b, acc, ht => by
    have hx : tks tk p [3, 41, 40, 40, 40, 29] := ht.left
    have hr : tks tk (p + 6) (tlK nt) := ht.right
    have k0 := hx.head
    have k1 := hx.tail.head
    have k2 := hx.tail.tail.head
    have k3 := hx.tail.tail.tail.head
    have k4 := hx.tail.tail.tail.tail.head
    have k5 := hx.tail.tail.tail.tail.tail.head
    rw [show nt + 1 + f = (nt + f) + 1 by omega]
    refine Eq.trans (b := pLines tk n (nt + f) (p + 6) b acc) ?_ ?_
    · have e : pTile tk p = some (.inr (p + 5)) := by
        unfold pTile gEat
        rw [if_pos k1, if_pos (show tk (p + 2) = 40 from k2), if_pos (show tk (p + 3) = 40 from k3), if_pos (show tk (p + 4) = 40 from k4)]
      unfold pLines
      rw [if_neg (by omega), if_pos k0, e]
      show (if tk (p + 5) = 29 then pLines tk n (nt + f) (p + 5 + 1) b acc else some (.inl (p + 5))) = _
      rw [if_pos (show tk (p + 5) = 29 from k5)]
      cases nt + f <;> rfl
    · rw [lines_tl nt f (p + 6) b acc hr, show p + 6 + 6 * nt = p + 6 * (nt + 1) by omega]
theorem game_ok {brd : Bool} {nt : Nat} {os : List xO} (hn : 17 ≤ n) (ho : ∀ o ∈ os, xOk o) (ht : tks tk 0 (gmK brd nt os)) (h42 : tk (gmK brd nt os).length = 42) (hl : nt + os.length ≤ 400) : pGame tk n = some (.inr (orP (gmP brd nt) 0 os)) := by
  have main : ∀ p0 : Nat, tks tk p0 (tlK nt ++ orK os) → tk (p0 + (tlK nt ++ orK os).length) = 42 → pLines tk n 401 p0 0 [] = some (.inr (orP (p0 + 6 * nt) 0 os)) := fun p0 h h2 => by
    rw [show 401 = nt + (401 - nt) by omega, lines_tl nt (401 - nt) p0 0 [] h.left]
    have hr := h.right
    rw [tlK_len] at hr
    rw [List.length_append, tlK_len] at h2
    rw [lines_or hn os (401 - nt) (p0 + 6 * nt) 0 [] ho hr (by rw [show p0 + 6 * nt + (orK os).length = p0 + (6 * nt + (orK os).length) by omega]; exact h2) (by omega)]
    rfl
  unfold pGame gmP
  unfold gmK at ht h42
  cases brd with
  | true =>
    rw [if_pos rfl] at ht h42
    have h1 := ht.left
    have k0 := h1.head
    have k1 := h1.tail.head
    have k2 := h1.tail.tail.head
    have k3 := h1.tail.tail.tail.head
    have k4 := h1.tail.tail.tail.tail.head
    rw [if_pos k0]
    unfold gEat
    rw [if_pos (show tk 1 = 40 from k1), if_pos (show tk 2 = 2 from k2), if_pos (show tk 3 = 40 from k3), if_pos (show tk 4 = 29 from k4), if_pos rfl]
    rw [List.length_append] at h42
    exact main 5 ht.right (by
      show tk (5 + (tlK nt ++ orK os).length) = 42
      exact h42)
  | false =>
    rw [if_neg Bool.false_ne_true, List.nil_append] at ht h42
    have k0 : tk 0 ≠ 1 := by
      cases nt with
      | zero =>
        cases os with
        | nil =>
          have : tk 0 = 42 := h42
          rw [this]
          decide
        | cons o os =>
          have hh : tks tk 0 (xK o) := ht.right.left.left
          unfold xK xHd at hh
          have := (ho o List.mem_cons_self).1
          by_cases h0 : o.1.1 = 0
          · rw [if_pos h0] at hh
            rw [hh.left.left.head]
            decide
          · rw [if_neg h0] at hh
            rw [hh.left.head]
            omega
      | succ nt =>
        have hh : tks tk 0 [3, 41, 40, 40, 40, 29] := ht.left.left
        rw [hh.head]
        decide
    rw [if_neg k0, if_neg Bool.false_ne_true]
    exact main 0 ht (by rw [Nat.zero_add]; exact h42)
end Lines
