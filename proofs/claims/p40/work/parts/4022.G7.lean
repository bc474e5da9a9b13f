/-! ===== p40: a game of the law, told ===== -/
def n3 (x : Nat × Nat × Nat) (e : Nat) : Nat := if e = 0 then x.1 else if e = 1 then x.2.1 else x.2.2
def nuOf (xs : List (Nat × Nat × Nat)) (i : Nat) : Nat := n3 (xs.getD (i / 3) (0, 0, 0)) (i % 3)
theorem nuOf_at (xs : List (Nat × Nat × Nat)) {i e : Nat} (he : e < 3) : nuOf xs (3 * i + e) = n3 (xs.getD i (0, 0, 0)) e := by
  unfold nuOf
  rw [show (3 * i + e) / 3 = i by omega, show (3 * i + e) % 3 = e by omega]
theorem tsB_len : ∀ (xs : List (Nat × Nat × Nat)) (k : Nat), (tsB k xs).length = 6 * xs.length := fun xs k => by
  have := congrArg List.length (tsB_k xs k)
  rw [List.length_map, tlK_len] at this
  exact this
theorem tsB_v {ks : List xTk} : ∀ (xs : List (Nat × Nat × Nat)) (k p : Nat), k + xs.length ≤ 16 → (∀ x ∈ xs, num3 x) → tkb ks p (tsB k xs) → ∀ i, i < xs.length → vlOf ks (p + 6 * i + 1) = k + i ∧ ∀ e, e < 3 → vlOf ks (p + 6 * i + 2 + e) = n3 (xs.getD i (0, 0, 0)) e
  | [], _, _, _, _, _ => fun i hi => absurd hi (Nat.not_lt_zero i)
  | x :: xs, k, p, hk, hx, h => by
    have hk' : k + (xs.length + 1) ≤ 16 := hk
    have h' : tkb ks p (tlB k x ++ tsB (k + 1) xs) := h
    have ht : tkb ks p ([(3, [116, 105, 108, 101])] ++ ([(41, tnm k)] ++ ([(40, dg x.1)] ++ ([(40, dg x.2.1)] ++ ([(40, dg x.2.2)] ++ [(29, [59])]))))) := h'.left
    obtain ⟨n1, n2, n3'⟩ := hx x List.mem_cons_self
    intro i hi
    cases i with
    | zero =>
      refine ⟨?_, fun e he => ?_⟩
      · exact ht.right.left.v.trans (tkv_t (by omega))
      · have h3 : e = 0 ∨ e = 1 ∨ e = 2 := by omega
        rcases h3 with rfl | rfl | rfl
        · exact ht.right.right.left.v.trans (tkv_n (Nat.lt_trans n1 (by decide)))
        · exact ht.right.right.right.left.v.trans (tkv_n (Nat.lt_trans n2 (by decide)))
        · exact ht.right.right.right.right.left.v.trans (tkv_n (Nat.lt_trans n3' (by decide)))
    | succ i =>
      have hr : tkb ks (p + 6) (tsB (k + 1) xs) := h'.right
      obtain ⟨a1, a2⟩ := tsB_v xs (k + 1) (p + 6) (by omega) (fun x' h' => hx x' (List.mem_cons_of_mem _ h')) hr i (Nat.lt_of_succ_lt_succ hi)
      refine ⟨?_, fun e he => ?_⟩
      · rw [show p + 6 * (i + 1) + 1 = p + 6 + 6 * i + 1 by omega, a1]
        omega
      · rw [show p + 6 * (i + 1) + 2 + e = p + 6 + 6 * i + 2 + e by omega, a2 e he]
        rfl
theorem oN.ok {o : xO} (h : oN o) : xOk o := by
  obtain ⟨h3, -, ⟨hA, hB, hC⟩, hT⟩ := h
  have s1 : ∀ x : xS1, s1N x → s1Ok x := fun x hx => ⟨hx.1, hx.2.2.1.1, hx.2.2.2.1⟩
  have t0 : ∀ x : xT0, t0N x → t0Ok x := fun x hx => ⟨hx.1, s1 _ hx.2.2.1, hx.2.2.2.1⟩
  exact ⟨h3, ⟨s1 _ hA, s1 _ hB, s1 _ hC⟩, hT.1, t0 _ hT.2.1, t0 _ hT.2.2.1, t0 _ hT.2.2.2⟩
theorem gm_told {bt : Nat → Nat} {brd : Bool} {C R : Nat} {xs : List (Nat × Nat × Nat)} {os : List xO} (hC : 3 ≤ C ∧ C ≤ 7) (hR : 3 ≤ R ∧ R ≤ 7) (h1 : 1 ≤ xs.length) (h16 : xs.length ≤ 16) (hx : ∀ x ∈ xs, num3 x) (ho : ∀ o ∈ os, oN o ∧ oM xs.length o) (hos : os.length ≤ 16) (hk : (gmB brd C R xs os).length ≤ 400) (hf : tF bt (gmX brd C R xs os).length 0 (gmX brd C R xs os)) :
    tEr bt (gmX brd C R xs os).length = (0, 0) ∧ tOs bt (gmX brd C R xs os).length = orP (gmP brd xs.length) 0 os ∧ (bW (tB0 bt (gmX brd C R xs os).length) = (if brd then C else 5) ∧ bR (tB0 bt (gmX brd C R xs os).length) = (if brd then R else 5) ∧ bN (tB0 bt (gmX brd C R xs os).length) = xs.length ∧ ∀ i, i < 3 * xs.length → bNu (tB0 bt (gmX brd C R xs os).length) i = nuOf xs i) ∧ osT (tV bt (gmX brd C R xs os).length) (gmP brd xs.length) os := by
  have hoN : ∀ o ∈ os, oN o := fun o h => (ho o h).1
  obtain ⟨fr, hd⟩ := Fr.gm (brd := brd) (C := C) (R := R) (by omega) (by omega) h1 h16 hx hoN
  have good := gmB_g (brd := brd) (C := C) (R := R) (by omega) (by omega) h16 hx hoN
  have rd := fr.all hf hd
  generalize (gmX brd C R xs os).length = sz at rd hf
  obtain ⟨eT, eK, e42⟩ := tR_all rd hk (fun x hx' => ⟨(good x hx').2.2.1, (good x hx').2.2.2⟩)
  have kk := gmB_k (brd := brd) (C := C) (R := R) (xs := xs) hoN
  have lk : (gmB brd C R xs os).length = (gmK brd xs.length os).length := by rw [← kk, List.length_map]
  have hv := read_vOk good eK e42
  have hb : tkb (gmB brd C R xs os) 0 ((if brd then bdB C R else []) ++ (tsB 0 xs ++ osB os)) := fun j x hj => by
    rw [Nat.zero_add]
    exact hj
  have lB : (if brd then bdB C R else [] : List xTk).length = q0 brd := by cases brd <;> rfl
  have hts := hb.right.left
  have hos' := hb.right.right
  rw [lB, Nat.zero_add] at hts hos'
  rw [tsB_len] at hos'
  have tv := tsB_v xs 0 (q0 brd) (by omega) hx hts
  have ot := osT_b os _ hoN hos'
  have tk : tks (tTk bt sz) 0 (gmK brd xs.length os) := fun j x hj => by
    rw [← kk, List.getElem?_map] at hj
    obtain ⟨y, hy, rfl⟩ := Option.map_eq_some_iff.mp hj
    rw [Nat.zero_add]
    exact (eK j y hy).1
  have bd : brd = true → vlOf (gmB brd C R xs os) 1 = C ∧ vlOf (gmB brd C R xs os) 3 = R := fun z => by
    subst z
    have h0 : tkb (gmB true C R xs os) 0 (bdB C R) := hb.left
    exact ⟨h0.right.left.v.trans (tkv_n (by omega)), h0.right.right.right.left.v.trans (tkv_n (by omega))⟩
  have named : ∀ j, gmP brd xs.length ≤ j → j < (gmK brd xs.length os).length → tTk bt sz j = 41 → vlOf (gmB brd C R xs os) j < xs.length := fun j a b c => by
    have lO : (gmB brd C R xs os).length = q0 brd + 6 * xs.length + (osB os).length := by
      unfold gmB
      rw [List.length_append, List.length_append, lB, tsB_len]
      omega
    have hj : j - gmP brd xs.length < (osB os).length := by
      rw [gmP_q] at a ⊢
      omega
    have hx' := List.getElem?_eq_getElem hj
    have hy := hos' _ _ hx'
    rw [show q0 brd + 6 * xs.length + (j - gmP brd xs.length) = j by rw [gmP_q] at a ⊢; omega] at hy
    have e := (eK j _ hy).1
    obtain ⟨k, hk', ek⟩ := osB_n (N := xs.length) ho _ (List.getElem_mem hj) (by omega)
    rw [vlOf_at hy]
    unfold tkv
    rw [if_neg (by omega), ek]
    show dvl (dg k) < xs.length
    rw [dvl_dg (by omega)]
    exact hk'
  have g : gTx bt sz (vlOf (gmB brd C R xs os)) brd (if brd then C else 5) (if brd then R else 5) xs.length (nuOf xs) os := by
    refine ⟨⟨tk, eT.trans lk, by rw [← lk]; exact e42⟩, hv, ⟨?_, ?_, fun z => ?_⟩, ⟨h16, fun i hi => ?_, fun i e hi he => ?_⟩, hos, fun o h => (hoN o h).ok, named⟩
    · cases brd with
      | true => exact (bd rfl).1
      | false => rfl
    · cases brd with
      | true => exact (bd rfl).2
      | false => rfl
    · rw [(bd z).1, (bd z).2]
      exact ⟨hC, hR⟩
    · rw [(tv i hi).1, Nat.zero_add]
    · have e1 := (tv i hi).2 e he
      refine ⟨?_, ?_⟩
      · rw [e1]
        have hm := hx xs[i] (List.getElem_mem hi)
        rw [List.getD_eq_getElem?_getD, List.getElem?_eq_getElem hi]
        show n3 xs[i] e ≤ 9
        obtain ⟨m1, m2, m3⟩ := hm
        unfold n3
        split
        · omega
        · split <;> omega
      · rw [e1, nuOf_at xs he]
  obtain ⟨r1, r2, r3, r4⟩ := gTx_told g
  refine ⟨r1, r2, r3, osT_tr (tk := tTk bt sz) (vl := vlOf (gmB brd C R xs os)) os _ ?_ (fun j a b c => ?_) ?_⟩
  · have t1 : tks (tTk bt sz) 0 ((if brd then [1, 40, 2, 40, 29] else []) ++ (tlK xs.length ++ orK os)) := tk
    have lB2 : (if brd then [1, 40, 2, 40, 29] else [] : List Nat).length = q0 brd := by cases brd <;> rfl
    have t2 := t1.right.right
    rw [lB2, tlK_len, Nat.zero_add] at t2
    exact t2
  · refine r4 j a ?_ c
    have : (gmK brd xs.length os).length = gmP brd xs.length + (orK os).length := by
      unfold gmK
      rw [List.length_append, List.length_append, tlK_len, gmP_q]
      have lB2 : (if brd then [1, 40, 2, 40, 29] else [] : List Nat).length = q0 brd := by cases brd <;> rfl
      rw [lB2]
      omega
    omega
  · exact ot
