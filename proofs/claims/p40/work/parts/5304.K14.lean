/-! ===== buffers over what was there ===== -/
def ySb (G : eG) (H0 H : yH) (a : Nat) (bs : List Nat) : Prop := ∃ va m, ySB G H a va m bs ∧ m ≤ 2200 ∧ yLe H0 H ∧ H0 a = none ∧ H0 va = none
theorem ySb.is {G : eG} {H0 H : yH} {a : Nat} {bs : List Nat} (h : ySb G H0 H a bs) : yIs H a 14 := by
  obtain ⟨va, m, h1, -⟩ := h
  exact yIs.of h1.1
theorem ySb.le0 {G : eG} {H0 H : yH} {a : Nat} {bs : List Nat} (h : ySb G H0 H a bs) : yLe H0 H := by
  obtain ⟨va, m, -, -, h1, -⟩ := h
  exact h1
theorem ySb.le {G : eG} {H0 H H' : yH} {a : Nat} {bs : List Nat} (h : ySb G H0 H a bs) (hl : yLe H H') : ySb G H0 H' a bs := by
  obtain ⟨va, m, h1, h2, h3, h4⟩ := h
  exact ⟨va, m, h1.le hl, h2, h3.trans hl, h4⟩
theorem eSt.s (G : eG) : eStA G 1500 eSg := fun h => h.2.2.2.2.2.2.2.2.2.2.2.2.2.2.2.1
theorem eSt.l (G : eG) : eStA G 1700 eLt := fun h => h.2.2.2.2.2.2.2.2.2.2.2.2.2.2.2.2.1
theorem nLf.le {H H' : yH} {a : Nat} {x : xLf} (h : nLf H a x) (hl : yLe H H') : nLf H' a x := h.kp (yKp.of hl []) (fun _ h => absurd h List.not_mem_nil)
theorem nS1.le {H H' : yH} {a : Nat} {x : xS1} (h : nS1 H a x) (hl : yLe H H') : nS1 H' a x := h.kp (yKp.of hl []) (fun _ h => absurd h List.not_mem_nil)
theorem nT0.le {H H' : yH} {a : Nat} {x : xT0} (h : nT0 H a x) (hl : yLe H H') : nT0 H' a x := h.kp (yKp.of hl []) (fun _ h => absurd h List.not_mem_nil)
theorem nT1.le {H H' : yH} {a : Nat} {x : xT1} (h : nT1 H a x) (hl : yLe H H') : nT1 H' a x := h.kp (yKp.of hl []) (fun _ h => absurd h List.not_mem_nil)
theorem yAs.cons {b : Nat} {bs : List Nat} (h : b < 128) (h1 : yAs bs) : yAs (b :: bs) := fun x hx => by
  rcases List.mem_cons.mp hx with e | e
  · rw [e]; exact h
  · exact h1 x e
theorem yAs.lit {bs : List Nat} (h : bs.all (fun b => decide (b < 128)) = true) : yAs bs := fun x hx => of_decide_eq_true (List.all_eq_true.mp h x hx)
theorem as_tnm (k : Nat) : yAs (tnm k) := (dg_as k).cons (by decide)
theorem as_wLf (s : Nat) : yAs (wLf s) := by
  unfold wLf
  repeat' split
  all_goals exact yAs.lit (by decide)
theorem as_lf (x : xLf) : yAs (lfX x) := by
  unfold lfX
  split
  · exact dg_as _
  · split
    · exact as_wLf _
    · exact (yAs.lit (by decide)).app (yAs.cons (by decide) ((yAs.lit (by decide)).app ((as_tnm _).cons (by decide))))
theorem as_sgX (s : Nat) : yAs [sgX s] := by
  unfold sgX
  repeat' split
  all_goals exact yAs.lit (by decide)
theorem as_cmX (s : Nat) : yAs (cmX s) := by
  unfold cmX
  repeat' split
  all_goals exact yAs.lit (by decide)
theorem as_s1 (x : xS1) : yAs (s1X x) := by
  unfold s1X
  split
  · exact as_lf _
  · split
    · exact (yAs.lit (by decide)).app (as_lf _)
    · split
      · exact (yAs.lit (by decide)).app ((yAs.lit (by decide)).app ((as_lf _).app ((yAs.lit (by decide)).app ((as_lf _).app (yAs.lit (by decide))))))
      · split
        · exact (yAs.lit (by decide)).app ((yAs.lit (by decide)).app ((as_lf _).app (yAs.cons (by decide) ((yAs.lit (by decide)).app (yAs.cons (by decide) ((as_lf _).app (yAs.lit (by decide))))))))
        · exact (yAs.lit (by decide)).app ((as_lf _).app ((as_sgX _).app ((as_lf _).app (yAs.lit (by decide)))))
theorem as_t0 (x : xT0) : yAs (t0X x) := by
  unfold t0X
  split
  · exact (as_s1 _).app ((as_cmX _).app (as_lf _))
  · split
    · exact (yAs.lit (by decide)).app ((as_tnm _).cons (by decide))
    · exact (yAs.lit (by decide)).app ((as_tnm _).cons (by decide))
theorem as_t1 (x : xT1) : yAs (t1X x) := by
  unfold t1X
  split
  · exact as_t0 _
  · split
    · exact (yAs.lit (by decide)).app ((as_t0 _).cons (by decide))
    · split
      · exact (yAs.lit (by decide)).app ((as_t0 _).app (yAs.cons (by decide) ((yAs.lit (by decide)).app (yAs.cons (by decide) ((as_t0 _).app (yAs.lit (by decide)))))))
      · exact (yAs.lit (by decide)).app ((as_t0 _).app (yAs.cons (by decide) ((yAs.lit (by decide)).app (yAs.cons (by decide) ((as_t0 _).app (yAs.lit (by decide)))))))
theorem as_end (o : xO) : yAs (endX o) := by
  unfold endX
  split
  · exact yAs.cons (by decide) ((yAs.lit (by decide)).app (yAs.cons (by decide) ((as_t1 _).app (yAs.lit (by decide)))))
  · exact yAs.lit (by decide)
theorem as_ord (o : xO) : yAs (ordX o) := by
  unfold ordX
  split
  · exact (yAs.lit (by decide)).app (yAs.cons (by decide) ((as_tnm _).app (yAs.cons (by decide) ((yAs.lit (by decide)).app (yAs.cons (by decide) ((as_s1 _).app ((yAs.lit (by decide)).app ((as_s1 _).app (yAs.cons (by decide) ((yAs.lit (by decide)).app (yAs.cons (by decide) ((as_s1 _).app (as_end _)))))))))))))
  · split
    · exact (yAs.lit (by decide)).app (yAs.cons (by decide) ((as_tnm _).app (as_end _)))
    · exact (yAs.lit (by decide)).app (yAs.cons (by decide) ((as_tnm _).app (as_end _)))
section BSpec
variable {G : eG} {M : eM} {H H0 : yH}
theorem U_lit {ix : Nat} {bs : List Nat} (h : ix < 30) (e : eLt.getD ix [] = bs.map nI) : yTx G H (G.1 (1700 + ix)) bs := Or.inr ⟨1700, ix, eLt, eSt.l G, h, rfl, e⟩
theorem U_sgn {k : Nat} {bs : List Nat} (h : k < 9) (e : eSg.getD k [] = bs.map nI) : yTx G H (G.1 (1500 + k)) bs := Or.inr ⟨1500, k, eSg, eSt.s G, h, rfl, e⟩
theorem U_wrd {k : Nat} {bs : List Nat} (h : k < 7) (e : eWd.getD k [] = bs.map nI) : yTx G H (G.1 (1400 + k)) bs := Or.inr ⟨1400, k, eWd, eSt.w G, h, rfl, e⟩
theorem U_init {q : Nat} {F : eM → yH → Prop} (hq : H q = none) (h : ∀ H', ySb G H H' q [] → F M H') : yCal G (3, 1, 16) kJ4_init_da8c8 [.ref q] M (yU H q (.inr (14, [.null, .int 0, .int 0, .int 0]))) (yFV F) := by
  refine S_sbInit (yU_same _ _ _) (fun va H' hv hs k => h H' ⟨va, 16, hs, by decide, fun b e z => ?_, hq, ?_⟩)
  · have hb : b ≠ q := fun y => by rw [y, hq] at z; cases z
    exact k b e (fun y => hb (List.mem_singleton.mp y)) ((yLe.new hq _) _ _ z)
  · have hb : va ≠ q := fun y => by rw [y, yU_same] at hv; cases hv
    rw [yU_ne _ _ hb] at hv
    exact hv
theorem ySb.more {a : Nat} {bs cs : List Nat} {va m va' m' : Nat} {H' : yH} (h : ySB G H a va m bs) (h3 : yLe H0 H) (h4 : H0 a = none) (h5 : H0 va = none) (k1 : ySB G H' a va' m' cs) (k2 : m' ≤ 2200) (k3 : yKp [a, va] H H') (k4 : va' = va ∨ H va' = none) : ySb G H0 H' a cs := by
  refine ⟨va', m', k1, k2, fun b e z => ?_, h4, ?_⟩
  · refine k3 b e (fun y => ?_) (h3 b e z)
    rcases List.mem_cons.mp y with y | y
    · rw [y, h4] at z; cases z
    · rw [List.mem_singleton.mp y, h5] at z; cases z
  · rcases k4 with k | k
    · rw [k]; exact h5
    · cases hz : H0 va' with
      | none => rfl
      | some e => rw [h3 _ _ hz] at k; cases k
theorem U_app {a t : Nat} {bs ts : List Nat} {F : Nat → eM → yH → Prop} (h : ySb G H0 H a bs) (ht : yTx G H t ts) (hs : yAs ts) (hl : bs.length + ts.length ≤ 1100) (hF : ∀ H', ySb G H0 H' a (bs ++ ts) → F a M H') : yCal G (6, 1, 2200) kJ4_append_15ec4 [.ref a, .ref t] M H (yFR F) := by
  obtain ⟨va, m, h1, h2, h3, h4, h5⟩ := h
  exact S_append h1 ht hs hl h2 (fun va' m' H' k1 k2 k3 k4 => hF H' (ySb.more h1 h3 h4 h5 k1 k2 k3 k4))
theorem U_appI {a n : Nat} {bs : List Nat} {F : Nat → eM → yH → Prop} (h : ySb G H0 H a bs) (hn : n < 1000000) (hl : bs.length + (dg n).length ≤ 1100) (hF : ∀ H', ySb G H0 H' a (bs ++ dg n) → F a M H') : yCal G (6, 1, 2200) kJ4_append_bf812 [.ref a, .int (nI n)] M H (yFR F) := by
  obtain ⟨va, m, h1, h2, h3, h4, h5⟩ := h
  exact S_appendI h1 hn hl h2 (fun va' m' H' k1 k2 k3 k4 => hF H' (ySb.more h1 h3 h4 h5 k1 k2 k3 k4))
theorem U_str {a : Nat} {bs : List Nat} {F : Nat → eM → yH → Prop} (h : ySb G H0 H a bs) (hl : bs.length ≤ 1100) (hF : ∀ q H', yLe H0 H' → yTx G H' q bs → F q M H') : yCal G (6, 2, 1104) kJ4_toString_0e30d [.ref a] M H (yFR F) := by
  obtain ⟨va, m, h1, h2, h3, h4, h5⟩ := h
  exact S_toString h1 hl h2 (fun q q2 H' f k1 k2 k3 k4 k5 k6 => hF q H' (h3.trans k3) (Or.inl ⟨q2, 0, 0, f, k4, k5, k6⟩))
theorem dg6_len {n : Nat} (h : n < 1000000) : (dg n).length ≤ 6 := (dg_len (f := 5) (by omega) (by decide)).2
end BSpec
