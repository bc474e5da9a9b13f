/-! ===== p40: boards that differ in such turns alone go the same way ===== -/
def bSim (B B' : eBd) : Prop := ∃ tr, B' = bTw B tr ∧ bAg B tr
theorem bSim.refl (B : eBd) : bSim B B := ⟨bTr B, rfl, fun _ _ _ _ => rfl⟩
theorem bSim.sz {B B' : eBd} (h : bSim B B') : bSz B B' := by
  obtain ⟨tr, rfl, -⟩ := h
  exact ⟨rfl, rfl, rfl, rfl⟩
theorem bSim.symm {B B' : eBd} (h : bSim B B') : bSim B' B := by
  obtain ⟨tr, rfl, ha⟩ := h
  exact ⟨bTr B, rfl, fun k c hk hc => (ha k c hk hc).symm⟩
theorem bSim.trans {A B C : eBd} (h : bSim A B) (h1 : bSim B C) : bSim A C := by
  obtain ⟨tr, rfl, ha⟩ := h
  obtain ⟨tr2, rfl, ha2⟩ := h1
  exact ⟨tr2, rfl, fun k c hk hc => (ha2 k c hk hc).trans (ha k c hk hc)⟩
section Sim
variable {B : eBd} {tr : Nat → Nat} {r : Int32}
theorem bTw_put (B : eBd) (tr : Nat → Nat) (k c t : Nat) : bPut (bTw B tr) k c t = bTw (bPut B k c t) (zU tr k t) := rfl
theorem bTw_lift (B : eBd) (tr : Nat → Nat) (k c : Nat) : bLift (bTw B tr) k c = bTw (bLift B k c) tr := rfl
theorem bAg.put (ha : bAg B tr) {k c t : Nat} : bAg (bPut B k c t) (zU tr k t) := fun i d hi hd => by
  show zU tr k t i = zU (bTr B) k t i
  by_cases hq : i = k
  · rw [hq, zU_same, zU_same]
  · rw [zU_ne _ _ hq, zU_ne _ _ hq]
    have hd' : zU (bCe B) k (some c) i = some d := hd
    rw [zU_ne _ _ hq] at hd'
    exact ha i d hi hd'
theorem bAg.lift (ha : bAg B tr) {k c : Nat} : bAg (bLift B k c) tr := fun i d hi hd => by
  have hd' : zU (bCe B) k none i = some d := hd
  by_cases hq : i = k
  · rw [hq, zU_same] at hd'
    cases hd'
  · rw [zU_ne _ _ hq] at hd'
    exact ha i d hi hd'
theorem lfV_tw (hb : bOk B) (ha : bAg B tr) (x : xLf) : lfV (bTw B tr) r x = lfV B r x := by
  unfold lfV
  rw [bPoints_tw hb ha, bWays_tw hb ha]
  rfl
theorem s1V_tw (hb : bOk B) (ha : bAg B tr) (x : xS1) : s1V (bTw B tr) r x = s1V B r x := by
  unfold s1V
  rw [lfV_tw hb ha, lfV_tw hb ha, lfV_tw hb ha]
theorem t0V_tw (hb : bOk B) (ha : bAg B tr) (x : xT0) : t0V (bTw B tr) r x = t0V B r x := by
  unfold t0V
  rw [s1V_tw hb ha, lfV_tw hb ha, bWays_tw hb ha]
  rfl
theorem t1V_tw (hb : bOk B) (ha : bAg B tr) (x : xT1) : t1V (bTw B tr) r x = t1V B r x := by
  unfold t1V
  rw [t0V_tw hb ha, t0V_tw hb ha, t0V_tw hb ha]
theorem gAct_tw (hb : bOk B) (ha : bAg B tr) (k i : Nat) (v1 v2 v3 : Int32) : ∃ tr', (gAct (bTw B tr) k i v1 v2 v3).1 = bTw (gAct B k i v1 v2 v3).1 tr' ∧ bAg (gAct B k i v1 v2 v3).1 tr' ∧ (gAct (bTw B tr) k i v1 v2 v3).2 = (gAct B k i v1 v2 v3).2 := by
  unfold gAct
  by_cases h8 : k = 8
  · rw [if_pos h8, if_pos h8, bFirst_tw hb ha]
    cases h : bFirst B i with
    | none => exact ⟨tr, rfl, ha, rfl⟩
    | some c =>
      have hc := (bFirst_some h).1
      refine ⟨zU tr i ((bAny B i c).getD 0), ?_, ha.put, rfl⟩
      show bPut (bTw B tr) i c ((bAny (bTw B tr) i c).getD 0) = _
      rw [bAny_tw hb ha hc]
      rfl
  rw [if_neg h8, if_neg h8]
  by_cases h4 : k = 4
  · rw [if_pos h4, if_pos h4]
    have hc := gCell_lt hb v1 v2
    rw [show bR (bTw B tr) = bR B from rfl, show bW (bTw B tr) = bW B from rfl, bFits_tw hb ha hc]
    cases bFits B i (zMod v2 (bR B) * bW B + zMod v1 (bW B)) (zMod v3 6) with
    | true => exact ⟨zU tr i (zMod v3 6), rfl, ha.put, rfl⟩
    | false => exact ⟨tr, rfl, ha, rfl⟩
  rw [if_neg h4, if_neg h4, show bCe (bTw B tr) i = bCe B i from rfl]
  cases bCe B i with
  | none => exact ⟨tr, rfl, ha, rfl⟩
  | some c => exact ⟨tr, rfl, ha.lift, rfl⟩
theorem xAct_tw (hb : bOk B) (ha : bAg B tr) (o : xO) : ∃ tr', (xAct r (bTw B tr) o).1 = bTw (xAct r B o).1 tr' ∧ bAg (xAct r B o).1 tr' ∧ (xAct r (bTw B tr) o).2 = (xAct r B o).2 := by
  unfold xAct
  rw [t1V_tw hb ha, s1V_tw hb ha, s1V_tw hb ha, s1V_tw hb ha]
  by_cases h : o.2.2.1 = true ∧ t1V B r o.2.2.2 = 0
  · rw [if_pos h, if_pos h]
    exact ⟨tr, rfl, ha, rfl⟩
  rw [if_neg h, if_neg h]
  by_cases h0 : o.1.1 = 0
  · rw [if_pos h0, if_pos h0]; exact gAct_tw hb ha _ _ _ _ _
  · rw [if_neg h0, if_neg h0]; exact gAct_tw hb ha _ _ _ _ _
theorem xAct_gm (hg : bGm B) {o : xO} (ho : o.1.2 < bN B) : bGm (xAct r B o).1 ∧ bSz B (xAct r B o).1 := by
  unfold xAct
  by_cases h : o.2.2.1 = true ∧ t1V B r o.2.2.2 = 0
  · rw [if_pos h]
    exact ⟨hg, bSz.refl B⟩
  rw [if_neg h]
  by_cases h0 : o.1.1 = 0
  · rw [if_pos h0]; exact gAct_gm hg ho _ _ _
  · rw [if_neg h0]; exact gAct_gm hg ho _ _ _
theorem xRnd_gm : ∀ (os : List xO) (x : eBd × Nat), bGm x.1 → (∀ o ∈ os, o.1.2 < bN x.1) → bGm (xRnd r os x).1 ∧ bSz x.1 (xRnd r os x).1
  | [], x, hg, _ => ⟨hg, bSz.refl _⟩
  | o :: os, x, hg, ho => by
    obtain ⟨a1, a2⟩ := xAct_gm (r := r) hg (ho o List.mem_cons_self)
    obtain ⟨b1, b2⟩ := xRnd_gm os ((xAct r x.1 o).1, x.2 + (if (xAct r x.1 o).2 then 1 else 0)) a1 (fun o' h => by
      show o'.1.2 < bN (xAct r x.1 o).1
      rw [a2.2.2.1]
      exact ho o' (List.mem_cons_of_mem _ h))
    exact ⟨b1, a2.trans b2⟩
theorem xRnd_sim : ∀ (os : List xO) (A A' : eBd) (n : Nat), bGm A → bSim A A' → (∀ o ∈ os, o.1.2 < bN A) → bSim (xRnd r os (A, n)).1 (xRnd r os (A', n)).1 ∧ (xRnd r os (A', n)).2 = (xRnd r os (A, n)).2
  | [], A, A', n, _, h, _ => ⟨h, rfl⟩
  | o :: os, A, A', n, hg, h, ho => by
    obtain ⟨tr, rfl, ha⟩ := h
    obtain ⟨tr', e1, e2, e3⟩ := xAct_tw (r := r) hg.1 ha o
    obtain ⟨a1, a2⟩ := xAct_gm (r := r) hg (ho o List.mem_cons_self)
    show bSim (xRnd r os ((xAct r A o).1, n + (if (xAct r A o).2 then 1 else 0))).1 (xRnd r os ((xAct r (bTw A tr) o).1, n + (if (xAct r (bTw A tr) o).2 then 1 else 0))).1 ∧ (xRnd r os ((xAct r (bTw A tr) o).1, n + (if (xAct r (bTw A tr) o).2 then 1 else 0))).2 = (xRnd r os ((xAct r A o).1, n + (if (xAct r A o).2 then 1 else 0))).2
    rw [e3]
    exact xRnd_sim os (xAct r A o).1 _ _ a1 ⟨tr', e1, e2⟩ (fun o' h => by
      rw [a2.2.2.1]
      exact ho o' (List.mem_cons_of_mem _ h))
end Sim
