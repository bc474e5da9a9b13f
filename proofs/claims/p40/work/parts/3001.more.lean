section EMore
variable {lo n : Nat} {pc : Nat} {ca sl : Nat}
variable {index c k ci N t : Nat} {C host : String} {cs : List Nat} {v : Int32} {nm : String}
/-! the switch -/
theorem eToI {x k : Int32} (h : x.toInt = k.toInt) : x = k := Int32.toInt_inj.mp h
/-! Math.max, Math.min -/
/-! statics: constants, tables of ints -/
/-! two constants compared -/
def eKn1 (v : Int32) : Int32 := if 1 ≤ v ∧ v ≤ 44 then v else 0
theorem eKr_nat {v : Int32} (h : 1 ≤ v ∧ v ≤ 44) : ∃ j, j < 44 ∧ v = nI (j + 1) := by
  have h1 := Int32.le_iff_toInt_le.mp h.1
  have h2 := Int32.le_iff_toInt_le.mp h.2
  rw [show (1 : Int32).toInt = 1 from rfl] at h1
  rw [show (44 : Int32).toInt = 44 from rfl] at h2
  refine ⟨v.toInt.toNat - 1, by omega, Int32.toInt_inj.mp ?_⟩
  rw [nI_toInt (by omega)]
  omega
end EMore
