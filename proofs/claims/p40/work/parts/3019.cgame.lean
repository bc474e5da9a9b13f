/-! ===== the class reads the game ===== -/
def osCode (os : List pOrd) : List pSt := (os.map oCode).flatten
theorem osCode_app (os : List pOrd) (o : pOrd) : osCode (os ++ [o]) = osCode os ++ oCode o := by
  unfold osCode
  rw [List.map_append, List.flatten_append]
  show (os.map oCode).flatten ++ (oCode o ++ []) = _
  rw [List.append_nil]
section CGame
variable {tk : Nat → Nat} {T n : Nat}
theorem eKn1_tk (ht : pTk tk T) {p k : Nat} (hp : p ≤ T) (hk : 1 ≤ k ∧ k ≤ 44) : eKn1 (nI (tk p)) = eKn1 (nI k) ↔ tk p = k := by
  have hkp := ht.2.1 p hp
  rw [eKn1_nI hkp.1 (by omega), eKn1_nI hk.1 hk.2]
  exact nI_eq (by omega) (by omega)
end CGame
