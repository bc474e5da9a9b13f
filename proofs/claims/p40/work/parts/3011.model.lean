theorem bNm_eq {k t e n : Nat} (hk : k < 16) (ht : t < 6) (he : e < 6) : (3 * nI k) + ((((nI e - nI t) + 6) - ((nI e - nI t) + 6) / 6 * 6) / 2) = nI (3 * k + (e + 6 - t) % 6 / 2) := by
  have h1 : nI e - nI t + 6 = nI (e + 6 - t) := by
    rw [← nI_sub (show t ≤ e + 6 by omega), ← nI_add, ← eL6]
    rw [Int32.sub_eq_add_neg, Int32.sub_eq_add_neg, Int32.add_assoc, Int32.add_assoc, Int32.add_comm (-nI t)]
  rw [h1, eL6, nI_rem (by omega) (by decide) (by decide), eL2, nI_div (by omega) (by decide) (by decide), eL3, nI_mul, nI_add]
