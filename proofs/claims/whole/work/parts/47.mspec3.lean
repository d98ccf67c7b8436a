theorem in_len {r : Int32} {n : Nat} (h1 : 1 ≤ n) (h : n < 2 ^ 30) : (nI 0 ≤ r ∧ r ≤ nI n - 1) ↔ (0 ≤ r ∧ r < nI n) := by
  obtain ⟨q, rfl⟩ : ∃ q, n = q + 1 := ⟨n - 1, by omega⟩
  rw [nI_pred]
  show (nI 0 ≤ r ∧ r ≤ nI q) ↔ ((0 : Int32) ≤ r ∧ r < nI (q + 1))
  rw [Int32.le_iff_toInt_le, Int32.le_iff_toInt_le, Int32.le_iff_toInt_le, Int32.lt_iff_toInt_lt]
  have e0 : (nI 0).toInt = 0 := by decide
  have f0 : (0 : Int32).toInt = 0 := by decide
  rw [e0, f0, nI_toInt (by omega), nI_toInt (by omega)]
  omega
theorem in_le {r : Int32} {n : Nat} : (nI 0 ≤ r ∧ r ≤ nI n) ↔ (0 ≤ r ∧ r ≤ nI n) := Iff.rfl
theorem in_2 {r : Int32} : (nI 0 ≤ r ∧ r ≤ nI 1) ↔ (0 ≤ r ∧ r < 2) := in_len (n := 2) (by decide) (by decide)
theorem le_cases (r : Int32) (n : Nat) (hn : n < 2 ^ 30) : (¬ (0 ≤ r ∧ r ≤ nI n)) ∨ ∃ j : Nat, j ≤ n ∧ r = nI j := by
  by_cases h : 0 ≤ r ∧ r ≤ nI n
  · exact Or.inr (kin0' hn (Int32.not_lt.mpr h.1) (Int32.not_lt.mpr h.2))
  · exact Or.inl h
theorem le1_cases (r : Int32) (n : Nat) (hn : n < 2 ^ 30) : (¬ (1 ≤ r ∧ r ≤ nI n)) ∨ ∃ j : Nat, 1 ≤ j ∧ j ≤ n ∧ r = nI j := by
  by_cases h : 1 ≤ r ∧ r ≤ nI n
  · exact Or.inr (kin1 hn (Int32.not_lt.mpr h.1) (Int32.not_lt.mpr h.2))
  · exact Or.inl h
