def cp1 (f g : Nat → Nat) (k : Nat) : Nat → Nat := fun j => if j < k then f j else g j
theorem cp1_0 (f g : Nat → Nat) : cp1 f g 0 = g := by funext j; simp [cp1]
theorem cp1_s (f g : Nat → Nat) (k : Nat) : va_up (cp1 f g k) k (f k) = cp1 f g (k + 1) := by
  funext j
  unfold cp1
  by_cases h : j = k
  · rw [h, va_up_self, if_pos (by omega)]
  · rw [va_up_ne _ _ h]
    by_cases q : j < k
    · rw [if_pos q, if_pos (by omega)]
    · rw [if_neg q, if_neg (by omega)]
theorem cp1_lt {f g : Nat → Nat} {k j : Nat} (h : j < k) : cp1 f g k j = f j := if_pos h
def mlo (v : kV) (b : kR) : kV := pou (pln (pon v (cp1 (vou v) (von v) (vln v))) (vln v + b.1 - 1)) (mulO (vou v) b.2 b.1 (vln v + b.1 - 1) (vln v))
def dvm (v : kV) (D d : Nat) : kV := pon (pou v (dvO (vtw v) d (pw (vtw v d) 255) (D - d) (vou v, von v)).1) (dvO (vtw v) d (pw (vtw v d) 255) (D - d) (vou v, von v)).2
theorem dig_iff {c : Nat} (h : c < 2 ^ 31) : (nI 48 ≤ nI c ∧ nI c ≤ nI 57) ↔ (48 ≤ c ∧ c ≤ 57) := by
  rw [nI_leI (by decide) h, nI_leI h (by decide)]
theorem wdg_ok {u : Option Nat} {c : Nat} (h1 : 48 ≤ c ∧ c ≤ 57) (h2 : u ≠ some 0) (h3 : u.getD 0 * 10 + c - 48 < 257) : wdg u c = some (u.getD 0 * 10 + c - 48) := if_pos ⟨h1.1, h1.2, h2, h3⟩
theorem wdg_no {u : Option Nat} {c : Nat} (h : ¬ (48 ≤ c ∧ c ≤ 57 ∧ u ≠ some 0 ∧ u.getD 0 * 10 + c - 48 < 257)) : wdg u c = none := if_neg h
