theorem trb_lt {a : kR} {w f n : Nat} (j : Nat) : trb a w f n j < 257 := by
  unfold trb
  by_cases h : j < n
  · rw [if_pos h]; exact Nat.mod_lt _ (by decide)
  · rw [if_neg h]; decide
theorem trb_z {a : kR} {w f n k : Nat} (h : n ≤ k) : trb a w f n k = 0 := by unfold trb; rw [if_neg (by omega)]
