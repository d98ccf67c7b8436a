theorem lss_ngm {s w : Nat} (hs : s < 257) (hw : w < 257) : lss 0 s * w % 257 = ngm s w := by
  have e1 : ((lss 0 s : Nat) : Int) = (-(s : Int)) % 257 := by unfold lss; omega
  have e2 : ((lss 0 s * w % 257 : Nat) : Int) = (-(s : Int) * w) % 257 := by
    rw [Int.natCast_emod, Int.natCast_mul, e1]
    show (-(s : Int)) % 257 * (w : Int) % 257 = _
    rw [Int.mul_emod, Int.emod_emod, ← Int.mul_emod]
  unfold ngm kmod
  omega
theorem lss_one {w : Nat} (hw : w < 257) : lss 1 (0 % 257) * w % 257 = w := by
  rw [show lss 1 (0 % 257) = 1 from by decide, Nat.one_mul]
  exact Nat.mod_eq_of_lt hw
theorem inv_n {f : Nat → Nat} {w i s : Nat} (h : i ≠ 0) (hs : s = conv f (inv f w i) i i) : va_up (inv f w i) i (ngm (s % 257) w) = inv f w (i + 1) := by
  show _ = va_up (inv f w i) i (if i = 0 then w else ngm (conv f (inv f w i) i i % 257) w)
  rw [if_neg h, hs]
theorem inv_o {f : Nat → Nat} {w i : Nat} (h : i = 0) : va_up (inv f w i) i w = inv f w (i + 1) := by
  show _ = va_up (inv f w i) i (if i = 0 then w else ngm (conv f (inv f w i) i i % 257) w)
  rw [if_pos h]
