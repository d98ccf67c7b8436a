theorem out_z {f : Nat → Nat} {n : Nat} (h : ∀ k, n ≤ k → f k = 0) (k : Nat) : (if k < n then f k else 0) = f k := by
  by_cases z : k < n
  · rw [if_pos z]
  · rw [if_neg z, h k (by omega)]
theorem plc_e {la lb : Nat} (h : plc la lb ≠ 0) : lb ≤ la ∧ plc la lb = la - lb + 1 := by
  unfold plc at h ⊢
  omega
theorem plc_z {la lb : Nat} (h : plc la lb = 0) : la < lb := by
  unfold plc at h
  omega
theorem adF_z {a b : kR} {t n k : Nat} (h : n ≤ k) : adF a b t n k = 0 := by unfold adF; rw [if_neg (by omega)]
def trb (a : kR) (w f k : Nat) : Nat → Nat := fun j => if j < k then vx a (pw w j) * f % 257 else 0
theorem trb_0 (a : kR) (w f : Nat) : trb a w f 0 = fun _ => 0 := by funext j; simp [trb]
theorem trb_s (a : kR) (w f k : Nat) : va_up (trb a w f k) k (vx a (pw w k) * f % 257) = trb a w f (k + 1) := by
  funext j
  unfold trb
  by_cases h : j = k
  · rw [h, va_up_self, if_pos (by omega)]
  · rw [va_up_ne _ _ h]
    by_cases q : j < k
    · rw [if_pos q, if_pos (by omega)]
    · rw [if_neg q, if_neg (by omega)]
theorem trb_e (a : kR) (w f n : Nat) : trb a w f n = scl (tur a w n) f n := by
  funext j
  unfold trb scl tur
  by_cases h : j < n
  · rw [if_pos h, if_pos h, if_pos h]
  · rw [if_neg h, if_neg h, if_neg h]
theorem tur_z {a : kR} {p n k : Nat} (h : n ≤ k) : tur a p n k = 0 := by unfold tur; rw [if_neg (by omega)]
theorem tur_k {a : kR} {p n k : Nat} (h : k < n) : tur a p n k = vx a (pw p k) := by unfold tur; rw [if_pos h]
theorem mRep.rec_eq {S : kSt} {v w : kV} (h : mRep S v) (hz : vz w = vz (recV v)) (hpm : vpm w = vpm (recV v)) (hpa : vpa w = vpa (recV v)) (hsl : vsl w = vsl (recV v)) (hsv : vsv w = vsv (recV v)) (hty : vty w = vty (recV v)) (hpd : vpd w = vpd (recV v)) : mRep (recS S) w := mRep_eq (mRep_rec h) hz hpm hpa hsl hsv hty hpd
