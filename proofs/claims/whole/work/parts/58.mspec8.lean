theorem mRep_set {S : kSt} {v w : kV} {j : Nat} {r : kR} (h : mRep S v) (hz : ∀ i, ¬ (65 * j ≤ i ∧ i < 65 * j + 65) → vz w i = vz v i) (h1 : vz w (65 * j) = r.1) (h2 : ∀ k, k < 64 → vz w (65 * j + 1 + k) = r.2 k) (hpm : vpm w = vpm v) (hpa : vpa w = vpa v) (hsl : vsl w = vsl v) (hsv : vsv w = vsv v) (hty : vty w = vty v) (hpd : vpd w = vpd v) : mRep (setS S j r) w := by
  obtain ⟨a1, a2, a3, a4, a5, a6, a7⟩ := h
  unfold mRep
  rw [hpm, hpa, hsl, hsv, hty, hpd]
  refine ⟨fun q hq => ?_, a2, a3, a4, a5, a6, a7⟩
  show mRow (vz w) (65 * q) (va_up S.1 j r q)
  by_cases z : q = j
  · rw [z, va_up_self]; exact ⟨h1, h2⟩
  · rw [va_up_ne _ _ z]
    exact (a1 q hq).of (fun k hk => hz _ (by omega))
theorem set_z {f : Nat → Nat} {j p x n : Nat} {a : kR} (h1 : f (65 * j) = a.1) (h2 : ∀ k, k < 64 → f (65 * j + 1 + k) = a.2 k) (hn : n = max a.1 (p + 1)) :
    (∀ i, ¬ (65 * j ≤ i ∧ i < 65 * j + 65) → p < 64 → va_up (va_up f (65 * j + 1 + p) x) (65 * j) n i = f i) ∧ va_up (va_up f (65 * j + 1 + p) x) (65 * j) n (65 * j) = (setR a p x).1 ∧ ∀ k, k < 64 → va_up (va_up f (65 * j + 1 + p) x) (65 * j) n (65 * j + 1 + k) = (setR a p x).2 k := by
  refine ⟨fun i hi hp => ?_, ?_, fun k hk => ?_⟩
  · rw [va_up_ne _ _ (by omega), va_up_ne _ _ (by omega)]
  · rw [va_up_self]; exact hn
  · rw [va_up_ne _ _ (by omega)]
    show _ = va_up a.2 p x k
    by_cases z : k = p
    · rw [z, va_up_self, va_up_self]
    · rw [va_up_ne _ _ (by omega), va_up_ne _ _ z]; exact h2 k hk
theorem m_inj {a b : Nat} (ha : a < 2 ^ 31) (hb : b < 2 ^ 31) (h : nI a = nI b) : a = b := by
  have e := congrArg Int32.toInt h
  rw [nI_toInt ha, nI_toInt hb] at e
  omega
