/-- the row that was worked out -/
def outR (v : kV) : kR := (vln v, fun k => if k < vln v then vou v k else 0)
/-! HOW THE REFERENCE HOLDS THE STATE -/
def mRow (f : Nat → Nat) (b : Nat) (r : kR) : Prop := f b = r.1 ∧ ∀ k, k < 64 → f (b + 1 + k) = r.2 k
def mRep (S : kSt) (v : kV) : Prop := (∀ r, r < 6 → mRow (vz v) (65 * r) (S.1 r)) ∧ (vpm v = S.2.2.1 ∧ S.2.2.1 ≤ 6) ∧ (∀ i r, i < S.2.2.1 → r < 6 → mRow (vpa v) (390 * i + 65 * r) (S.2.1 i r)) ∧ (∀ t r, t < 2 → r < 6 → S.2.2.2.2.1 t = 1 → mRow (vsl v) (390 * t + 65 * r) (S.2.2.2.1 t r)) ∧ vty v = S.2.2.2.2.2.1 ∧ (∀ j, j < S.2.2.2.2.2.1 → vpd v j = S.2.2.2.2.2.2 j) ∧ ∀ t, t < 2 → vsv v t = S.2.2.2.2.1 t
theorem mRow.of {f g : Nat → Nat} {a b : Nat} {r : kR} (h : mRow f a r) (e : ∀ k, k < 65 → g (b + k) = f (a + k)) : mRow g b r := by
  refine ⟨?_, fun k hk => ?_⟩
  · have := e 0 (by omega)
    rw [Nat.add_zero, Nat.add_zero] at this
    rw [this]; exact h.1
  · have := e (1 + k) (by omega)
    rw [← Nat.add_assoc, ← Nat.add_assoc] at this
    rw [this]; exact h.2 k hk
theorem mRep.reg {S : kSt} {v : kV} (hI : kInv S) (h : mRep S v) : mReg S.1 v := fun r hr => ⟨(h.1 r hr).1, hI.1 r hr, (h.1 r hr).2⟩
theorem cpK_in {f z : Nat → Nat} {b n i : Nat} (h1 : b ≤ i) (h2 : i < b + n) : cpK f z b n i = z (i - b) := if_pos ⟨h1, h2⟩
theorem cpK_out {f z : Nat → Nat} {b n i : Nat} (h : i < b ∨ b + n ≤ i) : cpK f z b n i = f i := by unfold cpK; rw [if_neg (by omega)]
theorem mRep_rec {S : kSt} {v : kV} (h : mRep S v) : mRep (recS S) (recV v) := by
  obtain ⟨a1, ⟨a2, a2'⟩, a3, a4, a5, a6, a7⟩ := h
  refine ⟨a1, ⟨?_, ?_⟩, fun i r hi hr => ?_, a4, a5, a6, a7⟩
  · show recN v + 1 = if S.2.2.1 < 6 then S.2.2.1 + 1 else 6
    unfold recN
    rw [a2]
    split <;> split <;> omega
  · show (if S.2.2.1 < 6 then S.2.2.1 + 1 else 6) ≤ 6
    split <;> omega
  · show mRow (cpK (recP v) (vz v) (recN v * 390) 390) (390 * i + 65 * r) ((if S.2.2.1 < 6 then va_up S.2.1 S.2.2.1 S.1 else fun i => if i < 5 then S.2.1 (i + 1) else S.1) i r)
    have hi' : i < (if S.2.2.1 < 6 then S.2.2.1 + 1 else 6) := hi
    by_cases q : S.2.2.1 < 6
    · have e1 : recN v = S.2.2.1 := by unfold recN; rw [if_neg (by omega)]; exact a2
      have e2 : recP v = vpa v := by unfold recP; rw [if_neg (by omega)]
      rw [if_pos q] at hi' ⊢
      rw [e1, e2]
      by_cases z : i = S.2.2.1
      · rw [z, va_up_self]
        refine (a1 r hr).of (fun k hk => ?_)
        rw [cpK_in (by omega) (by omega)]
        exact congrArg (vz v) (by omega)
      · rw [va_up_ne _ _ z]
        refine (a3 i r (by omega) hr).of (fun k hk => ?_)
        rw [cpK_out (Or.inl (by omega))]
    · have e1 : recN v = 5 := by unfold recN; rw [if_pos (by omega)]
      have e2 : recP v = shK (vpa v) 1950 := by unfold recP; rw [if_pos (by omega)]
      rw [if_neg q] at hi' ⊢
      rw [e1, e2]
      by_cases z : i = 5
      · rw [z, if_neg (by omega)]
        refine (a1 r hr).of (fun k hk => ?_)
        rw [cpK_in (by omega) (by omega)]
        exact congrArg (vz v) (by omega)
      · rw [if_pos (by omega)]
        refine (a3 (i + 1) r (by omega) hr).of (fun k hk => ?_)
        rw [cpK_out (Or.inl (by omega))]
        unfold shK
        rw [if_pos (by omega)]
        exact congrArg (vpa v) (by omega)
theorem mRep_sto {S : kSt} {v : kV} {j : Nat} {r : kR} (h : mRep S v) (hj : j < 6) (h1 : vln v = r.1) (h2 : ∀ k, k < 64 → (if k < r.1 then vou v k else 0) = r.2 k) : mRep (setS S j r) (sto v j) := by
  obtain ⟨a1, a2, a3, a4, a5, a6, a7⟩ := h
  refine ⟨fun q hq => ?_, a2, a3, a4, a5, a6, a7⟩
  show mRow (stK (vz v) j (vln v) (vou v) 64) (65 * q) (va_up S.1 j r q)
  by_cases z : q = j
  · rw [z, va_up_self]
    refine ⟨?_, fun k hk => ?_⟩
    · unfold stK; rw [if_pos rfl]; exact h1
    · have e : stK (vz v) j (vln v) (vou v) 64 (65 * j + 1 + k) = if k < vln v then vou v k else 0 := by
        unfold stK
        rw [if_neg (by omega), if_pos (by omega), show 65 * j + 1 + k - (65 * j + 1) = k by omega]
      rw [e, h1]; exact h2 k hk
  · rw [va_up_ne _ _ z]
    refine (a1 q hq).of (fun k hk => ?_)
    unfold stK
    rw [if_neg (by omega), if_neg (by omega)]
theorem mRep.chg {S : kSt} {v w : kV} {j : Nat} {r : kR} (h : mRep (recS S) w) (hj : j < 6) (h1 : vln w = r.1) (h2 : ∀ k, k < 64 → (if k < r.1 then vou w k else 0) = r.2 k) : mRep (chgS S j r) (sto w j) := mRep_sto h hj h1 h2
theorem mRep_undo {S : kSt} {v : kV} (h : mRep S v) (h0 : S.2.2.1 ≠ 0) : mRep (S.2.1 (S.2.2.1 - 1), S.2.1, S.2.2.1 - 1, S.2.2.2) (pz (ppm v (vpm v - 1)) (cpK (vz v) (fun k => vpa v ((vpm v - 1) * 390 + k)) 0 390)) := by
  obtain ⟨a1, ⟨a2, a2'⟩, a3, a4, a5, a6, a7⟩ := h
  refine ⟨fun r hr => ?_, ⟨by show vpm v - 1 = S.2.2.1 - 1; omega, by show S.2.2.1 - 1 ≤ 6; omega⟩, fun i r hi hr => a3 i r (by have hi' : i < S.2.2.1 - 1 := hi; omega) hr, a4, a5, a6, a7⟩
  show mRow (cpK (vz v) (fun k => vpa v ((vpm v - 1) * 390 + k)) 0 390) (65 * r) (S.2.1 (S.2.2.1 - 1) r)
  refine (a3 (S.2.2.1 - 1) r (by omega) hr).of (fun k hk => ?_)
  rw [cpK_in (by omega) (by omega), a2]
  show vpa v ((S.2.2.1 - 1) * 390 + (65 * r + k - 0)) = _
  exact congrArg (vpa v) (by omega)
theorem mRep_save {S : kSt} {v : kV} {t : Nat} (h : mRep S v) (ht : t < 2) : mRep (S.1, S.2.1, S.2.2.1, va_up S.2.2.2.1 t S.1, va_up S.2.2.2.2.1 t 1, S.2.2.2.2.2) (psl (psv v (va_up (vsv v) t 1)) (cpK (vsl v) (vz v) (t * 390) 390)) := by
  obtain ⟨a1, a2, a3, a4, a5, a6, a7⟩ := h
  refine ⟨a1, a2, a3, fun q r hq hr hs => ?_, a5, a6, fun q hq => ?_⟩
  · show mRow (cpK (vsl v) (vz v) (t * 390) 390) (390 * q + 65 * r) (va_up S.2.2.2.1 t S.1 q r)
    have hs' : va_up S.2.2.2.2.1 t 1 q = 1 := hs
    by_cases z : q = t
    · rw [z, va_up_self]
      refine (a1 r hr).of (fun k hk => ?_)
      rw [cpK_in (by omega) (by omega)]
      exact congrArg (vz v) (by omega)
    · rw [va_up_ne _ _ z] at hs' ⊢
      refine (a4 q r hq hr hs').of (fun k hk => ?_)
      rw [cpK_out (by omega)]
  · show va_up (vsv v) t 1 q = va_up S.2.2.2.2.1 t 1 q
    by_cases z : q = t
    · rw [z, va_up_self, va_up_self]
    · rw [va_up_ne _ _ z, va_up_ne _ _ z]; exact a7 q hq
theorem mRep_load {S : kSt} {v : kV} {t : Nat} (h : mRep S v) (ht : t < 2) (hs : S.2.2.2.2.1 t = 1) : mRep (S.2.2.2.1 t, S.2) (pz v (cpK (vz v) (fun k => vsl v (t * 390 + k)) 0 390)) := by
  obtain ⟨a1, a2, a3, a4, a5, a6, a7⟩ := h
  refine ⟨fun r hr => ?_, a2, a3, a4, a5, a6, a7⟩
  show mRow (cpK (vz v) (fun k => vsl v (t * 390 + k)) 0 390) (65 * r) (S.2.2.2.1 t r)
  refine (a4 t r ht hr hs).of (fun k hk => ?_)
  rw [cpK_in (by omega) (by omega)]
  show vsl v (t * 390 + (65 * r + k - 0)) = _
  exact congrArg (vsl v) (by omega)
theorem mRep_pad {S : kSt} {v w : kV} {n : Nat} {g : Nat → Nat} (h : mRep S v) (hz : vz w = vz v) (hpm : vpm w = vpm v) (hpa : vpa w = vpa v) (hsl : vsl w = vsl v) (hsv : vsv w = vsv v) (hty : vty w = n) (hpd : ∀ j, j < n → vpd w j = g j) : mRep (padS S n g) w := by
  obtain ⟨a1, a2, a3, a4, a5, a6, a7⟩ := h
  unfold mRep
  rw [hz, hpm, hpa, hsl, hsv]
  exact ⟨a1, a2, a3, a4, hty, hpd, a7⟩
theorem mRep_eq {S : kSt} {v w : kV} (h : mRep S v) (hz : vz w = vz v) (hpm : vpm w = vpm v) (hpa : vpa w = vpa v) (hsl : vsl w = vsl v) (hsv : vsv w = vsv v) (hty : vty w = vty v) (hpd : vpd w = vpd v) : mRep S w := by
  unfold mRep
  rw [hz, hpm, hpa, hsl, hsv, hty, hpd]
  exact h
