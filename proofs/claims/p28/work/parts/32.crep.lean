/-! HOW THE CLASS HOLDS IT -/
def cRep (S : kSt) (u : (Nat → kR) × kX) : Prop := (∀ r, r < 6 → u.1 r = S.1 r) ∧ (u.2.1 = S.2.2.1 ∧ S.2.2.1 ≤ 6) ∧ (∀ i r, i < S.2.2.1 → r < 6 → u.1 (6 * u.2.2.1 i + r) = S.2.1 i r) ∧ (∀ t r, t < 2 → r < 6 → S.2.2.2.2.1 t = 1 → u.1 (6 * (7 + t) + r) = S.2.2.2.1 t r) ∧ (∀ j, j < 6 → 1 ≤ u.2.2.1 j ∧ u.2.2.1 j ≤ 6) ∧ (∀ i j, i < 6 → j < 6 → u.2.2.1 i = u.2.2.1 j → i = j) ∧ u.2.2.2.1 = S.2.2.2.2.2.1 ∧ (∀ j, j < S.2.2.2.2.2.1 → u.2.2.2.2.1 j = S.2.2.2.2.2.2 j) ∧ ∀ t, t < 2 → u.2.2.2.2.2 t = S.2.2.2.2.1 t
theorem cRep.eqs {S : kSt} {ρ ρ' : Nat → kR} {x : kX} (h : cRep S (ρ, x)) (h1 : ∀ i, i < 54 → ρ' i = ρ i) : cRep S (ρ', x) := by
  obtain ⟨a1, a2, a3, a4, a5, a6, a7, a8, a9⟩ := h
  refine ⟨fun r hr => (h1 r (by omega)).trans (a1 r hr), a2, fun i r hi hr => ?_, fun t r ht hr hs => (h1 _ (by omega)).trans (a4 t r ht hr hs), a5, a6, a7, a8, a9⟩
  have a2' := a2.2
  have := a5 i (by omega)
  have h3 := a3 i r hi hr
  dsimp only at this h3 ⊢
  exact (h1 _ (by omega)).trans h3
theorem cpS_in {ρ : Nat → kR} {t u r : Nat} (hr : r < 6) : cpS ρ t u 6 (6 * t + r) = ρ (6 * u + r) := by
  unfold cpS
  rw [if_pos (by omega)]
  congr 1
  omega
theorem cpS_out {ρ : Nat → kR} {t u i : Nat} (h : i < 6 * t ∨ 6 * t + 6 ≤ i) : cpS ρ t u 6 i = ρ i := by
  unfold cpS
  rw [if_neg (by omega)]
theorem rotF_lo {f : Nat → Nat} {i : Nat} (h : i < 5) : rotF f i = f (i + 1) := by
  unfold rotF
  rw [va_up_ne _ _ (by omega)]
  unfold rot
  rw [if_pos (by omega)]
theorem rotF_hi (f : Nat → Nat) : rotF f 5 = f 0 := by unfold rotF; rw [va_up_self]
theorem kpm_rng {x : kX} (h : ∀ j, j < 6 → 1 ≤ x.2.1 j ∧ x.2.1 j ≤ 6) : ∀ j, j < 6 → 1 ≤ kpm x j ∧ kpm x j ≤ 6 := by
  intro j hj
  unfold kpm
  split
  · exact h j hj
  · by_cases q : j = 5
    · rw [q, rotF_hi]; exact h 0 (by decide)
    · rw [rotF_lo (by omega)]; exact h (j + 1) (by omega)
theorem kpm_inj {x : kX} (h : ∀ i j, i < 6 → j < 6 → x.2.1 i = x.2.1 j → i = j) : ∀ i j, i < 6 → j < 6 → kpm x i = kpm x j → i = j := by
  intro i j hi hj
  unfold kpm
  split
  · exact h i j hi hj
  · intro e
    by_cases qi : i = 5
    · by_cases qj : j = 5
      · omega
      · rw [qi, rotF_hi, rotF_lo (by omega)] at e
        have := h 0 (j + 1) (by decide) (by omega) e
        omega
    · by_cases qj : j = 5
      · rw [qj, rotF_hi, rotF_lo (by omega)] at e
        have := h (i + 1) 0 (by omega) (by decide) e
        omega
      · rw [rotF_lo (by omega), rotF_lo (by omega)] at e
        have := h (i + 1) (j + 1) (by omega) (by omega) e
        omega
theorem khl_lt {x : kX} : khl x < 6 := by unfold khl; split <;> omega
theorem cRep_keep {S : kSt} {ρ : Nat → kR} {x : kX} (h : cRep S (ρ, x)) : cRep (recS S) (keepR ρ x, keepX x) := by
  obtain ⟨a1, a2, a3, a4, a5, a6, a7, a8, a9⟩ := h
  dsimp only at a1 a2 a3 a4 a5 a6 a7 a8 a9
  obtain ⟨a2, a2'⟩ := a2
  have hr5 := kpm_rng a5
  have hr6 := kpm_inj a6
  have hk := khl_lt (x := x)
  have ht := hr5 (khl x) hk
  have hlo : ∀ r, r < 6 → keepR ρ x r = ρ r := fun r hr => cpS_out (Or.inl (by omega))
  refine ⟨fun r hr => (hlo r hr).trans (a1 r hr), ⟨?_, ?_⟩, fun i r hi hr => ?_, fun t r ht2 hr hs => ?_, hr5, hr6, a7, a8, a9⟩
  · show khl x + 1 = if S.2.2.1 < 6 then S.2.2.1 + 1 else 6
    unfold khl
    rw [a2]
    split <;> omega
  · show (if S.2.2.1 < 6 then S.2.2.1 + 1 else 6) ≤ 6
    split <;> omega
  · show cpS ρ (kpm x (khl x)) 0 6 (6 * kpm x i + r) = (if S.2.2.1 < 6 then va_up S.2.1 S.2.2.1 S.1 else fun i => if i < 5 then S.2.1 (i + 1) else S.1) i r
    have hi' : i < (if S.2.2.1 < 6 then S.2.2.1 + 1 else 6) := hi
    by_cases q : S.2.2.1 < 6
    · have e1 : kpm x = x.2.1 := by unfold kpm; rw [if_pos (by omega)]
      have e2 : khl x = S.2.2.1 := by unfold khl; rw [if_pos (by omega)]; exact a2
      rw [if_pos q] at hi' ⊢
      rw [e1, e2]
      by_cases z : i = S.2.2.1
      · rw [z, va_up_self, cpS_in hr, show 6 * 0 + r = r by omega]
        exact a1 r hr
      · rw [va_up_ne _ _ z, cpS_out ?_]
        · exact a3 i r (by omega) hr
        · have hne : x.2.1 i ≠ x.2.1 S.2.2.1 := fun e => z (a6 _ _ (by omega) q e)
          omega
    · have e1 : kpm x = rotF x.2.1 := by unfold kpm; rw [if_neg (by omega)]
      have e2 : khl x = 5 := by unfold khl; rw [if_neg (by omega)]
      rw [if_neg q] at hi' ⊢
      rw [e1, e2]
      by_cases z : i = 5
      · rw [z, if_neg (by omega), cpS_in hr, show 6 * 0 + r = r by omega]
        exact a1 r hr
      · rw [if_pos (by omega), rotF_lo (f := x.2.1) (i := i) (by omega), rotF_hi, cpS_out ?_]
        · exact a3 (i + 1) r (by omega) hr
        · have hne : x.2.1 (i + 1) ≠ x.2.1 0 := fun e => by have := a6 _ _ (by omega) (by omega) e; omega
          omega
  · show cpS ρ _ 0 6 (6 * (7 + t) + r) = _
    rw [cpS_out (Or.inr (by omega))]
    exact a4 t r ht2 hr hs
theorem cRep_set {S : kSt} {ρ : Nat → kR} {x : kX} {j : Nat} (r : kR) (hj : j < 6) (h : cRep S (ρ, x)) : cRep (setS S j r) (va_up ρ j r, x) := by
  obtain ⟨a1, a2, a3, a4, a5, a6, a7, a8, a9⟩ := h
  dsimp only at a1 a2 a3 a4 a5 a6 a7 a8 a9
  refine ⟨fun q hq => ?_, a2, fun i q hi hq => ?_, fun t q ht hq hs => ?_, a5, a6, a7, a8, a9⟩
  · show va_up ρ j r q = va_up S.1 j r q
    by_cases z : q = j
    · rw [z, va_up_self, va_up_self]
    · rw [va_up_ne _ _ z, va_up_ne _ _ z]; exact a1 q hq
  · show va_up ρ j r (6 * x.2.1 i + q) = _
    have a2' := a2.2
    have hi' : i < S.2.2.1 := hi
    have := a5 i (by omega)
    rw [va_up_ne _ _ (by omega)]
    exact a3 i q hi hq
  · show va_up ρ j r (6 * (7 + t) + q) = _
    rw [va_up_ne _ _ (by omega)]
    exact a4 t q ht hq hs
theorem keepR_hi {ρ : Nat → kR} {x : kX} (h : ∀ j, j < 6 → 1 ≤ x.2.1 j ∧ x.2.1 j ≤ 6) {i : Nat} (hi : 42 ≤ i) : keepR ρ x i = ρ i := by
  have := kpm_rng h (khl x) khl_lt
  exact cpS_out (Or.inr (by omega))
theorem cRep_undo {S : kSt} {ρ : Nat → kR} {x : kX} (h : cRep S (ρ, x)) (h0 : S.2.2.1 ≠ 0) : cRep (S.2.1 (S.2.2.1 - 1), S.2.1, S.2.2.1 - 1, S.2.2.2) (cpS ρ 0 (x.2.1 (x.1 - 1)) 6, (x.1 - 1, x.2)) := by
  obtain ⟨a1, a2, a3, a4, a5, a6, a7, a8, a9⟩ := h
  dsimp only at a1 a2 a3 a4 a5 a6 a7 a8 a9
  obtain ⟨a2, a2'⟩ := a2
  refine ⟨fun r hr => ?_, ⟨by show x.1 - 1 = S.2.2.1 - 1; omega, by show S.2.2.1 - 1 ≤ 6; omega⟩, fun i r hi hr => ?_, fun t r ht hr hs => ?_, a5, a6, a7, a8, a9⟩
  · have e := cpS_in (ρ := ρ) (t := 0) (u := x.2.1 (x.1 - 1)) hr
    rw [show 6 * 0 + r = r by omega] at e
    show cpS ρ 0 (x.2.1 (x.1 - 1)) 6 r = S.2.1 (S.2.2.1 - 1) r
    rw [e, a2]
    exact a3 _ r (by omega) hr
  · have hi' : i < S.2.2.1 - 1 := hi
    have := a5 i (by omega)
    show cpS ρ 0 _ 6 (6 * x.2.1 i + r) = _
    rw [cpS_out (Or.inr (by omega))]
    exact a3 i r (by omega) hr
  · show cpS ρ 0 _ 6 (6 * (7 + t) + r) = _
    rw [cpS_out (Or.inr (by omega))]
    exact a4 t r ht hr hs
theorem cRep_load {S : kSt} {ρ : Nat → kR} {x : kX} {t : Nat} (h : cRep S (ρ, x)) (ht : t < 2) (hs : S.2.2.2.2.1 t = 1) : cRep (S.2.2.2.1 t, S.2) (cpS ρ 0 (7 + t) 6, x) := by
  obtain ⟨a1, a2, a3, a4, a5, a6, a7, a8, a9⟩ := h
  dsimp only at a1 a2 a3 a4 a5 a6 a7 a8 a9
  obtain ⟨a2, a2'⟩ := a2
  refine ⟨fun r hr => ?_, ⟨a2, a2'⟩, fun i r hi hr => ?_, fun t r ht hr hs => ?_, a5, a6, a7, a8, a9⟩
  · have e := cpS_in (ρ := ρ) (t := 0) (u := 7 + t) hr
    rw [show 6 * 0 + r = r by omega] at e
    show cpS ρ 0 (7 + t) 6 r = S.2.2.2.1 t r
    rw [e]
    exact a4 t r ht hr hs
  · have hi' : i < S.2.2.1 := hi
    have := a5 i (by omega)
    show cpS ρ 0 _ 6 (6 * x.2.1 i + r) = _
    rw [cpS_out (Or.inr (by omega))]
    exact a3 i r (by omega) hr
  · show cpS ρ 0 _ 6 (6 * (7 + t) + r) = _
    rw [cpS_out (Or.inr (by omega))]
    exact a4 t r ht hr hs
theorem cRep_save {S : kSt} {ρ : Nat → kR} {x : kX} {t : Nat} (h : cRep S (ρ, x)) (ht : t < 2) : cRep (S.1, S.2.1, S.2.2.1, va_up S.2.2.2.1 t S.1, va_up S.2.2.2.2.1 t 1, S.2.2.2.2.2) (cpS ρ (7 + t) 0 6, (x.1, x.2.1, x.2.2.1, x.2.2.2.1, va_up x.2.2.2.2 t 1)) := by
  obtain ⟨a1, a2, a3, a4, a5, a6, a7, a8, a9⟩ := h
  dsimp only at a1 a2 a3 a4 a5 a6 a7 a8 a9
  obtain ⟨a2, a2'⟩ := a2
  refine ⟨fun r hr => ?_, ⟨a2, a2'⟩, fun i r hi hr => ?_, fun z r hz hr hs => ?_, a5, a6, a7, a8, fun z hz => ?_⟩
  · show cpS ρ (7 + t) 0 6 r = _
    rw [cpS_out (Or.inl (by omega))]; exact a1 r hr
  · have hi' : i < S.2.2.1 := hi
    have := a5 i (by omega)
    show cpS ρ (7 + t) 0 6 (6 * x.2.1 i + r) = _
    rw [cpS_out (Or.inl (by omega))]
    exact a3 i r (by omega) hr
  · show cpS ρ (7 + t) 0 6 (6 * (7 + z) + r) = va_up S.2.2.2.1 t S.1 z r
    have hs' : va_up S.2.2.2.2.1 t 1 z = 1 := hs
    by_cases q : z = t
    · rw [q, va_up_self, cpS_in hr, show 6 * 0 + r = r by omega]; exact a1 r hr
    · rw [va_up_ne _ _ q, cpS_out (by omega)]
      rw [va_up_ne _ _ q] at hs'
      exact a4 z r hz hr hs'
  · show va_up x.2.2.2.2 t 1 z = va_up S.2.2.2.2.1 t 1 z
    by_cases q : z = t
    · rw [q, va_up_self, va_up_self]
    · rw [va_up_ne _ _ q, va_up_ne _ _ q]; exact a9 z hz
theorem cRep_pad {S : kSt} {ρ : Nat → kR} {x : kX} {n : Nat} {f g : Nat → Nat} (h : cRep S (ρ, x)) (hf : ∀ j, j < n → f j = g j) : cRep (padS S n g) (ρ, (x.1, x.2.1, n, f, x.2.2.2.2)) := by
  obtain ⟨a1, a2, a3, a4, a5, a6, a7, a8, a9⟩ := h
  exact ⟨a1, a2, a3, a4, a5, a6, rfl, hf, a9⟩
/-- psA looks at the pad's own characters alone -/
theorem psr_congr {f g : Nat → Nat} : ∀ (n i k : Nat) (u : Option Nat) (F : Nat → Nat), (∀ j, j < i + n → f j = g j) → psr f n i k u F = psr g n i k u F := by
  intro n
  induction n with
  | zero => intro i k u F _; cases u <;> rfl
  | succ n ih =>
    intro i k u F h
    have e := h i (by omega)
    by_cases q : f i = 44
    · cases u with
      | none => rw [psr_c0 q, psr_c0 (e.symm.trans q)]
      | some v => rw [psr_c1 q, psr_c1 (e.symm.trans q)]; exact ih _ _ _ _ (fun j hj => h j (by omega))
    · have q' : g i ≠ 44 := fun z => q (e.trans z)
      cases hw : wdg u (f i) with
      | none => rw [psr_d0 q hw, psr_d0 q' (by rw [← e]; exact hw)]
      | some v => rw [psr_d1 q hw, psr_d1 q' (by rw [← e]; exact hw)]; exact ih _ _ _ _ (fun j hj => h j (by omega))
theorem psA_congr {f g : Nat → Nat} {n : Nat} (h : ∀ j, j < n → f j = g j) : psA f n = psA g n := psr_congr n 0 0 none _ (fun j hj => h j (by omega))
