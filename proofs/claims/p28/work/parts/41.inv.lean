theorem le_cases (r : Int32) (n : Nat) (hn : n < 2 ^ 30) : (¬ (0 ≤ r ∧ r ≤ nI n)) ∨ ∃ j : Nat, j ≤ n ∧ r = nI j := by
  by_cases h : 0 ≤ r ∧ r ≤ nI n
  · exact Or.inr (kin0' hn (Int32.not_lt.mpr h.1) (Int32.not_lt.mpr h.2))
  · exact Or.inl h
theorem le1_cases (r : Int32) (n : Nat) (hn : n < 2 ^ 30) : (¬ (1 ≤ r ∧ r ≤ nI n)) ∨ ∃ j : Nat, 1 ≤ j ∧ j ≤ n ∧ r = nI j := by
  by_cases h : 1 ≤ r ∧ r ≤ nI n
  · exact Or.inr (kin1 hn (Int32.not_lt.mpr h.1) (Int32.not_lt.mpr h.2))
  · exact Or.inl h
/-! WHAT EVERY CALL KEEPS -/
theorem isR_rg {r : Int32} (h : isR r) : rgN r < 6 := by
  obtain ⟨j, hj, e⟩ := (kreg_cases r).resolve_left (fun q => q h)
  rw [e, rgN_nI (by omega)]; exact hj
theorem isN_rg {r : Int32} (h : isN r) : rgN r < 257 := by
  obtain ⟨j, hj, e⟩ := (kin_cases r 257 (by decide)).resolve_left (fun q => q h)
  rw [e, rgN_nI (by omega)]; exact hj
theorem in1_rg {r : Int32} {n : Nat} (hn : n < 2 ^ 30) (h : 1 ≤ r ∧ r ≤ nI n) : 1 ≤ rgN r ∧ rgN r ≤ n := by
  obtain ⟨j, h1, hj, e⟩ := (le1_cases r n hn).resolve_left (fun q => q h)
  rw [e, rgN_nI (by omega)]; exact ⟨h1, hj⟩
theorem kInv_rec {S : kSt} (h : kInv S) : kInv (recS S) := by
  obtain ⟨a1, a2, a3, a4⟩ := h
  refine ⟨a1, ?_, fun i r hi hr => ?_, a4⟩
  · show (if S.2.2.1 < 6 then S.2.2.1 + 1 else 6) ≤ 6
    split <;> omega
  · show rO ((if S.2.2.1 < 6 then va_up S.2.1 S.2.2.1 S.1 else fun i => if i < 5 then S.2.1 (i + 1) else S.1) i r)
    have hi' : i < (if S.2.2.1 < 6 then S.2.2.1 + 1 else 6) := hi
    by_cases q : S.2.2.1 < 6
    · rw [if_pos q] at hi' ⊢
      by_cases z : i = S.2.2.1
      · rw [z, va_up_self]; exact a1 r hr
      · rw [va_up_ne _ _ z]; exact a3 i r (by omega) hr
    · rw [if_neg q] at hi' ⊢
      by_cases z : i < 5
      · rw [if_pos z]; exact a3 (i + 1) r (by omega) hr
      · rw [if_neg z]; exact a1 r hr
theorem kInv_set {S : kSt} {j : Nat} {r : kR} (h : kInv S) (hr : rO r) : kInv (setS S j r) := by
  obtain ⟨a1, a2⟩ := h
  refine ⟨fun q hq => ?_, a2⟩
  show rO (va_up S.1 j r q)
  by_cases z : q = j
  · rw [z, va_up_self]; exact hr
  · rw [va_up_ne _ _ z]; exact a1 q hq
theorem kInv_chg {S : kSt} {j : Nat} {r : kR} (h : kInv S) (hr : rO r) : kInv (chgS S j r) := kInv_set (kInv_rec h) hr
theorem kInv_pad {S : kSt} {n : Nat} {f : Nat → Nat} (h : kInv S) (hn : n ≤ 80) (hf : ∀ j, j < n → 33 ≤ f j ∧ f j ≤ 126) : kInv (padS S n f) := by
  obtain ⟨a1, a2, a3, a4, a5, -, -⟩ := h
  exact ⟨a1, a2, a3, a4, a5, hn, hf⟩
section INV
variable {S : kSt}
theorem inv_read (h : kInv S) (r : Int32) : kInv (op_read S r).2 := by
  unfold op_read
  split
  · exact h
  · split
    · exact h
    · rename_i h1 h2
      exact kInv_pad (kInv_chg h (psA_O h.2.2.2.2.2.1 (Decidable.of_not_not h2))) (Nat.zero_le _) (fun j hj => absurd hj (Nat.not_lt_zero _))
theorem inv_set (h : kInv S) (r p v : Int32) : kInv (op_set S r p v).2 := by
  unfold op_set
  split
  · exact h
  · rename_i h1
    have hr : isR r := Decidable.of_not_not (fun q => h1 (Or.inl q))
    have hp : 0 ≤ p ∧ p ≤ nI (S.1 (rgN r)).1 := Decidable.of_not_not (fun q => h1 (Or.inr q))
    have hO := h.1 _ (isR_rg hr)
    split
    · exact h
    · rename_i h2
      split
      · exact h
      · rename_i h3
        have hl := hO.2.1
        obtain ⟨k, hk, e⟩ := (le_cases p (S.1 (rgN r)).1 (by omega)).resolve_left (fun q => q hp)
        refine kInv_chg h (setR_O hO ?_ ?_ (isN_rg (Decidable.of_not_not h2)))
        · rw [e, rgN_nI (by omega)]; exact hk
        · rw [e, rgN_nI (by omega)]
          rcases Nat.lt_or_ge k 64 with q | q
          · exact q
          · exact absurd (by rw [e, show k = 64 by omega]; rfl) h3
theorem inv_add (h : kInv S) (a b t c : Int32) : kInv (op_add S a b t c).2 := by
  unfold op_add
  split
  · exact h
  · rename_i h1
    split
    · exact h
    · exact kInv_chg h (addR_O (h.1 _ (isR_rg (Decidable.of_not_not (fun q => h1 (Or.inl q))))) (h.1 _ (isR_rg (Decidable.of_not_not (fun q => h1 (Or.inr (Or.inl q)))))) _)
theorem inv_product (h : kInv S) (a b c : Int32) : kInv (op_product S a b c).2 := by
  unfold op_product
  split
  · exact h
  · rename_i h1
    have ha := (h.1 _ (isR_rg (Decidable.of_not_not (fun q => h1 (Or.inl q))))).1
    have hb := (h.1 _ (isR_rg (Decidable.of_not_not (fun q => h1 (Or.inr (Or.inl q)))))).1
    split
    · exact h
    · exact kInv_chg h (mulR_O (by omega))
theorem inv_round (h : kInv S) (a b n c : Int32) : kInv (op_round S a b n c).2 := by
  unfold op_round
  split
  · exact h
  · split
    · exact h
    · rename_i h2
      exact kInv_chg h (mulR_O (in1_rg (n := 64) (by decide) (Decidable.of_not_not h2)))
theorem inv_power (h : kInv S) (a n c : Int32) : kInv (op_power S a n c).2 := by
  unfold op_power
  split
  · exact h
  · rename_i h1
    have ha := (h.1 _ (isR_rg (Decidable.of_not_not (fun q => h1 (Or.inl q))))).1
    split
    · exact h
    · split
      · exact h
      · exact kInv_chg h (powR_O ha _ (by omega))
theorem inv_inverse (h : kInv S) (a n c : Int32) : kInv (op_inverse S a n c).2 := by
  unfold op_inverse
  split
  · exact h
  · split
    · exact h
    · rename_i h2
      split
      · exact h
      · exact kInv_chg h (invR_O (in1_rg (n := 64) (by decide) (Decidable.of_not_not h2)))
theorem inv_divide (h : kInv S) (a b c d : Int32) : kInv (op_divide S a b c d).2 := by
  unfold op_divide
  split
  · exact h
  · rename_i h1
    have ha := h.1 _ (isR_rg (Decidable.of_not_not (fun q => h1 (Or.inl q))))
    have hb := h.1 _ (isR_rg (Decidable.of_not_not (fun q => h1 (Or.inr (Or.inl q)))))
    have ha2 := ha.2.1
    have hb2 := hb.2.1
    have h3 := dg_le (S.1 (rgN a)).2 (S.1 (rgN a)).1
    have h4 := dg_le (S.1 (rgN b)).2 (S.1 (rgN b)).1
    split
    · exact h
    · split
      · exact h
      · exact kInv_set (kInv_chg h (quoR_O ha.2.2.1 (show dg _ _ ≤ 64 by omega))) (resR_O ha.2.2.1 (show dg _ _ - 1 < 64 by omega))
theorem inv_divisor (h : kInv S) (a b c : Int32) : kInv (op_divisor S a b c).2 := by
  unfold op_divisor
  split
  · exact h
  · rename_i h1
    have ha := h.1 _ (isR_rg (Decidable.of_not_not (fun q => h1 (Or.inl q))))
    have hb := h.1 _ (isR_rg (Decidable.of_not_not (fun q => h1 (Or.inr (Or.inl q)))))
    split
    · exact h
    · exact kInv_chg h (gcdR_O ha hb (by omega))
theorem inv_turn (h : kInv S) (a n c : Int32) : kInv (op_turn S a n c).2 := by
  unfold op_turn
  split
  · exact h
  · split
    · exact h
    · rename_i h2
      split
      · exact h
      · obtain ⟨k, hk1, hk, e⟩ := isZ_cases (Bool.of_not_eq_false h2)
        exact kInv_chg h (turR_O (by rw [e, rgN_nI (by omega)]; exact ⟨hk1, hk⟩))
theorem inv_turnBack (h : kInv S) (a c : Int32) : kInv (op_turnBack S a c).2 := by
  unfold op_turnBack
  split
  · exact h
  · rename_i h1
    split
    · exact h
    · exact kInv_chg h (trbR_O (h.1 _ (isR_rg (Decidable.of_not_not (fun q => h1 (Or.inl q))))))
theorem inv_number (h : kInv S) (r p : Int32) : kInv (op_number S r p).2 := by
  unfold op_number
  split <;> exact h
theorem inv_of (h : kInv S) (r w : Int32) : kInv (op_of S r w).2 := by
  unfold op_of
  repeat' split
  all_goals exact h
theorem inv_value (h : kInv S) (r x : Int32) : kInv (op_value S r x).2 := by
  unfold op_value
  repeat' split
  all_goals exact h
theorem inv_turningPoint (h : kInv S) (n p : Int32) : kInv (op_turningPoint S n p).2 := by
  unfold op_turningPoint
  split <;> exact h
theorem inv_count (h : kInv S) (w : Int32) : kInv (op_count S w).2 := by
  unfold op_count
  repeat' split
  all_goals exact h
theorem inv_fits (h : kInv S) (a b : Int32) : kInv (op_fits S a b).2 := by
  unfold op_fits
  repeat' split
  all_goals exact h
theorem inv_sum (h : kInv S) (a b p : Int32) : kInv (op_sum S a b p).2 := by
  unfold op_sum
  repeat' split
  all_goals exact h
theorem inv_found (h : kInv S) (a b w : Int32) : kInv (op_found S a b w).2 := by
  unfold op_found
  repeat' split
  all_goals exact h
/-- the characters of a number that counts -/
theorem chr_ch : ∀ fu k n, chr fu k n ≠ 0 → k ≤ chr fu k n ∧ ∀ i, i < chr fu k n - k → 33 ≤ n / 256 ^ i % 256 ∧ n / 256 ^ i % 256 ≤ 126 := by
  intro fu
  induction fu with
  | zero => intro k n _; exact ⟨Nat.le_refl _, fun i hi => absurd hi (by show ¬ i < k - k; omega)⟩
  | succ fu ih =>
    intro k n h
    by_cases h0 : n = 0
    · rw [h0, chr_0]
      exact ⟨Nat.le_refl _, fun i hi => by omega⟩
    · by_cases h1 : 33 ≤ n % 256 ∧ n % 256 ≤ 126
      · rw [chr_ok h0 h1] at h ⊢
        obtain ⟨g1, g2⟩ := ih (k + 1) (n / 256) h
        refine ⟨by omega, fun i hi => ?_⟩
        cases i with
        | zero => rw [Nat.pow_zero, Nat.div_one]; exact h1
        | succ i =>
          have := g2 i (by omega)
          rw [Nat.div_div_eq_div_mul, Nat.mul_comm 256, ← Nat.pow_succ] at this
          exact this
      · exact absurd (chr_bad h0 h1) h
theorem app_lo {f : Nat → Nat} {p u n : Nat} : ∀ t j, j < p → app f p u n t j = f j := by
  intro t
  induction t with
  | zero => intro j _; rfl
  | succ t ih =>
    intro j hj
    unfold app
    rw [va_up_ne _ _ (by omega)]
    exact ih j hj
theorem app_hi {f : Nat → Nat} {p u n : Nat} : ∀ t i, i < t → app f p u n t (p + i) = u / 2 ^ (8 * (n - 1 - i)) % 256 := by
  intro t
  induction t with
  | zero => intro i hi; omega
  | succ t ih =>
    intro i hi
    unfold app
    by_cases z : i = t
    · rw [z, va_up_self]
    · rw [va_up_ne _ _ (by omega)]
      exact ih i (by omega)
theorem inv_put (h : kInv S) (u : Nat) : kInv (op_put S u).2 := by
  unfold op_put
  split
  · exact h
  · rename_i h1
    split
    · exact h
    · rename_i h2
      refine kInv_pad h (by omega) (fun j hj => ?_)
      by_cases z : j < S.2.2.2.2.2.1
      · rw [app_lo _ _ z]
        exact h.2.2.2.2.2.2 j z
      · obtain ⟨i, rfl⟩ : ∃ i, j = S.2.2.2.2.2.1 + i := ⟨j - S.2.2.2.2.2.1, by omega⟩
        rw [app_hi _ _ (by omega), Nat.pow_mul]
        exact (chr_ch 8 0 u h1).2 _ (by omega)
theorem inv_wipe (h : kInv S) : kInv (op_wipe S).2 := kInv_pad h (Nat.zero_le _) (fun j hj => absurd hj (Nat.not_lt_zero _))
theorem inv_fault (h : kInv S) : kInv (op_fault S).2 := h
theorem inv_undo (h : kInv S) : kInv (op_undo S).2 := by
  unfold op_undo
  split
  · exact h
  · rename_i h1
    obtain ⟨a1, a2, a3, a4⟩ := h
    exact ⟨fun r hr => a3 _ r (by omega) hr, (show S.2.2.1 - 1 ≤ 6 by omega), fun i r hi hr => a3 i r (by have hi' : i < S.2.2.1 - 1 := hi; omega) hr, a4⟩
theorem inv_save (h : kInv S) (t : Int32) : kInv (op_save S t).2 := by
  unfold op_save
  split
  · exact h
  · obtain ⟨a1, a2, a3, a4, a5, a6⟩ := h
    refine ⟨a1, a2, a3, fun q r hq hr hs => ?_, fun q hq => ?_, a6⟩
    · show rO (va_up S.2.2.2.1 (rgN t) S.1 q r)
      have hs' : va_up S.2.2.2.2.1 (rgN t) 1 q = 1 := hs
      by_cases z : q = rgN t
      · rw [z, va_up_self]; exact a1 r hr
      · rw [va_up_ne _ _ z] at hs' ⊢; exact a4 q r hq hr hs'
    · show va_up S.2.2.2.2.1 (rgN t) 1 q ≤ 1
      by_cases z : q = rgN t
      · rw [z, va_up_self]; exact Nat.le_refl _
      · rw [va_up_ne _ _ z]; exact a5 q hq
theorem inv_restore (h : kInv S) (t : Int32) : kInv (op_restore S t).2 := by
  unfold op_restore
  split
  · exact h
  · rename_i h1
    split
    · exact h
    · rename_i h2
      obtain ⟨k, hk, e⟩ := (kin_cases t 2 (by decide)).resolve_left (fun q => h1 q)
      have e2 : rgN t = k := by rw [e, rgN_nI (by omega)]
      rw [e2] at h2 ⊢
      have hs := h.2.2.2.2.1 k hk
      obtain ⟨b1, b2⟩ := kInv_rec h
      exact ⟨fun r hr => h.2.2.2.1 k r hk hr (by omega), b2⟩
end INV
/-! THE BEGINNING -/
def r1 : kR := (1, fun _ => 0)
def S0 : kSt := (fun _ => r1, fun _ _ => r1, 0, fun _ _ => r1, fun _ => 0, 0, fun _ => 0)
def x0 : kX := (0, fun j => j + 1, 0, fun _ => 0, fun _ => 0)
theorem r1_O : rO r1 := ⟨Nat.le_refl _, (show 1 ≤ 64 by decide), fun _ => (show 0 < 257 by decide), fun _ _ => rfl⟩
theorem S0_inv : kInv S0 := ⟨fun _ _ => r1_O, (show 0 ≤ 6 by decide), fun i _ hi _ => absurd hi (Nat.not_lt_zero i), fun _ _ _ _ _ => r1_O, fun _ _ => (show 0 ≤ 1 by decide), (show 0 ≤ 80 by decide), fun j hj => absurd hj (Nat.not_lt_zero j)⟩
theorem S0_cRep : cRep S0 (fun _ => r1, x0) := ⟨fun _ _ => rfl, ⟨rfl, (show 0 ≤ 6 by decide)⟩, fun i _ hi _ => absurd hi (Nat.not_lt_zero i), fun _ _ _ _ _ => rfl, fun j hj => ⟨(show 1 ≤ j + 1 by omega), (show j + 1 ≤ 6 by omega)⟩, fun i j _ _ e => by have e' : i + 1 = j + 1 := e; omega, rfl, fun j hj => absurd hj (Nat.not_lt_zero j), fun _ _ => rfl⟩
