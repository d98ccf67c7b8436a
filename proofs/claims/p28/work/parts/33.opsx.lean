/-! the operations at registers that are there -/
theorem notR3 {j k i : Nat} (hj : j < 6) (hk : k < 6) (hi : i < 6) : ¬ (¬ isR (nI j) ∨ ¬ isR (nI k) ∨ ¬ isR (nI i)) := by
  rintro (h | h | h)
  · exact h (isR_nI hj)
  · exact h (isR_nI hk)
  · exact h (isR_nI hi)
theorem notR2 {j k : Nat} (hj : j < 6) (hk : k < 6) : ¬ (¬ isR (nI j) ∨ ¬ isR (nI k)) := by
  rintro (h | h)
  · exact h (isR_nI hj)
  · exact h (isR_nI hk)
theorem notR4 {j k i q : Nat} (hj : j < 6) (hk : k < 6) (hi : i < 6) (hq : q < 6) : ¬ (¬ isR (nI j) ∨ ¬ isR (nI k) ∨ ¬ isR (nI i) ∨ ¬ isR (nI q)) := by
  rintro (h | h | h | h)
  · exact h (isR_nI hj)
  · exact h (isR_nI hk)
  · exact h (isR_nI hi)
  · exact h (isR_nI hq)
theorem notR1 {j : Nat} (hj : j < 6) : ¬ ¬ isR (nI j) := fun h => h (isR_nI hj)
section OPX
variable {S : kSt} {j k i q : Nat}
theorem op_read_x (hj : j < 6) : op_read S (nI j) = if (psA S.2.2.2.2.2.2 S.2.2.2.2.2.1).1 ≠ -6 then (-3, S) else (nI (psA S.2.2.2.2.2.2 S.2.2.2.2.2.1).2.1, padS (chgS S j (psA S.2.2.2.2.2.2 S.2.2.2.2.2.1).2) 0 S.2.2.2.2.2.2) := by
  unfold op_read
  rw [if_neg (notR1 hj), rgN_nI (by omega)]
theorem op_add_x (hj : j < 6) (hk : k < 6) (hi : i < 6) (t : Int32) : op_add S (nI j) (nI k) t (nI i) = if ¬ isN t then (-2, S) else (nI (max (S.1 j).1 (S.1 k).1), chgS S i (addR (S.1 j) (S.1 k) (rgN t))) := by
  unfold op_add
  rw [if_neg (notR3 hj hk hi), rgN_nI (by omega), rgN_nI (by omega), rgN_nI (by omega)]
theorem op_product_x (hj : j < 6) (hk : k < 6) (hi : i < 6) : op_product S (nI j) (nI k) (nI i) = if 64 < (S.1 j).1 + (S.1 k).1 - 1 then (-4, S) else (nI ((S.1 j).1 + (S.1 k).1 - 1), chgS S i (mulR (S.1 j) (S.1 k) ((S.1 j).1 + (S.1 k).1 - 1))) := by
  unfold op_product
  rw [if_neg (notR3 hj hk hi), rgN_nI (by omega), rgN_nI (by omega), rgN_nI (by omega)]
theorem op_round_x (hj : j < 6) (hk : k < 6) (hi : i < 6) (n : Int32) : op_round S (nI j) (nI k) n (nI i) = if ¬ (1 ≤ n ∧ n ≤ 64) then (-2, S) else (dV (dg (mulR (S.1 j) (S.1 k) (rgN n)).2 (rgN n)), chgS S i (mulR (S.1 j) (S.1 k) (rgN n))) := by
  unfold op_round
  rw [if_neg (notR3 hj hk hi), rgN_nI (by omega), rgN_nI (by omega), rgN_nI (by omega)]
theorem op_power_x (hj : j < 6) (hi : i < 6) (n : Int32) : op_power S (nI j) n (nI i) = if ¬ (0 ≤ n ∧ n ≤ 9) then (-2, S) else if 64 < rgN n * ((S.1 j).1 - 1) + 1 then (-4, S) else (nI (rgN n * ((S.1 j).1 - 1) + 1), chgS S i (powR (S.1 j) (rgN n))) := by
  unfold op_power
  rw [if_neg (notR2 hj hi)]
  simp only [rgN_nI (show j < 2 ^ 31 by omega), rgN_nI (show i < 2 ^ 31 by omega)]
theorem op_inverse_x (hj : j < 6) (hi : i < 6) (n : Int32) : op_inverse S (nI j) n (nI i) = if ¬ (1 ≤ n ∧ n ≤ 64) then (-2, S) else if (S.1 j).2 0 = 0 then (-5, S) else (dV (dg (invR (S.1 j) (rgN n)).2 (rgN n)), chgS S i (invR (S.1 j) (rgN n))) := by
  unfold op_inverse
  rw [if_neg (notR2 hj hi)]
  simp only [rgN_nI (show j < 2 ^ 31 by omega), rgN_nI (show i < 2 ^ 31 by omega)]
theorem op_divide_x (hj : j < 6) (hk : k < 6) (hi : i < 6) (hq : q < 6) : op_divide S (nI j) (nI k) (nI i) (nI q) = if nI i = nI q then (-2, S) else if rD (S.1 k) = 0 then (-5, S) else (dV (rD (res (S.1 j) (S.1 k))), setS (chgS S i (quo (S.1 j) (S.1 k))) q (res (S.1 j) (S.1 k))) := by
  unfold op_divide
  rw [if_neg (notR4 hj hk hi hq)]
  simp only [rgN_nI (show j < 2 ^ 31 by omega), rgN_nI (show i < 2 ^ 31 by omega), rgN_nI (show k < 2 ^ 31 by omega), rgN_nI (show q < 2 ^ 31 by omega)]
theorem op_divisor_x (hj : j < 6) (hk : k < 6) (hi : i < 6) : op_divisor S (nI j) (nI k) (nI i) = if rD (S.1 j) = 0 ∧ rD (S.1 k) = 0 then (-5, S) else (dV (rD (gcdR (S.1 j) (S.1 k))), chgS S i (gcdR (S.1 j) (S.1 k))) := by
  unfold op_divisor
  rw [if_neg (notR3 hj hk hi)]
  simp only [rgN_nI (show j < 2 ^ 31 by omega), rgN_nI (show i < 2 ^ 31 by omega), rgN_nI (show k < 2 ^ 31 by omega)]
theorem op_turn_x (hj : j < 6) (hi : i < 6) (n : Int32) : op_turn S (nI j) n (nI i) = if isZ n = false then (-2, S) else if rgN n < (S.1 j).1 then (-5, S) else (nI (cq (turR (S.1 j) (rgN n)).2 (rgN n)), chgS S i (turR (S.1 j) (rgN n))) := by
  unfold op_turn
  rw [if_neg (notR2 hj hi)]
  simp only [rgN_nI (show j < 2 ^ 31 by omega), rgN_nI (show i < 2 ^ 31 by omega)]
theorem op_turnBack_x (hj : j < 6) (hi : i < 6) : op_turnBack S (nI j) (nI i) = if isZ (nI (S.1 j).1) = false then (-5, S) else (dV (rD (trbR (S.1 j))), chgS S i (trbR (S.1 j))) := by
  unfold op_turnBack
  rw [if_neg (notR2 hj hi)]
  simp only [rgN_nI (show j < 2 ^ 31 by omega), rgN_nI (show i < 2 ^ 31 by omega)]
theorem op_of_x (hj : j < 6) (w : Int32) : op_of S (nI j) w = if w = 0 then (nI (S.1 j).1, S) else if w = 1 then (dV (rD (S.1 j)), S) else if w = 2 then (nI (cn (S.1 j).2 (S.1 j).1), S) else if w = 3 then (nI (sm (S.1 j).2 (S.1 j).1), S) else if w = 4 then (nI (cq (vx (S.1 j)) 257), S) else if w = 5 then (fz (vx (S.1 j)) 0 257, S) else (-2, S) := by
  unfold op_of
  rw [if_neg (notR1 hj)]
  simp only [rgN_nI (show j < 2 ^ 31 by omega)]
theorem op_value_x (hj : j < 6) (x : Int32) : op_value S (nI j) x = if ¬ isN x then (-2, S) else (nI (vx (S.1 j) (rgN x)), S) := by
  unfold op_value
  rw [if_neg (notR1 hj), rgN_nI (by omega)]
theorem op_fits_x (hj : j < 6) (hk : k < 6) : op_fits S (nI j) (nI k) = if (S.1 j).1 < (S.1 k).1 then (-5, S) else (lN (fl (fitB (S.1 j) (S.1 k)) (min ((S.1 j).1 - (S.1 k).1 + 1) 60)), S) := by
  unfold op_fits
  rw [if_neg (notR2 hj hk)]
  simp only [rgN_nI (show j < 2 ^ 31 by omega), rgN_nI (show k < 2 ^ 31 by omega)]
theorem op_sum_x (hj : j < 6) (hk : k < 6) (p : Int32) : op_sum S (nI j) (nI k) p = if (S.1 j).1 < (S.1 k).1 then (-5, S) else if ¬ (0 ≤ p ∧ p < nI ((S.1 j).1 - (S.1 k).1 + 1)) then (-2, S) else (nI (sumS (S.1 k).2 (S.1 j).2 (rgN p) (S.1 k).1), S) := by
  unfold op_sum
  rw [if_neg (notR2 hj hk)]
  simp only [rgN_nI (show j < 2 ^ 31 by omega), rgN_nI (show k < 2 ^ 31 by omega)]
theorem op_found_x (hj : j < 6) (hk : k < 6) (w : Int32) : op_found S (nI j) (nI k) w = if (S.1 j).1 < (S.1 k).1 then (-5, S) else
  if w = 0 then (nI (cb (fitB (S.1 j) (S.1 k)) ((S.1 j).1 - (S.1 k).1 + 1)), S)
  else if w = 1 then (nI (cb (isF (S.1 k).2 (S.1 j).2 (S.1 k).1) ((S.1 j).1 - (S.1 k).1 + 1)), S)
  else if w = 2 then (fb (isF (S.1 k).2 (S.1 j).2 (S.1 k).1) 0 ((S.1 j).1 - (S.1 k).1 + 1), S)
  else if w = 3 then (nI (mxS (fun pl => sumS (S.1 k).2 (S.1 j).2 pl (S.1 k).1) ((S.1 j).1 - (S.1 k).1 + 1)), S)
  else (-2, S) := by
  unfold op_found
  rw [if_neg (notR2 hj hk)]
  simp only [rgN_nI (show j < 2 ^ 31 by omega), rgN_nI (show k < 2 ^ 31 by omega)]
end OPX
/-! what the rows that are made keep to -/
theorem mulI_zero {c : Nat} {f : Nat → Nat} {s i : Nat} {g : Nat → Nat} (hs : 0 < s) (hg : ∀ k, s ≤ k → g k = 0) : ∀ (j k : Nat), s ≤ k → mulI c f s i g j k = 0 := by
  intro j
  induction j with
  | zero => exact hg
  | succ j ih =>
    intro k hk
    unfold mulI
    have := Nat.mod_lt (i + j) hs
    rw [va_up_ne _ _ (by omega)]
    exact ih k hk
theorem mulO_zero {f1 f2 : Nat → Nat} {l2 s : Nat} (hs : 0 < s) : ∀ (i k : Nat), s ≤ k → mulO f1 f2 l2 s i k = 0 := by
  intro i
  induction i with
  | zero => intro k _; rfl
  | succ i ih => exact mulI_zero hs ih l2
theorem mulR_O {a b : kR} {s : Nat} (h : 1 ≤ s ∧ s ≤ 64) : rO (mulR a b s) := ⟨h.1, h.2, fun k => mulO_lt _ k, fun k hk => mulO_zero (by omega) _ k hk⟩
theorem addR_O {a b : kR} (ha : rO a) (hb : rO b) (t : Nat) : rO (addR a b t) := by
  obtain ⟨a1, a2, a3, a4⟩ := ha
  obtain ⟨b1, b2, b3, b4⟩ := hb
  refine ⟨?_, ?_, fun k => ?_, fun k hk => ?_⟩
  · show 1 ≤ max a.1 b.1; omega
  · show max a.1 b.1 ≤ 64; omega
  · show (if k < max a.1 b.1 then (a.2 k + t * b.2 k) % 257 else 0) < 257
    split
    · exact Nat.mod_lt _ (by decide)
    · decide
  · show (if k < max a.1 b.1 then (a.2 k + t * b.2 k) % 257 else 0) = 0
    have hk' : max a.1 b.1 ≤ k := hk
    rw [if_neg (by omega)]
theorem powR_len {a : kR} (h : 1 ≤ a.1) : ∀ n, (powR a n).1 = n * (a.1 - 1) + 1 := by
  intro n
  induction n with
  | zero => show 1 = _; omega
  | succ n ih =>
    show (powR a n).1 + a.1 - 1 = _
    rw [ih, Nat.succ_mul]
    omega
theorem powR_O {a : kR} (h : 1 ≤ a.1) : ∀ n, n * (a.1 - 1) + 1 ≤ 64 → rO (powR a n) := by
  intro n
  cases n with
  | zero =>
    intro _
    refine ⟨Nat.le_refl _, (show 1 ≤ 64 by decide), fun k => ?_, fun k hk => ?_⟩
    · show va_up (fun _ => 0) 0 1 k < 257
      unfold va_up; split
      · decide
      · exact (show 0 < 257 by decide)
    · have hk' : 1 ≤ k := hk
      show va_up (fun _ => 0) 0 1 k = 0
      rw [va_up_ne _ _ (by omega)]
  | succ n =>
    intro hn
    have e := powR_len h (n + 1)
    refine mulR_O ?_
    have e2 : (powR a n).1 + a.1 - 1 = (n + 1) * (a.1 - 1) + 1 := e
    omega
theorem inv_zero {f : Nat → Nat} {w : Nat} : ∀ n k, n ≤ k → inv f w n k = 0 := by
  intro n
  induction n with
  | zero => intro k _; rfl
  | succ n ih =>
    intro k hk
    unfold inv
    rw [va_up_ne _ _ (by omega)]
    exact ih k (by omega)
theorem invR_O {a : kR} {n : Nat} (h : 1 ≤ n ∧ n ≤ 64) : rO (invR a n) := ⟨h.1, h.2, fun k => inv_lt (pw_lt _ _) _ k, fun k hk => inv_zero n k hk⟩
theorem dvO_q0 {f : Nat → Nat} {d w T : Nat} : ∀ t (u : (Nat → Nat) × (Nat → Nat)), t ≤ T → (∀ k, T ≤ k → u.1 k = 0) → ∀ k, T ≤ k → (dvO f d w t u).1 k = 0 := by
  intro t
  induction t with
  | zero => intro u _ h; exact h
  | succ t ih =>
    intro u ht h k hk
    unfold dvO
    refine ih _ (by omega) (fun k hk => ?_) k hk
    show va_up u.1 t _ k = 0
    rw [va_up_ne _ _ (by omega)]
    exact h k hk
theorem quoR_O {fa fb : Nat → Nat} {D d : Nat} (hfa : ∀ k, fa k < 257) (hD : D ≤ 64) : rO (quoR fa fb D d) := by
  refine ⟨?_, ?_, fun k => (dvO_lt _ _ (fun _ => (show 0 < 257 by decide)) hfa).1 k, fun k hk => ?_⟩
  · show 1 ≤ max (D - d) 1; omega
  · show max (D - d) 1 ≤ 64; omega
  · have hk' : max (D - d) 1 ≤ k := hk
    exact dvO_q0 (T := D - d) (D - d) (fun _ => 0, fa) (Nat.le_refl _) (fun _ _ => rfl) k (by omega)
theorem resR_O {fa fb : Nat → Nat} {D d : Nat} (hfa : ∀ k, fa k < 257) (hd : d < 64) : rO (resR fa fb D d) := ⟨by show 1 ≤ max d 1; omega, by show max d 1 ≤ 64; omega, (resR_K hfa hd).2, resR_Z⟩
theorem scl_lt {g : Nat → Nat} {f n : Nat} (hg : ∀ k, g k < 257) (k : Nat) : scl g f n k < 257 := by
  unfold scl; split
  · exact Nat.mod_lt _ (by decide)
  · exact hg k
theorem monR_O {G : kR} (h : rK G) (h0 : 0 < dg G.2 G.1) : rO (monR G) := by
  have := dg_le G.2 G.1
  have := h.1
  refine ⟨h0, by show dg G.2 G.1 ≤ 64; omega, fun k => scl_lt (zfrom_lt h.2 _) k, fun k hk => ?_⟩
  have hk' : dg G.2 G.1 ≤ k := hk
  show (if k < dg G.2 G.1 then _ else zfrom G.2 (dg G.2 G.1) k) = 0
  rw [if_neg (by omega)]
  exact zfrom_ge hk'
theorem euc_K : ∀ n (A B : kR), rK A → rK B → (0 < dg A.2 A.1 ∨ 0 < dg B.2 B.1) → (∀ k, A.1 ≤ k → A.2 k = 0) → (∀ k, B.1 ≤ k → B.2 k = 0) → dg B.2 B.1 < n → rK (euc n A B) ∧ 0 < dg (euc n A B).2 (euc n A B).1 := by
  intro n
  induction n with
  | zero => intro A B _ _ _ _ _ h; omega
  | succ n ih =>
    intro A B hA hB hnz hZA hZB hn
    rcases Nat.eq_zero_or_pos (dg B.2 B.1) with q | q
    · rw [euc_0 q]
      exact ⟨hA, by omega⟩
    · obtain ⟨d, hd⟩ : ∃ d, dg B.2 B.1 = d + 1 := ⟨dg B.2 B.1 - 1, by omega⟩
      rw [euc_s hd]
      have h1 := resR_dg (la := A.1) hA.2 hZA (hB.2 d) (dg_top _ _ _ hd)
      have h2 := dg_le B.2 B.1
      have h3 := hB.1
      exact ih B _ hB (resR_K hA.2 (by omega)) (Or.inl (by omega)) hZB resR_Z (by omega)
theorem gcdR_O {a b : kR} (ha : rO a) (hb : rO b) (h : 0 < rD a ∨ 0 < rD b) : rO (gcdR a b) := by
  have h1 := dg_le b.2 b.1
  have h2 := hb.2.1
  obtain ⟨g1, g2⟩ := euc_K 65 a b ha.K hb.K h ha.2.2.2 hb.2.2.2 (by omega)
  exact monR_O g1 g2
theorem tur_lt (a : kR) (p n k : Nat) : tur a p n k < 257 := by
  unfold tur; split
  · exact vx_lt _ _
  · decide
theorem tur_ge {a : kR} {p n k : Nat} (h : n ≤ k) : tur a p n k = 0 := by unfold tur; rw [if_neg (by omega)]
theorem turR_O {a : kR} {n : Nat} (h : 1 ≤ n ∧ n ≤ 64) : rO (turR a n) := ⟨h.1, h.2, fun k => tur_lt _ _ _ k, fun k hk => tur_ge hk⟩
theorem trbR_O {a : kR} (h : rO a) : rO (trbR a) := by
  refine ⟨h.1, h.2.1, fun k => scl_lt (fun k => tur_lt _ _ _ k) k, fun k hk => ?_⟩
  have hk' : a.1 ≤ k := hk
  show (if k < a.1 then _ else tur a _ a.1 k) = 0
  rw [if_neg (by omega)]
  exact tur_ge hk'
theorem setR_O {a : kR} {p v : Nat} (h : rO a) (hp : p ≤ a.1) (hp2 : p < 64) (hv : v < 257) : rO (setR a p v) := by
  obtain ⟨a1, a2, a3, a4⟩ := h
  refine ⟨?_, ?_, fun k => ?_, fun k hk => ?_⟩
  · show 1 ≤ max a.1 (p + 1); omega
  · show max a.1 (p + 1) ≤ 64; omega
  · show va_up a.2 p v k < 257
    unfold va_up; split
    · exact hv
    · exact a3 k
  · have hk' : max a.1 (p + 1) ≤ k := hk
    show va_up a.2 p v k = 0
    rw [va_up_ne _ _ (by omega)]
    exact a4 k (by omega)
/-- what is read is a row -/
theorem psr_O {pd : Nat → Nat} : ∀ (n i k : Nat) (u : Option Nat) (F : Nat → Nat), i + n ≤ 80 → 2 * k ≤ i → (u ≠ none → 2 * k + 1 ≤ i) → (∀ v, u = some v → v < 257) → (∀ t, F t < 257) → (∀ t, k ≤ t → F t = 0) → (psr pd n i k u F).1 = -6 → rO (psr pd n i k u F).2 := by
  intro n
  induction n with
  | zero =>
    intro i k u F hi hk hk1 hu hF hF0 h
    cases u with
    | none => exact absurd h.symm (nI_ne6 (n := i) (by omega))
    | some v =>
      refine ⟨?_, ?_, fun t => ?_, fun t ht => ?_⟩
      · show 1 ≤ k + 1; omega
      · show k + 1 ≤ 64; omega
      · show va_up F k v t < 257
        unfold va_up; split
        · exact hu v rfl
        · exact hF t
      · have ht' : k + 1 ≤ t := ht
        show va_up F k v t = 0
        rw [va_up_ne _ _ (by omega)]
        exact hF0 t (by omega)
  | succ n ih =>
    intro i k u F hi hk hk1 hu hF hF0 h
    by_cases q : pd i = 44
    · cases u with
      | none => rw [psr_c0 q] at h; exact absurd h.symm (nI_ne6 (n := i) (by omega))
      | some v =>
        rw [psr_c1 q] at h ⊢
        have := hk1 (fun z => by cases z)
        refine ih _ _ _ _ (by omega) (by omega) (fun z => absurd rfl z) (fun v h => by cases h) (fun t => ?_) (fun t ht => ?_) h
        · unfold va_up; split
          · exact hu v rfl
          · exact hF t
        · rw [va_up_ne _ _ (by omega)]; exact hF0 t (by omega)
    · cases hw : wdg u (pd i) with
      | none => rw [psr_d0 q hw] at h; exact absurd h.symm (nI_ne6 (n := i) (by omega))
      | some v =>
        rw [psr_d1 q hw] at h ⊢
        exact ih _ _ _ _ (by omega) (by omega) (fun _ => by omega) (fun z hz => by cases hz; exact wdg_lt hw) hF hF0 h
theorem psA_O {pd : Nat → Nat} {n : Nat} (hn : n ≤ 80) (h : (psA pd n).1 = -6) : rO (psA pd n).2 := psr_O n 0 0 none _ (by omega) (Nat.le_refl _) (fun z => absurd rfl z) (fun v h => by cases h) (fun _ => by decide) (fun _ _ => rfl) h
theorem cRep_chg {S : kSt} {ρ ρ1 : Nat → kR} {x : kX} {j : Nat} {r : kR} (h : cRep S (ρ, x)) (h1 : ∀ i, i < 54 → ρ1 i = ρ i) (hj : j < 6) (hr : ρ1 54 = r) : cRep (chgS S j r) (va_up (keepR ρ1 x) j (ρ1 54), keepX x) := by
  rw [hr]
  exact cRep_set r hj (cRep_keep (h.eqs h1))
theorem ksw_ne {r : Int32} {n : Nat} (h : ¬ (0 ≤ r ∧ r < nI n)) (k : Nat) (hk : k < n ∧ n < 2 ^ 31) : ¬ r = nI k := fun e => h (by rw [e]; exact kin_nI hk.1 hk.2)
theorem ptV_ok {r : Int32} (h : isZ r = true) : ptV r = nI (tpt (rgN r)) := by unfold ptV; rw [if_pos h]
theorem ptV_none {r : Int32} : ptV r = -6 ↔ isZ r = false := by
  cases h : isZ r with
  | false => exact ⟨fun _ => rfl, fun _ => by unfold ptV; rw [h]; rfl⟩
  | true => exact ⟨fun q => by rw [ptV_ok h] at q; exact absurd q.symm (nI_ne6 (by have := tpt_lt (rgN r); omega)), fun q => by cases q⟩
theorem sm_congr {f g : Nat → Nat} : ∀ n, (∀ k, k < n → f k = g k) → sm f n = sm g n := by
  intro n
  induction n with
  | zero => intro _; rfl
  | succ n ih => intro h; unfold sm; rw [ih (fun k hk => h k (by omega)), h n (by omega)]
theorem ln6_congr {f g : Nat → kR} (h : ∀ j, j < 6 → f j = g j) : ln6 f 0 = ln6 g 0 := sm_congr 6 (fun k hk => by rw [show 6 * 0 + k = k by omega, h k hk])
theorem app_congr {f g : Nat → Nat} {p u n : Nat} (h : ∀ j, j < p → f j = g j) : ∀ (t j : Nat), j < p + t → app f p u n t j = app g p u n t j := by
  intro t
  induction t with
  | zero => intro j hj; exact h j (by omega)
  | succ t ih =>
    intro j hj
    unfold app
    by_cases q : j = p + t
    · rw [q, va_up_self, va_up_self]
    · rw [va_up_ne _ _ q, va_up_ne _ _ q]; exact ih j (by omega)
theorem chr_le : ∀ fu k n, chr fu k n ≤ k + fu := by
  intro fu
  induction fu with
  | zero => intro k n; exact Nat.le_refl _
  | succ fu ih =>
    intro k n
    by_cases h0 : n = 0
    · rw [h0, chr_0]; omega
    · by_cases h : 33 ≤ n % 256 ∧ n % 256 ≤ 126
      · rw [chr_ok h0 h]; have := ih (k + 1) (n / 256); omega
      · rw [chr_bad h0 h]; omega
theorem nI_mod (n : Nat) : nI n = nI (n % 2 ^ 32) := by
  apply Int32.toBitVec_inj.mp
  apply BitVec.eq_of_toNat_eq
  show (BitVec.ofNat 32 n).toNat = (BitVec.ofNat 32 (n % 2 ^ 32)).toNat
  rw [BitVec.toNat_ofNat, BitVec.toNat_ofNat, Nat.mod_mod]
theorem nI_and255 (n : Nat) : nI n &&& nI 255 = nI (n % 256) := by
  rw [nI_mod n, pk_andN (Nat.mod_lt _ (by decide)) 8 (by decide)]
  congr 1
  omega
theorem cn_cq (f : Nat → Nat) (n : Nat) : cn f n + cq f n = n := by
  induction n with
  | zero => rfl
  | succ n ih =>
    by_cases h : f n = 0
    · rw [cn_zero _ h, cq_zero _ h]; omega
    · rw [cn_nz _ h, cq_nz _ h]; omega
theorem fl_lt (P : Nat → Bool) : ∀ n, n ≤ 64 → fl P n < 2 ^ 64 := by
  intro n
  induction n with
  | zero => intro _; exact (by decide : 0 < 2 ^ 64)
  | succ n ih =>
    intro h
    unfold fl
    refine Nat.or_lt_two_pow (ih (by omega)) ?_
    split
    · exact Nat.pow_lt_pow_right (by decide) (by omega)
    · decide
theorem fl_t {P : Nat → Bool} {n : Nat} (h : P n = true) : fl P (n + 1) = fl P n ||| 2 ^ n := by
  show fl P n ||| (if P n = true then 2 ^ n else 0) = _
  rw [if_pos h]
theorem fl_f {P : Nat → Bool} {n : Nat} (h : P n = false) : fl P (n + 1) = fl P n := by
  show fl P n ||| (if P n = true then 2 ^ n else 0) = _
  rw [h]; exact Nat.or_zero _
/-- sums, the first k numbers of them -/
def adF (a b : kR) (t k : Nat) : Nat → Nat := fun j => if j < k then (a.2 j + t * b.2 j) % 257 else 0
theorem adF_0 (a b : kR) (t : Nat) : adF a b t 0 = fun _ => 0 := by funext j; simp [adF]
theorem adF_s (a b : kR) (t k : Nat) : va_up (adF a b t k) k ((a.2 k + t * b.2 k) % 257) = adF a b t (k + 1) := by
  funext j
  unfold adF
  by_cases h : j = k
  · subst h; rw [va_up_self, if_pos (by omega)]
  · rw [va_up_ne _ _ h]
    by_cases q : j < k
    · rw [if_pos q, if_pos (by omega)]
    · rw [if_neg q, if_neg (by omega)]
theorem recS_slot (S : kSt) : (recS S).2.2.2 = S.2.2.2 := rfl
theorem lb_le {la lb : Nat} (ha : la ≤ 64) (hb : lb ≤ 64) (h : nI 1 ≤ cpV la lb) : lb ≤ la := Nat.not_lt.mp (fun q => Int32.not_lt.mpr h ((cpV_lt ha hb).mpr q))
theorem lb_gt {la lb : Nat} (ha : la ≤ 64) (hb : lb ≤ 64) (h : ¬ nI 1 ≤ cpV la lb) : la < lb := (cpV_lt ha hb).mp (Int32.not_le.mp h)
theorem cRep_chg2 {S : kSt} {ρ ρ1 : Nat → kR} {x : kX} {j q : Nat} {r t : kR} (h : cRep S (ρ, x)) (h1 : ∀ i, i < 54 → ρ1 i = ρ i) (hj : j < 6) (hq : q < 6) (hr : ρ1 54 = r) (ht : ρ1 55 = t) : cRep (setS (chgS S j r) q t) (va_up (va_up (keepR ρ1 x) j (ρ1 54)) q (va_up (keepR ρ1 x) j (ρ1 54) 55), keepX x) := by
  have hpr : ∀ j, j < 6 → 1 ≤ x.2.1 j ∧ x.2.1 j ≤ 6 := h.2.2.2.2.1
  rw [va_up_ne _ _ (show 55 ≠ j by omega), keepR_hi hpr (by decide), ht]
  exact cRep_set t hq (cRep_chg h h1 hj hr)
/-- the pad, with j of n characters behind the first p -/
def appX (x : kX) (u n j : Nat) : kX := (x.1, x.2.1, x.2.2.1 + j, app x.2.2.2.1 x.2.2.1 u n j, x.2.2.2.2)
