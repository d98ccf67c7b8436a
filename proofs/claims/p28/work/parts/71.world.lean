/-! THE CLASS'S WORLD, where its making left it: cell i of the world is the pm i-th that was made -/
def bse (t : Nat) : Nat := if t = 0 then 1 else if t < 7 then 3 + 14 * t else 17 + 14 * t
def pm (i : Nat) : Nat :=
  if i < 108 then bse (i / 2 / 6) + 2 + 2 * (i / 2 % 6) + i % 2 else if i < 118 then i - 3 else if i < 136 then bse ((i - 118) / 2) + (i - 118) % 2
  else if i = 136 then 0 else if i = 137 then 15 else if i = 138 then 16 else i - 38
theorem pm_inj : ∀ i, i < 143 → ∀ j, j < 143 → pm i = pm j → i = j := by decide +kernel
theorem pm_lt : ∀ i, i < 143 → pm i < 143 := by decide +kernel
def ad1 (h : Nat) : Nat → Nat := fun i => h + pm i
theorem ad1_I (h : Nat) : wI 143 (ad1 h) := fun i j hi hj e => pm_inj i hi j hj (by unfold ad1 at e; omega)
theorem aA_I (n h : Nat) : wI n (aA h) := fun i j _ _ e => by unfold aA at e; omega
theorem ad1_A {h : Nat} : ∀ q, wA 143 (ad1 h) q → aF h q := fun q ⟨k, _, e⟩ => by rw [e]; exact Nat.le_add_right h _
theorem aA_A {n h d : Nat} : ∀ q, wA n (aA (h + d)) q → aF h q := fun q ⟨k, _, e⟩ => by rw [e]; unfold aF aA; omega
theorem ad1_2 {h : Nat} : ∀ k, k < 9 → ¬ wA 143 (ad1 h) (aA (h + 143) k) := fun k _ ⟨i, hi, e⟩ => by
  have := pm_lt i hi
  unfold ad1 aA at e
  omega
theorem ad2_1 {h : Nat} : ∀ k, k < 143 → ¬ wA 9 (aA (h + 143)) (ad1 h k) := fun k hk ⟨i, hi, e⟩ => by
  have := pm_lt k hk
  unfold ad1 aA at e
  omega
/-- cells that a call leaves alone -/
theorem keepP {D : va_G} {n1 n2 : Nat} {a1 a2 : Nat → Nat} {W2 : Nat → va_E} {H H1 : Heap} (hP : va_P D vwCl (wL n2 a2 W2) H) (hfr : H.size ≤ H1.size ∧ ∀ q : Nat, q < H.size → ¬ wA n1 a1 q → H1[q]? = H[q]?) (hd : ∀ k, k < n2 → ¬ wA n1 a1 (a2 k)) : va_P D vwCl (wL n2 a2 W2) H1 :=
  hP.kept (fun k q hk => by
    have h1 := (hP k q hk).lt
    obtain ⟨hl, rfl⟩ := wL_some hk
    exact hfr.2 _ h1 (hd k hl))
section TOPW
variable {cy : Nat → ClassId} {h : Nat} {fs : List Value}
theorem topS : ∀ t, t < 9 → ∀ j, j < 14 → topP cy h fs 2 (bse t + j) = stP cy (h + bse t) 6 j := by
  intro t ht j hj
  by_cases z : t = 0
  · subst z
    exact (topP_st j hj).symm
  · by_cases y : t < 7
    · obtain ⟨i, rfl⟩ : ∃ i, t = i + 1 := ⟨t - 1, by omega⟩
      have hb : bse (i + 1) = 15 + (2 + 14 * i) := by unfold bse; rw [if_neg z, if_pos y]; omega
      rw [hb, show 15 + (2 + 14 * i) + j = 15 + (2 + 14 * i + j) by omega, ← topP_hi (2 + 14 * i + j) (by omega), ← hiP_r j hj, Nat.add_assoc]
    · obtain ⟨i, rfl⟩ : ∃ i, t = 7 + i := ⟨t - 7, by omega⟩
      have hb : bse (7 + i) = 115 + 14 * i := by unfold bse; rw [if_neg z, if_neg y]; omega
      rw [hb, ← topP_ss j hj]
theorem bse_lt : ∀ t, t < 9 → bse t + 14 ≤ 143 := by decide +kernel
end TOPW
theorem cell_q (cA : ClassId) (n : Nat) {f g : Nat → Option Nat} (e : ∀ j, j < n → f j = g j) : vp_cell cA (n, va_q f) = vp_cell cA (n, va_q g) := by
  show vp_cell cA (n, .inr (.inr (.inr (.inr f)))) = vp_cell cA (n, .inr (.inr (.inr (.inr g))))
  rw [vp_cell_q, vp_cell_q]
  unfold arrV
  congr 2
  funext j
  show va_rf (f j.val) = va_rf (g j.val)
  rw [e j.val j.isLt]
/-- what is told of a cell by one text is told of it by another -/
theorem at_q {D : va_G} {q : Nat} {H : Heap} {cA : ClassId} {n : Nat} {f g : Nat → Option Nat} (e : ∀ j, j < n → f j = g j) (h : va_at D vwCl (q, .inl (cA, n, va_q f)) H) : va_at D vwCl (q, .inl (cA, n, va_q g)) H := by
  show H[q]? = some (vp_cell cA (n, va_q g))
  rw [← cell_q cA n e]
  exact h
theorem pm_row {t j : Nat} (ht : t < 9) (hj : j < 6) : pm (2 * (6 * t + j)) = bse t + (2 + 2 * j) := by
  unfold pm
  rw [if_pos (by omega), show 2 * (6 * t + j) / 2 / 6 = t by omega, show 2 * (6 * t + j) / 2 % 6 = j by omega]
  omega
theorem pm_st {t : Nat} (ht : t < 9) : pm (118 + 2 * t) = bse t := by
  unfold pm
  rw [if_neg (by omega), if_neg (by omega), if_pos (by omega), show (118 + 2 * t - 118) / 2 = t by omega]
  omega
abbrev FIN (h : Nat) : List Value := [.ref (aA h 1), .ref (aA h 15), .ref (aA h 101), .ref (aA h 103), .ref (aA h 104), .ref (aA h 105), .ref (aA h 107), .ref (aA h 109), .ref (aA h 111), .ref (aA h 113)]
theorem made_x {D : va_G} {cy : Nat → ClassId} {h : Nat} {H : Heap} (hP : va_P D vwCl (wL 143 (aA h) (topP cy h (FIN h) 2)) H) : va_P D vwCl (wL 143 (ad1 h) (cW (ad1 h) cy (fun _ => r1) x0)) H := by
  intro k q hk
  obtain ⟨hl, rfl⟩ := wL_some hk
  have h1 := hP (pm k) _ (wL_get (pm_lt k hl) rfl)
  show va_at D vwCl (h + pm k, cW (ad1 h) cy (fun _ => r1) x0 k) H
  have h1 : va_at D vwCl (h + pm k, topP cy h (FIN h) 2 (pm k)) H := h1
  by_cases k1 : k < 118
  · by_cases k0 : k < 108
    · obtain ⟨i, b, hb, rfl⟩ : ∃ i b, b < 2 ∧ k = 2 * i + b := ⟨k / 2, k % 2, by omega, by omega⟩
      obtain ⟨t, j, ht, hj, rfl⟩ : ∃ t j, t < 9 ∧ j < 6 ∧ i = 6 * t + j := ⟨i / 6, i % 6, by omega, by omega, by omega⟩
      have e : pm (2 * (6 * t + j) + b) = bse t + (2 + 2 * j + b) := by
        unfold pm
        rw [if_pos k0, show (2 * (6 * t + j) + b) / 2 / 6 = t by omega, show (2 * (6 * t + j) + b) / 2 % 6 = j by omega, show (2 * (6 * t + j) + b) % 2 = b by omega]
        omega
      rw [e, topS t ht _ (by omega), ← stP_r b hb] at h1
      rw [e]
      rcases (show b = 0 ∨ b = 1 by omega) with rfl | rfl
      · rw [show 2 * (6 * t + j) + 0 = 2 * (6 * t + j) from rfl, cW_row (i := 6 * t + j) (by omega)]
        have e2 : ad1 h (2 * (6 * t + j) + 1) = h + bse t + (2 + 2 * j) + 1 := by
          have e3 : pm (2 * (6 * t + j) + 1) = bse t + (2 + 2 * j + 1) := by
            unfold pm
            rw [if_pos (by omega), show (2 * (6 * t + j) + 1) / 2 / 6 = t by omega, show (2 * (6 * t + j) + 1) / 2 % 6 = j by omega, show (2 * (6 * t + j) + 1) % 2 = 1 by omega]
            omega
          unfold ad1
          omega
        rw [e2]
        exact h1
      · rw [cW_num (by omega)]
        exact h1
    · obtain ⟨i, b, hb, rfl⟩ : ∃ i b, b < 2 ∧ k = 2 * (54 + i) + b := ⟨k / 2 - 54, k % 2, by omega, by omega⟩
      have e : pm (2 * (54 + i) + b) = 105 + 2 * i + b := by
        unfold pm
        rw [if_neg k0, if_pos k1]
        omega
      rw [e, ← topP_rw (by omega) b hb] at h1
      rw [e]
      rcases (show b = 0 ∨ b = 1 by omega) with rfl | rfl
      · rw [show 2 * (54 + i) + 0 = 2 * (54 + i) from rfl, cW_row (i := 54 + i) (by omega)]
        have e2 : ad1 h (2 * (54 + i) + 1) = h + (105 + 2 * i) + 1 := by
          have e3 : pm (2 * (54 + i) + 1) = 105 + 2 * i + 1 := by
            unfold pm
            rw [if_neg (by omega), if_pos (by omega)]
            omega
          unfold ad1
          omega
        rw [e2]
        exact h1
      · rw [cW_num (by omega)]
        exact h1
  · by_cases k2 : k < 136
    · obtain ⟨t, b, hb, rfl⟩ : ∃ t b, b < 2 ∧ k = 118 + 2 * t + b := ⟨(k - 118) / 2, (k - 118) % 2, by omega, by omega⟩
      have e : pm (118 + 2 * t + b) = bse t + b := by
        unfold pm
        rw [if_neg (by omega), if_neg (by omega), if_pos (by omega), show (118 + 2 * t + b - 118) / 2 = t by omega]
        omega
      rw [e, topS t (by omega) b (by omega)] at h1
      rw [e]
      rcases (show b = 0 ∨ b = 1 by omega) with rfl | rfl
      · rw [show 118 + 2 * t + 0 = 118 + 2 * t from rfl, cW_st (by omega)]
        have e2 : ad1 h (118 + 2 * t + 1) = h + bse t + 1 := by
          have e3 : pm (118 + 2 * t + 1) = bse t + 1 := by
            unfold pm
            rw [if_neg (by omega), if_neg (by omega), if_pos (by omega), show (118 + 2 * t + 1 - 118) / 2 = t by omega]
            omega
          unfold ad1
          omega
        rw [e2]
        exact h1
      · rw [cW_sr (by omega)]
        refine at_q (fun j hj => ?_) h1
        rw [if_pos hj]
        unfold ad1
        rw [pm_row (by omega) hj, Nat.add_assoc]
    · rcases (show k = 136 ∨ k = 137 ∨ k = 138 ∨ k = 139 ∨ k = 140 ∨ k = 141 ∨ k = 142 by omega) with rfl | rfl | rfl | rfl | rfl | rfl | rfl
      · exact h1
      · exact h1
      · refine at_q (fun j hj => ?_) h1
        rw [if_pos hj]
        show _ = some (h + pm (118 + 2 * (j + 1)))
        rw [pm_st (by omega)]
        unfold bse
        rw [if_neg (by omega), if_pos (by omega)]
        exact congrArg some (by omega)
      · exact h1
      · exact h1
      · refine at_q (fun j hj => ?_) h1
        rw [if_pos hj]
        show _ = some (h + pm (118 + 2 * (7 + j)))
        rw [pm_st (by omega)]
        unfold bse
        rw [if_neg (by omega), if_neg (by omega)]
        exact congrArg some (by omega)
      · exact h1
