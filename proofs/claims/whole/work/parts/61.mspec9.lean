/-! the reference's put, divide, divisor -/
theorem put_i2c : ∀ a, a < 256 → ((nI a).toUInt32 % 65536).toInt32 = nI a := by decide +kernel
theorem put_nar : ∀ a, a < 256 → vp_nar .char (nI a) = nI a := by decide +kernel
theorem put_k {t k : Nat} (hk : k ≤ 8) (h : t < 256 ^ (8 - k)) (h0 : t ≠ 0) : k + 1 ≤ 8 ∧ t / 256 < 256 ^ (8 - (k + 1)) := by
  by_cases q : k = 8
  · subst q
    have h' : t < 1 := h
    omega
  · refine ⟨by omega, ?_⟩
    rw [show 8 - k = (8 - (k + 1)) + 1 by omega, Nat.pow_succ] at h
    exact Nat.div_lt_of_lt_mul (by rw [Nat.mul_comm]; exact h)
theorem put_in {c : Nat} (h : c < 256) : (nI 33 ≤ nI c ∧ nI c ≤ nI 126) ↔ (33 ≤ c ∧ c ≤ 126) := by
  rw [nI_leI (by decide) (by omega), nI_leI (by omega) (by decide)]
theorem put_t {t k : Nat} (h0 : t ≠ 0) (h : nI 33 ≤ nI (t % 256) ∧ nI (t % 256) ≤ nI 126) (hk : k + 1 ≤ 8) : chr (8 - (k + 1)) (k + 1) (t / 256) = chr (8 - k) k t := by
  rw [show 8 - k = (8 - (k + 1)) + 1 by omega, chr_ok h0 ((put_in (Nat.mod_lt _ (by decide))).mp h)]
theorem put_f {t k : Nat} (h0 : t ≠ 0) (h : ¬ (nI 33 ≤ nI (t % 256) ∧ nI (t % 256) ≤ nI 126)) (hk : k + 1 ≤ 8) : chr (8 - k) k t = 0 := by
  rw [show 8 - k = (8 - (k + 1)) + 1 by omega, chr_bad h0 (fun q => h ((put_in (Nat.mod_lt _ (by decide))).mpr q))]
/-- taking over 64 numbers -/
theorem cp1_all {f g : Nat → Nat} {n : Nat} (h : ∀ k, n ≤ k → f k = g k) : cp1 f g n = f := by
  funext k
  unfold cp1
  by_cases q : k < n
  · rw [if_pos q]
  · rw [if_neg q]; exact (h k (by omega)).symm
/-- the two rows that are divided -/
def dvV (v : kV) (A B : kR) : kV := ptw (pon (recV v) A.2) B.2
theorem dvl_ge {D d : Nat} (hD : D ≤ 64) (hd : d < 64) (h : nI d ≤ dV D) : dvl D d + nI 1 = nI (max (D - d) 1) ∧ d < D := by
  have hlt : d < D := by
    have h1 := Int32.le_iff_toInt_le.mp h
    rw [nI_toInt (by omega)] at h1
    unfold dV at h1
    by_cases q : D = 0
    · rw [if_pos q, show (-6 : Int32).toInt = -6 by decide] at h1
      omega
    · rw [if_neg q, nI_toInt (by omega)] at h1
      omega
  refine ⟨?_, hlt⟩
  obtain ⟨k, hk⟩ : ∃ k, D - d = k + 1 := ⟨D - d - 1, by omega⟩
  rw [dvl_pos hD hlt, hk, nI_pred, nI_add, show max (k + 1) 1 = k + 1 by omega]
theorem dvl_lo {D d : Nat} (hD : D ≤ 64) (hd : d < 64) (h : ¬ nI d ≤ dV D) : 1 = max (D - d) 1 := by
  have : ¬ d < D := fun q => h (by
    rw [Int32.le_iff_toInt_le, nI_toInt (by omega)]
    unfold dV
    rw [if_neg (by omega), nI_toInt (by omega)]
    omega)
  omega
theorem res_cp {fa fb : Nat → Nat} {la d : Nat} (hfa : ∀ k, fa k < 257) (hza : ∀ k, la ≤ k → fa k = 0) (hf : fb d < 257) (h0 : fb d ≠ 0) : cp1 (dvd fa fb (dg fa la) d).2 (fun _ => 0) d = (resR fa fb (dg fa la) d).2 := by
  have hz := dvd_zero hfa hza hf h0
  funext k
  show (if k < d then (dvd fa fb (dg fa la) d).2 k else 0) = if max d 1 ≤ k then 0 else (dvd fa fb (dg fa la) d).2 k
  by_cases q : k < d
  · rw [if_pos q, if_neg (by omega)]
  · rw [if_neg q, hz k (by omega)]
    split <;> rfl
theorem res_e {fa fb : Nat → Nat} {la d : Nat} (hfa : ∀ k, fa k < 257) (hza : ∀ k, la ≤ k → fa k = 0) (hf : fb d < 257) (h0 : fb d ≠ 0) : (dvd fa fb (dg fa la) d).2 = (resR fa fb (dg fa la) d).2 := by
  have hz := dvd_zero hfa hza hf h0
  funext k
  show (dvd fa fb (dg fa la) d).2 k = if max d 1 ≤ k then 0 else (dvd fa fb (dg fa la) d).2 k
  by_cases q : max d 1 ≤ k
  · rw [if_pos q, hz k (by omega)]
  · rw [if_neg q]
theorem dg_len {f : Nat → Nat} {a : Nat} : ∀ n, a ≤ n → (∀ k, a ≤ k → f k = 0) → dg f n = dg f a := by
  intro n
  induction n with
  | zero => intro h _; rw [show a = 0 by omega]
  | succ n ih =>
    intro h hz
    by_cases q : a = n + 1
    · rw [q]
    · rw [dg_zero f (hz n (by omega)), ih (by omega) hz]
theorem monR_dg {G : kR} (hG : ∀ k, G.2 k < 257) (h0 : 0 < dg G.2 G.1) : rD (monR G) = dg G.2 G.1 := by
  obtain ⟨g, hg⟩ : ∃ g, dg G.2 G.1 = g + 1 := ⟨dg G.2 G.1 - 1, by omega⟩
  have ht := dg_top _ _ _ hg
  show dg (scl (zfrom G.2 (dg G.2 G.1)) (pw (G.2 (dg G.2 G.1 - 1)) 255) (dg G.2 G.1)) (dg G.2 G.1) = dg G.2 G.1
  rw [hg]
  refine dg_nz _ ?_
  show ¬ (if g < g + 1 then zfrom G.2 (g + 1) g * pw (G.2 (g + 1 - 1)) 255 % 257 else zfrom G.2 (g + 1) g) = 0
  rw [if_pos (by omega), show zfrom G.2 (g + 1) g = G.2 g from if_neg (by omega), show g + 1 - 1 = g by omega, pw255 _ (hG g) ht]
  decide
/-- the numbers of the divisor, the first k of them -/
def mnK (f : Nat → Nat) (w k : Nat) : Nat → Nat := fun j => if j < k then f j * w % 257 else 0
theorem mnK_0 (f : Nat → Nat) (w : Nat) : mnK f w 0 = fun _ => 0 := by funext j; simp [mnK]
theorem mnK_s (f : Nat → Nat) (w k : Nat) : va_up (mnK f w k) k (f k * w % 257) = mnK f w (k + 1) := by
  funext j
  unfold mnK
  by_cases h : j = k
  · rw [h, va_up_self, if_pos (by omega)]
  · rw [va_up_ne _ _ h]
    by_cases q : j < k
    · rw [if_pos q, if_pos (by omega)]
    · rw [if_neg q, if_neg (by omega)]
theorem mnK_e {G : kR} {g : Nat} (hg : dg G.2 G.1 = g + 1) : mnK G.2 (pw (G.2 g) 255) (g + 1) = (monR G).2 := by
  funext j
  show (if j < g + 1 then G.2 j * pw (G.2 g) 255 % 257 else 0) = scl (zfrom G.2 (dg G.2 G.1)) (pw (G.2 (dg G.2 G.1 - 1)) 255) (dg G.2 G.1) j
  rw [hg, show g + 1 - 1 = g by omega]
  show _ = if j < g + 1 then zfrom G.2 (g + 1) j * pw (G.2 g) 255 % 257 else zfrom G.2 (g + 1) j
  by_cases q : j < g + 1
  · rw [if_pos q, if_pos q, show zfrom G.2 (g + 1) j = G.2 j from if_neg (by omega)]
  · rw [if_neg q, if_neg q, zfrom_ge (by omega)]
theorem mnK_z {f : Nat → Nat} {w n k : Nat} (h : n ≤ k) : mnK f w n k = 0 := by unfold mnK; rw [if_neg (by omega)]
theorem cp1_k (f g : Nat → Nat) (k : Nat) : cp1 f g k k = g k := if_neg (Nat.lt_irrefl _)
theorem dvV_g {D : va_G} {ad : Nat → Nat} {cy : Nat → ClassId} {w : kV} {X Y f g : Nat → Nat} {H : Heap} (hX : ∀ j, j < 64 → X j = f j) (hY : ∀ j, j < 64 → Y j = g j) (hP : va_P D vwCl (wL 9 ad (mW ad cy (ptw (pon w X) Y))) H) : va_P D vwCl (wL 9 ad (mW ad cy (ptw (pon w f) g))) H :=
  mW_ext (v := ptw (pon w X) Y) (w := ptw (pon w f) g) (fun _ _ => rfl) (fun _ _ => rfl) (fun _ _ => rfl) (fun _ _ => rfl) rfl (fun _ _ => rfl) rfl (fun _ _ => rfl) rfl hX hY hP
theorem dvV_e {D : va_G} {ad : Nat → Nat} {cy : Nat → ClassId} {v v' : kV} {A B : kR} {H : Heap} (hv : v' = ptw (pon (recV v) (cp1 A.2 (von v) 64)) (cp1 B.2 (vtw v) 64)) (hP : va_P D vwCl (wL 9 ad (mW ad cy v')) H) : va_P D vwCl (wL 9 ad (mW ad cy (dvV v A B))) H := by
  rw [hv] at hP
  unfold dvV
  exact dvV_g (fun _ hj => cp1_lt hj) (fun _ hj => cp1_lt hj) hP
