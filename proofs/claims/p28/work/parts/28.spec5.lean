theorem dV_s (d : Nat) : dV (d + 1) = nI d := by unfold dV; rw [if_neg (by omega)]; rfl
theorem dV_none {D : Nat} (h : D ≤ 64) : dV D = -6 ↔ D = 0 := by
  constructor
  · intro q
    rcases Nat.eq_zero_or_pos D with r | r
    · exact r
    · obtain ⟨d, rfl⟩ : ∃ d, D = d + 1 := ⟨D - 1, by omega⟩
      rw [dV_s] at q
      exact absurd q (fun z => by
        have h1 := nI_toInt (n := d) (by omega)
        rw [z, show (-6 : Int32).toInt = -6 by decide] at h1
        omega)
  · intro q; rw [q]; rfl
theorem up_swap {α : Type} {ρ : Nat → α} {i j : Nat} {a b : α} (h : i ≠ j) : va_up (va_up ρ i a) j b = va_up (va_up ρ j b) i a := by
  funext k
  by_cases q : k = j
  · subst q
    rw [va_up_self, va_up_ne _ _ (Ne.symm h), va_up_self]
  · rw [va_up_ne _ _ q]
    by_cases r : k = i
    · subst r; rw [va_up_self, va_up_self]
    · rw [va_up_ne _ _ r, va_up_ne _ _ r, va_up_ne _ _ q]
/-- Fermat, by looking -/
theorem pw255 : ∀ a, a < 257 → a ≠ 0 → a * pw a 255 % 257 = 1 := by decide +kernel
theorem sbm_zero {r fd : Nat} (hr : r < 257) (hf : fd < 257) (h0 : fd ≠ 0) : sbm r (r * pw fd 255 % 257 * fd) = 0 := by
  have h1 := pw255 fd hf h0
  have h2 : r * pw fd 255 % 257 * fd % 257 = r := by
    rw [Nat.mod_mul_mod, Nat.mul_assoc, Nat.mul_comm (pw fd 255) fd, Nat.mul_mod, h1, Nat.mul_one, Nat.mod_mod, Nat.mod_eq_of_lt hr]
  unfold sbm kmod
  omega
/-- what division leaves alone: the places above -/
theorem dvI_above {c : Nat} {f : Nat → Nat} {j : Nat} {g : Nat → Nat} : ∀ i k, j + i ≤ k → dvI c f j g i k = g k := by
  intro i
  induction i with
  | zero => intro k _; rfl
  | succ i ih =>
    intro k h
    unfold dvI
    rw [va_up_ne _ _ (by omega)]
    exact ih k (by omega)
theorem dvI_top {f : Nat → Nat} {d t : Nat} {g : Nat → Nat} (hg : ∀ k, g k < 257) (hf : f d < 257) (h0 : f d ≠ 0) : dvI (g (t + d) * pw (f d) 255 % 257) f t g (d + 1) (t + d) = 0 := by
  show va_up _ (t + d) _ (t + d) = 0
  rw [va_up_self, dvI_above d (t + d) (Nat.le_refl _)]
  exact sbm_zero (hg _) hf h0
theorem dvO_lt {f : Nat → Nat} {d w : Nat} : ∀ t (u : (Nat → Nat) × (Nat → Nat)), (∀ k, u.1 k < 257) → (∀ k, u.2 k < 257) → (∀ k, (dvO f d w t u).1 k < 257) ∧ ∀ k, (dvO f d w t u).2 k < 257 := by
  intro t
  induction t with
  | zero => intro u h1 h2; exact ⟨h1, h2⟩
  | succ t ih =>
    intro u h1 h2
    unfold dvO
    refine ih _ (fun k => ?_) (fun k => dvI_lt h2 _ _)
    show va_up u.1 t _ k < 257
    by_cases q : k = t
    · rw [q, va_up_self]; exact Nat.mod_lt _ (by decide)
    · rw [va_up_ne _ _ q]; exact h1 k
theorem dvO_zero {f : Nat → Nat} {d : Nat} (hf : f d < 257) (h0 : f d ≠ 0) : ∀ t (u : (Nat → Nat) × (Nat → Nat)), (∀ k, u.2 k < 257) → (∀ k, t + d ≤ k → u.2 k = 0) → ∀ k, d ≤ k → (dvO f d (pw (f d) 255) t u).2 k = 0 := by
  intro t
  induction t with
  | zero => intro u _ h k hk; exact h k (by omega)
  | succ t ih =>
    intro u h2 h k hk
    unfold dvO
    refine ih _ (fun k => dvI_lt h2 _ _) (fun k hk => ?_) k hk
    show dvI _ f t u.2 (d + 1) k = 0
    by_cases q : k = t + d
    · rw [q]; exact dvI_top h2 hf h0
    · rw [dvI_above _ _ (by omega)]; exact h k (by omega)
/-- the rest is 0 from the divisor's degree on -/
theorem dvd_zero {fa fb : Nat → Nat} {la d : Nat} (hfa : ∀ k, fa k < 257) (hza : ∀ k, la ≤ k → fa k = 0) (hf : fb d < 257) (h0 : fb d ≠ 0) : ∀ k, d ≤ k → (dvd fa fb (dg fa la) d).2 k = 0 := by
  refine dvO_zero hf h0 _ _ hfa (fun k hk => ?_)
  show fa k = 0
  by_cases q : k < la
  · exact dg_above fa la k (by omega) q
  · exact hza k (by omega)
theorem dg_all0 {f : Nat → Nat} : ∀ n, (∀ k, k < n → f k = 0) → dg f n = 0 := by
  intro n
  induction n with
  | zero => intro _; rfl
  | succ n ih => intro h; rw [dg_zero f (h n (by omega))]; exact ih (fun k hk => h k (by omega))
theorem resR_dg {fa fb : Nat → Nat} {la d : Nat} (hfa : ∀ k, fa k < 257) (hza : ∀ k, la ≤ k → fa k = 0) (hf : fb d < 257) (h0 : fb d ≠ 0) : dg (resR fa fb (dg fa la) d).2 (resR fa fb (dg fa la) d).1 ≤ d := by
  show dg (zfrom _ (max d 1)) (max d 1) ≤ d
  rcases Nat.eq_zero_or_pos d with q | q
  · subst q
    have : dg (zfrom (dvd fa fb (dg fa la) 0).2 (max 0 1)) (max 0 1) = 0 := dg_all0 _ (fun k hk => by
      unfold zfrom
      split
      · rfl
      · exact dvd_zero hfa hza hf h0 k (by omega))
    omega
  · have := dg_le (zfrom (dvd fa fb (dg fa la) d).2 (max d 1)) (max d 1)
    omega
theorem zfrom_lt {f : Nat → Nat} (h : ∀ k, f k < 257) (n k : Nat) : zfrom f n k < 257 := by
  unfold zfrom; split
  · decide
  · exact h k
theorem zfrom_ge {f : Nat → Nat} {n k : Nat} (h : n ≤ k) : zfrom f n k = 0 := by unfold zfrom; rw [if_pos h]
theorem resR_K {fa fb : Nat → Nat} {D d : Nat} (hfa : ∀ k, fa k < 257) (hd : d < 64) : rK (resR fa fb D d) := ⟨by show max d 1 ≤ 64; omega, fun k => zfrom_lt (dvO_lt _ _ (fun _ => (show 0 < 257 by decide)) hfa).2 _ _⟩
theorem resR_Z {fa fb : Nat → Nat} {D d : Nat} : ∀ k, (resR fa fb D d).1 ≤ k → (resR fa fb D d).2 k = 0 := fun _ h => zfrom_ge h
/-- Euclid's steps -/
def euc : Nat → kR → kR → kR
  | 0, A, _ => A
  | n + 1, A, B => if dg B.2 B.1 = 0 then A else euc n B (resR A.2 B.2 (dg A.2 A.1) (dg B.2 B.1 - 1))
theorem euc_0 {n : Nat} {A B : kR} (h : dg B.2 B.1 = 0) : euc n A B = A := by
  cases n with
  | zero => rfl
  | succ n => show (if dg B.2 B.1 = 0 then A else _) = A; rw [if_pos h]
theorem euc_s {n d : Nat} {A B : kR} (h : dg B.2 B.1 = d + 1) : euc (n + 1) A B = euc n B (resR A.2 B.2 (dg A.2 A.1) d) := by
  show (if dg B.2 B.1 = 0 then A else _) = _
  rw [if_neg (by omega), h]; rfl
/-- the row with 1 at its degree, cut there -/
def monR (G : kR) : kR := (dg G.2 G.1, scl (zfrom G.2 (dg G.2 G.1)) (pw (G.2 (dg G.2 G.1 - 1)) 255) (dg G.2 G.1))
def gcdR (A B : kR) : kR := monR (euc 65 A B)
/-- reading -/
def nv (u : Option Nat) : Int32 := match u with
  | none => -6
  | some v => nI v
def wdg (u : Option Nat) (c : Nat) : Option Nat := if 48 ≤ c ∧ c ≤ 57 ∧ u ≠ some 0 ∧ u.getD 0 * 10 + c - 48 < 257 then some (u.getD 0 * 10 + c - 48) else none
def wdV (o : Option Nat) : Int32 := match o with
  | none => -3
  | some v => nI v
theorem nv_none {u : Option Nat} (h : ∀ v, u = some v → v < 257) : nv u = -6 ↔ u = none := by
  cases u with
  | none => exact ⟨fun _ => rfl, fun _ => rfl⟩
  | some v =>
    refine ⟨fun q => absurd q (fun z => ?_), fun q => by cases q⟩
    have h1 := nI_toInt (n := v) (by have := h v rfl; omega)
    have z' : nI v = -6 := z
    rw [z', show (-6 : Int32).toInt = -6 by decide] at h1
    omega
theorem wdV_none {u : Option Nat} (h : ∀ v, u = some v → v < 257) : wdV u = -3 ↔ u = none := by
  cases u with
  | none => exact ⟨fun _ => rfl, fun _ => rfl⟩
  | some v =>
    refine ⟨fun q => absurd q (fun z => ?_), fun q => by cases q⟩
    have h1 := nI_toInt (n := v) (by have := h v rfl; omega)
    have z' : nI v = -3 := z
    rw [z', show (-3 : Int32).toInt = -3 by decide] at h1
    omega
theorem nv_max {u : Option Nat} (h : ∀ v, u = some v → v < 257) : (if nv u < nI 0 then nI 0 else nv u) = nI (u.getD 0) := by
  cases u with
  | none => rfl
  | some v =>
    have hnn : ¬ nv (some v) < nI 0 := nI_pos (by have := h v rfl; omega)
    rw [if_neg hnn]; rfl
theorem nv_zero {u : Option Nat} (h : ∀ v, u = some v → v < 257) : nv u = 0 ↔ u = some 0 := by
  cases u with
  | none => exact ⟨fun q => absurd q (by decide), fun q => by cases q⟩
  | some v =>
    constructor
    · intro q
      have := (nI_eq (a := v) (b := 0) (by have := h v rfl; omega) (by decide)).mp q
      rw [this]
    · intro q
      cases q
      rfl
theorem wdg_lt {u : Option Nat} {c v : Nat} (h : wdg u c = some v) : v < 257 := by
  unfold wdg at h
  split at h
  · rename_i q; cases h; exact q.2.2.2
  · cases h
/-- the text's n characters from i on, read on: k numbers stand in F, u is begun -/
def psr (pd : Nat → Nat) : Nat → Nat → Nat → Option Nat → (Nat → Nat) → Int32 × kR
  | 0, i, k, u, F => match u with
    | none => (nI i, (0, F))
    | some v => (-6, (k + 1, va_up F k v))
  | n + 1, i, k, u, F => if pd i = 44 then (match u with
      | none => (nI i, (0, F))
      | some v => psr pd n (i + 1) (k + 1) none (va_up F k v))
    else match wdg u (pd i) with
      | none => (nI i, (0, F))
      | some v => psr pd n (i + 1) k (some v) F
theorem psr_e0 (pd : Nat → Nat) (i k : Nat) (F : Nat → Nat) : psr pd 0 i k none F = (nI i, (0, F)) := rfl
theorem psr_e1 (pd : Nat → Nat) (i k v : Nat) (F : Nat → Nat) : psr pd 0 i k (some v) F = (-6, (k + 1, va_up F k v)) := rfl
theorem psr_c0 {pd : Nat → Nat} {n i k : Nat} {F : Nat → Nat} (h : pd i = 44) : psr pd (n + 1) i k none F = (nI i, (0, F)) := by
  unfold psr; rw [if_pos h]
theorem psr_c1 {pd : Nat → Nat} {n i k v : Nat} {F : Nat → Nat} (h : pd i = 44) : psr pd (n + 1) i k (some v) F = psr pd n (i + 1) (k + 1) none (va_up F k v) := by
  rw [psr.eq_4, if_pos h]
theorem psr_d0 {pd : Nat → Nat} {n i k : Nat} {u : Option Nat} {F : Nat → Nat} (h : pd i ≠ 44) (hw : wdg u (pd i) = none) : psr pd (n + 1) i k u F = (nI i, (0, F)) := by
  cases u with
  | none => rw [psr.eq_3, if_neg h, hw]
  | some q => rw [psr.eq_4, if_neg h, hw]
theorem psr_d1 {pd : Nat → Nat} {n i k v : Nat} {u : Option Nat} {F : Nat → Nat} (h : pd i ≠ 44) (hw : wdg u (pd i) = some v) : psr pd (n + 1) i k u F = psr pd n (i + 1) k (some v) F := by
  cases u with
  | none => rw [psr.eq_3, if_neg h, hw]
  | some q => rw [psr.eq_4, if_neg h, hw]
/-- the pad, read -/
def psA (pd : Nat → Nat) (pl : Nat) : Int32 × kR := psr pd pl 0 0 none (fun _ => 0)
theorem nI_ne6 {n : Nat} (h : n < 2 ^ 31) : ¬ (-6 : Int32) = nI n := fun z => by
  have h1 := nI_toInt h
  rw [← z, show (-6 : Int32).toInt = -6 by decide] at h1
  omega
