/-! WHAT IS COUNTED: numbers of rows, as both sides work them out -/
/-- the degree and 1 of the first n numbers, 0 if all are 0 -/
def dg (f : Nat → Nat) : Nat → Nat
  | 0 => 0
  | n + 1 => if f n = 0 then dg f n else n + 1
/-- a degree as it is told -/
def dV (d : Nat) : Int32 := if d = 0 then -6 else nI (d - 1)
def cn (f : Nat → Nat) : Nat → Nat
  | 0 => 0
  | n + 1 => cn f n + (if f n = 0 then 0 else 1)
def sm (f : Nat → Nat) : Nat → Nat
  | 0 => 0
  | n + 1 => sm f n + f n
/-- the value of the lower n numbers, with v above them -/
def hn (f : Nat → Nat) (x : Nat) : Nat → Nat → Nat
  | 0, v => v
  | n + 1, v => hn f x n ((v * x + f n) % 257)
def vx (r : Nat × (Nat → Nat)) (x : Nat) : Nat := hn r.2 x r.1 0
/-- how many of the first n are 0 -/
def cq (g : Nat → Nat) : Nat → Nat
  | 0 => 0
  | n + 1 => cq g n + (if g n = 0 then 1 else 0)
/-- the least place of 0 from k on, among the next m -/
def fz (g : Nat → Nat) (k : Nat) : Nat → Int32
  | 0 => -6
  | m + 1 => if g k = 0 then nI k else fz g (k + 1) m
theorem dg_le (f : Nat → Nat) (n : Nat) : dg f n ≤ n := by
  induction n with
  | zero => exact Nat.le_refl _
  | succ n ih => unfold dg; split <;> omega
theorem dg_zero (f : Nat → Nat) {n : Nat} (h : f n = 0) : dg f (n + 1) = dg f n := by
  show (if f n = 0 then dg f n else n + 1) = _
  rw [if_pos h]
theorem dg_nz (f : Nat → Nat) {n : Nat} (h : ¬ f n = 0) : dg f (n + 1) = n + 1 := by
  show (if f n = 0 then dg f n else n + 1) = _
  rw [if_neg h]
theorem dg_above (f : Nat → Nat) : ∀ (n k : Nat), dg f n ≤ k → k < n → f k = 0 := by
  intro n
  induction n with
  | zero => intro k _ h; omega
  | succ n ih =>
    intro k h1 h2
    by_cases h : f n = 0
    · rw [dg_zero f h] at h1
      by_cases hk : k = n
      · rw [hk]; exact h
      · exact ih k h1 (by omega)
    · rw [dg_nz f h] at h1; omega
theorem dg_top (f : Nat → Nat) : ∀ (n d : Nat), dg f n = d + 1 → f d ≠ 0 := by
  intro n
  induction n with
  | zero => intro d h; cases h
  | succ n ih =>
    intro d h
    by_cases q : f n = 0
    · rw [dg_zero f q] at h; exact ih d h
    · rw [dg_nz f q] at h
      have : n = d := by omega
      rw [← this]; exact q
theorem cn_le (f : Nat → Nat) (n : Nat) : cn f n ≤ n := by
  induction n with
  | zero => exact Nat.le_refl _
  | succ n ih => unfold cn; split <;> omega
theorem cn_zero (f : Nat → Nat) {n : Nat} (h : f n = 0) : cn f (n + 1) = cn f n := by
  show cn f n + (if f n = 0 then 0 else 1) = _
  rw [if_pos h]; rfl
theorem cn_nz (f : Nat → Nat) {n : Nat} (h : ¬ f n = 0) : cn f (n + 1) = cn f n + 1 := by
  show cn f n + (if f n = 0 then 0 else 1) = _
  rw [if_neg h]
theorem cq_le (f : Nat → Nat) (n : Nat) : cq f n ≤ n := by
  induction n with
  | zero => exact Nat.le_refl _
  | succ n ih => unfold cq; split <;> omega
theorem cq_zero (f : Nat → Nat) {n : Nat} (h : f n = 0) : cq f (n + 1) = cq f n + 1 := by
  show cq f n + (if f n = 0 then 1 else 0) = _
  rw [if_pos h]
theorem cq_nz (f : Nat → Nat) {n : Nat} (h : ¬ f n = 0) : cq f (n + 1) = cq f n := by
  show cq f n + (if f n = 0 then 1 else 0) = _
  rw [if_neg h]; rfl
theorem sm_le (f : Nat → Nat) (n : Nat) (h : ∀ k, f k < 257) : sm f n ≤ 256 * n := by
  induction n with
  | zero => exact Nat.le_refl _
  | succ n ih => unfold sm; have := h n; omega
theorem hn_lt (f : Nat → Nat) (x : Nat) : ∀ (n v : Nat), v < 257 → hn f x n v < 257 := by
  intro n
  induction n with
  | zero => intro v h; exact h
  | succ n ih => intro v _; exact ih _ (Nat.mod_lt _ (by decide))
theorem vx_lt (r : Nat × (Nat → Nat)) (x : Nat) : vx r x < 257 := hn_lt _ _ _ _ (by decide)
theorem fz_hit (g : Nat → Nat) (k m : Nat) (h : g k = 0) : fz g k (m + 1) = nI k := by unfold fz; rw [if_pos h]
theorem fz_miss (g : Nat → Nat) (k m : Nat) (h : ¬ g k = 0) : fz g k (m + 1) = fz g (k + 1) m := by
  show (if g k = 0 then nI k else fz g (k + 1) m) = _
  rw [if_neg h]
theorem mul_lt_257 {a b : Nat} (ha : a < 257) (hb : b < 257) : a * b ≤ 65536 := Nat.mul_le_mul (show a ≤ 256 by omega) (show b ≤ 256 by omega)
theorem kmod_nI' {n : Nat} (h : n < 2 ^ 31) (v : Int32) (e : v = nI n) : kmod v.toInt = n % 257 := by rw [e]; exact kmod_nI h
/-- a row whose first k numbers were made 0 -/
def zto (f : Nat → Nat) (k : Nat) : Nat → Nat := fun j => if j < k then 0 else f j
/-- a row whose numbers from a to k were made 0 -/
def zfr (f : Nat → Nat) (a k : Nat) : Nat → Nat := fun j => if a ≤ j ∧ j < k then 0 else f j
theorem up_same {ρ : Nat → kR} {i : Nat} : va_up ρ i ((ρ i).1, (ρ i).2) = ρ := by
  funext k
  by_cases h : k = i
  · subst h; rw [va_up_self]
  · rw [va_up_ne _ _ h]
theorem up_up {α : Type} {ρ : Nat → α} {i : Nat} {a b : α} : va_up (va_up ρ i a) i b = va_up ρ i b := by
  funext k
  by_cases h : k = i
  · subst h; rw [va_up_self, va_up_self]
  · rw [va_up_ne _ _ h, va_up_ne _ _ h, va_up_ne _ _ h]
theorem zto_0 (f : Nat → Nat) : zto f 0 = f := by funext j; simp [zto]
theorem zto_s (f : Nat → Nat) (k : Nat) : va_up (zto f k) k 0 = zto f (k + 1) := by
  funext j
  by_cases h : j = k
  · subst h; rw [va_up_self]; simp [zto]
  · rw [va_up_ne _ _ h]
    unfold zto
    by_cases q : j < k
    · rw [if_pos q, if_pos (by omega)]
    · rw [if_neg q, if_neg (by omega)]
theorem zfr_0 (f : Nat → Nat) (a : Nat) : zfr f a a = f := by
  funext j
  unfold zfr
  rw [if_neg (by omega)]
theorem zfr_s (f : Nat → Nat) {a k : Nat} (h : a ≤ k) : va_up (zfr f a k) k 0 = zfr f a (k + 1) := by
  funext j
  unfold zfr
  by_cases q : j = k
  · subst q; rw [va_up_self, if_pos (by omega)]
  · rw [va_up_ne _ _ q]
    by_cases r : a ≤ j ∧ j < k
    · rw [if_pos r, if_pos (by omega)]
    · rw [if_neg r, if_neg (by omega)]
theorem fill_0 {D : va_G} {ad : Nat → Nat} {cy : Nat → ClassId} {ρ : Nat → kR} {x : kX} {H : Heap} {i : Nat} (hP : va_P D vwCl (wL 143 ad (cW ad cy ρ x)) H) : va_P D vwCl (wL 143 ad (cW ad cy (va_up ρ i ((ρ i).1, zto (ρ i).2 0)) x)) H := by
  rw [zto_0, up_same]; exact hP
theorem fill_s {ρ : Nat → kR} {i k : Nat} {n : Nat} {f : Nat → Nat} : va_up (va_up ρ i (n, zto f k)) i ((va_up ρ i (n, zto f k) i).1, va_up (va_up ρ i (n, zto f k) i).2 k 0) = va_up ρ i (n, zto f (k + 1)) := by
  rw [up_up, va_up_self, zto_s]
theorem fill_e {D : va_G} {ad : Nat → Nat} {cy : Nat → ClassId} {ρ : Nat → kR} {x : kX} {H : Heap} {i n : Nat} {f : Nat → Nat} (hP : va_P D vwCl (wL 143 ad (cW ad cy (va_up ρ i (n, zto f 64)) x)) H) : va_P D vwCl (wL 143 ad (cW ad cy (va_up ρ i (n, fun _ => 0)) x)) H := by
  refine cW_ext (fun k _ => ?_) hP
  by_cases h : k = i
  · subst h
    rw [va_up_self, va_up_self]
    exact ⟨rfl, fun j hj => by simp [zto, hj]⟩
  · rw [va_up_ne _ _ h, va_up_ne _ _ h]
    exact ⟨rfl, fun _ _ => rfl⟩
/-- a row cut at n -/
def zfrom (f : Nat → Nat) (n : Nat) : Nat → Nat := fun j => if n ≤ j then 0 else f j
theorem rsz_e {D : va_G} {ad : Nat → Nat} {cy : Nat → ClassId} {ρ ρ' : Nat → kR} {x : kX} {H : Heap} {i n m : Nat} (e : ρ' = va_up ρ i (m, zfr (ρ i).2 n 64)) (hP : va_P D vwCl (wL 143 ad (cW ad cy (va_up ρ' i (n, (ρ' i).2)) x)) H) : va_P D vwCl (wL 143 ad (cW ad cy (va_up ρ i (n, zfrom (ρ i).2 n)) x)) H := by
  refine cW_ext (fun k _ => ?_) hP
  rw [e, up_up]
  by_cases h : k = i
  · subst h
    rw [va_up_self, va_up_self, va_up_self]
    exact ⟨rfl, fun j hj => by simp [zfr, zfrom, hj]⟩
  · rw [va_up_ne _ _ h, va_up_ne _ _ h]
    exact ⟨rfl, fun _ _ => rfl⟩
theorem cpy_e {D : va_G} {ad : Nat → Nat} {cy : Nat → ClassId} {ρ : Nat → kR} {x : kX} {H : Heap} {i j m : Nat} (hij : j ≠ i) (hP : va_P D vwCl (wL 143 ad (cW ad cy (va_up (va_up ρ i (m, fun k => if k < 64 then (ρ j).2 k else (ρ i).2 k)) i ((va_up ρ i (m, fun k => if k < 64 then (ρ j).2 k else (ρ i).2 k) j).1, (va_up ρ i (m, fun k => if k < 64 then (ρ j).2 k else (ρ i).2 k) i).2)) x)) H) : va_P D vwCl (wL 143 ad (cW ad cy (va_up ρ i (ρ j)) x)) H := by
  refine cW_ext (fun k _ => ?_) hP
  rw [up_up, va_up_self, va_up_ne _ _ hij]
  by_cases h : k = i
  · subst h
    rw [va_up_self, va_up_self]
    exact ⟨rfl, fun q hq => by simp [hq]⟩
  · rw [va_up_ne _ _ h, va_up_ne _ _ h]
    exact ⟨rfl, fun _ _ => rfl⟩
/-- a row whose first k numbers are multiplied by f -/
def scl (g : Nat → Nat) (f k : Nat) : Nat → Nat := fun j => if j < k then g j * f % 257 else g j
theorem scl_0 (g : Nat → Nat) (f : Nat) : scl g f 0 = g := by funext j; simp [scl]
theorem scl_k (g : Nat → Nat) (f k : Nat) : scl g f k k = g k := by simp [scl]
theorem scl_s (g : Nat → Nat) (f k : Nat) : va_up (scl g f k) k (g k * f % 257) = scl g f (k + 1) := by
  funext j
  unfold scl
  by_cases h : j = k
  · subst h; rw [va_up_self, if_pos (by omega)]
  · rw [va_up_ne _ _ h]
    by_cases q : j < k
    · rw [if_pos q, if_pos (by omega)]
    · rw [if_neg q, if_neg (by omega)]
