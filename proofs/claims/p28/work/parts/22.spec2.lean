section KR5
variable {p : Program} {l : Launch} {e : Env} {R : Room} {s : State} {m : MethodId} {args : Array Value} {below : List Frame} {meth : Method} {c : Code} {H : Heap} {locs : List Loc} {cells slots : Nat} {Q : State → Prop}
variable {cc : ByteArray} {pc : Nat} {ls : Array Slot} {rest st0 : List Value}
theorem r_same {a : Nat} (kk : W p l e R s m args below meth c H locs cells slots Q (F0 m pc ls (.ref a :: rest))) : W p l e R s m args below meth c H locs cells slots Q (F0 m pc ls (va_rf (some a) :: rest)) := kk
/-- an int that is a boolean -/
def kB (b : Bool) : Int32 := if b = true then 1 else 0
theorem kB_t : kB true = 1 := rfl
theorem kB_f : kB false = 0 := rfl
theorem b_ifeq (hx : p.tables.exec = Jvm.exec) (hb : c.code = cc) {b : Bool} {off : Int} {tgt : Nat} (hdg : decode cc pc = .ok (.ifCond .eq off, 3)) (ht : (pc : Int) + off = (tgt : Int)) (kt : b = false → W p l e R s m args below meth c H locs cells slots Q (F0 m tgt ls rest)) (kf : b = true → W p l e R s m args below meth c H locs cells slots Q (F0 m (pc + 3) ls rest)) : W p l e R s m args below meth c H locs cells slots Q (F0 m pc ls (.int (kB b) :: rest)) :=
  lv_if_eq hx hb hdg ht (fun h => kt (by cases b; rfl; exact absurd h (by decide))) (fun h => kf (by cases b; exact absurd (by decide) h; rfl))
theorem b_ifne (hx : p.tables.exec = Jvm.exec) (hb : c.code = cc) {b : Bool} {off : Int} {tgt : Nat} (hdg : decode cc pc = .ok (.ifCond .ne off, 3)) (ht : (pc : Int) + off = (tgt : Int)) (kt : b = true → W p l e R s m args below meth c H locs cells slots Q (F0 m tgt ls rest)) (kf : b = false → W p l e R s m args below meth c H locs cells slots Q (F0 m (pc + 3) ls rest)) : W p l e R s m args below meth c H locs cells slots Q (F0 m pc ls (.int (kB b) :: rest)) :=
  lv_if_ne hx hb hdg ht (fun h => kt (by cases b; exact absurd (by decide) h; rfl)) (fun h => kf (by cases b; rfl; exact absurd h (by decide)))
end KR5
/-- the places t's first k rows are u's -/
def cpS (ρ : Nat → kR) (t u k : Nat) : Nat → kR := fun i => if 6 * t ≤ i ∧ i < 6 * t + k then ρ (6 * u + (i - 6 * t)) else ρ i
theorem cpS_0 (ρ : Nat → kR) (t u : Nat) : cpS ρ t u 0 = ρ := by
  funext i; unfold cpS; rw [if_neg (by omega)]
theorem cpS_src {ρ : Nat → kR} {t u k j : Nat} (h : u ≠ t) (hk : k ≤ 6) (hj : j < 6) : cpS ρ t u k (6 * u + j) = ρ (6 * u + j) := by
  unfold cpS; rw [if_neg (by omega)]
theorem cpS_s {ρ : Nat → kR} {t u k : Nat} (h : u ≠ t) (hk : k < 6) : va_up (cpS ρ t u k) (6 * t + k) (cpS ρ t u k (6 * u + k)) = cpS ρ t u (k + 1) := by
  rw [cpS_src h (by omega) hk]
  funext i
  by_cases q : i = 6 * t + k
  · subst q
    rw [va_up_self]
    unfold cpS
    rw [if_pos (by omega)]
    congr 1
    omega
  · rw [va_up_ne _ _ q]
    unfold cpS
    by_cases r : 6 * t ≤ i ∧ i < 6 * t + k
    · rw [if_pos r, if_pos (by omega)]
    · rw [if_neg r, if_neg (by omega)]
/-- the history's places, moved down by one below k -/
def rot (f : Nat → Nat) (k : Nat) : Nat → Nat := fun j => if j + 1 < k then f (j + 1) else f j
theorem rot_1 (f : Nat → Nat) : rot f 1 = f := by funext j; unfold rot; rw [if_neg (by omega)]
theorem rot_k (f : Nat → Nat) (k : Nat) : rot f k k = f k := by unfold rot; rw [if_neg (by omega)]
theorem rot_s (f : Nat → Nat) {k : Nat} (h : 1 ≤ k) : va_up (rot f k) (k - 1) (f k) = rot f (k + 1) := by
  funext j
  by_cases q : j = k - 1
  · subst q
    rw [va_up_self]; unfold rot; rw [if_pos (by omega)]; congr 1; omega
  · rw [va_up_ne _ _ q]
    unfold rot
    by_cases r : j + 1 < k
    · rw [if_pos r, if_pos (by omega)]
    · rw [if_neg r, if_neg (by omega)]
def rotF (f : Nat → Nat) : Nat → Nat := va_up (rot f 6) 5 (f 0)
/-- where the next state goes -/
def khl (x : kX) : Nat := if x.1 < 6 then x.1 else 5
def kpm (x : kX) : Nat → Nat := if x.1 < 6 then x.2.1 else rotF x.2.1
/-- the state of the rows, recorded -/
def keepR (ρ : Nat → kR) (x : kX) : Nat → kR := cpS ρ (kpm x (khl x)) 0 6
def keepX (x : kX) : kX := (khl x + 1, kpm x, x.2.2)
def ln6 (ρ : Nat → kR) (t : Nat) : Nat := sm (fun j => (ρ (6 * t + j)).1) 6
theorem sm_le64 (f : Nat → Nat) (n : Nat) (h : ∀ k, k < n → f k ≤ 64) : sm f n ≤ 64 * n := by
  induction n with
  | zero => exact Nat.le_refl _
  | succ n ih => unfold sm; have := h n (by omega); have := ih (fun k hk => h k (by omega)); omega
/-- the powers -/
def pw (a n : Nat) : Nat := a ^ n % 257
theorem pw_0 (a : Nat) : pw a 0 = 1 := by unfold pw; rw [Nat.pow_zero]
theorem pw_s (a n : Nat) : pw a (n + 1) = pw a n * a % 257 := by
  unfold pw
  rw [Nat.pow_succ, Nat.mod_mul_mod]
theorem pw_lt (a n : Nat) : pw a n < 257 := Nat.mod_lt _ (by decide)
theorem pw_1 {a : Nat} (h : a < 257) : pw a 1 = a := by rw [pw_s, pw_0, Nat.one_mul, Nat.mod_eq_of_lt h]
theorem pw_mod (a n : Nat) : pw (a % 257) n = pw a n := by
  unfold pw; rw [← Nat.pow_mod]
theorem rs_odd {r q n : Nat} (h : n % 2 = 1) : r * q % 257 * (q * q % 257) ^ (n / 2) % 257 = r * q ^ n % 257 := by
  have e : n = 2 * (n / 2) + 1 := by omega
  rw [Nat.mul_mod, ← Nat.pow_mod, Nat.mod_mod, ← Nat.mul_mod, ← Nat.pow_two, ← Nat.pow_mul, Nat.mul_assoc, ← Nat.pow_succ', Nat.succ_eq_add_one, ← e]
theorem rs_even {r q n : Nat} (h : ¬ n % 2 = 1) : r * (q * q % 257) ^ (n / 2) % 257 = r * q ^ n % 257 := by
  have e : n = 2 * (n / 2) := by omega
  rw [Nat.mul_mod, ← Nat.pow_mod, ← Nat.mul_mod, ← Nat.pow_two, ← Nat.pow_mul, ← e]
theorem nI_and1 {n : Nat} (h : n < 2 ^ 31) : nI n &&& nI 1 = nI (n % 2) := pk_andN (by omega) 1 (by decide)
theorem nI_shr1 {n : Nat} (h : n < 2 ^ 31) : nI n >>> (nI 1 &&& 31) = nI (n / 2) := pk_shrN h _ 1 (by decide)
/-- the sizes -/
def isZ (r : Int32) : Bool := decide (r = 1) || decide (r = 2) || decide (r = 4) || decide (r = 8) || decide (r = 16) || decide (r = 32) || decide (r = 64)
/-- the turning point of a size -/
def tpt (k : Nat) : Nat := pw 3 (256 / k)
theorem tpt_lt (k : Nat) : tpt k < 257 := pw_lt _ _
theorem isZ_and : ∀ k, k < 65 → 1 ≤ k → (isZ (nI k) = decide (nI k &&& (nI k - 1) = 0)) := by decide +kernel
theorem isZ_lo {r : Int32} (h : r < nI 1) : isZ r = false := by
  have h0 : ∀ q : Int32, nI 1 ≤ q → r ≠ q := fun q hq e => by
    rw [e] at h
    exact absurd h (Int32.not_lt.mpr hq)
  unfold isZ
  simp only [Bool.or_eq_false_iff, decide_eq_false_iff_not]
  exact ⟨⟨⟨⟨⟨⟨h0 1 (by decide), h0 2 (by decide)⟩, h0 4 (by decide)⟩, h0 8 (by decide)⟩, h0 16 (by decide)⟩, h0 32 (by decide)⟩, h0 64 (by decide)⟩
theorem isZ_hi {r : Int32} (h : nI 64 < r) : isZ r = false := by
  have h0 : ∀ q : Int32, q ≤ nI 64 → r ≠ q := fun q hq e => by
    rw [e] at h
    exact absurd h (Int32.not_lt.mpr hq)
  unfold isZ
  simp only [Bool.or_eq_false_iff, decide_eq_false_iff_not]
  exact ⟨⟨⟨⟨⟨⟨h0 1 (by decide), h0 2 (by decide)⟩, h0 4 (by decide)⟩, h0 8 (by decide)⟩, h0 16 (by decide)⟩, h0 32 (by decide)⟩, h0 64 (by decide)⟩
/-- what pointOf answers -/
def ptV (r : Int32) : Int32 := if isZ r = true then nI (tpt r.toNatClampNeg) else -6
theorem va_rf_cat (o : Option Nat) : (va_rf o).category = 1 := by cases o <;> rfl
theorem nar_kB (b : Bool) : narrow .boolean (.int (kB b)) = .int (kB b) := by cases b <;> rfl
