/-! THE ABSTRACT STATE: registers; history (oldest first) and how many; slots and which are saved; pad -/
abbrev kSt : Type := (Nat → kR) × (Nat → Nat → kR) × Nat × (Nat → Nat → kR) × (Nat → Nat) × Nat × (Nat → Nat)
abbrev isR (r : Int32) : Prop := 0 ≤ r ∧ r < 6
abbrev isN (r : Int32) : Prop := 0 ≤ r ∧ r < 257
abbrev rgN (r : Int32) : Nat := r.toNatClampNeg
def recS (S : kSt) : kSt := (S.1, (if S.2.2.1 < 6 then va_up S.2.1 S.2.2.1 S.1 else fun i => if i < 5 then S.2.1 (i + 1) else S.1), (if S.2.2.1 < 6 then S.2.2.1 + 1 else 6), S.2.2.2)
def setS (S : kSt) (j : Nat) (r : kR) : kSt := (va_up S.1 j r, S.2)
def chgS (S : kSt) (j : Nat) (r : kR) : kSt := setS (recS S) j r
def padS (S : kSt) (n : Nat) (f : Nat → Nat) : kSt := (S.1, S.2.1, S.2.2.1, S.2.2.2.1, S.2.2.2.2.1, n, f)
/-- a row as the document has it -/
def rO (r : kR) : Prop := 1 ≤ r.1 ∧ r.1 ≤ 64 ∧ (∀ k, r.2 k < 257) ∧ ∀ k, r.1 ≤ k → r.2 k = 0
theorem rO.K {r : kR} (h : rO r) : rK r := ⟨h.2.1, h.2.2.1⟩
def kInv (S : kSt) : Prop := (∀ r, r < 6 → rO (S.1 r)) ∧ S.2.2.1 ≤ 6 ∧ (∀ i r, i < S.2.2.1 → r < 6 → rO (S.2.1 i r)) ∧ (∀ t r, t < 2 → r < 6 → S.2.2.2.2.1 t = 1 → rO (S.2.2.2.1 t r)) ∧ (∀ t, t < 2 → S.2.2.2.2.1 t ≤ 1) ∧ S.2.2.2.2.2.1 ≤ 80 ∧ ∀ j, j < S.2.2.2.2.2.1 → 33 ≤ S.2.2.2.2.2.2 j ∧ S.2.2.2.2.2.2 j ≤ 126
/-- what the calls answer, and the state behind them -/
def addR (a b : kR) (t : Nat) : kR := (max a.1 b.1, fun k => if k < max a.1 b.1 then (a.2 k + t * b.2 k) % 257 else 0)
def powR (a : kR) : Nat → kR
  | 0 => (1, va_up (fun _ => 0) 0 1)
  | n + 1 => mulR (powR a n) a ((powR a n).1 + a.1 - 1)
def sizN (r : Int32) : Nat := r.toNatClampNeg
def trbR (a : kR) : kR := (a.1, scl (tur a (pw (tpt a.1) 255) a.1) (pw a.1 255) a.1)
def op_read (S : kSt) (r : Int32) : Int32 × kSt := if ¬ isR r then (-1, S) else if (psA S.2.2.2.2.2.2 S.2.2.2.2.2.1).1 ≠ -6 then (-3, S) else (nI (psA S.2.2.2.2.2.2 S.2.2.2.2.2.1).2.1, padS (chgS S (rgN r) (psA S.2.2.2.2.2.2 S.2.2.2.2.2.1).2) 0 S.2.2.2.2.2.2)
def setR (a : kR) (p v : Nat) : kR := (max a.1 (p + 1), va_up a.2 p v)
def op_set (S : kSt) (r p v : Int32) : Int32 × kSt := if ¬ isR r ∨ ¬ (0 ≤ p ∧ p ≤ nI (S.1 (rgN r)).1) then (-1, S) else if ¬ isN v then (-2, S) else if p = 64 then (-4, S) else (nI (setR (S.1 (rgN r)) (rgN p) (rgN v)).1, chgS S (rgN r) (setR (S.1 (rgN r)) (rgN p) (rgN v)))
def op_add (S : kSt) (a b t c : Int32) : Int32 × kSt := if ¬ isR a ∨ ¬ isR b ∨ ¬ isR c then (-1, S) else if ¬ isN t then (-2, S) else (nI (max (S.1 (rgN a)).1 (S.1 (rgN b)).1), chgS S (rgN c) (addR (S.1 (rgN a)) (S.1 (rgN b)) (rgN t)))
def op_product (S : kSt) (a b c : Int32) : Int32 × kSt := if ¬ isR a ∨ ¬ isR b ∨ ¬ isR c then (-1, S) else if 64 < (S.1 (rgN a)).1 + (S.1 (rgN b)).1 - 1 then (-4, S) else (nI ((S.1 (rgN a)).1 + (S.1 (rgN b)).1 - 1), chgS S (rgN c) (mulR (S.1 (rgN a)) (S.1 (rgN b)) ((S.1 (rgN a)).1 + (S.1 (rgN b)).1 - 1)))
def op_round (S : kSt) (a b n c : Int32) : Int32 × kSt := if ¬ isR a ∨ ¬ isR b ∨ ¬ isR c then (-1, S) else if ¬ (1 ≤ n ∧ n ≤ 64) then (-2, S) else (dV (dg (mulR (S.1 (rgN a)) (S.1 (rgN b)) (rgN n)).2 (rgN n)), chgS S (rgN c) (mulR (S.1 (rgN a)) (S.1 (rgN b)) (rgN n)))
def op_power (S : kSt) (a n c : Int32) : Int32 × kSt := if ¬ isR a ∨ ¬ isR c then (-1, S) else if ¬ (0 ≤ n ∧ n ≤ 9) then (-2, S) else if 64 < rgN n * ((S.1 (rgN a)).1 - 1) + 1 then (-4, S) else (nI (rgN n * ((S.1 (rgN a)).1 - 1) + 1), chgS S (rgN c) (powR (S.1 (rgN a)) (rgN n)))
def invR (a : kR) (n : Nat) : kR := (n, inv a.2 (pw (a.2 0) 255) n)
def op_inverse (S : kSt) (a n c : Int32) : Int32 × kSt := if ¬ isR a ∨ ¬ isR c then (-1, S) else if ¬ (1 ≤ n ∧ n ≤ 64) then (-2, S) else if (S.1 (rgN a)).2 0 = 0 then (-5, S) else (dV (dg (invR (S.1 (rgN a)) (rgN n)).2 (rgN n)), chgS S (rgN c) (invR (S.1 (rgN a)) (rgN n)))
def rD (a : kR) : Nat := dg a.2 a.1
def quo (a b : kR) : kR := quoR a.2 b.2 (rD a) (rD b - 1)
def res (a b : kR) : kR := resR a.2 b.2 (rD a) (rD b - 1)
def op_divide (S : kSt) (a b c d : Int32) : Int32 × kSt := if ¬ isR a ∨ ¬ isR b ∨ ¬ isR c ∨ ¬ isR d then (-1, S) else if c = d then (-2, S) else if rD (S.1 (rgN b)) = 0 then (-5, S) else (dV (rD (res (S.1 (rgN a)) (S.1 (rgN b)))), setS (chgS S (rgN c) (quo (S.1 (rgN a)) (S.1 (rgN b)))) (rgN d) (res (S.1 (rgN a)) (S.1 (rgN b))))
def op_divisor (S : kSt) (a b c : Int32) : Int32 × kSt := if ¬ isR a ∨ ¬ isR b ∨ ¬ isR c then (-1, S) else if rD (S.1 (rgN a)) = 0 ∧ rD (S.1 (rgN b)) = 0 then (-5, S) else (dV (rD (gcdR (S.1 (rgN a)) (S.1 (rgN b)))), chgS S (rgN c) (gcdR (S.1 (rgN a)) (S.1 (rgN b))))
def turR (a : kR) (n : Nat) : kR := (n, tur a (tpt n) n)
def op_turn (S : kSt) (a n c : Int32) : Int32 × kSt := if ¬ isR a ∨ ¬ isR c then (-1, S) else if isZ n = false then (-2, S) else if rgN n < (S.1 (rgN a)).1 then (-5, S) else (nI (cq (turR (S.1 (rgN a)) (rgN n)).2 (rgN n)), chgS S (rgN c) (turR (S.1 (rgN a)) (rgN n)))
def op_turnBack (S : kSt) (a c : Int32) : Int32 × kSt := if ¬ isR a ∨ ¬ isR c then (-1, S) else if isZ (nI (S.1 (rgN a)).1) = false then (-5, S) else (dV (rD (trbR (S.1 (rgN a)))), chgS S (rgN c) (trbR (S.1 (rgN a))))
def op_number (S : kSt) (r p : Int32) : Int32 × kSt := if ¬ isR r ∨ ¬ (0 ≤ p ∧ p < nI (S.1 (rgN r)).1) then (-1, S) else (nI ((S.1 (rgN r)).2 (rgN p)), S)
def op_of (S : kSt) (r w : Int32) : Int32 × kSt := if ¬ isR r then (-1, S) else if w = 0 then (nI (S.1 (rgN r)).1, S) else if w = 1 then (dV (rD (S.1 (rgN r))), S) else if w = 2 then (nI (cn (S.1 (rgN r)).2 (S.1 (rgN r)).1), S) else if w = 3 then (nI (sm (S.1 (rgN r)).2 (S.1 (rgN r)).1), S) else if w = 4 then (nI (cq (vx (S.1 (rgN r))) 257), S) else if w = 5 then (fz (vx (S.1 (rgN r))) 0 257, S) else (-2, S)
def op_value (S : kSt) (r x : Int32) : Int32 × kSt := if ¬ isR r then (-1, S) else if ¬ isN x then (-2, S) else (nI (vx (S.1 (rgN r)) (rgN x)), S)
def op_turningPoint (S : kSt) (n p : Int32) : Int32 × kSt := if isZ n = false ∨ ¬ (0 ≤ p ∧ p ≤ 1000) then (-2, S) else (nI (pw (tpt (rgN n)) (rgN p)), S)
def op_count (S : kSt) (w : Int32) : Int32 × kSt := if w = 0 then (nI (ln6 S.1 0), S) else if w = 1 then (nI S.2.2.2.2.2.1, S) else if w = 2 then (nI S.2.2.1, S) else (-2, S)
def fitB (a b : kR) (p : Nat) : Bool := fitA b.2 a.2 p b.1
/-- the places below n, as a set -/
def fl (P : Nat → Bool) : Nat → Nat
  | 0 => 0
  | n + 1 => fl P n ||| (if P n = true then 2 ^ n else 0)
def op_fits (S : kSt) (a b : Int32) : Int64 × kSt := if ¬ isR a ∨ ¬ isR b then (-1, S) else if (S.1 (rgN a)).1 < (S.1 (rgN b)).1 then (-5, S) else (lN (fl (fitB (S.1 (rgN a)) (S.1 (rgN b))) (min ((S.1 (rgN a)).1 - (S.1 (rgN b)).1 + 1) 60)), S)
def op_sum (S : kSt) (a b p : Int32) : Int32 × kSt := if ¬ isR a ∨ ¬ isR b then (-1, S) else if (S.1 (rgN a)).1 < (S.1 (rgN b)).1 then (-5, S) else if ¬ (0 ≤ p ∧ p < nI ((S.1 (rgN a)).1 - (S.1 (rgN b)).1 + 1)) then (-2, S) else (nI (sumS (S.1 (rgN b)).2 (S.1 (rgN a)).2 (rgN p) (S.1 (rgN b)).1), S)
def op_found (S : kSt) (a b w : Int32) : Int32 × kSt := if ¬ isR a ∨ ¬ isR b then (-1, S) else if (S.1 (rgN a)).1 < (S.1 (rgN b)).1 then (-5, S) else
  if w = 0 then (nI (cb (fitB (S.1 (rgN a)) (S.1 (rgN b))) ((S.1 (rgN a)).1 - (S.1 (rgN b)).1 + 1)), S)
  else if w = 1 then (nI (cb (isF (S.1 (rgN b)).2 (S.1 (rgN a)).2 (S.1 (rgN b)).1) ((S.1 (rgN a)).1 - (S.1 (rgN b)).1 + 1)), S)
  else if w = 2 then (fb (isF (S.1 (rgN b)).2 (S.1 (rgN a)).2 (S.1 (rgN b)).1) 0 ((S.1 (rgN a)).1 - (S.1 (rgN b)).1 + 1), S)
  else if w = 3 then (nI (mxS (fun pl => sumS (S.1 (rgN b)).2 (S.1 (rgN a)).2 pl (S.1 (rgN b)).1) ((S.1 (rgN a)).1 - (S.1 (rgN b)).1 + 1)), S)
  else (-2, S)
/-- n characters of u are put behind the first p: j of them are there -/
def app (f : Nat → Nat) (p u n : Nat) : Nat → (Nat → Nat)
  | 0 => f
  | j + 1 => va_up (app f p u n j) (p + j) (u / 2 ^ (8 * (n - 1 - j)) % 256)
def op_put (S : kSt) (u : Nat) : Int32 × kSt := if chr 8 0 u = 0 then (-2, S) else if 80 < S.2.2.2.2.2.1 + chr 8 0 u then (-4, S) else (nI (S.2.2.2.2.2.1 + chr 8 0 u), padS S (S.2.2.2.2.2.1 + chr 8 0 u) (app S.2.2.2.2.2.2 S.2.2.2.2.2.1 u (chr 8 0 u) (chr 8 0 u)))
def op_wipe (S : kSt) : Int32 × kSt := (nI S.2.2.2.2.2.1, padS S 0 S.2.2.2.2.2.2)
def op_fault (S : kSt) : Int32 × kSt := ((psA S.2.2.2.2.2.2 S.2.2.2.2.2.1).1, S)
def op_undo (S : kSt) : Int32 × kSt := if S.2.2.1 = 0 then (-5, S) else (nI (S.2.2.1 - 1), (S.2.1 (S.2.2.1 - 1), S.2.1, S.2.2.1 - 1, S.2.2.2))
def op_save (S : kSt) (t : Int32) : Int32 × kSt := if ¬ (0 ≤ t ∧ t < 2) then (-2, S) else (nI (ln6 S.1 0), (S.1, S.2.1, S.2.2.1, va_up S.2.2.2.1 (rgN t) S.1, va_up S.2.2.2.2.1 (rgN t) 1, S.2.2.2.2.2))
def op_restore (S : kSt) (t : Int32) : Int32 × kSt := if ¬ (0 ≤ t ∧ t < 2) then (-2, S) else if S.2.2.2.2.1 (rgN t) = 0 then (-5, S) else (nI (ln6 (S.2.2.2.1 (rgN t)) 0), (S.2.2.2.1 (rgN t), (recS S).2))
/-! helpers -/
theorem isR_nI {j : Nat} (h : j < 6) : isR (nI j) := kin_nI h (by decide)
theorem isN_nI {j : Nat} (h : j < 257) : isN (nI j) := kin_nI h (by decide)
theorem rgN_nI {j : Nat} (h : j < 2 ^ 31) : rgN (nI j) = j := nI_clamp h
theorem kin0 {r : Int32} {n : Nat} (hn : n < 2 ^ 31) (h1 : ¬ r < 0) (h2 : ¬ nI n ≤ r) : ∃ k, k < n ∧ r = nI k := by
  rcases kin_cases r n hn with q | q
  · exact absurd ⟨Int32.not_lt.mp h1, Int32.not_le.mp h2⟩ q
  · exact q
theorem kin0' {r : Int32} {n : Nat} (hn : n < 2 ^ 30) (h1 : ¬ r < 0) (h2 : ¬ nI n < r) : ∃ k, k ≤ n ∧ r = nI k := by
  rcases kin_cases r (n + 1) (by omega) with q | ⟨k, hk, e⟩
  · exact absurd ⟨Int32.not_lt.mp h1, Int32.lt_of_le_of_lt (Int32.not_lt.mp h2) (nI_lt (by omega) (by omega))⟩ q
  · exact ⟨k, by omega, e⟩
theorem kin1 {r : Int32} {n : Nat} (hn : n < 2 ^ 30) (h1 : ¬ r < nI 1) (h2 : ¬ nI n < r) : ∃ k, 1 ≤ k ∧ k ≤ n ∧ r = nI k := by
  obtain ⟨k, hk, e⟩ := kin0' hn (fun z => h1 (Int32.lt_of_lt_of_le z (by decide))) h2
  refine ⟨k, ?_, hk, e⟩
  rcases Nat.eq_zero_or_pos k with q | q
  · subst q; rw [e] at h1; exact absurd (by decide) h1
  · exact q
theorem kin1_nI {k n : Nat} (h1 : 1 ≤ k) (h2 : k ≤ n) (hn : n < 2 ^ 31) : nI 1 ≤ nI k ∧ nI k ≤ nI n := ⟨nI_le h1 (by omega), nI_le h2 hn⟩
theorem kin0_nI {k n : Nat} (h2 : k ≤ n) (hn : n < 2 ^ 31) : 0 ≤ nI k ∧ nI k ≤ nI n := ⟨nI_pos' (by omega), nI_le h2 hn⟩
theorem isZ_cases {r : Int32} (h : isZ r = true) : ∃ k, 1 ≤ k ∧ k ≤ 64 ∧ r = nI k := by
  by_cases q : r < nI 1
  · rw [isZ_lo q] at h; cases h
  · by_cases q2 : nI 64 < r
    · rw [isZ_hi q2] at h; cases h
    · exact kin1 (by decide) q q2
