theorem isR_iff {r : Int32} : (nI 0 ≤ r ∧ r ≤ nI 5) ↔ isR r := by
  show (nI 0 ≤ r ∧ r ≤ nI 5) ↔ (0 ≤ r ∧ r < 6)
  rw [Int32.le_iff_toInt_le, Int32.le_iff_toInt_le, Int32.le_iff_toInt_le, Int32.lt_iff_toInt_lt]
  have e0 : (nI 0).toInt = 0 := by decide
  have e5 : (nI 5).toInt = 5 := by decide
  have f0 : (0 : Int32).toInt = 0 := by decide
  have f6 : (6 : Int32).toInt = 6 := by decide
  rw [e0, e5, f0, f6]
  omega
theorem isN_iff {r : Int32} : (nI 0 ≤ r ∧ r ≤ nI 256) ↔ isN r := by
  show (nI 0 ≤ r ∧ r ≤ nI 256) ↔ (0 ≤ r ∧ r < 257)
  rw [Int32.le_iff_toInt_le, Int32.le_iff_toInt_le, Int32.le_iff_toInt_le, Int32.lt_iff_toInt_lt]
  have e0 : (nI 0).toInt = 0 := by decide
  have e5 : (nI 256).toInt = 256 := by decide
  have f0 : (0 : Int32).toInt = 0 := by decide
  have f6 : (257 : Int32).toInt = 257 := by decide
  rw [e0, e5, f0, f6]
  omega
/-- the reference's working rows -/
def bla (v : kV) (n : Nat) : kV := pou (pln v n) (fun _ => 0)
def stK (z : Nat → Nat) (r ln : Nat) (ou : Nat → Nat) (k : Nat) : Nat → Nat := fun j => if j = 65 * r then ln else if 65 * r + 1 ≤ j ∧ j < 65 * r + 1 + k then (if j - (65 * r + 1) < ln then ou (j - (65 * r + 1)) else 0) else z j
def sto (v : kV) (r : Nat) : kV := pz v (stK (vz v) r (vln v) (vou v) 64)
theorem stK_0 (z : Nat → Nat) (r ln : Nat) (ou : Nat → Nat) : va_up z (65 * r) ln = stK z r ln ou 0 := by
  funext j
  unfold stK
  by_cases h : j = 65 * r
  · rw [h, va_up_self, if_pos rfl]
  · rw [va_up_ne _ _ h, if_neg h, if_neg (by omega)]
theorem stK_s {z : Nat → Nat} {r ln : Nat} {ou : Nat → Nat} {k q : Nat} (h : q = if k < ln then ou k else 0) : va_up (stK z r ln ou k) (65 * r + 1 + k) q = stK z r ln ou (k + 1) := by
  funext j
  by_cases hj : j = 65 * r + 1 + k
  · rw [hj, va_up_self]
    unfold stK
    rw [if_neg (by omega), if_pos (by omega), show 65 * r + 1 + k - (65 * r + 1) = k by omega]
    exact h
  · rw [va_up_ne _ _ hj]
    unfold stK
    by_cases h0 : j = 65 * r
    · rw [if_pos h0, if_pos h0]
    · rw [if_neg h0, if_neg h0]
      by_cases h1 : 65 * r + 1 ≤ j ∧ j < 65 * r + 1 + k
      · have h2 : 65 * r + 1 ≤ j ∧ j < 65 * r + 1 + (k + 1) := by omega
        rw [if_pos h1, if_pos h2]
      · have h2 : ¬ (65 * r + 1 ≤ j ∧ j < 65 * r + 1 + (k + 1)) := by omega
        rw [if_neg h1, if_neg h2]
/-- recording: the past moved down, the state behind it -/
def shK (f : Nat → Nat) (k : Nat) : Nat → Nat := fun j => if j < k then f (j + 390) else f j
theorem shK_0 (f : Nat → Nat) : shK f 0 = f := by funext j; simp [shK]
theorem shK_r (f : Nat → Nat) (k : Nat) : shK f k (k + 390) = f (k + 390) := by unfold shK; rw [if_neg (by omega)]
theorem shK_s (f : Nat → Nat) (k : Nat) : va_up (shK f k) k (f (k + 390)) = shK f (k + 1) := by
  funext j
  unfold shK
  by_cases h : j = k
  · rw [h, va_up_self, if_pos (by omega)]
  · rw [va_up_ne _ _ h]
    by_cases q : j < k
    · rw [if_pos q, if_pos (by omega)]
    · rw [if_neg q, if_neg (by omega)]
/-- k numbers of z put from b on -/
def cpK (f z : Nat → Nat) (b k : Nat) : Nat → Nat := fun j => if b ≤ j ∧ j < b + k then z (j - b) else f j
theorem cpK_0 (f z : Nat → Nat) (b : Nat) : cpK f z b 0 = f := by funext j; unfold cpK; rw [if_neg (by omega)]
theorem cpK_s (f z : Nat → Nat) (b k : Nat) : va_up (cpK f z b k) (b + k) (z k) = cpK f z b (k + 1) := by
  funext j
  unfold cpK
  by_cases h : j = b + k
  · rw [h, va_up_self, if_pos (by omega), show b + k - b = k by omega]
  · rw [va_up_ne _ _ h]
    by_cases q : b ≤ j ∧ j < b + k
    · rw [if_pos q, if_pos (by omega)]
    · rw [if_neg q, if_neg (by omega)]
def recP (v : kV) : Nat → Nat := if vpm v = 6 then shK (vpa v) 1950 else vpa v
def recN (v : kV) : Nat := if vpm v = 6 then 5 else vpm v
def recV (v : kV) : kV := ppm (ppa v (cpK (recP v) (vz v) (recN v * 390) 390)) (recN v + 1)
theorem mReg.at0 {R : Nat → kR} {v : kV} (h : mReg R v) {r : Nat} (hr : r < 6) : vz v (65 * r) = (R r).1 := (h r hr).1
theorem mReg.O {R : Nat → kR} {v : kV} (h : mReg R v) {r : Nat} (hr : r < 6) : rO (R r) := (h r hr).2.1
theorem mReg.at1 {R : Nat → kR} {v : kV} (h : mReg R v) {r k : Nat} (hr : r < 6) (hk : k < 64) : vz v (65 * r + 1 + k) = (R r).2 k := (h r hr).2.2 k hk
def plc (la lb : Nat) : Nat := la + 1 - lb
theorem plc_ge {la lb : Nat} (ha : la ≤ 64) (hb : lb ≤ 64) (h : 0 ≤ cpV la lb) : cpV la lb = nI (plc la lb) := by
  apply Int32.toInt_inj.mp
  have h1 := Int32.le_iff_toInt_le.mp h
  have e0 : (0 : Int32).toInt = 0 := by decide
  rw [cpV_toInt ha hb, e0] at h1
  rw [cpV_toInt ha hb, nI_toInt (by unfold plc; omega)]
  unfold plc
  omega
theorem plc_lt {la lb : Nat} (ha : la ≤ 64) (hb : lb ≤ 64) (h : ¬ 0 ≤ cpV la lb) : plc la lb = 0 := by
  have h1 : ¬ (0 : Int32).toInt ≤ (cpV la lb).toInt := fun q => h (Int32.le_iff_toInt_le.mpr q)
  have e0 : (0 : Int32).toInt = 0 := by decide
  rw [cpV_toInt ha hb, e0] at h1
  unfold plc
  omega
/-- x less y, as the reference has it -/
def lss (x y : Nat) : Nat := (x + 257 - y) % 257
theorem lss_lt (x y : Nat) : lss x y < 257 := Nat.mod_lt _ (by decide)
theorem lss_sbm {x y : Nat} (hx : x < 257) : lss x (y % 257) = sbm x y := by
  unfold lss sbm kmod
  omega
theorem sqd_lss {x y : Nat} (hx : x < 257) (hy : y < 257) : lss x y * lss x y % 257 = sqd x y := by
  have e1 : ((lss x y : Nat) : Int) = ((x : Int) - y) % 257 := by
    unfold lss
    omega
  have e2 : ((lss x y * lss x y % 257 : Nat) : Int) = (((x : Int) - y) * ((x : Int) - y)) % 257 := by
    rw [Int.natCast_emod, Int.natCast_mul, e1]
    show ((x : Int) - y) % 257 * (((x : Int) - y) % 257) % 257 = _
    rw [← Int.mul_emod]
  unfold sqd kmod
  omega
theorem dg_step_z {f : Nat → Nat} {k : Nat} {t : Int32} (h : f k = 0) (ht : t = dV (dg f k)) : t = dV (dg f (k + 1)) := by rw [dg_zero f h]; exact ht
theorem dg_step_n {f : Nat → Nat} {k : Nat} (h : f k ≠ 0) : nI k = dV (dg f (k + 1)) := by rw [dg_nz f h, dV_s]
theorem cq_mono (g : Nat → Nat) {a b : Nat} (h : a ≤ b) : cq g a ≤ cq g b := by
  induction h with
  | refl => exact Nat.le_refl _
  | step _ ih => exact Nat.le_trans ih (Nat.le_add_right _ _)
theorem isZ_t {r q : Int32} (h : r = q) (hq : isZ q = true) : isZ r = true := by rw [h]; exact hq
