/-! ===== lN n to 2^64: shifts, and, or, masks, one bit ===== -/
theorem wb_tb (n : Nat) : (lN n).toBitVec = BitVec.ofNat 64 n := rfl
theorem wb_inj {a b : Int64} (h : a.toBitVec = b.toBitVec) : a = b := Int64.toBitVec_inj.mp h
theorem wb_tn {n : Nat} (h : n < 2 ^ 64) : (lN n).toBitVec.toNat = n := by rw [wb_tb, BitVec.toNat_ofNat, Nat.mod_eq_of_lt h]
theorem wb_of (x : Int64) : ∃ n, n < 2 ^ 64 ∧ x = lN n := ⟨x.toBitVec.toNat, x.toBitVec.isLt, wb_inj (by rw [wb_tb]; simp)⟩
theorem wb_of32 (x : Int32) : ∃ n, n < 2 ^ 32 ∧ x = nI n := ⟨x.toBitVec.toNat, x.toBitVec.isLt, Int32.toBitVec_inj.mp (by show _ = BitVec.ofNat 32 _; simp)⟩
theorem wb_c : ∀ k, k < 64 → ((nI k).toInt64 &&& 63) = lN k := by decide +kernel
theorem wb_cu : ∀ k, k < 64 → ((nI k).toInt64.toUInt64 &&& Int64.toUInt64 63) = UInt64.ofNat k := by decide +kernel
theorem wb_sm : ∀ k, k < 64 → (BitVec.ofNat 64 k).smod 64 = BitVec.ofNat 64 k := by decide +kernel
theorem wb_pw {a b : Nat} (h : a ≤ b) : 2 ^ b = 2 ^ a * 2 ^ (b - a) := by rw [← Nat.pow_add]; congr 1; omega
theorem wb_lt2 {a b : Nat} (h : a < b) : 2 ^ a < 2 ^ b := Nat.pow_lt_pow_right (by decide) h
theorem wb_mod (n : Nat) : lN n = lN (n % 2 ^ 64) := wb_inj (by rw [wb_tb, wb_tb]; apply BitVec.eq_of_toNat_eq; rw [BitVec.toNat_ofNat, BitVec.toNat_ofNat, Nat.mod_mod])
theorem wb_shr {n k : Nat} (hn : n < 2 ^ 64) (hk : k < 64) : ((lN n).toUInt64 >>> ((nI k).toInt64.toUInt64 &&& Int64.toUInt64 63)).toInt64 = lN (n / 2 ^ k) := by
  rw [wb_cu k hk]
  apply wb_inj
  apply BitVec.eq_of_toNat_eq
  show ((lN n).toUInt64 >>> UInt64.ofNat k).toNat = (BitVec.ofNat 64 _).toNat
  have h1 : (UInt64.ofNat k).toNat = k := by
    show (BitVec.ofNat 64 k).toNat = k
    rw [BitVec.toNat_ofNat, Nat.mod_eq_of_lt (by omega)]
  have h2 : (lN n).toUInt64.toNat = n := wb_tn hn
  rw [UInt64.toNat_shiftRight, h1, h2, Nat.mod_eq_of_lt hk, Nat.shiftRight_eq_div_pow, BitVec.toNat_ofNat, Nat.mod_eq_of_lt (Nat.lt_of_le_of_lt (Nat.div_le_self _ _) hn)]
theorem wb_shl (n : Nat) {k : Nat} (hk : k < 64) : lN n <<< ((nI k).toInt64 &&& 63) = lN (n * 2 ^ k) := by
  rw [wb_c k hk]
  apply wb_inj
  rw [Int64.toBitVec_shiftLeft, wb_tb, wb_tb, wb_tb, wb_sm k hk]
  apply BitVec.eq_of_toNat_eq
  rw [BitVec.shiftLeft_eq', BitVec.toNat_shiftLeft, BitVec.toNat_ofNat, BitVec.toNat_ofNat, BitVec.toNat_ofNat, Nat.mod_eq_of_lt (show k < 2 ^ 64 by omega), Nat.shiftLeft_eq, Nat.mul_mod, Nat.mod_mod, ← Nat.mul_mod]
theorem wb_and {a b : Nat} (ha : a < 2 ^ 64) (hb : b < 2 ^ 64) : lN a &&& lN b = lN (a &&& b) := by
  apply wb_inj
  rw [Int64.toBitVec_and, wb_tb, wb_tb, wb_tb]
  apply BitVec.eq_of_toNat_eq
  rw [BitVec.toNat_and, BitVec.toNat_ofNat, BitVec.toNat_ofNat, BitVec.toNat_ofNat, Nat.mod_eq_of_lt ha, Nat.mod_eq_of_lt hb, Nat.mod_eq_of_lt (Nat.and_lt_two_pow _ hb)]
theorem wb_or {a b : Nat} (ha : a < 2 ^ 64) (hb : b < 2 ^ 64) : lN a ||| lN b = lN (a ||| b) := by
  apply wb_inj
  rw [Int64.toBitVec_or, wb_tb, wb_tb, wb_tb]
  apply BitVec.eq_of_toNat_eq
  rw [BitVec.toNat_or, BitVec.toNat_ofNat, BitVec.toNat_ofNat, BitVec.toNat_ofNat, Nat.mod_eq_of_lt ha, Nat.mod_eq_of_lt hb, Nat.mod_eq_of_lt (Nat.or_lt_two_pow ha hb)]
theorem wb_mask {n k : Nat} (hn : n < 2 ^ 64) (hk : k < 64) : lN n &&& lN (2 ^ k - 1) = lN (n % 2 ^ k) := by
  rw [wb_and hn (by have := wb_lt2 hk; omega), Nat.and_two_pow_sub_one_eq_mod]
theorem wb_a1 {n : Nat} (hn : n < 2 ^ 64) : lN n &&& 1 = lN (n % 2) := wb_mask (k := 1) hn (by decide)
theorem lg_eq0 (x y : Int64) : lg_cmp x y = 0 ↔ x = y := by
  unfold lg_cmp
  by_cases h : x > y
  · rw [if_pos h]
    exact ⟨fun q => absurd q (by decide), fun q => by rw [q] at h; exact absurd h (Int64.lt_irrefl)⟩
  · rw [if_neg h]
    by_cases q : x = y
    · rw [if_pos q]; exact ⟨fun _ => q, fun _ => rfl⟩
    · rw [if_neg q]; exact ⟨fun r => absurd r (by decide), fun r => absurd r q⟩
theorem lN_eq0 {n : Nat} (h : n < 2 ^ 64) : lN n = lN 0 ↔ n = 0 := by
  constructor
  · intro q
    have h1 : (lN n).toBitVec.toNat = (lN 0).toBitVec.toNat := by rw [q]
    rw [wb_tn h, wb_tn (by decide)] at h1
    exact h1
  · intro q; rw [q]
theorem lN_ushr8 {n : Nat} (h : n < 2 ^ 64) : ((lN n).toUInt64 >>> ((nI 8).toInt64.toUInt64 &&& Int64.toUInt64 63)).toInt64 = lN (n / 256) := wb_shr (k := 8) h (by decide)
theorem lN_and255 {n : Nat} (h : n < 2 ^ 64) : (lN n &&& 255) = lN (n % 256) := wb_mask (k := 8) h (by decide)
theorem lN_toI (n : Nat) : (lN n).toInt32 = nI n := lN_i n
/-- how many of the first n hold -/
def cb (P : Nat → Bool) : Nat → Nat
  | 0 => 0
  | n + 1 => cb P n + (if P n = true then 1 else 0)
theorem cb_t {P : Nat → Bool} {n : Nat} (h : P n = true) : cb P (n + 1) = cb P n + 1 := by
  show cb P n + (if P n = true then 1 else 0) = _
  rw [if_pos h]
theorem cb_f {P : Nat → Bool} {n : Nat} (h : P n = false) : cb P (n + 1) = cb P n := by
  show cb P n + (if P n = true then 1 else 0) = _
  rw [h]; rfl
theorem cb_le (P : Nat → Bool) (n : Nat) : cb P n ≤ n := by
  induction n with
  | zero => exact Nat.le_refl _
  | succ n ih => unfold cb; split <;> omega
/-- the first that holds, from k on among m -/
def fb (P : Nat → Bool) (k : Nat) : Nat → Int32
  | 0 => -6
  | m + 1 => if P k = true then nI k else fb P (k + 1) m
theorem fb_t {P : Nat → Bool} {k m : Nat} (h : P k = true) : fb P k (m + 1) = nI k := by
  show (if P k = true then nI k else fb P (k + 1) m) = _
  rw [if_pos h]
theorem fb_f {P : Nat → Bool} {k m : Nat} (h : P k = false) : fb P k (m + 1) = fb P (k + 1) m := by
  show (if P k = true then nI k else fb P (k + 1) m) = _
  rw [h]; rfl
def mxS (g : Nat → Nat) : Nat → Nat
  | 0 => 0
  | n + 1 => max (mxS g n) (g n)
theorem mxS_lt {g : Nat → Nat} (h : ∀ k, g k < 257) (n : Nat) : mxS g n < 257 := by
  induction n with
  | zero => exact (by decide : 0 < 257)
  | succ n ih => unfold mxS; have := h n; omega
def isF (f g : Nat → Nat) (n pl : Nat) : Bool := decide (sumS f g pl n = 0) && !fitA f g pl n
/-- how many places there are, told as an int -/
def cpV (la lb : Nat) : Int32 := nI la - nI lb + nI 1
theorem cpV_ok {la lb : Nat} (h : lb ≤ la) : cpV la lb = nI (la - lb + 1) := by
  unfold cpV
  rw [pk_sub h, nI_add]
theorem cpV_toInt {la lb : Nat} (ha : la ≤ 64) (hb : lb ≤ 64) : (cpV la lb).toInt = (la : Int) - lb + 1 := by
  unfold cpV
  rw [Int32.toInt_add, nI_sub_toInt (by omega) (by omega), nI_toInt (by decide), bm (by omega) (by omega)]
  rfl
theorem cpV_lt {la lb : Nat} (ha : la ≤ 64) (hb : lb ≤ 64) : cpV la lb < nI 1 ↔ la < lb := by
  rw [Int32.lt_iff_toInt_lt, cpV_toInt ha hb, nI_toInt (by decide)]
  omega
/-- the characters of a number: k and how many there are, 0 if one of them is none -/
def chr : Nat → Nat → Nat → Nat
  | 0, k, _ => k
  | fu + 1, k, n => if n = 0 then k else if 33 ≤ n % 256 ∧ n % 256 ≤ 126 then chr fu (k + 1) (n / 256) else 0
theorem chr_0 (fu k : Nat) : chr fu k 0 = k := by
  cases fu with
  | zero => rfl
  | succ fu => show (if 0 = 0 then k else _) = k; rw [if_pos rfl]
theorem chr_bad {fu k n : Nat} (h0 : n ≠ 0) (h : ¬ (33 ≤ n % 256 ∧ n % 256 ≤ 126)) : chr (fu + 1) k n = 0 := by
  show (if n = 0 then k else if 33 ≤ n % 256 ∧ n % 256 ≤ 126 then chr fu (k + 1) (n / 256) else 0) = 0
  rw [if_neg h0, if_neg h]
theorem chr_ok {fu k n : Nat} (h0 : n ≠ 0) (h : 33 ≤ n % 256 ∧ n % 256 ≤ 126) : chr (fu + 1) k n = chr fu (k + 1) (n / 256) := by
  show (if n = 0 then k else if 33 ≤ n % 256 ∧ n % 256 ≤ 126 then chr fu (k + 1) (n / 256) else 0) = _
  rw [if_neg h0, if_pos h]
/-- the inverse of a row: what is summed, and the numbers one by one -/
def conv (f g : Nat → Nat) (k : Nat) : Nat → Nat
  | 0 => 0
  | j + 1 => conv f g k j + f (j + 1) * g (k - (j + 1))
theorem conv_le {f g : Nat → Nat} {k : Nat} (hf : ∀ i, f i < 257) (hg : ∀ i, g i < 257) (j : Nat) : conv f g k j ≤ 65536 * j := by
  induction j with
  | zero => exact Nat.le_refl _
  | succ j ih => unfold conv; have := mul_lt_257 (hf (j + 1)) (hg (k - (j + 1))); omega
/-- minus a product, modulo 257 -/
def ngm (a b : Nat) : Nat := kmod (-(a : Int) * b)
theorem ngm_e {a b : Nat} (ha : a < 257) (hb : b < 257) : kmod (-nI a * nI b).toInt = ngm a b := by
  have hm := mul_lt_257 ha hb
  have h1 : ((a : Int) * b) = ((a * b : Nat) : Int) := (Int.natCast_mul a b).symm
  have e1 : (-nI a).toInt = -(a : Int) := by rw [Int32.toInt_neg, nI_toInt (by omega), bm (by omega) (by omega)]
  have e2 : (-nI a * nI b).toInt = -(a : Int) * b := by
    rw [Int32.toInt_mul, e1, nI_toInt (by omega), Int.neg_mul, h1, bm (by omega) (by omega)]
  rw [e2]; rfl
def inv (f : Nat → Nat) (w : Nat) : Nat → (Nat → Nat)
  | 0 => fun _ => 0
  | k + 1 => va_up (inv f w k) k (if k = 0 then w else ngm (conv f (inv f w k) k k % 257) w)
theorem inv_lt {f : Nat → Nat} {w : Nat} (hw : w < 257) : ∀ n k, inv f w n k < 257 := by
  intro n
  induction n with
  | zero => intro k; exact (by decide : 0 < 257)
  | succ n ih =>
    intro k
    unfold inv
    by_cases h : k = n
    · rw [h, va_up_self]; split; exact hw; exact kmod_lt _
    · rw [va_up_ne _ _ h]; exact ih k
/-- x less a product, modulo 257 -/
def sbm (x y : Nat) : Nat := kmod ((x : Int) - y)
theorem sbm_lt (x y : Nat) : sbm x y < 257 := kmod_lt _
theorem sbm_e {x y : Nat} (hx : x < 257) (hy : y ≤ 65536) : kmod (nI x - nI y).toInt = sbm x y := by
  rw [nI_sub_toInt (by omega) (by omega)]; rfl
/-- division: c times fb, taken off from j on; then all places -/
def dvI (c : Nat) (f : Nat → Nat) (j : Nat) (g : Nat → Nat) : Nat → (Nat → Nat)
  | 0 => g
  | i + 1 => va_up (dvI c f j g i) (j + i) (sbm (dvI c f j g i (j + i)) (c * f i))
def dvO (f : Nat → Nat) (d w : Nat) : Nat → (Nat → Nat) × (Nat → Nat) → (Nat → Nat) × (Nat → Nat)
  | 0, u => u
  | t + 1, u => dvO f d w t (va_up u.1 t (u.2 (t + d) * w % 257), dvI (u.2 (t + d) * w % 257) f t u.2 (d + 1))
theorem dvI_lt {c : Nat} {f : Nat → Nat} {j : Nat} {g : Nat → Nat} (hg : ∀ k, g k < 257) : ∀ i k, dvI c f j g i k < 257 := by
  intro i
  induction i with
  | zero => exact hg
  | succ i ih =>
    intro k
    unfold dvI
    by_cases h : k = j + i
    · rw [h, va_up_self]; exact sbm_lt _ _
    · rw [va_up_ne _ _ h]; exact ih k
/-- quotient and rest: D the dividend's degree and 1, d the divisor's degree -/
def dvd (fa fb : Nat → Nat) (D d : Nat) : (Nat → Nat) × (Nat → Nat) := dvO fb d (pw (fb d) 255) (D - d) (fun _ => 0, fa)
def quoR (fa fb : Nat → Nat) (D d : Nat) : kR := (max (D - d) 1, (dvd fa fb D d).1)
def resR (fa fb : Nat → Nat) (D d : Nat) : kR := (max d 1, zfrom (dvd fa fb D d).2 (max d 1))
def dvl (D d : Nat) : Int32 := dV D - nI d
theorem dvl_toInt {D d : Nat} (hD : D ≤ 64) (hd : d < 64) : (dvl D d).toInt = (if D = 0 then -6 else (D : Int) - 1) - d := by
  unfold dvl dV
  rw [Int32.toInt_sub, nI_toInt (by omega)]
  by_cases h : D = 0
  · rw [if_pos h, if_pos h, show (-6 : Int32).toInt = -6 by decide, bm (by omega) (by omega)]
  · rw [if_neg h, if_neg h, nI_toInt (by omega), bm (by omega) (by omega)]
    omega
theorem dvl_neg {D d : Nat} (hD : D ≤ 64) (hd : d < 64) (h : D ≤ d) : dvl D d < 0 := by
  rw [Int32.lt_iff_toInt_lt, dvl_toInt hD hd, show (0 : Int32).toInt = 0 by decide]
  split <;> omega
theorem dvl_pos {D d : Nat} (hD : D ≤ 64) (h : d < D) : dvl D d = nI (D - d) - 1 := by
  obtain ⟨k, hk⟩ : ∃ k, D - d = k + 1 := ⟨D - d - 1, by omega⟩
  rw [hk, nI_pred]
  apply Int32.toInt_inj.mp
  rw [dvl_toInt hD (by omega), nI_toInt (by omega), if_neg (by omega)]
  omega
theorem dvl_max {D d : Nat} (hD : D ≤ 64) (hd : d < 64) : (if dvl D d < nI 0 then nI 0 else dvl D d) + nI 1 = nI (max (D - d) 1) := by
  by_cases h : D ≤ d
  · have hn : dvl D d < nI 0 := dvl_neg hD hd h
    rw [if_pos hn, nI_add, show max (D - d) 1 = 0 + 1 by omega]
  · have h0 : ¬ dvl D d < nI 0 := by
      rw [Int32.lt_iff_toInt_lt, dvl_toInt hD hd, nI_toInt (by decide), if_neg (by omega)]
      omega
    rw [if_neg h0, dvl_pos hD (by omega)]
    obtain ⟨k, hk⟩ : ∃ k, D - d = k + 1 := ⟨D - d - 1, by omega⟩
    rw [hk, nI_pred, nI_add, show max (k + 1) 1 = k + 1 by omega]
