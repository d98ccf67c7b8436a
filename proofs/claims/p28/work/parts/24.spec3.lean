/-- a row's numbers are numbers, its length no more than 64 -/
def rK (r : kR) : Prop := r.1 ≤ 64 ∧ ∀ k, r.2 k < 257
/-- products: the first j numbers of f times c, put from i on, going round by s -/
def mulI (c : Nat) (f : Nat → Nat) (s i : Nat) (g : Nat → Nat) : Nat → (Nat → Nat)
  | 0 => g
  | j + 1 => va_up (mulI c f s i g j) ((i + j) % s) ((mulI c f s i g j ((i + j) % s) + c * f j) % 257)
def mulO (f1 f2 : Nat → Nat) (l2 s : Nat) : Nat → (Nat → Nat)
  | 0 => fun _ => 0
  | i + 1 => mulI (f1 i) f2 s i (mulO f1 f2 l2 s i) l2
theorem mulI_lt {c : Nat} {f : Nat → Nat} {s i : Nat} {g : Nat → Nat} (hg : ∀ k, g k < 257) : ∀ (j k : Nat), mulI c f s i g j k < 257 := by
  intro j
  induction j with
  | zero => exact hg
  | succ j ih =>
    intro k
    unfold mulI
    by_cases h : k = (i + j) % s
    · rw [h, va_up_self]; exact Nat.mod_lt _ (by decide)
    · rw [va_up_ne _ _ h]; exact ih k
theorem mulO_lt {f1 f2 : Nat → Nat} {l2 s : Nat} : ∀ (i k : Nat), mulO f1 f2 l2 s i k < 257 := by
  intro i
  induction i with
  | zero => intro k; exact (by decide : 0 < 257)
  | succ i ih => exact mulI_lt ih l2
def mulR (a b : kR) (s : Nat) : kR := (s, mulO a.2 b.2 b.1 s a.1)
theorem nI_p1mod {q s : Nat} (h0 : 0 < s) : (q % s + 1) % s = (q + 1) % s := by rw [Nat.mod_add_mod]
/-- a row's values at the powers of a point -/
def tur (r : kR) (p k : Nat) : Nat → Nat := fun j => if j < k then vx r (pw p j) else 0
theorem tur_0 (r : kR) (p : Nat) : tur r p 0 = fun _ => 0 := by funext j; simp [tur]
theorem tur_s (r : kR) (p k : Nat) : va_up (tur r p k) k (vx r (pw p k)) = tur r p (k + 1) := by
  funext j
  unfold tur
  by_cases h : j = k
  · subst h; rw [va_up_self, if_pos (by omega)]
  · rw [va_up_ne _ _ h]
    by_cases q : j < k
    · rw [if_pos q, if_pos (by omega)]
    · rw [if_neg q, if_neg (by omega)]
/-- searching -/
def fitP (f g : Nat → Nat) (p k : Nat) : Bool := decide (f k = 0) || decide (g (p + k) = 0) || decide (f k = g (p + k))
/-- the pattern f fits the text g at p, over its first n numbers -/
def fitA (f g : Nat → Nat) (p : Nat) : Nat → Bool
  | 0 => true
  | n + 1 => fitA f g p n && fitP f g p n
theorem fitA_miss {f g : Nat → Nat} {p k : Nat} (h : fitP f g p k = false) : ∀ n, k < n → fitA f g p n = false := by
  intro n
  induction n with
  | zero => intro h; omega
  | succ n ih =>
    intro hk
    unfold fitA
    by_cases q : k = n
    · rw [← q, h, Bool.and_false]
    · rw [ih (by omega), Bool.false_and]
theorem fitA_all {f g : Nat → Nat} {p n : Nat} (h : ∀ k, k < n → fitP f g p k = true) : fitA f g p n = true := by
  induction n with
  | zero => rfl
  | succ n ih => unfold fitA; rw [ih (fun k hk => h k (by omega)), h n (by omega)]; rfl
/-- (x - y) * (x - y), modulo 257 -/
def sqd (x y : Nat) : Nat := kmod (((x : Int) - y) * ((x : Int) - y))
def sumS (f g : Nat → Nat) (p : Nat) : Nat → Nat
  | 0 => 0
  | n + 1 => (sumS f g p n + f n * g (p + n) % 257 * sqd (f n) (g (p + n))) % 257
theorem sumS_lt (f g : Nat → Nat) (p n : Nat) : sumS f g p n < 257 := by
  cases n with
  | zero => exact (by decide : 0 < 257)
  | succ n => exact Nat.mod_lt _ (by decide)
theorem sqd_lt (x y : Nat) : sqd x y < 257 := kmod_lt _
theorem nI_sub_toInt {a b : Nat} (ha : a < 2 ^ 30) (hb : b < 2 ^ 30) : (nI a - nI b).toInt = (a : Int) - b := pk_sub_toInt ha hb
theorem sq_rem {x y : Nat} (hx : x < 257) (hy : y < 257) : (nI x - nI y) * (nI x - nI y) - (nI x - nI y) * (nI x - nI y) / nI 257 * nI 257 = nI (sqd x y) := by
  have h1 : (nI x - nI y).toInt = (x : Int) - y := nI_sub_toInt (by omega) (by omega)
  obtain ⟨d, hd⟩ : ∃ d : Nat, ((x : Int) - y) * ((x : Int) - y) = (d : Int) := ⟨(((x : Int) - y) * ((x : Int) - y)).toNat, by
    have : 0 ≤ ((x : Int) - y) * ((x : Int) - y) := by
      rcases Int.le_total 0 ((x : Int) - y) with q | q
      · exact Int.mul_nonneg q q
      · exact Int.mul_nonneg_of_nonpos_of_nonpos q q
    omega⟩
  have hdl : d ≤ 65536 := by
    have h2 : ((x : Int) - y).natAbs ≤ 256 := by omega
    have h3 : ((x : Int) - y).natAbs * ((x : Int) - y).natAbs ≤ 256 * 256 := Nat.mul_le_mul h2 h2
    have h4 : (((x : Int) - y).natAbs * ((x : Int) - y).natAbs : Int) = ((x : Int) - y) * ((x : Int) - y) := by
      rw [Int.natAbs_mul_self']
    generalize ((x : Int) - y).natAbs = n at h2 h3 h4
    have h5 : ((n * n : Nat) : Int) ≤ ((256 * 256 : Nat) : Int) := Int.ofNat_le.mpr h3
    rw [Int.natCast_mul, h4, hd] at h5
    omega
  have e : (nI x - nI y) * (nI x - nI y) = nI d := by
    apply Int32.toInt_inj.mp
    rw [Int32.toInt_mul, h1, hd, bm (by omega) (by omega), nI_toInt (by omega)]
  rw [e]
  have e2 : nI d - nI d / nI 257 * nI 257 = nI (d % 257) := pk_rem (by omega) (by omega) (by omega)
  rw [e2]
  unfold sqd kmod
  rw [hd]
  congr 1
