/-! TURNING AND BACK, INVERSES, SUMS THAT GO ROUND: what the law works out -/
theorem pz_mul (x y : F7) : ∀ n, pz (x * y) n = pz x n * pz y n := by
  intro n
  induction n with
  | zero => show (1 : F7) = 1 * 1; grind
  | succ n ih => rw [pz_s, pz_s, pz_s, ih]; grind
theorem pz_one : ∀ n, pz 1 n = 1 := by
  intro n
  induction n with
  | zero => rfl
  | succ n ih => rw [pz_s, ih]; grind
theorem pz_add (x : F7) (a : Nat) : ∀ b, pz x (a + b) = pz x a * pz x b := by
  intro b
  induction b with
  | zero => show pz x a = pz x a * 1; grind
  | succ b ih => rw [← Nat.add_assoc, pz_s, pz_s, ih]; grind
theorem pz_pz (x : F7) (a : Nat) : ∀ b, pz (pz x a) b = pz x (a * b) := by
  intro b
  induction b with
  | zero => rfl
  | succ b ih => rw [pz_s, ih, Nat.mul_succ, pz_add]
/-- geometric sums -/
def geo (q : F7) (n : Nat) : F7 := ev (fun _ => 1) q n
theorem geo_s (q : F7) (n : Nat) : geo q (n + 1) = geo q n + pz q n := by
  show ev _ q n + 1 * pz q n = _
  unfold geo
  grind
theorem geo_q (q : F7) : ∀ n, (q - 1) * geo q n = pz q n - 1 := by
  intro n
  induction n with
  | zero => show (q - 1) * 0 = 1 - 1; grind
  | succ n ih =>
    have e : (q - 1) * geo q (n + 1) = (q - 1) * geo q n + (q - 1) * pz q n := by rw [geo_s]; grind
    rw [e, ih, pz_s]
    grind
theorem geo_1 : ∀ n, geo 1 n = tF n := by
  intro n
  induction n with
  | zero => rfl
  | succ n ih => rw [geo_s, ih, pz_one, tF_add, tF_1]
theorem geo_0 {q : F7} {n : Nat} (h1 : q ≠ 1) (h : pz q n = 1) : geo q n = 0 := by
  have h2 := geo_q q n
  rw [h] at h2
  by_cases z : geo q n = 0
  · exact z
  · have h3 : q - 1 ≠ 0 := fun y => h1 (by have : q = (q - 1) + 1 := by grind
                                           rw [this, y]; grind)
    exact absurd (h2.trans (by grind)) (f_dom h3 z)
/-- the sizes -/
def isz (n : Nat) : Prop := n = 1 ∨ n = 2 ∨ n = 4 ∨ n = 8 ∨ n = 16 ∨ n = 32 ∨ n = 64
theorem isz_le {n : Nat} (h : isz n) : 1 ≤ n ∧ n ≤ 64 := by unfold isz at h; omega
theorem isz_Z {n : Nat} (h : isz n) : isZ (nI n) = true := by
  rcases h with rfl | rfl | rfl | rfl | rfl | rfl | rfl <;> decide
theorem isz_1 {n : Nat} (h : isz n) : pw (tpt n) n = 1 := by
  rcases h with rfl | rfl | rfl | rfl | rfl | rfl | rfl <;> decide +kernel
theorem isz_inj {n : Nat} (h : isz n) : ∀ i, i < n → ∀ k, k < n → pw (tpt n) i = pw (tpt n) k → i = k := by
  rcases h with rfl | rfl | rfl | rfl | rfl | rfl | rfl <;> decide +kernel
theorem isz_tp {n : Nat} (h : isz n) : tpt n ≠ 0 := by
  rcases h with rfl | rfl | rfl | rfl | rfl | rfl | rfl <;> decide +kernel
theorem isz_first {n k : Nat} (h : isz n) (h1 : k + 1 < n) : pw (tpt n) (k + 1) ≠ 1 := fun q => by
  have := isz_inj h (k + 1) h1 0 (by omega) (by rw [q, pw_0])
  omega
section DFT
variable {n : Nat} {a : kR}
/-- a row's values at the powers of w, valued at y: one coefficient after the other -/
theorem dft_sum (A : Nat → F7) (w y : F7) (n : Nat) : ∀ m, ev (fun j => ev A (pz w j) m) y n = ev (fun i => A i * geo (pz w i * y) n) 1 m := by
  intro m
  induction m with
  | zero => rw [ev_z y (f := fun j => ev A (pz w j) 0) (fun _ => rfl)]; rfl
  | succ m ih =>
    have e : (fun j => ev A (pz w j) (m + 1)) = fun j => ev A (pz w j) m + A m * pz (pz w j) m := by funext j; rfl
    have e2 : ev (fun j => pz (pz w j) m) y n = geo (pz w m * y) n := by
      have : ∀ t, ev (fun j => pz (pz w j) m) y t = geo (pz w m * y) t := by
        intro t
        induction t with
        | zero => rfl
        | succ t iht =>
          rw [ev_s, iht, geo_s, pz_mul, pz_pz, pz_pz, Nat.mul_comm]
      exact this n
    rw [e, ev_add, ih, ev_mul, e2, ev_s, pz_one]
    grind
theorem ev_pick (A : Nat → F7) (c : F7) (k : Nat) : ∀ m, ev (fun i => A i * (if i = k then c else 0)) 1 m = if k < m then A k * c else 0 := by
  intro m
  induction m with
  | zero => rw [if_neg (by omega)]; rfl
  | succ m ih =>
    rw [ev_s, ih, pz_one]
    by_cases q : k < m
    · rw [if_pos q, if_neg (show ¬ m = k by omega), if_pos (show k < m + 1 by omega)]; grind
    · rw [if_neg q]
      by_cases r : m = k
      · rw [if_pos r, if_pos (by omega), r]; grind
      · rw [if_neg r, if_neg (by omega)]; grind
theorem tur_zf (a : kR) (p n j : Nat) (hj : j < n) : zf (tur a p n) j = ev (zf a.2) (pz (tF p) j) a.1 := by
  show tF (if j < n then vx a (pw p j) else 0) = _
  rw [if_pos hj, vx_ev, tF_pw]
/-- turned, and turned back -/
theorem tb_ok (hn : isz n) (ha : rO a) (hl : a.1 ≤ n) : trbR (turR a n) = (n, a.2) := by
  obtain ⟨n1, n2⟩ := isz_le hn
  have hT := turR_O (a := a) ⟨n1, n2⟩
  have hB := trbR_O hT
  refine row_ext hB ⟨n1, n2, ha.2.2.1, fun k hk => ha.2.2.2 k (Nat.le_trans hl hk)⟩ rfl (fun k => ?_)
  show zf (trbR (turR a n)).2 k = zf a.2 k
  by_cases q : k < n
  · have hw0 : tF (tpt n) ≠ 0 := fun z => isz_tp hn ((tF_0' (tpt_lt n)).mp z)
    have hwi := iv_mul hw0
    have hn0 : tF n ≠ 0 := fun z => by have := (tF_0' (a := n) (by omega)).mp z; omega
    have hni := iv_mul hn0
    have eiw : tF (pw (tpt n) 255) = iv (tF (tpt n)) := by
      unfold iv
      rw [tF_val, pw_mod]
    have ein : tF (pw n 255) = iv (tF n) := by
      unfold iv
      rw [tF_val, pw_mod]
    show tF (scl (tur (turR a n) (pw (tpt n) 255) n) (pw n 255) n k) = _
    unfold scl
    rw [if_pos q, tF_mod, tF_mul, ein]
    show zf (tur (turR a n) (pw (tpt n) 255) n) k * _ = _
    rw [tur_zf _ _ _ _ q, eiw]
    show ev (zf (tur a (tpt n) n)) (pz (iv (tF (tpt n))) k) n * _ = _
    rw [ev_congr _ _ (fun j hj => tur_zf a (tpt n) n j hj), dft_sum]
    have e : ∀ i, i < a.1 → zf a.2 i * geo (pz (tF (tpt n)) i * pz (iv (tF (tpt n))) k) n = zf a.2 i * (if i = k then tF n else 0) := by
      intro i hi
      congr 1
      have h1 : pz (tF (tpt n)) n = 1 := by rw [← tF_pw, isz_1 hn]; rfl
      have h2 : pz (iv (tF (tpt n))) n = 1 := by
        have z1 : pz (tF (tpt n)) n * pz (iv (tF (tpt n))) n = 1 := by rw [← pz_mul, hwi, pz_one]
        rw [h1] at z1
        rw [← z1]
        grind
      have h3 : pz (tF (tpt n)) k * pz (iv (tF (tpt n))) k = 1 := by rw [← pz_mul, hwi, pz_one]
      by_cases r : i = k
      · rw [if_pos r, r, h3, geo_1]
      · rw [if_neg r]
        refine geo_0 (fun z => r ?_) ?_
        · have z2 : pz (tF (tpt n)) i = pz (tF (tpt n)) k := by
            have z3 : pz (tF (tpt n)) i = (pz (tF (tpt n)) i * pz (iv (tF (tpt n))) k) * pz (tF (tpt n)) k := by
              have z4 : (pz (tF (tpt n)) i * pz (iv (tF (tpt n))) k) * pz (tF (tpt n)) k = pz (tF (tpt n)) i * (pz (tF (tpt n)) k * pz (iv (tF (tpt n))) k) := by grind
              rw [z4, h3]
              grind
            rw [z3, z]
            grind
          rw [← tF_pw, ← tF_pw] at z2
          exact isz_inj hn i (by omega) k q (tF_inj (pw_lt _ _) (pw_lt _ _) z2)
        · rw [pz_mul, pz_pz, pz_pz, Nat.mul_comm i, Nat.mul_comm k, ← pz_pz, ← pz_pz, h1, h2, pz_one, pz_one]
          grind
    rw [ev_congr _ _ e, ev_pick]
    by_cases r : k < a.1
    · rw [if_pos r]
      have z4 : zf a.2 k * tF n * iv (tF n) = zf a.2 k * (tF n * iv (tF n)) := by grind
      rw [z4, hni]
      grind
    · rw [if_neg r, rO_zf ha k (by omega)]
      grind
  · rw [rO_zf hB k (by show n ≤ k; omega), rO_zf ha k (by omega)]
end DFT
theorem dg_ext {f : Nat → Nat} {m : Nat} (h : ∀ k, m ≤ k → f k = 0) : ∀ j, dg f (m + j) = dg f m := by
  intro j
  induction j with
  | zero => rfl
  | succ j ih => rw [← Nat.add_assoc, dg_zero f (h (m + j) (by omega)), ih]
theorem dg_ext' {f : Nat → Nat} {m n : Nat} (h : ∀ k, m ≤ k → f k = 0) (hn : m ≤ n) : dg f n = dg f m := by
  obtain ⟨j, rfl⟩ : ∃ j, n = m + j := ⟨n - m, by omega⟩
  exact dg_ext h j
theorem tb_dg {n : Nat} {a : kR} (hn : isz n) (ha : rO a) (hl : a.1 ≤ n) : rD (trbR (turR a n)) = rD a := by
  rw [tb_ok hn ha hl]
  exact dg_ext' ha.2.2.2 hl
theorem tb_at {n : Nat} {a : kR} (hn : isz n) (ha : rO a) (hl : a.1 ≤ n) (k : Nat) : (trbR (turR a n)).2 k = a.2 k := by
  rw [tb_ok hn ha hl]
/-! inverses -/
/-- the first j of the sum at the place k -/
def cvs (f g : Nat → Nat) (k : Nat) : Nat → Nat
  | 0 => 0
  | j + 1 => (cvs f g k j + f j * g (k - j)) % 257
theorem cvs_s (f g : Nat → Nat) (k j : Nat) : cvs f g k (j + 1) = (cvs f g k j + f j * g (k - j)) % 257 := rfl
theorem cvs_lt (f g : Nat → Nat) (k n : Nat) : cvs f g k n < 257 := by
  cases n with
  | zero => exact (by decide : 0 < 257)
  | succ n => exact Nat.mod_lt _ (by decide)
theorem cvs_conv (f g : Nat → Nat) (k : Nat) : ∀ j, tF (cvs f g k (j + 1)) = tF (f 0 * g k) + tF (conv f g k j) := by
  intro j
  induction j with
  | zero =>
    rw [cvs_s, tF_mod, tF_add]
    show tF 0 + tF (f 0 * g (k - 0)) = tF (f 0 * g k) + tF 0
    rw [Nat.sub_zero]
    grind
  | succ j ih =>
    rw [cvs_s, tF_mod, tF_add, ih]
    show _ = _ + tF (conv f g k j + f (j + 1) * g (k - (j + 1)))
    rw [tF_add]
    grind
theorem conv_congr {f g h : Nat → Nat} {k : Nat} (e : ∀ i, i < k → g i = h i) : ∀ j, j ≤ k → conv f g k j = conv f h k j := by
  intro j
  induction j with
  | zero => intro _; rfl
  | succ j ih =>
    intro hj
    show conv f g k j + f (j + 1) * g (k - (j + 1)) = conv f h k j + f (j + 1) * h (k - (j + 1))
    rw [ih (by omega), e _ (by omega)]
theorem inv_at {f : Nat → Nat} {w k : Nat} : ∀ n, k < n → inv f w n k = inv f w (k + 1) k := by
  intro n
  induction n with
  | zero => intro h; omega
  | succ n ih =>
    intro h
    by_cases q : k = n
    · rw [q]
    · rw [← ih (by omega)]
      show va_up (inv f w n) n _ k = _
      rw [va_up_ne _ _ q]
theorem inv_0 {f : Nat → Nat} {w n : Nat} (h : 0 < n) : inv f w n 0 = w := by
  rw [inv_at n h]
  show va_up (inv f w 0) 0 (if 0 = 0 then w else _) 0 = w
  rw [va_up_self, if_pos rfl]
theorem tF_ngm (a b : Nat) : tF (ngm a b) = 0 - tF a * tF b := by
  have h : tF (ngm a b) + tF (a * b) = 0 := by
    rw [← tF_add]
    apply Fin.ext
    rw [tF_val]
    unfold ngm kmod
    have e : -(a : Int) * b = -((a * b : Nat) : Int) := by rw [Int.neg_mul, Int.natCast_mul]
    rw [e]
    generalize a * b = z
    show ((-(z : Int) % 257).toNat + z) % 257 = 0
    omega
  rw [tF_mul] at h
  rw [← h]
  grind
section INVM
variable {a : kR} {n : Nat}
theorem invR_0 (h0 : 0 < n) : (invR a n).2 0 = pw (a.2 0) 255 := inv_0 h0
theorem invR_1 (ha : rO a) (h0 : 0 < n) (hz : a.2 0 ≠ 0) : (invR a n).2 0 * a.2 0 % 257 = 1 := by
  rw [invR_0 h0, Nat.mul_comm]
  exact pw255 _ (ha.2.2.1 0) hz
theorem invR_k (ha : rO a) (hz : a.2 0 ≠ 0) {k : Nat} (h1 : 1 ≤ k) (hk : k < n) : cvs a.2 (invR a n).2 k (k + 1) = 0 := by
  refine tF_inj (cvs_lt _ _ _ _) (by decide) ?_
  rw [cvs_conv]
  have e1 : (invR a n).2 k = ngm (conv a.2 (invR a n).2 k k % 257) (pw (a.2 0) 255) := by
    show inv a.2 _ n k = _
    rw [inv_at n hk]
    show va_up (inv a.2 (pw (a.2 0) 255) k) k (if k = 0 then _ else _) k = _
    rw [va_up_self, if_neg (by omega)]
    congr 2
    refine conv_congr (fun i hi => ?_) k (Nat.le_refl _)
    show inv a.2 _ k i = inv a.2 _ n i
    rw [inv_at k hi, inv_at n (by omega)]
  have e2 : tF (a.2 0) * tF (pw (a.2 0) 255) = 1 := by
    rw [← tF_mul, ← tF_mod, pw255 _ (ha.2.2.1 0) hz]
    rfl
  rw [tF_mul, e1, tF_ngm, tF_mod]
  have e3 : tF (a.2 0) * (0 - tF (conv a.2 (invR a n).2 k k) * tF (pw (a.2 0) 255)) + tF (conv a.2 (invR a n).2 k k) = tF (conv a.2 (invR a n).2 k k) - (tF (a.2 0) * tF (pw (a.2 0) 255)) * tF (conv a.2 (invR a n).2 k k) := by grind
  rw [e3, e2, tF_0]
  grind
theorem invR_dg (ha : rO a) (h : 1 ≤ n ∧ n ≤ 64) (hz : a.2 0 ≠ 0) : ∃ d, rD (invR a n) = d + 1 := by
  rcases Nat.eq_zero_or_pos (rD (invR a n)) with q | q
  · exfalso
    have h1 := dg_all (invR_O h) q 0
    have h2 := invR_1 (n := n) ha (by omega) hz
    rw [(zf_0 ((invR_O h).2.2.1 0)).mp h1, Nat.zero_mul] at h2
    exact absurd h2 (by decide)
  · exact ⟨rD (invR a n) - 1, by omega⟩
end INVM
/-! sums that go round -/
def rsJ (c : Nat) (f : Nat → Nat) (s k i : Nat) : Nat → Nat
  | 0 => 0
  | j + 1 => rsJ c f s k i j + (if (i + j) % s = k then c * f j % 257 else 0)
def rsO (f1 f2 : Nat → Nat) (l2 s k : Nat) : Nat → Nat
  | 0 => 0
  | i + 1 => rsO f1 f2 l2 s k i + rsJ (f1 i) f2 s k i l2
theorem rsJ_s (c : Nat) (f : Nat → Nat) (s k i j : Nat) : rsJ c f s k i (j + 1) = rsJ c f s k i j + (if (i + j) % s = k then c * f j % 257 else 0) := rfl
theorem rsO_s (f1 f2 : Nat → Nat) (l2 s k i : Nat) : rsO f1 f2 l2 s k (i + 1) = rsO f1 f2 l2 s k i + rsJ (f1 i) f2 s k i l2 := rfl
theorem rsJ_le (c : Nat) (f : Nat → Nat) (s k i j : Nat) : rsJ c f s k i j ≤ 256 * j := by
  induction j with
  | zero => exact Nat.le_refl _
  | succ j ih => rw [rsJ_s]; split <;> omega
theorem rsO_le (f1 f2 : Nat → Nat) {l2 : Nat} (s k i : Nat) (hl : l2 ≤ 64) : rsO f1 f2 l2 s k i ≤ 16384 * i := by
  induction i with
  | zero => exact Nat.le_refl _
  | succ i ih => rw [rsO_s]; have := rsJ_le (f1 i) f2 s k i l2; omega
theorem mulI_rs {c : Nat} {f : Nat → Nat} {s i : Nat} {g : Nat → Nat} (hg : ∀ k, g k < 257) (k : Nat) : ∀ j, mulI c f s i g j k = (g k + rsJ c f s k i j) % 257 := by
  intro j
  induction j with
  | zero => exact (Nat.mod_eq_of_lt (hg k)).symm
  | succ j ih =>
    rw [rsJ_s]
    show va_up (mulI c f s i g j) ((i + j) % s) ((mulI c f s i g j ((i + j) % s) + c * f j) % 257) k = _
    by_cases q : k = (i + j) % s
    · rw [← q, va_up_self, ih, if_pos rfl]
      omega
    · rw [va_up_ne _ _ q, ih, if_neg (fun z => q z.symm)]
      omega
theorem mulO_rs {f1 f2 : Nat → Nat} {l2 s : Nat} (k : Nat) : ∀ i, mulO f1 f2 l2 s i k = rsO f1 f2 l2 s k i % 257 := by
  intro i
  induction i with
  | zero => rfl
  | succ i ih =>
    rw [rsO_s]
    show mulI (f1 i) f2 s i (mulO f1 f2 l2 s i) l2 k = _
    rw [mulI_rs (fun k => mulO_lt i k), ih]
    omega
theorem round_k (a b : kR) (s k : Nat) : (mulR a b s).2 k = rsO a.2 b.2 b.1 s k a.1 % 257 := mulO_rs k a.1
/-! what is counted from above -/
theorem cq_mono (g : Nat → Nat) (n : Nat) : ∀ j, cq g n ≤ cq g (n + j) := by
  intro j
  induction j with
  | zero => exact Nat.le_refl _
  | succ j ih =>
    show _ ≤ cq g (n + j) + (if g (n + j) = 0 then 1 else 0)
    omega
theorem cq_mono' (g : Nat → Nat) {n m : Nat} (h : n ≤ m) : cq g n ≤ cq g m := by
  obtain ⟨j, rfl⟩ : ∃ j, m = n + j := ⟨m - n, by omega⟩
  exact cq_mono g n j
theorem cq_congr {f g : Nat → Nat} : ∀ n, (∀ k, k < n → f k = g k) → cq f n = cq g n := by
  intro n
  induction n with
  | zero => intro _; rfl
  | succ n ih =>
    intro h
    show cq f n + (if f n = 0 then 1 else 0) = cq g n + (if g n = 0 then 1 else 0)
    rw [ih (fun k hk => h k (by omega)), h n (by omega)]
