/-! POLYNOMIALS OVER THE NUMBERS MODULO 257, as rows of all their coefficients -/
abbrev F7 : Type := Fin 257
def tF (n : Nat) : F7 := Fin.ofNat 257 n
theorem tF_val (n : Nat) : (tF n).val = n % 257 := rfl
theorem tF_mod (n : Nat) : tF (n % 257) = tF n := Fin.ext (by rw [tF_val, tF_val, Nat.mod_mod])
theorem tF_add (a b : Nat) : tF (a + b) = tF a + tF b := Fin.ext (by rw [Fin.val_add, tF_val, tF_val, tF_val, ← Nat.add_mod])
theorem tF_mul (a b : Nat) : tF (a * b) = tF a * tF b := Fin.ext (by rw [Fin.val_mul, tF_val, tF_val, tF_val, ← Nat.mul_mod])
theorem tF_0 : tF 0 = 0 := rfl
theorem tF_1 : tF 1 = 1 := rfl
theorem tF_inj {a b : Nat} (ha : a < 257) (hb : b < 257) (h : tF a = tF b) : a = b := by
  have h1 : (tF a).val = (tF b).val := by rw [h]
  rw [tF_val, tF_val, Nat.mod_eq_of_lt ha, Nat.mod_eq_of_lt hb] at h1
  exact h1
theorem tF_0' {a : Nat} (ha : a < 257) : tF a = 0 ↔ a = 0 := ⟨fun h => tF_inj ha (by decide) h, fun h => by rw [h]; rfl⟩
theorem tF_kmod {a b : Nat} : tF (kmod ((a : Int) - b)) = tF a - tF b := by
  have h : tF (kmod ((a : Int) - b)) + tF b = tF a := by
    rw [← tF_add]
    apply Fin.ext
    rw [tF_val, tF_val]
    unfold kmod
    omega
  rw [← h]
  grind
theorem f_mul0 (a : F7) : a * 0 = 0 := by grind
theorem f_0mul (a : F7) : 0 * a = 0 := by grind
/-- inverses -/
def iv (a : F7) : F7 := tF (pw a.val 255)
theorem iv_mul {a : F7} (h : a ≠ 0) : a * iv a = 1 := by
  have h0 : a.val ≠ 0 := fun q => h (Fin.ext q)
  have h1 := pw255 a.val a.isLt h0
  have h2 : tF (a.val * pw a.val 255) = 1 := by
    rw [← tF_mod, h1]; rfl
  have h3 : tF a.val = a := Fin.ext (by rw [tF_val]; exact Nat.mod_eq_of_lt a.isLt)
  rw [tF_mul, h3] at h2
  exact h2
theorem f_dom {a b : F7} (ha : a ≠ 0) (hb : b ≠ 0) : a * b ≠ 0 := by
  intro h
  have h1 := iv_mul ha
  apply hb
  have h2 : b = (a * iv a) * b := by rw [h1]; grind
  have h3 : (a * iv a) * b = iv a * (a * b) := by grind
  rw [h2, h3, h]
  grind
theorem iv_u {a b : F7} (h : a * b = 1) : b = iv a := by
  have ha : a ≠ 0 := fun q => by
    rw [q, f_0mul] at h
    exact absurd h (by decide)
  have h1 := iv_mul ha
  have h2 : b = b * (a * iv a) := by rw [h1]; grind
  have h3 : b * (a * iv a) = (a * b) * iv a := by grind
  rw [h2, h3, h]
  grind
/-- products of power series -/
def cz : (Nat → F7) → (Nat → F7) → Nat → F7
  | f, g, 0 => f 0 * g 0
  | f, g, k + 1 => f 0 * g (k + 1) + cz (fun i => f (i + 1)) g k
theorem cz_0 (f g : Nat → F7) : cz f g 0 = f 0 * g 0 := by unfold cz; rfl
theorem cz_s (f g : Nat → F7) (k : Nat) : cz f g (k + 1) = f 0 * g (k + 1) + cz (fun i => f (i + 1)) g k := by rw [cz]
theorem cz_add (g : Nat → F7) : ∀ (n : Nat) (f h : Nat → F7), cz (fun k => f k + h k) g n = cz f g n + cz h g n := by
  intro n
  induction n with
  | zero => intro f h; rw [cz_0, cz_0, cz_0]; grind
  | succ n ih => intro f h; rw [cz_s, cz_s, cz_s, ih (fun i => f (i + 1)) (fun i => h (i + 1))]; grind
theorem cz_sub (g : Nat → F7) : ∀ (n : Nat) (f h : Nat → F7), cz (fun k => f k - h k) g n = cz f g n - cz h g n := by
  intro n
  induction n with
  | zero => intro f h; rw [cz_0, cz_0, cz_0]; grind
  | succ n ih => intro f h; rw [cz_s, cz_s, cz_s, ih (fun i => f (i + 1)) (fun i => h (i + 1))]; grind
theorem cz_mul (g : Nat → F7) (c : F7) : ∀ (n : Nat) (f : Nat → F7), cz (fun k => c * f k) g n = c * cz f g n := by
  intro n
  induction n with
  | zero => intro f; rw [cz_0, cz_0]; grind
  | succ n ih => intro f; rw [cz_s, cz_s, ih (fun i => f (i + 1))]; grind
theorem cz_zl (g : Nat → F7) : ∀ (n : Nat) (f : Nat → F7), (∀ k, f k = 0) → cz f g n = 0 := by
  intro n
  induction n with
  | zero => intro f h; rw [cz_0, h 0, f_0mul]
  | succ n ih => intro f h; rw [cz_s, h 0, f_0mul, ih _ (fun k => h (k + 1))]; grind
theorem cz_sr (g : Nat → F7) : ∀ (n : Nat) (f : Nat → F7), cz f g (n + 1) = cz f (fun i => g (i + 1)) n + f (n + 1) * g 0 := by
  intro n
  induction n with
  | zero => intro f; rw [cz_s, cz_0, cz_0]
  | succ n ih => intro f; rw [cz_s, ih (fun i => f (i + 1)), cz_s]; grind
theorem cz_comm : ∀ (n : Nat) (f g : Nat → F7), cz f g n = cz g f n := by
  intro n
  induction n with
  | zero => intro f g; rw [cz_0, cz_0]; grind
  | succ n ih => intro f g; rw [cz_s, cz_sr, ih (fun i => f (i + 1)) g]; grind
theorem cz_assoc (g h : Nat → F7) : ∀ (n : Nat) (f : Nat → F7), cz (cz f g) h n = cz f (cz g h) n := by
  intro n
  induction n with
  | zero => intro f; rw [cz_0, cz_0, cz_0, cz_0]; grind
  | succ n ih =>
    intro f
    have e : (fun i => cz f g (i + 1)) = fun i => (f 0 * g (i + 1)) + cz (fun i => f (i + 1)) g i := by
      funext i; exact cz_s f g i
    rw [cz_s, e, cz_add h n (fun i => f 0 * g (i + 1)) (cz (fun i => f (i + 1)) g), cz_mul h (f 0) n (fun i => g (i + 1)), ih (fun i => f (i + 1)), cz_0, cz_s f, cz_s g]
    grind
/-- one coefficient alone -/
def mono (c : F7) (t : Nat) : Nat → F7 := fun k => if k = t then c else 0
theorem cz_mono (c : F7) (g : Nat → F7) : ∀ (t k : Nat), cz (mono c t) g k = if t ≤ k then c * g (k - t) else 0 := by
  intro t
  induction t with
  | zero =>
    intro k
    cases k with
    | zero => rw [cz_0]; rfl
    | succ k =>
      rw [cz_s, cz_zl g k (fun i => mono c 0 (i + 1)) (fun i => if_neg (by omega)), if_pos (by omega), Nat.sub_zero]
      show c * g (k + 1) + 0 = _
      grind
  | succ t ih =>
    intro k
    cases k with
    | zero => rw [cz_0, if_neg (by omega), show mono c (t + 1) 0 = 0 from if_neg (by omega), f_0mul]
    | succ k =>
      have e : (fun i => mono c (t + 1) (i + 1)) = mono c t := by
        funext i
        unfold mono
        by_cases q : i = t
        · rw [if_pos (by omega), if_pos q]
        · rw [if_neg (by omega), if_neg q]
      rw [cz_s, e, ih k, show mono c (t + 1) 0 = 0 from if_neg (by omega), f_0mul]
      by_cases q : t ≤ k
      · rw [if_pos q, if_pos (by omega), show k + 1 - (t + 1) = k - t by omega]; grind
      · rw [if_neg q, if_neg (by omega)]; grind
/-- a constant alone -/
theorem cz_const (f g : Nat → F7) (h : ∀ k, 0 < k → f k = 0) : ∀ k, cz f g k = f 0 * g k := by
  intro k
  cases k with
  | zero => rw [cz_0]
  | succ k => rw [cz_s, cz_zl _ _ _ (fun i => h (i + 1) (by omega))]; grind
/-- the greatest place of a product -/
theorem cz_top (g : Nat → F7) (e : Nat) (hg : ∀ k, e < k → g k = 0) : ∀ (d : Nat) (f : Nat → F7), (∀ k, d < k → f k = 0) → cz f g (d + e) = f d * g e ∧ ∀ k, d + e < k → cz f g k = 0 := by
  intro d
  induction d with
  | zero =>
    intro f hf
    refine ⟨by rw [cz_const f g hf, Nat.zero_add], fun k hk => by rw [cz_const f g hf, hg k (by omega), f_mul0]⟩
  | succ d ih =>
    intro f hf
    obtain ⟨h1, h2⟩ := ih (fun i => f (i + 1)) (fun k hk => hf (k + 1) (by omega))
    refine ⟨?_, fun k hk => ?_⟩
    · rw [show d + 1 + e = (d + e) + 1 by omega, cz_s, h1, hg _ (by omega), f_mul0]; grind
    · obtain ⟨j, rfl⟩ : ∃ j, k = j + 1 := ⟨k - 1, by omega⟩
      rw [cz_s, h2 j (by omega), hg _ (by omega), f_mul0]; grind
/-- d is the degree of f -/
def dF (f : Nat → F7) (d : Nat) : Prop := f d ≠ 0 ∧ ∀ k, d < k → f k = 0
def pol (f : Nat → F7) : Prop := ∃ n, ∀ k, n ≤ k → f k = 0
theorem dF_of {f : Nat → F7} : ∀ n, (∀ k, n ≤ k → f k = 0) → (∀ k, f k = 0) ∨ ∃ d, d < n ∧ dF f d := by
  intro n
  induction n with
  | zero => intro h; exact Or.inl (fun k => h k (by omega))
  | succ n ih =>
    intro h
    by_cases q : f n = 0
    · rcases ih (fun k hk => by by_cases z : k = n; rw [z]; exact q; exact h k (by omega)) with r | ⟨d, r1, r2⟩
      · exact Or.inl r
      · exact Or.inr ⟨d, by omega, r2⟩
    · exact Or.inr ⟨n, by omega, q, fun k hk => h k (by omega)⟩
theorem pol_dF {f : Nat → F7} (h : pol f) : (∀ k, f k = 0) ∨ ∃ d, dF f d := by
  obtain ⟨n, hn⟩ := h
  rcases dF_of n hn with r | ⟨d, -, r⟩
  · exact Or.inl r
  · exact Or.inr ⟨d, r⟩
theorem pol_cz {f g : Nat → F7} (hf : pol f) (hg : pol g) : pol (cz f g) := by
  obtain ⟨n, hn⟩ := hf
  obtain ⟨m, hm⟩ := hg
  exact ⟨n + m + 1, fun k hk => (cz_top g m (fun k hk => hm k (by omega)) n f (fun k hk => hn k (by omega))).2 k (by omega)⟩
theorem pol_sub {f g : Nat → F7} (hf : pol f) (hg : pol g) : pol (fun k => f k - g k) := by
  obtain ⟨n, hn⟩ := hf
  obtain ⟨m, hm⟩ := hg
  exact ⟨n + m, fun k hk => by dsimp only; rw [hn k (by omega), hm k (by omega)]; grind⟩
theorem pol_add {f g : Nat → F7} (hf : pol f) (hg : pol g) : pol (fun k => f k + g k) := by
  obtain ⟨n, hn⟩ := hf
  obtain ⟨m, hm⟩ := hg
  exact ⟨n + m, fun k hk => by dsimp only; rw [hn k (by omega), hm k (by omega)]; grind⟩
theorem pol_mono (c : F7) (t : Nat) : pol (mono c t) := ⟨t + 1, fun k hk => if_neg (by omega)⟩
/-- division without a rest -/
def dvz (G A : Nat → F7) : Prop := ∃ U, pol U ∧ ∀ k, A k = cz U G k
theorem dvz_mul (c : F7) (G : Nat → F7) : dvz G (fun k => c * G k) := ⟨mono c 0, pol_mono c 0, fun k => by rw [cz_mono, if_pos (Nat.zero_le k), Nat.sub_zero]⟩
theorem dvz_rf (G : Nat → F7) : dvz G G := ⟨mono 1 0, pol_mono 1 0, fun k => by rw [cz_mono, if_pos (Nat.zero_le k), Nat.sub_zero]; grind⟩
theorem dvz_z {G A : Nat → F7} (h : ∀ k, A k = 0) : dvz G A := ⟨fun _ => 0, ⟨0, fun _ _ => rfl⟩, fun k => by rw [h k, cz_zl _ _ _ (fun _ => rfl)]⟩
theorem dvz_eq {G A B : Nat → F7} (h : dvz G A) (e : ∀ k, B k = A k) : dvz G B := by
  obtain ⟨U, h1, h2⟩ := h
  exact ⟨U, h1, fun k => (e k).trans (h2 k)⟩
theorem dvz_add {G A B : Nat → F7} (ha : dvz G A) (hb : dvz G B) : dvz G (fun k => A k + B k) := by
  obtain ⟨U, h1, h2⟩ := ha
  obtain ⟨V, h3, h4⟩ := hb
  exact ⟨_, pol_add h1 h3, fun k => by dsimp only; rw [cz_add, h2, h4]⟩
theorem dvz_sub {G A B : Nat → F7} (ha : dvz G A) (hb : dvz G B) : dvz G (fun k => A k - B k) := by
  obtain ⟨U, h1, h2⟩ := ha
  obtain ⟨V, h3, h4⟩ := hb
  exact ⟨_, pol_sub h1 h3, fun k => by dsimp only; rw [cz_sub, h2, h4]⟩
theorem dvz_l {G A Q : Nat → F7} (ha : dvz G A) (hQ : pol Q) : dvz G (cz Q A) := by
  obtain ⟨U, h1, h2⟩ := ha
  refine ⟨cz Q U, pol_cz hQ h1, fun k => ?_⟩
  rw [cz_assoc]
  congr 1
  funext k
  exact h2 k
theorem dvz_tr {G A B : Nat → F7} (h1 : dvz G A) (h2 : dvz A B) : dvz G B := by
  obtain ⟨U, h3, h4⟩ := h2
  exact dvz_eq (dvz_l h1 h3) h4
theorem dvz_deg {G A : Nat → F7} {g a : Nat} (hG : dF G g) (h : dvz G A) (hA : ∀ k, a < k → A k = 0) : (∀ k, A k = 0) ∨ g ≤ a := by
  obtain ⟨U, h1, h2⟩ := h
  rcases pol_dF h1 with r | ⟨u, r⟩
  · exact Or.inl (fun k => by rw [h2, cz_zl _ _ _ r])
  · refine Or.inr ?_
    obtain ⟨h3, -⟩ := cz_top G g hG.2 u U r.2
    have h4 : A (u + g) ≠ 0 := by rw [h2, h3]; exact f_dom r.1 hG.1
    rcases Nat.lt_or_ge a (u + g) with q | q
    · exact absurd (hA _ q) h4
    · omega
/-- two that divide each other -/
theorem dvz_both {G1 G2 : Nat → F7} {g1 g2 : Nat} (d1 : dF G1 g1) (d2 : dF G2 g2) (h1 : dvz G1 G2) (h2 : dvz G2 G1) : g1 = g2 ∧ ∃ c, c ≠ 0 ∧ ∀ k, G1 k = c * G2 k := by
  have e1 : g1 ≤ g2 := by
    rcases dvz_deg d1 h1 d2.2 with q | q
    · exact absurd (q g2) d2.1
    · exact q
  have e2 : g2 ≤ g1 := by
    rcases dvz_deg d2 h2 d1.2 with q | q
    · exact absurd (q g1) d1.1
    · exact q
  refine ⟨by omega, ?_⟩
  obtain ⟨U, h3, h4⟩ := h2
  rcases pol_dF h3 with r | ⟨u, r⟩
  · exact absurd ((h4 g1).trans (cz_zl _ _ _ r)) d1.1
  · obtain ⟨h5, -⟩ := cz_top G2 g2 d2.2 u U r.2
    have h6 : G1 (u + g2) ≠ 0 := by rw [h4, h5]; exact f_dom r.1 d2.1
    have h7 : u = 0 := by
      rcases Nat.lt_or_ge g1 (u + g2) with q | q
      · exact absurd (d1.2 _ q) h6
      · omega
    subst h7
    exact ⟨U 0, r.1, fun k => by rw [h4, cz_const U G2 r.2]⟩
/-- with 1 at their degree they are the same -/
theorem mon_both {c y z w : F7} (hc : c ≠ 0) (hy : y ≠ 0) (hw : w = c * y) : iv w * (c * z) = iv y * z := by
  have h1 := iv_mul hy
  have h2 := iv_mul (f_dom hc hy)
  subst hw
  have e1 : iv (c * y) * (c * z) = iv (c * y) * (c * z) * (y * iv y) := by rw [h1]; grind
  have e2 : iv (c * y) * (c * z) * (y * iv y) = (c * y * iv (c * y)) * (iv y * z) := by grind
  rw [e1, e2, h2]
  grind
/-- values -/
def pz (x : F7) : Nat → F7
  | 0 => 1
  | n + 1 => pz x n * x
def ev (f : Nat → F7) (x : F7) : Nat → F7
  | 0 => 0
  | n + 1 => ev f x n + f n * pz x n
theorem ev_s (f : Nat → F7) (x : F7) (n : Nat) : ev f x (n + 1) = ev f x n + f n * pz x n := rfl
theorem pz_s (x : F7) (n : Nat) : pz x (n + 1) = pz x n * x := rfl
theorem pz_0 (x : F7) : pz x 0 = 1 := rfl
theorem ev_congr {f g : Nat → F7} (x : F7) : ∀ n, (∀ k, k < n → f k = g k) → ev f x n = ev g x n := by
  intro n
  induction n with
  | zero => intro _; rfl
  | succ n ih => intro h; rw [ev_s, ev_s, ih (fun k hk => h k (by omega)), h n (by omega)]
theorem ev_front (f : Nat → F7) (x : F7) : ∀ n, ev f x (n + 1) = f 0 + x * ev (fun i => f (i + 1)) x n := by
  intro n
  induction n with
  | zero => rw [ev_s, pz_0]; show (0 : F7) + f 0 * 1 = f 0 + x * 0; grind
  | succ n ih => rw [ev_s, ih, ev_s, pz_s]; grind
theorem ev_add (f g : Nat → F7) (x : F7) : ∀ n, ev (fun k => f k + g k) x n = ev f x n + ev g x n := by
  intro n
  induction n with
  | zero => show (0 : F7) = 0 + 0; grind
  | succ n ih => rw [ev_s, ev_s, ev_s, ih]; grind
theorem ev_mul (f : Nat → F7) (c x : F7) : ∀ n, ev (fun k => c * f k) x n = c * ev f x n := by
  intro n
  induction n with
  | zero => show (0 : F7) = c * 0; grind
  | succ n ih => rw [ev_s, ev_s, ih]; grind
theorem ev_more {f : Nat → F7} (x : F7) {n : Nat} (h : ∀ k, n ≤ k → f k = 0) : ∀ j, ev f x (n + j) = ev f x n := by
  intro j
  induction j with
  | zero => rfl
  | succ j ih => rw [show n + (j + 1) = (n + j) + 1 by omega, ev_s, ih, h _ (by omega)]; grind
theorem ev_more' {f : Nat → F7} (x : F7) {n N : Nat} (h : ∀ k, n ≤ k → f k = 0) (hN : n ≤ N) : ev f x N = ev f x n := by
  obtain ⟨j, rfl⟩ : ∃ j, N = n + j := ⟨N - n, by omega⟩
  exact ev_more x h j
theorem ev_z {f : Nat → F7} (x : F7) (h : ∀ k, f k = 0) (n : Nat) : ev f x n = 0 := by
  have := ev_more' x (n := 0) (N := n) (f := f) (fun k _ => h k) (Nat.zero_le _)
  rw [this]; rfl
theorem ev_cz {g : Nat → F7} {m : Nat} (x : F7) (hg : ∀ k, m ≤ k → g k = 0) : ∀ (n : Nat) (f : Nat → F7) (N : Nat), (∀ k, n ≤ k → f k = 0) → n + m ≤ N → ev (cz f g) x N = ev f x n * ev g x m := by
  intro n
  induction n with
  | zero =>
    intro f N hf _
    rw [ev_z x (fun k => cz_zl g k f (fun i => hf i (Nat.zero_le i)))]
    show (0 : F7) = 0 * _
    grind
  | succ n ih =>
    intro f N hf hN
    obtain ⟨M, rfl⟩ : ∃ M, N = M + 1 := ⟨N - 1, by omega⟩
    have e : (fun i => cz f g (i + 1)) = fun i => f 0 * g (i + 1) + cz (fun i => f (i + 1)) g i := by
      funext i; exact cz_s f g i
    rw [ev_front, e, ev_add, ev_mul, ih (fun i => f (i + 1)) M (fun k hk => hf (k + 1) (by omega)) (by omega), ev_front f, cz_0]
    have h1 := ev_front g x M
    rw [ev_more' x hg (show m ≤ M + 1 by omega)] at h1
    rw [h1]
    grind
