/-! ROWS AS POLYNOMIALS -/
def zf (f : Nat → Nat) : Nat → F7 := fun k => tF (f k)
theorem zf_z {f : Nat → Nat} {k : Nat} (h : f k = 0) : zf f k = 0 := by unfold zf; rw [h]; rfl
theorem zf_0 {f : Nat → Nat} {k : Nat} (h : f k < 257) : zf f k = 0 ↔ f k = 0 := tF_0' h
theorem rO_zf {a : kR} (h : rO a) : ∀ k, a.1 ≤ k → zf a.2 k = 0 := fun k hk => zf_z (h.2.2.2 k hk)
theorem rO_pol {a : kR} (h : rO a) : pol (zf a.2) := ⟨a.1, rO_zf h⟩
theorem dF_u {f : Nat → F7} {d e : Nat} (h1 : dF f d) (h2 : dF f e) : d = e := by
  rcases Nat.lt_trichotomy d e with q | q | q
  · exact absurd (h1.2 _ q) h2.1
  · exact q
  · exact absurd (h2.2 _ q) h1.1
theorem dg_dF {a : kR} (h : rO a) {d : Nat} (hd : rD a = d + 1) : dF (zf a.2) d := by
  refine ⟨fun q => dg_top a.2 a.1 d hd ((zf_0 (h.2.2.1 d)).mp q), fun k hk => zf_z ?_⟩
  by_cases q : k < a.1
  · exact dg_above a.2 a.1 k (by show rD a ≤ k; omega) q
  · exact h.2.2.2 k (by omega)
theorem dg_all {a : kR} (h : rO a) (hd : rD a = 0) : ∀ k, zf a.2 k = 0 := fun k => zf_z (by
  by_cases q : k < a.1
  · exact dg_above a.2 a.1 k (by show rD a ≤ k; omega) q
  · exact h.2.2.2 k (by omega))
theorem dF_dg {a : kR} (h : rO a) {d : Nat} (hd : dF (zf a.2) d) : rD a = d + 1 := by
  rcases Nat.eq_zero_or_pos (rD a) with q | q
  · exact absurd (dg_all h q d) hd.1
  · obtain ⟨e, he⟩ : ∃ e, rD a = e + 1 := ⟨rD a - 1, by omega⟩
    rw [he, dF_u (dg_dF h he) hd]
theorem all_dg {a : kR} (h : rO a) (hd : ∀ k, zf a.2 k = 0) : rD a = 0 := by
  rcases Nat.eq_zero_or_pos (rD a) with q | q
  · exact q
  · obtain ⟨e, he⟩ : ∃ e, rD a = e + 1 := ⟨rD a - 1, by omega⟩
    exact absurd (hd e) (dg_dF h he).1
theorem rD_le {a : kR} (h : rO a) : rD a ≤ a.1 ∧ rD a ≤ 64 := ⟨dg_le _ _, Nat.le_trans (dg_le _ _) h.2.1⟩
theorem row_ext {a b : kR} (ha : rO a) (hb : rO b) (h1 : a.1 = b.1) (h2 : ∀ k, zf a.2 k = zf b.2 k) : a = b := by
  obtain ⟨n, f⟩ := a
  obtain ⟨m, g⟩ := b
  have e1 : n = m := h1
  have e2 : f = g := by
    funext k
    exact tF_inj (ha.2.2.1 k) (hb.2.2.1 k) (h2 k)
  rw [e1, e2]
/-! values -/
theorem tF_pw (x n : Nat) : tF (pw x n) = pz (tF x) n := by
  induction n with
  | zero => rw [pw_0]; rfl
  | succ n ih => rw [pw_s, tF_mod, tF_mul, ih]; rfl
theorem hn_ev (f : Nat → Nat) (x : Nat) : ∀ n v, tF (hn f x n v) = tF v * pz (tF x) n + ev (zf f) (tF x) n := by
  intro n
  induction n with
  | zero =>
    intro v
    show tF v = tF v * 1 + 0
    grind
  | succ n ih =>
    intro v
    show tF (hn f x n ((v * x + f n) % 257)) = _
    rw [ih, tF_mod, tF_add, tF_mul, ev_s, pz_s]
    show (tF v * tF x + tF (f n)) * pz (tF x) n + ev (zf f) (tF x) n = tF v * (pz (tF x) n * tF x) + (ev (zf f) (tF x) n + tF (f n) * pz (tF x) n)
    grind
theorem vx_ev (r : kR) (x : Nat) : tF (vx r x) = ev (zf r.2) (tF x) r.1 := by
  unfold vx
  rw [hn_ev, tF_0]
  grind
theorem vx_N {r : kR} (h : rO r) (x : Nat) {N : Nat} (hN : r.1 ≤ N) : tF (vx r x) = ev (zf r.2) (tF x) N := by
  rw [vx_ev, ev_more' _ (rO_zf h) hN]
/-- values as sums from the lowest place on -/
def lev (f : Nat → Nat) (x : Nat) : Nat → Nat
  | 0 => 0
  | n + 1 => (lev f x n + f n * pw x n) % 257
theorem lev_s (f : Nat → Nat) (x n : Nat) : lev f x (n + 1) = (lev f x n + f n * pw x n) % 257 := rfl
theorem lev_lt (f : Nat → Nat) (x n : Nat) : lev f x n < 257 := by
  cases n with
  | zero => exact (by decide : 0 < 257)
  | succ n => exact Nat.mod_lt _ (by decide)
theorem lev_ev (f : Nat → Nat) (x : Nat) : ∀ n, tF (lev f x n) = ev (zf f) (tF x) n := by
  intro n
  induction n with
  | zero => rfl
  | succ n ih => rw [lev_s, tF_mod, tF_add, tF_mul, ih, tF_pw]; rfl
theorem lev_vx (r : kR) (x : Nat) : lev r.2 x r.1 = vx r x := tF_inj (lev_lt _ _ _) (vx_lt _ _) (by rw [lev_ev, vx_ev])
/-! products -/
theorem mulI_ns {c : Nat} {f : Nat → Nat} {s i : Nat} {g : Nat → Nat} : ∀ j, i + j ≤ s → ∀ k, zf (mulI c f s i g j) k = zf g k + (if i ≤ k ∧ k < i + j then tF c * tF (f (k - i)) else 0) := by
  intro j
  induction j with
  | zero =>
    intro _ k
    rw [if_neg (by omega)]
    show zf g k = zf g k + 0
    grind
  | succ j ih =>
    intro hs k
    have e : (i + j) % s = i + j := Nat.mod_eq_of_lt (by omega)
    show tF (va_up (mulI c f s i g j) ((i + j) % s) ((mulI c f s i g j ((i + j) % s) + c * f j) % 257) k) = _
    rw [e]
    by_cases q : k = i + j
    · have h1 := ih (by omega) k
      rw [if_neg (by omega)] at h1
      rw [if_pos (by omega), q, va_up_self, tF_mod, tF_add, tF_mul, ← q, show k - i = j by omega]
      show zf (mulI c f s i g j) k + _ = _
      rw [h1]
      grind
    · rw [va_up_ne _ _ q]
      have h1 := ih (by omega) k
      show zf (mulI c f s i g j) k = _
      rw [h1]
      by_cases r : i ≤ k ∧ k < i + j
      · rw [if_pos r, if_pos (by omega)]
      · rw [if_neg r, if_neg (by omega)]
def trn (f : Nat → F7) (i : Nat) : Nat → F7 := fun j => if j < i then f j else 0
theorem trn_s (f : Nat → F7) (i : Nat) : trn f (i + 1) = fun k => trn f i k + mono (f i) i k := by
  funext k
  unfold trn mono
  by_cases q : k < i
  · rw [if_pos (by omega), if_pos q, if_neg (by omega)]; grind
  · rw [if_neg q]
    by_cases r : k = i
    · rw [if_pos (by omega), if_pos r, r]; grind
    · rw [if_neg (by omega), if_neg r]; grind
theorem trn_all {f : Nat → F7} {i : Nat} (h : ∀ k, i ≤ k → f k = 0) : trn f i = f := by
  funext k
  unfold trn
  by_cases q : k < i
  · rw [if_pos q]
  · rw [if_neg q, h k (by omega)]
theorem mulO_cz {f1 f2 : Nat → Nat} {l2 s : Nat} (h2 : ∀ k, l2 ≤ k → f2 k = 0) : ∀ i, i + l2 ≤ s + 1 → ∀ k, zf (mulO f1 f2 l2 s i) k = cz (trn (zf f1) i) (zf f2) k := by
  intro i
  induction i with
  | zero =>
    intro _ k
    rw [cz_zl (zf f2) k (trn (zf f1) 0) (fun j => if_neg (by omega))]
    rfl
  | succ i ih =>
    intro hs k
    show zf (mulI (f1 i) f2 s i (mulO f1 f2 l2 s i) l2) k = _
    rw [mulI_ns l2 (by omega), ih (by omega), trn_s, cz_add, cz_mono]
    congr 1
    by_cases q : i ≤ k
    · rw [if_pos q]
      by_cases r : k < i + l2
      · rw [if_pos ⟨q, r⟩]; rfl
      · rw [if_neg (by omega), show zf f2 (k - i) = 0 from zf_z (h2 _ (by omega)), f_mul0]
    · rw [if_neg (by omega), if_neg q]
theorem mulR_cz {a b : kR} (ha : rO a) (hb : rO b) : ∀ k, zf (mulR a b (a.1 + b.1 - 1)).2 k = cz (zf a.2) (zf b.2) k := by
  intro k
  have h1 := ha.1
  show zf (mulO a.2 b.2 b.1 (a.1 + b.1 - 1) a.1) k = _
  rw [mulO_cz hb.2.2.2 a.1 (by omega), trn_all (rO_zf ha)]
theorem prod_O {a b : kR} (ha : rO a) (hb : rO b) (h : a.1 + b.1 - 1 ≤ 64) : rO (mulR a b (a.1 + b.1 - 1)) := mulR_O (by have := ha.1; have := hb.1; omega)
theorem prod_vx {a b : kR} (ha : rO a) (hb : rO b) (h : a.1 + b.1 - 1 ≤ 64) (x : Nat) : vx (mulR a b (a.1 + b.1 - 1)) x = vx a x * vx b x % 257 := by
  refine tF_inj (vx_lt _ _) (Nat.mod_lt _ (by decide)) ?_
  have h1 := ha.1
  have h2 := hb.1
  rw [vx_N (prod_O ha hb h) x (N := a.1 + b.1) (by show a.1 + b.1 - 1 ≤ _; omega), ev_congr _ _ (fun k _ => mulR_cz ha hb k), ev_cz _ (rO_zf hb) a.1 _ _ (rO_zf ha) (Nat.le_refl _), tF_mod, tF_mul, vx_ev, vx_ev]
theorem prod_dg0 {a b : kR} (ha : rO a) (hb : rO b) (h : a.1 + b.1 - 1 ≤ 64) (h0 : rD a = 0 ∨ rD b = 0) : rD (mulR a b (a.1 + b.1 - 1)) = 0 := by
  refine all_dg (prod_O ha hb h) (fun k => ?_)
  rw [mulR_cz ha hb]
  rcases h0 with q | q
  · exact cz_zl _ _ _ (dg_all ha q)
  · rw [cz_comm]; exact cz_zl _ _ _ (dg_all hb q)
theorem prod_dg {a b : kR} {i j : Nat} (ha : rO a) (hb : rO b) (h : a.1 + b.1 - 1 ≤ 64) (hi : rD a = i + 1) (hj : rD b = j + 1) : rD (mulR a b (a.1 + b.1 - 1)) = i + j + 1 := by
  refine dF_dg (prod_O ha hb h) ?_
  have da := dg_dF ha hi
  have db := dg_dF hb hj
  obtain ⟨h1, h2⟩ := cz_top (zf b.2) j db.2 i (zf a.2) da.2
  exact ⟨by rw [mulR_cz ha hb, h1]; exact f_dom da.1 db.1, fun k hk => by rw [mulR_cz ha hb, h2 k hk]⟩
theorem prod_comm {a b : kR} (ha : rO a) (hb : rO b) (h : a.1 + b.1 - 1 ≤ 64) : mulR b a (b.1 + a.1 - 1) = mulR a b (a.1 + b.1 - 1) :=
  row_ext (prod_O hb ha (by omega)) (prod_O ha hb h) (by show b.1 + a.1 - 1 = a.1 + b.1 - 1; omega) (fun k => by rw [mulR_cz ha hb, mulR_cz hb ha, cz_comm])
theorem add_vx {a b : kR} (ha : rO a) (hb : rO b) (t x : Nat) : vx (addR a b t) x = (vx a x + t * vx b x) % 257 := by
  refine tF_inj (vx_lt _ _) (Nat.mod_lt _ (by decide)) ?_
  have e : ∀ k, k < max a.1 b.1 → zf (addR a b t).2 k = zf a.2 k + tF t * zf b.2 k := fun k hk => by
    show tF (if k < max a.1 b.1 then (a.2 k + t * b.2 k) % 257 else 0) = _
    rw [if_pos hk, tF_mod, tF_add, tF_mul]
    rfl
  rw [vx_ev, show (addR a b t).1 = max a.1 b.1 from rfl, ev_congr _ _ e, ev_add, ev_mul, tF_mod, tF_add, tF_mul, vx_N ha x (Nat.le_max_left a.1 b.1), vx_N hb x (Nat.le_max_right a.1 b.1)]
/-! division -/
theorem dvI_F {c : Nat} {f : Nat → Nat} {j : Nat} {g : Nat → Nat} : ∀ i k, zf (dvI c f j g i) k = zf g k - (if j ≤ k ∧ k < j + i then tF c * tF (f (k - j)) else 0) := by
  intro i
  induction i with
  | zero =>
    intro k
    rw [if_neg (by omega)]
    show zf g k = zf g k - 0
    grind
  | succ i ih =>
    intro k
    show tF (va_up (dvI c f j g i) (j + i) (sbm (dvI c f j g i (j + i)) (c * f i)) k) = _
    by_cases q : k = j + i
    · have h1 := ih k
      rw [if_neg (by omega)] at h1
      rw [if_pos (by omega), q, va_up_self, show sbm (dvI c f j g i (j + i)) (c * f i) = kmod ((dvI c f j g i (j + i) : Int) - (c * f i : Nat)) from rfl, tF_kmod, tF_mul, ← q, show k - j = i by omega]
      show zf (dvI c f j g i) k - _ = _
      rw [h1]
      grind
    · rw [va_up_ne _ _ q]
      show zf (dvI c f j g i) k = _
      rw [ih k]
      by_cases r : j ≤ k ∧ k < j + i
      · rw [if_pos r, if_pos (by omega)]
      · rw [if_neg r, if_neg (by omega)]
theorem zf_up {f : Nat → Nat} {t c : Nat} (h : f t = 0) : zf (va_up f t c) = fun k => zf f k + mono (tF c) t k := by
  funext k
  unfold mono
  by_cases q : k = t
  · rw [if_pos q, q]
    show tF (va_up f t c t) = zf f t + tF c
    rw [va_up_self, zf_z h]
    grind
  · rw [if_neg q]
    show tF (va_up f t c k) = zf f k + 0
    rw [va_up_ne _ _ q]
    show zf f k = zf f k + 0
    grind
theorem dvO_F {f : Nat → Nat} {d w : Nat} (hf : ∀ k, d < k → f k = 0) (fa : Nat → F7) : ∀ t (u : (Nat → Nat) × (Nat → Nat)), (∀ k, k < t → u.1 k = 0) → (∀ k, fa k = cz (zf u.1) (zf f) k + zf u.2 k) → ∀ k, fa k = cz (zf (dvO f d w t u).1) (zf f) k + zf (dvO f d w t u).2 k := by
  intro t
  induction t with
  | zero => intro u _ h; exact h
  | succ t ih =>
    intro u h0 h
    unfold dvO
    refine ih _ (fun k hk => ?_) (fun k => ?_)
    · show va_up u.1 t _ k = 0
      rw [va_up_ne _ _ (by omega)]
      exact h0 k (by omega)
    · show fa k = cz (zf (va_up u.1 t (u.2 (t + d) * w % 257))) (zf f) k + zf (dvI (u.2 (t + d) * w % 257) f t u.2 (d + 1)) k
      rw [zf_up (h0 t (by omega)), cz_add, cz_mono, dvI_F, h k]
      by_cases q : t ≤ k
      · rw [if_pos q]
        by_cases r : k < t + (d + 1)
        · rw [if_pos ⟨q, r⟩, show tF (f (k - t)) = zf f (k - t) from rfl]
          grind
        · rw [if_neg (by omega), show zf f (k - t) = 0 from zf_z (hf _ (by omega))]
          grind
      · rw [if_neg q, if_neg (by omega)]
        grind
section DIV
variable {a b : kR} {d : Nat}
theorem quo_O (ha : rO a) : rO (quo a b) := quoR_O ha.2.2.1 (rD_le ha).2
theorem res_O (ha : rO a) (hb : rO b) (hd : rD b = d + 1) : rO (res a b) := resR_O ha.2.2.1 (by have := (rD_le hb).2; omega)
theorem res_dg (ha : rO a) (hb : rO b) (hd : rD b = d + 1) : rD (res a b) ≤ d := by
  have h1 := resR_dg (fb := b.2) (la := a.1) (d := d) ha.2.2.1 ha.2.2.2 (hb.2.2.1 d) (dg_top b.2 b.1 d hd)
  unfold res
  rw [hd]
  exact h1
theorem div_F (ha : rO a) (hb : rO b) (hd : rD b = d + 1) : ∀ k, zf a.2 k = cz (zf (quo a b).2) (zf b.2) k + zf (res a b).2 k := by
  intro k
  have hz : ∀ k, d < k → b.2 k = 0 := fun k hk => (zf_0 (hb.2.2.1 k)).mp ((dg_dF hb hd).2 k hk)
  have h1 := dvO_F (w := pw (b.2 d) 255) hz (zf a.2) (rD a - d) (fun _ => 0, a.2) (fun _ _ => rfl) (fun k => by
    show zf a.2 k = cz (zf (fun _ => 0)) (zf b.2) k + zf a.2 k
    rw [cz_zl (zf b.2) k (zf (fun _ => 0)) (fun _ => rfl)]
    grind) k
  have e1 : (quo a b).2 = (dvO b.2 d (pw (b.2 d) 255) (rD a - d) (fun _ => 0, a.2)).1 := by
    unfold quo
    rw [hd]
    rfl
  have e2 : zf (res a b).2 k = zf (dvO b.2 d (pw (b.2 d) 255) (rD a - d) (fun _ => 0, a.2)).2 k := by
    unfold res
    rw [hd]
    show tF (zfrom (dvd a.2 b.2 (rD a) d).2 (max d 1) k) = tF ((dvd a.2 b.2 (rD a) d).2 k)
    unfold zfrom
    by_cases q : max d 1 ≤ k
    · have h2 := dvd_zero (fa := a.2) (fb := b.2) (la := a.1) (d := d) ha.2.2.1 ha.2.2.2 (hb.2.2.1 d) (dg_top b.2 b.1 d hd) k (by omega)
      rw [if_pos q, show (dvd a.2 b.2 (rD a) d).2 k = 0 from h2]
    · rw [if_neg q]
  rw [e1, e2]
  exact h1
theorem div_vx (ha : rO a) (hb : rO b) (hd : rD b = d + 1) (x : Nat) : (vx (quo a b) x * vx b x + vx (res a b) x) % 257 = vx a x := by
  refine tF_inj (Nat.mod_lt _ (by decide)) (vx_lt _ _) ?_
  have hq := quo_O (b := b) ha
  have hr := res_O ha hb hd
  have l1 := ha.2.1
  have l2 := hb.2.1
  have l3 := hq.2.1
  have l4 := hr.2.1
  rw [tF_mod, tF_add, tF_mul, vx_N ha x (N := 128) (by omega), ev_congr _ _ (fun k _ => div_F ha hb hd k), ev_add, ev_cz _ (rO_zf hb) (quo a b).1 _ 128 (rO_zf hq) (by omega), vx_ev, vx_ev, vx_N hr x (N := 128) (by omega)]
end DIV
