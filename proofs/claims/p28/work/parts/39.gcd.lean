/-! THE GREATEST COMMON DIVISOR -/
theorem euc_O : ∀ n (A B : kR), rO A → rO B → rO (euc n A B) := by
  intro n
  induction n with
  | zero => intro A B hA _; exact hA
  | succ n ih =>
    intro A B hA hB
    rcases Nat.eq_zero_or_pos (dg B.2 B.1) with q | q
    · rw [euc_0 q]; exact hA
    · obtain ⟨d, hd⟩ : ∃ d, dg B.2 B.1 = d + 1 := ⟨dg B.2 B.1 - 1, by omega⟩
      rw [euc_s hd]
      have h2 := dg_le B.2 B.1
      have h3 := hB.2.1
      exact ih B _ hB (resR_O hA.2.2.1 (by omega))
theorem res_e {A B : kR} {d : Nat} (hd : rD B = d + 1) : resR A.2 B.2 (dg A.2 A.1) d = res A B := by
  unfold res
  rw [hd]
  rfl
theorem euc_F : ∀ n (A B : kR), rO A → rO B → rD B < n → dvz (zf (euc n A B).2) (zf A.2) ∧ dvz (zf (euc n A B).2) (zf B.2) ∧ ∀ D, dvz D (zf A.2) → dvz D (zf B.2) → dvz D (zf (euc n A B).2) := by
  intro n
  induction n with
  | zero => intro A B _ _ h; omega
  | succ n ih =>
    intro A B hA hB hn
    rcases Nat.eq_zero_or_pos (dg B.2 B.1) with q | q
    · rw [euc_0 q]
      exact ⟨dvz_rf _, dvz_z (dg_all hB q), fun D h1 _ => h1⟩
    · obtain ⟨d, hd⟩ : ∃ d, rD B = d + 1 := ⟨dg B.2 B.1 - 1, by show dg B.2 B.1 = _; omega⟩
      rw [euc_s hd, res_e hd]
      have hR := res_O hA hB hd
      have h1 := res_dg hA hB hd
      obtain ⟨g1, g2, g3⟩ := ih B (res A B) hB hR (by omega)
      have hQ := rO_pol (quo_O (b := B) hA)
      refine ⟨dvz_eq (dvz_add (dvz_l g1 hQ) g2) (div_F hA hB hd), g1, fun D hDA hDB => g3 D hDB ?_⟩
      refine dvz_eq (dvz_sub hDA (dvz_l hDB hQ)) (fun k => ?_)
      have h2 := div_F hA hB hd k
      rw [h2]
      grind
theorem euc_pos {A B : kR} (hA : rO A) (hB : rO B) (h : 0 < rD A ∨ 0 < rD B) : 0 < rD (euc 65 A B) := by
  have h1 := (rD_le hB).2
  exact (euc_K 65 A B hA.K hB.K h hA.2.2.2 hB.2.2.2 (by show rD B < 65; omega)).2
theorem mon_F {G : kR} (hG : rO G) {g : Nat} (hg : rD G = g + 1) : ∀ k, zf (monR G).2 k = iv (zf G.2 g) * zf G.2 k := by
  intro k
  have hg' : dg G.2 G.1 = g + 1 := hg
  show tF (scl (zfrom G.2 (dg G.2 G.1)) (pw (G.2 (dg G.2 G.1 - 1)) 255) (dg G.2 G.1) k) = _
  rw [hg']
  unfold scl zfrom
  have e : iv (zf G.2 g) = tF (pw (G.2 g) 255) := by
    unfold iv
    rw [show (zf G.2 g).val = G.2 g % 257 from rfl, pw_mod]
  rw [e]
  by_cases q : k < g + 1
  · rw [if_pos q, if_neg (by omega), tF_mod, tF_mul, show g + 1 - 1 = g by omega]
    show zf G.2 k * _ = _
    grind
  · rw [if_neg q, if_pos (by omega), (dg_dF hG hg).2 k (by omega), f_mul0]
    rfl
section GCD
variable {a b : kR}
/-- what a greatest common divisor is -/
theorem gcd_F (ha : rO a) (hb : rO b) (h : 0 < rD a ∨ 0 < rD b) : ∃ g, (gcdR a b).1 = g + 1 ∧ (gcdR a b).2 g = 1 ∧ rO (gcdR a b) ∧ dF (zf (gcdR a b).2) g ∧ dvz (zf (gcdR a b).2) (zf a.2) ∧ dvz (zf (gcdR a b).2) (zf b.2) ∧ ∀ D, dvz D (zf a.2) → dvz D (zf b.2) → dvz D (zf (gcdR a b).2) := by
  have hO := gcdR_O ha hb h
  have hG := euc_O 65 a b ha hb
  have hp := euc_pos ha hb h
  obtain ⟨g, hg⟩ : ∃ g, rD (euc 65 a b) = g + 1 := ⟨rD (euc 65 a b) - 1, by omega⟩
  have hM : ∀ k, zf (gcdR a b).2 k = iv (zf (euc 65 a b).2 g) * zf (euc 65 a b).2 k := mon_F hG hg
  have hd := dg_dF hG hg
  have hi := iv_mul hd.1
  have h0 : iv (zf (euc 65 a b).2 g) ≠ 0 := fun q => by
    rw [q, f_mul0] at hi
    exact absurd hi (by decide)
  have h1 := (rD_le hb).2
  obtain ⟨g1, g2, g3⟩ := euc_F 65 a b ha hb (by omega)
  have hMG : dvz (zf (gcdR a b).2) (zf (euc 65 a b).2) := dvz_eq (dvz_mul (zf (euc 65 a b).2 g) _) (fun k => by
    rw [hM k]
    have e : zf (euc 65 a b).2 g * (iv (zf (euc 65 a b).2 g) * zf (euc 65 a b).2 k) = (zf (euc 65 a b).2 g * iv (zf (euc 65 a b).2 g)) * zf (euc 65 a b).2 k := by grind
    rw [e, hi]
    grind)
  refine ⟨g, hg, ?_, hO, ⟨?_, fun k hk => ?_⟩, dvz_tr hMG g1, dvz_tr hMG g2, fun D h2 h3 => ?_⟩
  · refine tF_inj (hO.2.2.1 g) (by decide) ?_
    show zf (gcdR a b).2 g = 1
    rw [hM]
    grind
  · rw [hM]; exact f_dom h0 hd.1
  · rw [hM, hd.2 k hk, f_mul0]
  · exact dvz_eq (dvz_tr (g3 D h2 h3) (dvz_mul _ _)) hM
/-- pairs with the same common divisors have the same greatest one -/
theorem gcd_same {a' b' : kR} (ha : rO a) (hb : rO b) (h : 0 < rD a ∨ 0 < rD b) (ha' : rO a') (hb' : rO b') (h' : 0 < rD a' ∨ 0 < rD b') (h1 : ∀ D, dvz D (zf a.2) → dvz D (zf b.2) → dvz D (zf a'.2) ∧ dvz D (zf b'.2)) (h2 : ∀ D, dvz D (zf a'.2) → dvz D (zf b'.2) → dvz D (zf a.2) ∧ dvz D (zf b.2)) : gcdR a' b' = gcdR a b := by
  obtain ⟨g, e1, e2, e3, e4, e5, e6, e7⟩ := gcd_F ha hb h
  obtain ⟨g', f1, f2, f3, f4, f5, f6, f7⟩ := gcd_F ha' hb' h'
  obtain ⟨p1, p2⟩ := h1 _ e5 e6
  obtain ⟨q1, q2⟩ := h2 _ f5 f6
  obtain ⟨z, c, -, hc⟩ := dvz_both f4 e4 (e7 _ q1 q2) (f7 _ p1 p2)
  have hc1 : c = 1 := by
    have z1 := hc g
    rw [show zf (gcdR a b).2 g = 1 from by show tF _ = 1; rw [e2]; rfl, ← z, show zf (gcdR a' b').2 g' = 1 from by show tF _ = 1; rw [f2]; rfl] at z1
    rw [z1]
    grind
  refine row_ext f3 e3 (by omega) (fun k => ?_)
  rw [hc k, hc1]
  grind
theorem gcd_comm (ha : rO a) (hb : rO b) (h : 0 < rD a ∨ 0 < rD b) : gcdR b a = gcdR a b := gcd_same ha hb h hb ha (by omega) (fun _ h1 h2 => ⟨h2, h1⟩) (fun _ h1 h2 => ⟨h2, h1⟩)
theorem gcd_res {d : Nat} (ha : rO a) (hb : rO b) (hd : rD b = d + 1) : gcdR b (res a b) = gcdR a b := by
  have hR := res_O ha hb hd
  have hQ := rO_pol (quo_O (b := b) ha)
  refine gcd_same ha hb (by omega) hb hR (by omega) (fun D h1 h2 => ⟨h2, dvz_eq (dvz_sub h1 (dvz_l h2 hQ)) (fun k => ?_)⟩) (fun D h1 h2 => ⟨dvz_eq (dvz_add (dvz_l h1 hQ) h2) (div_F ha hb hd), h1⟩)
  have h3 := div_F ha hb hd k
  rw [h3]
  grind
/-- a row that another one divides has no rest -/
theorem res_0 {d : Nat} (ha : rO a) (hb : rO b) (hd : rD b = d + 1) (h : dvz (zf b.2) (zf a.2)) : rD (res a b) = 0 := by
  have hR := res_O ha hb hd
  have hQ := rO_pol (quo_O (b := b) ha)
  have h1 : dvz (zf b.2) (zf (res a b).2) := dvz_eq (dvz_sub h (dvz_l (dvz_rf _) hQ)) (fun k => by
    have h3 := div_F ha hb hd k
    rw [h3]
    grind)
  rcases Nat.eq_zero_or_pos (rD (res a b)) with q | q
  · exact q
  · obtain ⟨r, hr⟩ : ∃ r, rD (res a b) = r + 1 := ⟨rD (res a b) - 1, by omega⟩
    have h2 := res_dg ha hb hd
    have h3 := dg_dF hR hr
    rcases dvz_deg (dg_dF hb hd) h1 h3.2 with z | z
    · exact absurd (z r) h3.1
    · omega
theorem gcd_le {g d : Nat} (ha : rO a) (hd : rD a = d + 1) {G : Nat → F7} (hG : dF G g) (h : dvz G (zf a.2)) : g ≤ d := by
  have h3 := dg_dF ha hd
  rcases dvz_deg hG h h3.2 with z | z
  · exact absurd (z d) h3.1
  · exact z
/-- the law's facts of a divisor -/
theorem gcd_law {d : Nat} (ha : rO a) (hb : rO b) (hd : rD b = d + 1) : ∃ g, rD (gcdR a b) = g + 1 ∧ (gcdR a b).1 = g + 1 ∧ (gcdR a b).2 g = 1 ∧ g ≤ d ∧ (∀ e, rD a = e + 1 → g ≤ e) ∧ rO (gcdR a b) ∧ rD (res a (gcdR a b)) = 0 ∧ rD (res b (gcdR a b)) = 0 ∧ gcdR b (res a b) = gcdR a b ∧ gcdR b a = gcdR a b := by
  obtain ⟨g, e1, e2, e3, e4, e5, e6, e7⟩ := gcd_F ha hb (by omega)
  have eg := dF_dg e3 e4
  exact ⟨g, eg, e1, e2, gcd_le hb hd e4 e6, fun e he => gcd_le ha he e4 e5, e3, res_0 ha e3 eg e5, res_0 hb e3 eg e6, gcd_res ha hb hd, gcd_comm ha hb (by omega)⟩
/-- with a row that is all 0 -/
theorem gcd_zero {d : Nat} (ha : rO a) (hb : rO b) (hd : rD a = d + 1) (h0 : rD b = 0) : rD (gcdR a b) = d + 1 := by
  obtain ⟨g, e1, e2, e3, e4, e5, e6, e7⟩ := gcd_F ha hb (by omega)
  have eg := dF_dg e3 e4
  have h1 := gcd_le ha hd e4 e5
  have h2 := e7 (zf a.2) (dvz_rf _) (dvz_z (dg_all hb h0))
  rcases dvz_deg (dg_dF ha hd) h2 e4.2 with z | z
  · exact absurd (z g) e4.1
  · omega
end GCD
