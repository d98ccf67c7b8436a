set_option maxHeartbeats 4000000 in
set_option maxRecDepth 100000 in
theorem c_X4_divideRows (l : Launch) (D : va_G) (cy : Nat → ClassId) (ad : Nat → Nat) (hI : wI 143 ad) (ρ : Nat → kR) (x : kX) (a : Nat) (b : Nat) (q : Nat) (r : Nat) (d : Nat) (ha : a < 59) (hb2 : b < 59) (hq : q < 59) (hr2 : r < 59) (hqa : a ≠ q) (hqb : b ≠ q) (hqr : q ≠ r) (hra2 : a ≠ r) (hrb2 : b ≠ r) (hra : rK (ρ a)) (hrb : rK (ρ b)) (hd : dg (ρ b).2 (ρ b).1 = d + 1) : kM l yX4_divideRows wsX4_divideRows ({ frames := 3, cells := 0, slots := 0, locals := 66 } : Room) D cy 143 ad (cWf ad cy) (cW ad cy (ρ) (x)) [.ref (ad (2 * a)), .ref (ad (2 * b)), .ref (ad (2 * q)), .ref (ad (2 * r))] (kF none (va_up (va_up ρ q (quoR (ρ a).2 (ρ b).2 (dg (ρ a).2 (ρ a).1) d)) r (resR (ρ a).2 (ρ b).2 (dg (ρ a).2 (ρ a).1) d), x)) := by
  refine k_met cX4_divideRows 10 none (by decide) rfl (Nat.le_of_ble_eq_true rfl) ?_
  intro p e s m below meth c ls hx hb hr hts hown hlocks hml hK hP hS hl
  have hl : lv_has ls 10 [(0, .ref (ad (2 * a))), (1, .ref (ad (2 * b))), (2, .ref (ad (2 * q))), (3, .ref (ad (2 * r)))] := hl
  have hown : s.vm.findClass RX4 = some m.cls := hown
  have hm_84 := hts (.methodLink RX4 84 Lib.Math.max.name) (by decide +kernel)
  have hms := hts (.static Lib.Math.max.name) (by decide +kernel)
  have hmi := hts (.initialized "java/lang/Math") (by decide +kernel)
  have hmc := hts (.code Lib.Math.max.name Lib.Math.max.code 2 (some .int)) (by decide +kernel)
  obtain ⟨hla, hfa⟩ := hra
  obtain ⟨hlb, hfb⟩ := hrb
  have hdl := dg_le (ρ b).2 (ρ b).1
  have hDl := dg_le (ρ a).2 (ρ a).1
  have hd64 : d < 64 := by omega
  obtain ⟨dD, eD⟩ : ∃ z, z = dg (ρ a).2 (ρ a).1 := ⟨_, rfl⟩
  obtain ⟨w, ew⟩ : ∃ z, z = pw ((ρ b).2 d) 255 := ⟨_, rfl⟩
  have hw : w < 257 := by rw [ew]; exact pw_lt _ _
  have hD64 : dD ≤ 64 := by omega
  have hfd := hfb d
  refine lv_aload_n hx hb dX4_divideRows_0 rfl (lv_at hl 1 rfl) ?_
  refine k_callVr (rest := []) (nL := 10) ⟨hx, hb, hml, hown, hts⟩ (c_X2_degree l D cy ad hI ρ x b (by first | assumption | omega) (by first | assumption | omega) (by first | assumption | omega)) (cwV 0 hts gX4_divideRows_X2_degree rfl rfl rfl (by decide +kernel) ⟨Nat.le_of_ble_eq_true rfl, Nat.le_of_ble_eq_true rfl⟩) hK hP hS (fun _ h => h) (q0 := 2 * b) (ci := 2) rfl (by omega) (cW_row (i := b) (by omega)) rfl rfl rfl hl.1 rfl (Nat.le_of_ble_eq_true rfl) dX4_divideRows_1 ⟨Nat.zero_le _, Nat.zero_le _⟩ (fun H locs hP hS => ?_)
  have hP : va_P D vwCl (wL 143 ad (cW ad cy (ρ) (x))) H := hP
  refine n_push (a := d) (by rw [hd]; exact dV_s d) ?_
  refine lv_istore (lv' := [(4, .int (nI (d))), (0, .ref (ad (2 * a))), (1, .ref (ad (2 * b))), (2, .ref (ad (2 * q))), (3, .ref (ad (2 * r)))]) hx hb dX4_divideRows_4 hl (by decide) rfl (fun ls hl => ?_)
  refine lv_aload_n hx hb dX4_divideRows_6 rfl (lv_at hl 2 rfl) ?_
  refine lv_iload hx hb dX4_divideRows_7 (lv_at hl 0 rfl) ?_
  refine k_callVr (rest := []) (nL := 10) ⟨hx, hb, hml, hown, hts⟩ (c_X2_at l D cy ad hI ρ x b d (by first | assumption | omega) (by first | assumption | omega)) (cwV 1 hts gX4_divideRows_X2_at rfl rfl rfl (by decide +kernel) ⟨Nat.le_of_ble_eq_true rfl, Nat.le_of_ble_eq_true rfl⟩) hK hP hS (fun _ h => h) (q0 := 2 * b) (ci := 2) rfl (by omega) (cW_row (i := b) (by omega)) rfl rfl rfl hl.1 rfl (Nat.le_of_ble_eq_true rfl) dX4_divideRows_9 ⟨Nat.zero_le _, Nat.zero_le _⟩ (fun H locs hP hS => ?_)
  have hP : va_P D vwCl (wL 143 ad (cW ad cy (ρ) (x))) H := hP
  refine k_callSr (rest := []) (nL := 10) ⟨hx, hb, hml, hown, hts⟩ (c_X4_inverseOf l D cy ad hI ρ x ((ρ b).2 d) (by first | assumption | omega)) (va_cwS 1 hts gX4_divideRows_X4_inverseOf rfl rfl rfl (by decide +kernel) ⟨Nat.le_of_ble_eq_true rfl, Nat.le_of_ble_eq_true rfl⟩) hK hP hS (fun _ h => h) rfl hl.1 rfl (Nat.le_of_ble_eq_true rfl) dX4_divideRows_12 ⟨Nat.zero_le _, Nat.zero_le _⟩ (fun H locs hP hS => ?_)
  have hP : va_P D vwCl (wL 143 ad (cW ad cy (ρ) (x))) H := hP
  refine n_push (a := w) (by rw [ew]) ?_
  refine lv_istore (lv' := [(5, .int (nI (w))), (4, .int (nI (d))), (0, .ref (ad (2 * a))), (1, .ref (ad (2 * b))), (2, .ref (ad (2 * q))), (3, .ref (ad (2 * r)))]) hx hb dX4_divideRows_15 hl (by decide) rfl (fun ls hl => ?_)
  refine lv_aload_n hx hb dX4_divideRows_17 rfl (lv_at hl 2 rfl) ?_
  refine k_callVr (rest := []) (nL := 10) ⟨hx, hb, hml, hown, hts⟩ (c_X2_degree l D cy ad hI ρ x a (by first | assumption | omega) (by first | assumption | omega) (by first | assumption | omega)) (cwV 0 hts gX4_divideRows_X2_degree rfl rfl rfl (by decide +kernel) ⟨Nat.le_of_ble_eq_true rfl, Nat.le_of_ble_eq_true rfl⟩) hK hP hS (fun _ h => h) (q0 := 2 * a) (ci := 2) rfl (by omega) (cW_row (i := a) (by omega)) rfl rfl rfl hl.1 rfl (Nat.le_of_ble_eq_true rfl) dX4_divideRows_18 ⟨Nat.zero_le _, Nat.zero_le _⟩ (fun H locs hP hS => ?_)
  have hP : va_P D vwCl (wL 143 ad (cW ad cy (ρ) (x))) H := hP
  refine lv_iload hx hb dX4_divideRows_21 (lv_at hl 1 rfl) ?_
  refine lv_isub hx hb dX4_divideRows_23 ?_
  refine i_push (b := dvl dD d) (by rw [eD]; rfl) ?_
  refine lv_istore (lv' := [(6, .int (dvl dD d)), (5, .int (nI (w))), (4, .int (nI (d))), (0, .ref (ad (2 * a))), (1, .ref (ad (2 * b))), (2, .ref (ad (2 * q))), (3, .ref (ad (2 * r)))]) hx hb dX4_divideRows_24 hl (by decide) rfl (fun ls hl => ?_)
  refine lv_aload_n hx hb dX4_divideRows_26 rfl (lv_at hl 5 rfl) ?_
  refine lv_iload hx hb dX4_divideRows_27 (lv_at hl 0 rfl) ?_
  refine lv_iconst (v := nI (0)) hx hb dX4_divideRows_29 rfl ?_
  refine va_mmax hx hb (hml.trans hl.1.symm) hown hm_84 hms hmi hmc (by decide) (Nat.le_of_ble_eq_true rfl) (Nat.zero_le _) (Nat.zero_le _) dX4_divideRows_30 ?_
  refine lv_iconst (v := nI (1)) hx hb dX4_divideRows_33 rfl ?_
  refine lv_iadd hx hb dX4_divideRows_34 ?_
  refine n_push (a := max (dD - d) 1) (dvl_max hD64 hd64) ?_
  refine k_callVv (rest := []) (nL := 10) ⟨hx, hb, hml, hown, hts⟩ (c_X2_clear l D cy ad hI ρ x q (max (dD - d) 1) (by first | assumption | omega)) (cwV 1 hts gX4_divideRows_X2_clear rfl rfl rfl (by decide +kernel) ⟨Nat.le_of_ble_eq_true rfl, Nat.le_of_ble_eq_true rfl⟩) hK hP hS (fun _ h => h) (q0 := 2 * q) (ci := 2) rfl (by omega) (cW_row (i := q) (by omega)) rfl rfl rfl hl.1 rfl (Nat.le_of_ble_eq_true rfl) dX4_divideRows_35 ⟨Nat.zero_le _, Nat.zero_le _⟩ (fun H locs hP hS => ?_)
  have hP : va_P D vwCl (wL 143 ad (cW ad cy (va_up ρ q ((max (dD - d) 1), fun _ => 0)) (x))) H := hP
  refine lv_aload_n hx hb dX4_divideRows_38 rfl (lv_at hl 6 rfl) ?_
  refine lv_aload_n hx hb dX4_divideRows_39 rfl (lv_at hl 3 rfl) ?_
  refine k_callVv (rest := []) (nL := 10) ⟨hx, hb, hml, hown, hts⟩ (c_X2_copyFrom l D cy ad hI (va_up ρ q ((max (dD - d) 1), fun _ => 0)) x r a (by first | assumption | omega) (by first | assumption | omega) (by first | assumption | omega)) (cwV 1 hts gX4_divideRows_X2_copyFrom rfl rfl rfl (by decide +kernel) ⟨Nat.le_of_ble_eq_true rfl, Nat.le_of_ble_eq_true rfl⟩) hK hP hS (fun _ h => h) (q0 := 2 * r) (ci := 2) rfl (by omega) (cW_row (i := r) (by omega)) rfl rfl rfl hl.1 rfl (Nat.le_of_ble_eq_true rfl) dX4_divideRows_40 ⟨Nat.zero_le _, Nat.zero_le _⟩ (fun H locs hP hS => ?_)
  have hP : va_P D vwCl (wL 143 ad (cW ad cy (va_up (va_up ρ q ((max (dD - d) 1), fun _ => 0)) r ((va_up ρ q ((max (dD - d) 1), fun _ => 0)) a)) (x))) H := hP
  rw [va_up_ne _ _ hqa] at hP
  refine lv_iload hx hb dX4_divideRows_43 (lv_at hl 0 rfl) ?_
  refine lv_istore (lv' := [(7, .int (dvl dD d)), (6, .int (dvl dD d)), (5, .int (nI (w))), (4, .int (nI (d))), (0, .ref (ad (2 * a))), (1, .ref (ad (2 * b))), (2, .ref (ad (2 * q))), (3, .ref (ad (2 * r)))]) hx hb dX4_divideRows_45 hl (by decide) rfl (fun ls hl => ?_)
  have lp47 : ∀ (fu : Nat) (t : Nat) (pl : Int32) (qf : Nat → Nat) (rf : Nat → Nat) (ρ' : Nat → kR), (t ≤ dD - d) → ((t = 0 ∧ pl < 0) ∨ (0 < t ∧ pl = nI t - 1)) → (∀ k, rf k < 257) → (dvO (ρ b).2 d w t (qf, rf) = dvd (ρ a).2 (ρ b).2 dD d) → (ρ' = va_up (va_up ρ q (max (dD - d) 1, qf)) r ((ρ a).1, rf)) → t < fu → ∀ (H : Heap) (locs : List Loc), va_P D vwCl (wL 143 ad (cW ad cy (ρ') (x))) H → va_S (wA 143 ad) s.heap H locs → ∀ (ls : Array Slot), lv_has ls 10 [(7, .int (pl)), (5, .int (nI (w))), (4, .int (nI (d))), (0, .ref (ad (2 * a))), (1, .ref (ad (2 * b))), (2, .ref (ad (2 * q))), (3, .ref (ad (2 * r)))] → W p l e ({ frames := 3, cells := 0, slots := 0, locals := 66 } : Room) s m ([.ref (ad (2 * a)), .ref (ad (2 * b)), .ref (ad (2 * q)), .ref (ad (2 * r))] : List Value).toArray below meth c H locs 0 0 (MQ below (kQ D 143 ad (cWf ad cy) (kF none (va_up (va_up ρ q (quoR (ρ a).2 (ρ b).2 (dg (ρ a).2 (ρ a).1) d)) r (resR (ρ a).2 (ρ b).2 (dg (ρ a).2 (ρ a).1) d), x))) ([.ref (ad (2 * a)), .ref (ad (2 * b)), .ref (ad (2 * q)), .ref (ad (2 * r))] : List Value).toArray s 0 0 (wA 143 ad)) (F0 m 47 ls []) := by
    intro fu
    induction fu with
    | zero => intro t pl qf rf ρ' ht hpl hrf he hρ hfu; exact absurd hfu (Nat.not_lt_zero _)
    | succ fu ih47 =>
      intro t pl qf rf ρ' ht hpl hrf he hρ hfu H locs hP hS ls hl
      refine lv_iload hx hb dX4_divideRows_47 (lv_at hl 0 rfl) ?_
      refine lv_if_lt (tgt := 128) hx hb dX4_divideRows_49 (by decide) (fun h_1 => ?_) (fun h_1 => ?_)
      · skip
        have ht0 : t = 0 := by
          rcases hpl with z | z
          · exact z.1
          · exfalso
            obtain ⟨j, hj⟩ : ∃ j, t = j + 1 := ⟨t - 1, by omega⟩
            rw [z.2, hj, nI_pred] at h_1
            exact nI_pos (by omega) h_1
        subst ht0
        have eq1 : (qf, rf) = dvd (ρ a).2 (ρ b).2 dD d := he
        refine lv_aload_n hx hb dX4_divideRows_128 rfl (lv_at hl 6 rfl) ?_
        refine lv_iload hx hb dX4_divideRows_129 (lv_at hl 2 rfl) ?_
        refine lv_iconst (v := nI (1)) hx hb dX4_divideRows_131 rfl ?_
        refine n_max (a := d) (b := 1) hx hb (hml.trans hl.1.symm) hown hm_84 hms hmi hmc (by decide) (Nat.le_of_ble_eq_true rfl) (Nat.zero_le _) (Nat.zero_le _) (by omega) (by omega) dX4_divideRows_132 ?_
        refine k_callVv (rest := []) (nL := 10) ⟨hx, hb, hml, hown, hts⟩ (c_X2_resize l D cy ad hI ρ' x r (max d 1) (by first | assumption | omega) (by first | assumption | omega)) (cwV 1 hts gX4_divideRows_X2_resize rfl rfl rfl (by decide +kernel) ⟨Nat.le_of_ble_eq_true rfl, Nat.le_of_ble_eq_true rfl⟩) hK hP hS (fun _ h => h) (q0 := 2 * r) (ci := 2) rfl (by omega) (cW_row (i := r) (by omega)) rfl rfl rfl hl.1 rfl (Nat.le_of_ble_eq_true rfl) dX4_divideRows_135 ⟨Nat.zero_le _, Nat.zero_le _⟩ (fun H locs hP hS => ?_)
        have hP : va_P D vwCl (wL 143 ad (cW ad cy (va_up ρ' r ((max d 1), zfrom (ρ' r).2 (max d 1))) (x))) H := hP
        refine k_vret hx hb hr hlocks (va_up ρ' r ((max d 1), zfrom (ρ' r).2 (max d 1)), x) hP hS dX4_divideRows_138 ?_
        exact ⟨rfl, by rw [hρ, up_up, va_up_self]; unfold quoR resR; rw [← eD, ← eq1]⟩
      · skip
        have hz := hpl.resolve_left (fun z => h_1 z.2)
        obtain ⟨j, rfl⟩ : ∃ j, t = j + 1 := ⟨t - 1, by omega⟩
        obtain ⟨-, rfl⟩ := hz
        rw [nI_pred] at hl
        have er : ρ' r = ((ρ a).1, rf) := by rw [hρ, va_up_self]
        have eq2 : ρ' q = (max (dD - d) 1, qf) := by rw [hρ, va_up_ne _ _ hqr, va_up_self]
        have hm := mul_lt_257 (hrf (j + d)) hw
        refine lv_aload_n hx hb dX4_divideRows_52 rfl (lv_at hl 6 rfl) ?_
        refine lv_iload hx hb dX4_divideRows_53 (lv_at hl 0 rfl) ?_
        refine lv_iload hx hb dX4_divideRows_55 (lv_at hl 2 rfl) ?_
        refine n_iadd hx hb dX4_divideRows_57 ?_
        refine k_callVr (rest := []) (nL := 10) ⟨hx, hb, hml, hown, hts⟩ (c_X2_at l D cy ad hI ρ' x r (j + d) (by first | assumption | omega) (by first | assumption | omega)) (cwV 1 hts gX4_divideRows_X2_at rfl rfl rfl (by decide +kernel) ⟨Nat.le_of_ble_eq_true rfl, Nat.le_of_ble_eq_true rfl⟩) hK hP hS (fun _ h => h) (q0 := 2 * r) (ci := 2) rfl (by omega) (cW_row (i := r) (by omega)) rfl rfl rfl hl.1 rfl (Nat.le_of_ble_eq_true rfl) dX4_divideRows_58 ⟨Nat.zero_le _, Nat.zero_le _⟩ (fun H locs hP hS => ?_)
        have hP : va_P D vwCl (wL 143 ad (cW ad cy (ρ') (x))) H := hP
        refine n_push (a := rf (j + d)) (by rw [er]) ?_
        refine lv_iload hx hb dX4_divideRows_61 (lv_at hl 1 rfl) ?_
        refine n_imul hx hb dX4_divideRows_63 ?_
        refine lv_sipush (v := nI (257)) hx hb dX4_divideRows_64 rfl ?_
        refine n_irem hx hb (by omega) (by omega) (by omega) dX4_divideRows_67  ?_
        refine lv_istore (lv' := [(8, .int (nI (((rf (j + d)) * w) % 257))), (7, .int (nI (j))), (5, .int (nI (w))), (4, .int (nI (d))), (0, .ref (ad (2 * a))), (1, .ref (ad (2 * b))), (2, .ref (ad (2 * q))), (3, .ref (ad (2 * r)))]) hx hb dX4_divideRows_68 hl (by decide) rfl (fun ls hl => ?_)
        refine lv_aload_n hx hb dX4_divideRows_70 rfl (lv_at hl 6 rfl) ?_
        refine lv_iload hx hb dX4_divideRows_71 (lv_at hl 1 rfl) ?_
        refine lv_iload hx hb dX4_divideRows_73 (lv_at hl 0 rfl) ?_
        refine k_callVv (rest := []) (nL := 10) ⟨hx, hb, hml, hown, hts⟩ (c_X2_write l D cy ad hI ρ' x q j (nI (((rf (j + d)) * w) % 257)) (by first | assumption | omega) (by first | assumption | omega)) (cwV 2 hts gX4_divideRows_X2_write rfl rfl rfl (by decide +kernel) ⟨Nat.le_of_ble_eq_true rfl, Nat.le_of_ble_eq_true rfl⟩) hK hP hS (fun _ h => h) (q0 := 2 * q) (ci := 2) rfl (by omega) (cW_row (i := q) (by omega)) rfl rfl rfl hl.1 rfl (Nat.le_of_ble_eq_true rfl) dX4_divideRows_75 ⟨Nat.zero_le _, Nat.zero_le _⟩ (fun H locs hP hS => ?_)
        have hP : va_P D vwCl (wL 143 ad (cW ad cy (va_up ρ' q ((ρ' q).1, va_up (ρ' q).2 j (kmod (nI (((rf (j + d)) * w) % 257)).toInt))) (x))) H := hP
        refine lv_iconst (v := nI (0)) hx hb dX4_divideRows_78 rfl ?_
        refine lv_istore (lv' := [(9, .int (nI (0))), (8, .int (nI (((rf (j + d)) * w) % 257))), (7, .int (nI (j))), (5, .int (nI (w))), (4, .int (nI (d))), (0, .ref (ad (2 * a))), (1, .ref (ad (2 * b))), (2, .ref (ad (2 * q))), (3, .ref (ad (2 * r)))]) hx hb dX4_divideRows_79 hl (by decide) rfl (fun ls hl => ?_)
        have lp81 : ∀ (fu : Nat) (i : Nat) (ρ'' : Nat → kR), (i ≤ d + 1) → (ρ'' = va_up (va_up ρ q (max (dD - d) 1, va_up qf j (rf (j + d) * w % 257))) r ((ρ a).1, dvI (rf (j + d) * w % 257) (ρ b).2 j rf i)) → d + 1 - i < fu → ∀ (H : Heap) (locs : List Loc), va_P D vwCl (wL 143 ad (cW ad cy (ρ'') (x))) H → va_S (wA 143 ad) s.heap H locs → ∀ (ls : Array Slot), lv_has ls 10 [(9, .int (nI (i))), (8, .int (nI (rf (j + d) * w % 257))), (7, .int (nI (j))), (5, .int (nI (w))), (4, .int (nI (d))), (0, .ref (ad (2 * a))), (1, .ref (ad (2 * b))), (2, .ref (ad (2 * q))), (3, .ref (ad (2 * r)))] → W p l e ({ frames := 3, cells := 0, slots := 0, locals := 66 } : Room) s m ([.ref (ad (2 * a)), .ref (ad (2 * b)), .ref (ad (2 * q)), .ref (ad (2 * r))] : List Value).toArray below meth c H locs 0 0 (MQ below (kQ D 143 ad (cWf ad cy) (kF none (va_up (va_up ρ q (quoR (ρ a).2 (ρ b).2 (dg (ρ a).2 (ρ a).1) d)) r (resR (ρ a).2 (ρ b).2 (dg (ρ a).2 (ρ a).1) d), x))) ([.ref (ad (2 * a)), .ref (ad (2 * b)), .ref (ad (2 * q)), .ref (ad (2 * r))] : List Value).toArray s 0 0 (wA 143 ad)) (F0 m 81 ls []) := by
          intro fu
          induction fu with
          | zero => intro i ρ'' hi hρ2 hfu; exact absurd hfu (Nat.not_lt_zero _)
          | succ fu ih81 =>
            intro i ρ'' hi hρ2 hfu H locs hP hS ls hl
            have er2 : ρ'' r = ((ρ a).1, dvI (rf (j + d) * w % 257) (ρ b).2 j rf i) := by rw [hρ2, va_up_self]
            have eb2 : ρ'' b = ρ b := by rw [hρ2, va_up_ne _ _ hrb2, va_up_ne _ _ hqb]
            have hcl : rf (j + d) * w % 257 < 257 := Nat.mod_lt _ (by decide)
            have hm2 := mul_lt_257 hcl (hfb i)
            have hg := dvI_lt (c := rf (j + d) * w % 257) (f := (ρ b).2) (j := j) hrf i (j + i)
            refine lv_iload hx hb dX4_divideRows_81 (lv_at hl 0 rfl) ?_
            refine lv_iload hx hb dX4_divideRows_83 (lv_at hl 4 rfl) ?_
            refine n_icmp_gt (tgt := 122) hx hb (by omega) (by omega) dX4_divideRows_85 (by decide) (fun h_2 => ?_) (fun h_2 => ?_)
            · skip
              refine lv_iinc (v := nI (j) - 1) (lv' := [(7, .int (nI (j) - 1)), (9, .int (nI (i))), (8, .int (nI (rf (j + d) * w % 257))), (5, .int (nI (w))), (4, .int (nI (d))), (0, .ref (ad (2 * a))), (1, .ref (ad (2 * b))), (2, .ref (ad (2 * q))), (3, .ref (ad (2 * r)))]) hx hb dX4_divideRows_122 hl (k := 2) rfl (nI_dec' _) (by decide) rfl (fun ls hl => ?_)
              refine lv_goto (tgt := 47) hx hb dX4_divideRows_125 (by decide) ?_
              exact ih47 (j) (nI j - 1) (va_up qf j (rf (j + d) * w % 257)) (dvI (rf (j + d) * w % 257) (ρ b).2 j rf (d + 1)) (ρ'') (by omega) (by
                                  rcases Nat.eq_zero_or_pos j with z | z
                                  · exact Or.inl ⟨z, by rw [z]; decide⟩
                                  · exact Or.inr ⟨z, rfl⟩) (fun k => dvI_lt hrf _ _) he (by rw [hρ2, show i = d + 1 by omega]) (by omega) _ _ hP hS _ (lv_sub hl [0, 3, 4, 5, 6, 7, 8] rfl)
            · skip
              refine lv_aload_n hx hb dX4_divideRows_88 rfl (lv_at hl 8 rfl) ?_
              refine lv_iload hx hb dX4_divideRows_89 (lv_at hl 2 rfl) ?_
              refine lv_iload hx hb dX4_divideRows_91 (lv_at hl 0 rfl) ?_
              refine n_iadd hx hb dX4_divideRows_93 ?_
              refine lv_aload_n hx hb dX4_divideRows_94 rfl (lv_at hl 8 rfl) ?_
              refine lv_iload hx hb dX4_divideRows_95 (lv_at hl 2 rfl) ?_
              refine lv_iload hx hb dX4_divideRows_97 (lv_at hl 0 rfl) ?_
              refine n_iadd hx hb dX4_divideRows_99 ?_
              refine k_callVr (rest := [.int (nI (j + i)), .ref (ad (2 * r))]) (nL := 10) ⟨hx, hb, hml, hown, hts⟩ (c_X2_at l D cy ad hI ρ'' x r (j + i) (by first | assumption | omega) (by first | assumption | omega)) (cwV 1 hts gX4_divideRows_X2_at rfl rfl rfl (by decide +kernel) ⟨Nat.le_of_ble_eq_true rfl, Nat.le_of_ble_eq_true rfl⟩) hK hP hS (fun _ h => h) (q0 := 2 * r) (ci := 2) rfl (by omega) (cW_row (i := r) (by omega)) rfl rfl rfl hl.1 rfl (Nat.le_of_ble_eq_true rfl) dX4_divideRows_100 ⟨Nat.zero_le _, Nat.zero_le _⟩ (fun H locs hP hS => ?_)
              have hP : va_P D vwCl (wL 143 ad (cW ad cy (ρ'') (x))) H := hP
              refine n_push (a := dvI (rf (j + d) * w % 257) (ρ b).2 j rf i (j + i)) (by rw [er2]) ?_
              refine lv_iload hx hb dX4_divideRows_103 (lv_at hl 1 rfl) ?_
              refine lv_aload_n hx hb dX4_divideRows_105 rfl (lv_at hl 6 rfl) ?_
              refine lv_iload hx hb dX4_divideRows_106 (lv_at hl 0 rfl) ?_
              refine k_callVr (rest := [.int (nI (rf (j + d) * w % 257)), .int (nI (dvI (rf (j + d) * w % 257) (ρ b).2 j rf i (j + i))), .int (nI (j + i)), .ref (ad (2 * r))]) (nL := 10) ⟨hx, hb, hml, hown, hts⟩ (c_X2_at l D cy ad hI ρ'' x b i (by first | assumption | omega) (by first | assumption | omega)) (cwV 1 hts gX4_divideRows_X2_at rfl rfl rfl (by decide +kernel) ⟨Nat.le_of_ble_eq_true rfl, Nat.le_of_ble_eq_true rfl⟩) hK hP hS (fun _ h => h) (q0 := 2 * b) (ci := 2) rfl (by omega) (cW_row (i := b) (by omega)) rfl rfl rfl hl.1 rfl (Nat.le_of_ble_eq_true rfl) dX4_divideRows_108 ⟨Nat.zero_le _, Nat.zero_le _⟩ (fun H locs hP hS => ?_)
              have hP : va_P D vwCl (wL 143 ad (cW ad cy (ρ'') (x))) H := hP
              refine n_push (a := (ρ b).2 i) (by rw [eb2]) ?_
              refine n_imul hx hb dX4_divideRows_111 ?_
              refine lv_isub hx hb dX4_divideRows_112 ?_
              refine k_callVv (rest := []) (nL := 10) ⟨hx, hb, hml, hown, hts⟩ (c_X2_write l D cy ad hI ρ'' x r (j + i) ((nI (dvI (rf (j + d) * w % 257) (ρ b).2 j rf i (j + i))) - (nI ((rf (j + d) * w % 257) * ((ρ b).2 i)))) (by first | assumption | omega) (by first | assumption | omega)) (cwV 2 hts gX4_divideRows_X2_write rfl rfl rfl (by decide +kernel) ⟨Nat.le_of_ble_eq_true rfl, Nat.le_of_ble_eq_true rfl⟩) hK hP hS (fun _ h => h) (q0 := 2 * r) (ci := 2) rfl (by omega) (cW_row (i := r) (by omega)) rfl rfl rfl hl.1 rfl (Nat.le_of_ble_eq_true rfl) dX4_divideRows_113 ⟨Nat.zero_le _, Nat.zero_le _⟩ (fun H locs hP hS => ?_)
              have hP : va_P D vwCl (wL 143 ad (cW ad cy (va_up ρ'' r ((ρ'' r).1, va_up (ρ'' r).2 (j + i) (kmod ((nI (dvI (rf (j + d) * w % 257) (ρ b).2 j rf i (j + i))) - (nI ((rf (j + d) * w % 257) * ((ρ b).2 i)))).toInt))) (x))) H := hP
              refine lv_iinc (v := nI (i + 1)) (lv' := [(9, .int (nI (i + 1))), (8, .int (nI (rf (j + d) * w % 257))), (7, .int (nI (j))), (5, .int (nI (w))), (4, .int (nI (d))), (0, .ref (ad (2 * a))), (1, .ref (ad (2 * b))), (2, .ref (ad (2 * q))), (3, .ref (ad (2 * r)))]) hx hb dX4_divideRows_116 hl (k := 0) rfl (nI_inc _) (by decide) rfl (fun ls hl => ?_)
              refine lv_goto (tgt := 81) hx hb dX4_divideRows_119 (by decide) ?_
              exact ih81 (i + 1) (va_up ρ'' r ((ρ'' r).1, va_up (ρ'' r).2 (j + i) (kmod ((nI (dvI (rf (j + d) * w % 257) (ρ b).2 j rf i (j + i))) - (nI ((rf (j + d) * w % 257) * ((ρ b).2 i)))).toInt))) (by omega) (by rw [sbm_e hg hm2, er2, hρ2, up_up]; rfl) (by omega) _ _ hP hS _ hl
        exact lp81 (_ + 1) (0) (va_up ρ' q ((ρ' q).1, va_up (ρ' q).2 j (kmod (nI (((rf (j + d)) * w) % 257)).toInt))) (by omega) (by rw [kmod_nI (by omega), Nat.mod_mod, eq2, hρ, up_swap (Ne.symm hqr), up_up]; rfl) (Nat.lt_succ_self _) _ _ hP hS _ hl
  exact lp47 (_ + 1) (dD - d) (dvl dD d) (fun _ => 0) ((ρ a).2) (va_up (va_up ρ q (max (dD - d) 1, fun _ => 0)) r (ρ a)) (Nat.le_refl _) (by
            by_cases z : dD ≤ d
            · exact Or.inl ⟨by omega, dvl_neg hD64 hd64 z⟩
            · exact Or.inr ⟨by omega, dvl_pos hD64 (by omega)⟩) hfa (by rw [ew]; rfl) rfl (Nat.lt_succ_self _) _ _ hP hS _ (lv_sub hl [0, 2, 3, 4, 5, 6, 7] rfl)
set_option maxHeartbeats 4000000 in
set_option maxRecDepth 100000 in
theorem c_X4_makeGreatestDivisor (l : Launch) (D : va_G) (cy : Nat → ClassId) (ad : Nat → Nat) (hI : wI 143 ad) (ρ : Nat → kR) (x : kX) (a : Nat) (b : Nat) (ha : a < 54) (hb2 : b < 54) (hra : rK (ρ a)) (hrb : rK (ρ b)) (hza : ∀ k, (ρ a).1 ≤ k → (ρ a).2 k = 0) (hzb : ∀ k, (ρ b).1 ≤ k → (ρ b).2 k = 0) (hnz : 0 < dg (ρ a).2 (ρ a).1 ∨ 0 < dg (ρ b).2 (ρ b).1) : kM l yX4_makeGreatestDivisor wsX4_makeGreatestDivisor ({ frames := 4, cells := 0, slots := 0, locals := 95 } : Room) D cy 143 ad (cWf ad cy) (cW ad cy (ρ) (x)) [.ref (ad (136)), .ref (ad (2 * a)), .ref (ad (2 * b))] (fun o u => o = none ∧ u.2 = x ∧ (∀ i, i < 54 → u.1 i = ρ i) ∧ u.1 54 = gcdR (ρ a) (ρ b)) := by
  refine k_met cX4_makeGreatestDivisor 4 none (by decide) rfl (Nat.le_of_ble_eq_true rfl) ?_
  intro p e s m below meth c ls hx hb hr hts hown hlocks hml hK hP hS hl
  have hl : lv_has ls 4 [(0, .ref (ad (136))), (1, .ref (ad (2 * a))), (2, .ref (ad (2 * b)))] := hl
  have hown : s.vm.findClass RX4 = some m.cls := hown
  have hf_41 := hts (.fieldLink RX4 41 "TurnedRows" "made" "LTurnedRows$Row;") (by decide +kernel)
  have hf_45 := hts (.fieldLink RX4 45 "TurnedRows" "madeRest" "LTurnedRows$Row;") (by decide +kernel)
  have hf_48 := hts (.fieldLink RX4 48 "TurnedRows" "stepDividend" "LTurnedRows$Row;") (by decide +kernel)
  have hf_51 := hts (.fieldLink RX4 51 "TurnedRows" "stepDivisor" "LTurnedRows$Row;") (by decide +kernel)
  have hf_54 := hts (.fieldLink RX4 54 "TurnedRows" "stepResult" "LTurnedRows$Row;") (by decide +kernel)
  have hw_X4 : ∀ qw ∈ wsX40, qw.before ([.ref (ad (136)), .ref (ad (2 * a)), .ref (ad (2 * b))] : List Value).toArray s = true := fun qw h => hts qw ((by decide +kernel : ∀ qw ∈ wsX40, qw ∈ wsX4_makeGreatestDivisor) qw h)
  have hdl := dg_le (ρ b).2 (ρ b).1
  have hlb := hrb.1
  refine lv_aload_n hx hb dX4_makeGreatestDivisor_0 rfl (lv_at hl 0 rfl) ?_
  refine k_get (q0 := 136) (k := 7) (T := TX4) (Nf := 10) (ci := 4) (C := RX4) (v := .ref (ad (2 * 56))) hx hb hw_X4 hown hK hP (by decide) cW_top rfl (by decide) hf_48 rfl rfl dX4_makeGreatestDivisor_1 ?_
  refine lv_aload_n hx hb dX4_makeGreatestDivisor_4 rfl (lv_at hl 1 rfl) ?_
  refine k_callVv (rest := []) (nL := 4) ⟨hx, hb, hml, hown, hts⟩ (c_X2_copyFrom l D cy ad hI ρ x 56 a (by first | assumption | omega) (by first | assumption | omega) (by omega)) (cwV 1 hts gX4_makeGreatestDivisor_X2_copyFrom rfl rfl rfl (by decide +kernel) ⟨Nat.le_of_ble_eq_true rfl, Nat.le_of_ble_eq_true rfl⟩) hK hP hS (fun _ h => h) (q0 := 2 * 56) (ci := 2) rfl (by omega) (cW_row (i := 56) (by omega)) rfl rfl rfl hl.1 rfl (Nat.le_of_ble_eq_true rfl) dX4_makeGreatestDivisor_5 ⟨Nat.zero_le _, Nat.zero_le _⟩ (fun H locs hP hS => ?_)
  have hP : va_P D vwCl (wL 143 ad (cW ad cy (va_up ρ 56 (ρ a)) (x))) H := hP
  refine lv_aload_n hx hb dX4_makeGreatestDivisor_8 rfl (lv_at hl 0 rfl) ?_
  refine k_get (q0 := 136) (k := 8) (T := TX4) (Nf := 10) (ci := 4) (C := RX4) (v := .ref (ad (2 * 57))) hx hb hw_X4 hown hK hP (by decide) cW_top rfl (by decide) hf_51 rfl rfl dX4_makeGreatestDivisor_9 ?_
  refine lv_aload_n hx hb dX4_makeGreatestDivisor_12 rfl (lv_at hl 2 rfl) ?_
  refine k_callVv (rest := []) (nL := 4) ⟨hx, hb, hml, hown, hts⟩ (c_X2_copyFrom l D cy ad hI (va_up ρ 56 (ρ a)) x 57 b (by first | assumption | omega) (by first | assumption | omega) (by omega)) (cwV 1 hts gX4_makeGreatestDivisor_X2_copyFrom rfl rfl rfl (by decide +kernel) ⟨Nat.le_of_ble_eq_true rfl, Nat.le_of_ble_eq_true rfl⟩) hK hP hS (fun _ h => h) (q0 := 2 * 57) (ci := 2) rfl (by omega) (cW_row (i := 57) (by omega)) rfl rfl rfl hl.1 rfl (Nat.le_of_ble_eq_true rfl) dX4_makeGreatestDivisor_13 ⟨Nat.zero_le _, Nat.zero_le _⟩ (fun H locs hP hS => ?_)
  have hP : va_P D vwCl (wL 143 ad (cW ad cy (va_up (va_up ρ 56 (ρ a)) 57 ((va_up ρ 56 (ρ a)) b)) (x))) H := hP
  refine lv_iconst (v := nI (0)) hx hb dX4_makeGreatestDivisor_16 rfl ?_
  refine lv_istore_n (lv' := [(3, .int (nI (0))), (0, .ref (ad (136))), (1, .ref (ad (2 * a))), (2, .ref (ad (2 * b)))]) hx hb dX4_makeGreatestDivisor_17 rfl hl (by decide) rfl (fun ls hl => ?_)
  have lp18 : ∀ (fu : Nat) (n : Nat) (A : kR) (B : kR) (ρ' : Nat → kR), (n + dg B.2 B.1 ≤ 64) → (ρ' 56 = A) → (ρ' 57 = B) → (rK A) → (rK B) → (∀ k, A.1 ≤ k → A.2 k = 0) → (∀ k, B.1 ≤ k → B.2 k = 0) → (∀ i, i < 54 → ρ' i = ρ i) → (euc (65 - n) A B = euc 65 (ρ a) (ρ b)) → (0 < dg A.2 A.1 ∨ 0 < dg B.2 B.1) → dg B.2 B.1 < fu → ∀ (H : Heap) (locs : List Loc), va_P D vwCl (wL 143 ad (cW ad cy (ρ') (x))) H → va_S (wA 143 ad) s.heap H locs → ∀ (ls : Array Slot), lv_has ls 4 [(3, .int (nI (n))), (0, .ref (ad (136))), (1, .ref (ad (2 * a))), (2, .ref (ad (2 * b)))] → W p l e ({ frames := 4, cells := 0, slots := 0, locals := 95 } : Room) s m ([.ref (ad (136)), .ref (ad (2 * a)), .ref (ad (2 * b))] : List Value).toArray below meth c H locs 0 0 (MQ below (kQ D 143 ad (cWf ad cy) (fun o u => o = none ∧ u.2 = x ∧ (∀ i, i < 54 → u.1 i = ρ i) ∧ u.1 54 = gcdR (ρ a) (ρ b))) ([.ref (ad (136)), .ref (ad (2 * a)), .ref (ad (2 * b))] : List Value).toArray s 0 0 (wA 143 ad)) (F0 m 18 ls []) := by
    intro fu
    induction fu with
    | zero => intro n A B ρ' hn hA hB hKA hKB hZA hZB hfr he hnz2 hfu; exact absurd hfu (Nat.not_lt_zero _)
    | succ fu ih18 =>
      intro n A B ρ' hn hA hB hKA hKB hZA hZB hfr he hnz2 hfu H locs hP hS ls hl
      have hKA1 := hKA.1
      have hKB1 := hKB.1
      have hfA := hKA.2
      have hfB := hKB.2
      have hdB := dg_le B.2 B.1
      have hdA := dg_le A.2 A.1
      refine lv_iload_n hx hb dX4_makeGreatestDivisor_18 rfl (lv_at hl 0 rfl) ?_
      refine lv_bipush (v := nI (64)) hx hb dX4_makeGreatestDivisor_19 rfl ?_
      refine n_icmp_gt (tgt := 83) hx hb (by omega) (by omega) dX4_makeGreatestDivisor_21 (by decide) (fun h_1 => ?_) (fun h_1 => ?_)
      · skip
        exact absurd h_1 (by omega)
      · skip
        refine lv_aload_n hx hb dX4_makeGreatestDivisor_24 rfl (lv_at hl 1 rfl) ?_
        refine k_get (q0 := 136) (k := 8) (T := TX4) (Nf := 10) (ci := 4) (C := RX4) (v := .ref (ad (2 * 57))) hx hb hw_X4 hown hK hP (by decide) cW_top rfl (by decide) hf_51 rfl rfl dX4_makeGreatestDivisor_25 ?_
        refine k_callVr (rest := []) (nL := 4) ⟨hx, hb, hml, hown, hts⟩ (c_X2_degree l D cy ad hI ρ' x 57 (by first | assumption | omega) (by rw [hB]; exact hKB1) (by rw [hB]; exact hfB)) (cwV 0 hts gX4_makeGreatestDivisor_X2_degree rfl rfl rfl (by decide +kernel) ⟨Nat.le_of_ble_eq_true rfl, Nat.le_of_ble_eq_true rfl⟩) hK hP hS (fun _ h => h) (q0 := 2 * 57) (ci := 2) rfl (by omega) (cW_row (i := 57) (by omega)) rfl rfl rfl hl.1 rfl (Nat.le_of_ble_eq_true rfl) dX4_makeGreatestDivisor_28 ⟨Nat.zero_le _, Nat.zero_le _⟩ (fun H locs hP hS => ?_)
        have hP : va_P D vwCl (wL 143 ad (cW ad cy (ρ') (x))) H := hP
        refine i_push (b := dV (dg B.2 B.1)) (by rw [hB]) ?_
        refine lv_bipush (v := (-6 : Int32)) hx hb dX4_makeGreatestDivisor_31 (by decide) ?_
        refine lv_icmp_eq (tgt := 83) hx hb dX4_makeGreatestDivisor_33 (by decide) (fun h_2 => ?_) (fun h_2 => ?_)
        · skip
          have hB0 : dg B.2 B.1 = 0 := (dV_none (by omega)).mp h_2
          have hG : euc 65 (ρ a) (ρ b) = A := by rw [← he]; exact euc_0 hB0
          obtain ⟨g, hg⟩ : ∃ g, dg A.2 A.1 = g + 1 := ⟨dg A.2 A.1 - 1, by omega⟩
          have hAg := hfA g
          refine lv_aload_n hx hb dX4_makeGreatestDivisor_83 rfl (lv_at hl 1 rfl) ?_
          refine k_get (q0 := 136) (k := 7) (T := TX4) (Nf := 10) (ci := 4) (C := RX4) (v := .ref (ad (2 * 56))) hx hb hw_X4 hown hK hP (by decide) cW_top rfl (by decide) hf_48 rfl rfl dX4_makeGreatestDivisor_84 ?_
          refine k_callVr (rest := []) (nL := 4) ⟨hx, hb, hml, hown, hts⟩ (c_X2_degree l D cy ad hI ρ' x 56 (by first | assumption | omega) (by rw [hA]; exact hKA1) (by rw [hA]; exact hfA)) (cwV 0 hts gX4_makeGreatestDivisor_X2_degree rfl rfl rfl (by decide +kernel) ⟨Nat.le_of_ble_eq_true rfl, Nat.le_of_ble_eq_true rfl⟩) hK hP hS (fun _ h => h) (q0 := 2 * 56) (ci := 2) rfl (by omega) (cW_row (i := 56) (by omega)) rfl rfl rfl hl.1 rfl (Nat.le_of_ble_eq_true rfl) dX4_makeGreatestDivisor_87 ⟨Nat.zero_le _, Nat.zero_le _⟩ (fun H locs hP hS => ?_)
          have hP : va_P D vwCl (wL 143 ad (cW ad cy (ρ') (x))) H := hP
          refine n_push (a := g) (by rw [hA, hg]; exact dV_s g) ?_
          refine lv_istore_n (lv' := [(3, .int (nI (g))), (0, .ref (ad (136))), (1, .ref (ad (2 * a))), (2, .ref (ad (2 * b)))]) hx hb dX4_makeGreatestDivisor_90 rfl hl (by decide) rfl (fun ls hl => ?_)
          refine lv_aload_n hx hb dX4_makeGreatestDivisor_91 rfl (lv_at hl 1 rfl) ?_
          refine k_get (q0 := 136) (k := 5) (T := TX4) (Nf := 10) (ci := 4) (C := RX4) (v := .ref (ad (2 * 54))) hx hb hw_X4 hown hK hP (by decide) cW_top rfl (by decide) hf_41 rfl rfl dX4_makeGreatestDivisor_92 ?_
          refine lv_aload_n hx hb dX4_makeGreatestDivisor_95 rfl (lv_at hl 1 rfl) ?_
          refine k_get (q0 := 136) (k := 7) (T := TX4) (Nf := 10) (ci := 4) (C := RX4) (v := .ref (ad (2 * 56))) hx hb hw_X4 hown hK hP (by decide) cW_top rfl (by decide) hf_48 rfl rfl dX4_makeGreatestDivisor_96 ?_
          refine k_callVv (rest := []) (nL := 4) ⟨hx, hb, hml, hown, hts⟩ (c_X2_copyFrom l D cy ad hI ρ' x 54 56 (by first | assumption | omega) (by first | assumption | omega) (by first | assumption | omega)) (cwV 1 hts gX4_makeGreatestDivisor_X2_copyFrom rfl rfl rfl (by decide +kernel) ⟨Nat.le_of_ble_eq_true rfl, Nat.le_of_ble_eq_true rfl⟩) hK hP hS (fun _ h => h) (q0 := 2 * 54) (ci := 2) rfl (by omega) (cW_row (i := 54) (by omega)) rfl rfl rfl hl.1 rfl (Nat.le_of_ble_eq_true rfl) dX4_makeGreatestDivisor_99 ⟨Nat.zero_le _, Nat.zero_le _⟩ (fun H locs hP hS => ?_)
          have hP : va_P D vwCl (wL 143 ad (cW ad cy (va_up ρ' 54 (ρ' 56)) (x))) H := hP
          refine lv_aload_n hx hb dX4_makeGreatestDivisor_102 rfl (lv_at hl 1 rfl) ?_
          refine k_get (q0 := 136) (k := 5) (T := TX4) (Nf := 10) (ci := 4) (C := RX4) (v := .ref (ad (2 * 54))) hx hb hw_X4 hown hK hP (by decide) cW_top rfl (by decide) hf_41 rfl rfl dX4_makeGreatestDivisor_103 ?_
          refine lv_iload_n hx hb dX4_makeGreatestDivisor_106 rfl (lv_at hl 0 rfl) ?_
          refine lv_iconst (v := nI (1)) hx hb dX4_makeGreatestDivisor_107 rfl ?_
          refine n_iadd hx hb dX4_makeGreatestDivisor_108 ?_
          refine k_callVv (rest := []) (nL := 4) ⟨hx, hb, hml, hown, hts⟩ (c_X2_resize l D cy ad hI (va_up ρ' 54 (ρ' 56)) x 54 (g + 1) (by first | assumption | omega) (by first | assumption | omega)) (cwV 1 hts gX4_makeGreatestDivisor_X2_resize rfl rfl rfl (by decide +kernel) ⟨Nat.le_of_ble_eq_true rfl, Nat.le_of_ble_eq_true rfl⟩) hK hP hS (fun _ h => h) (q0 := 2 * 54) (ci := 2) rfl (by omega) (cW_row (i := 54) (by omega)) rfl rfl rfl hl.1 rfl (Nat.le_of_ble_eq_true rfl) dX4_makeGreatestDivisor_109 ⟨Nat.zero_le _, Nat.zero_le _⟩ (fun H locs hP hS => ?_)
          have hP : va_P D vwCl (wL 143 ad (cW ad cy (va_up (va_up ρ' 54 (ρ' 56)) 54 ((g + 1), zfrom ((va_up ρ' 54 (ρ' 56)) 54).2 (g + 1))) (x))) H := hP
          refine lv_aload_n hx hb dX4_makeGreatestDivisor_112 rfl (lv_at hl 1 rfl) ?_
          refine k_get (q0 := 136) (k := 5) (T := TX4) (Nf := 10) (ci := 4) (C := RX4) (v := .ref (ad (2 * 54))) hx hb hw_X4 hown hK hP (by decide) cW_top rfl (by decide) hf_41 rfl rfl dX4_makeGreatestDivisor_113 ?_
          refine lv_aload_n hx hb dX4_makeGreatestDivisor_116 rfl (lv_at hl 1 rfl) ?_
          refine k_get (q0 := 136) (k := 5) (T := TX4) (Nf := 10) (ci := 4) (C := RX4) (v := .ref (ad (2 * 54))) hx hb hw_X4 hown hK hP (by decide) cW_top rfl (by decide) hf_41 rfl rfl dX4_makeGreatestDivisor_117 ?_
          refine lv_iload_n hx hb dX4_makeGreatestDivisor_120 rfl (lv_at hl 0 rfl) ?_
          refine k_callVr (rest := [.ref (ad (2 * 54))]) (nL := 4) ⟨hx, hb, hml, hown, hts⟩ (c_X2_at l D cy ad hI (va_up (va_up ρ' 54 (ρ' 56)) 54 ((g + 1), zfrom ((va_up ρ' 54 (ρ' 56)) 54).2 (g + 1))) x 54 g (by first | assumption | omega) (by first | assumption | omega)) (cwV 1 hts gX4_makeGreatestDivisor_X2_at rfl rfl rfl (by decide +kernel) ⟨Nat.le_of_ble_eq_true rfl, Nat.le_of_ble_eq_true rfl⟩) hK hP hS (fun _ h => h) (q0 := 2 * 54) (ci := 2) rfl (by omega) (cW_row (i := 54) (by omega)) rfl rfl rfl hl.1 rfl (Nat.le_of_ble_eq_true rfl) dX4_makeGreatestDivisor_121 ⟨Nat.zero_le _, Nat.zero_le _⟩ (fun H locs hP hS => ?_)
          have hP : va_P D vwCl (wL 143 ad (cW ad cy (va_up (va_up ρ' 54 (ρ' 56)) 54 ((g + 1), zfrom ((va_up ρ' 54 (ρ' 56)) 54).2 (g + 1))) (x))) H := hP
          refine n_push (a := A.2 g) (by rw [va_up_self, va_up_self, hA]; exact congrArg nI (show zfrom A.2 (g + 1) g = A.2 g from if_neg (by omega))) ?_
          refine k_callSr (rest := [.ref (ad (2 * 54))]) (nL := 4) ⟨hx, hb, hml, hown, hts⟩ (c_X4_inverseOf l D cy ad hI (va_up (va_up ρ' 54 (ρ' 56)) 54 ((g + 1), zfrom ((va_up ρ' 54 (ρ' 56)) 54).2 (g + 1))) x (A.2 g) (by first | assumption | omega)) (va_cwS 1 hts gX4_makeGreatestDivisor_X4_inverseOf rfl rfl rfl (by decide +kernel) ⟨Nat.le_of_ble_eq_true rfl, Nat.le_of_ble_eq_true rfl⟩) hK hP hS (fun _ h => h) rfl hl.1 rfl (Nat.le_of_ble_eq_true rfl) dX4_makeGreatestDivisor_124 ⟨Nat.zero_le _, Nat.zero_le _⟩ (fun H locs hP hS => ?_)
          have hP : va_P D vwCl (wL 143 ad (cW ad cy (va_up (va_up ρ' 54 (ρ' 56)) 54 ((g + 1), zfrom ((va_up ρ' 54 (ρ' 56)) 54).2 (g + 1))) (x))) H := hP
          have e54 : va_up (va_up ρ' 54 (ρ' 56)) 54 (g + 1, zfrom (va_up ρ' 54 (ρ' 56) 54).2 (g + 1)) 54 = (g + 1, zfrom A.2 (g + 1)) := by rw [va_up_self, va_up_self, hA]
          have hpg := pw_lt (A.2 g) 255
          refine k_callVv (rest := []) (nL := 4) ⟨hx, hb, hml, hown, hts⟩ (c_X2_scale l D cy ad hI (va_up (va_up ρ' 54 (ρ' 56)) 54 ((g + 1), zfrom ((va_up ρ' 54 (ρ' 56)) 54).2 (g + 1))) x 54 (pw (A.2 g) 255) (by first | assumption | omega) (by rw [e54]; show g + 1 ≤ 64; omega) hpg (by rw [e54]; exact zfrom_lt hfA _)) (cwV 1 hts gX4_makeGreatestDivisor_X2_scale rfl rfl rfl (by decide +kernel) ⟨Nat.le_of_ble_eq_true rfl, Nat.le_of_ble_eq_true rfl⟩) hK hP hS (fun _ h => h) (q0 := 2 * 54) (ci := 2) rfl (by omega) (cW_row (i := 54) (by omega)) rfl rfl rfl hl.1 rfl (Nat.le_of_ble_eq_true rfl) dX4_makeGreatestDivisor_127 ⟨Nat.zero_le _, Nat.zero_le _⟩ (fun H locs hP hS => ?_)
          have hP : va_P D vwCl (wL 143 ad (cW ad cy (va_up (va_up (va_up ρ' 54 (ρ' 56)) 54 ((g + 1), zfrom ((va_up ρ' 54 (ρ' 56)) 54).2 (g + 1))) 54 (((va_up (va_up ρ' 54 (ρ' 56)) 54 ((g + 1), zfrom ((va_up ρ' 54 (ρ' 56)) 54).2 (g + 1))) 54).1, scl ((va_up (va_up ρ' 54 (ρ' 56)) 54 ((g + 1), zfrom ((va_up ρ' 54 (ρ' 56)) 54).2 (g + 1))) 54).2 (pw (A.2 g) 255) ((va_up (va_up ρ' 54 (ρ' 56)) 54 ((g + 1), zfrom ((va_up ρ' 54 (ρ' 56)) 54).2 (g + 1))) 54).1)) (x))) H := hP
          refine k_vret hx hb hr hlocks (va_up (va_up (va_up ρ' 54 (ρ' 56)) 54 ((g + 1), zfrom ((va_up ρ' 54 (ρ' 56)) 54).2 (g + 1))) 54 (((va_up (va_up ρ' 54 (ρ' 56)) 54 ((g + 1), zfrom ((va_up ρ' 54 (ρ' 56)) 54).2 (g + 1))) 54).1, scl ((va_up (va_up ρ' 54 (ρ' 56)) 54 ((g + 1), zfrom ((va_up ρ' 54 (ρ' 56)) 54).2 (g + 1))) 54).2 (pw (A.2 g) 255) ((va_up (va_up ρ' 54 (ρ' 56)) 54 ((g + 1), zfrom ((va_up ρ' 54 (ρ' 56)) 54).2 (g + 1))) 54).1), x) hP hS dX4_makeGreatestDivisor_130 ?_
          refine ⟨rfl, rfl, fun i hi => ?_, ?_⟩
          · show va_up _ 54 _ i = _
            rw [va_up_ne _ _ (by omega), va_up_ne _ _ (by omega), va_up_ne _ _ (by omega)]; exact hfr i hi
          · dsimp only
            rw [va_up_self, e54]
            unfold gcdR monR
            rw [hG, hg]
            rfl
        · skip
          have hB0 : dg B.2 B.1 ≠ 0 := fun z => h_2 ((dV_none (by omega)).mpr z)
          obtain ⟨d, hd⟩ : ∃ d, dg B.2 B.1 = d + 1 := ⟨dg B.2 B.1 - 1, by omega⟩
          refine lv_aload_n hx hb dX4_makeGreatestDivisor_36 rfl (lv_at hl 1 rfl) ?_
          refine k_get (q0 := 136) (k := 7) (T := TX4) (Nf := 10) (ci := 4) (C := RX4) (v := .ref (ad (2 * 56))) hx hb hw_X4 hown hK hP (by decide) cW_top rfl (by decide) hf_48 rfl rfl dX4_makeGreatestDivisor_37 ?_
          refine lv_aload_n hx hb dX4_makeGreatestDivisor_40 rfl (lv_at hl 1 rfl) ?_
          refine k_get (q0 := 136) (k := 8) (T := TX4) (Nf := 10) (ci := 4) (C := RX4) (v := .ref (ad (2 * 57))) hx hb hw_X4 hown hK hP (by decide) cW_top rfl (by decide) hf_51 rfl rfl dX4_makeGreatestDivisor_41 ?_
          refine lv_aload_n hx hb dX4_makeGreatestDivisor_44 rfl (lv_at hl 1 rfl) ?_
          refine k_get (q0 := 136) (k := 9) (T := TX4) (Nf := 10) (ci := 4) (C := RX4) (v := .ref (ad (2 * 58))) hx hb hw_X4 hown hK hP (by decide) cW_top rfl (by decide) hf_54 rfl rfl dX4_makeGreatestDivisor_45 ?_
          refine lv_aload_n hx hb dX4_makeGreatestDivisor_48 rfl (lv_at hl 1 rfl) ?_
          refine k_get (q0 := 136) (k := 6) (T := TX4) (Nf := 10) (ci := 4) (C := RX4) (v := .ref (ad (2 * 55))) hx hb hw_X4 hown hK hP (by decide) cW_top rfl (by decide) hf_45 rfl rfl dX4_makeGreatestDivisor_49 ?_
          refine k_callSv (rest := []) (nL := 4) ⟨hx, hb, hml, hown, hts⟩ (c_X4_divideRows l D cy ad hI ρ' x 56 57 58 55 d (by first | assumption | omega) (by first | assumption | omega) (by first | assumption | omega) (by first | assumption | omega) (by first | assumption | omega) (by first | assumption | omega) (by first | assumption | omega) (by first | assumption | omega) (by first | assumption | omega) (by rw [hA]; exact hKA) (by rw [hB]; exact hKB) (by rw [hB]; exact hd)) (va_cwS 4 hts gX4_makeGreatestDivisor_X4_divideRows rfl rfl rfl (by decide +kernel) ⟨Nat.le_of_ble_eq_true rfl, Nat.le_of_ble_eq_true rfl⟩) hK hP hS (fun _ h => h) rfl hl.1 rfl (Nat.le_of_ble_eq_true rfl) dX4_makeGreatestDivisor_52 ⟨Nat.zero_le _, Nat.zero_le _⟩ (fun H locs hP hS => ?_)
          have hP : va_P D vwCl (wL 143 ad (cW ad cy (va_up (va_up ρ' 58 (quoR (ρ' 56).2 (ρ' 57).2 (dg (ρ' 56).2 (ρ' 56).1) d)) 55 (resR (ρ' 56).2 (ρ' 57).2 (dg (ρ' 56).2 (ρ' 56).1) d)) (x))) H := hP
          refine lv_aload_n hx hb dX4_makeGreatestDivisor_55 rfl (lv_at hl 1 rfl) ?_
          refine k_get (q0 := 136) (k := 7) (T := TX4) (Nf := 10) (ci := 4) (C := RX4) (v := .ref (ad (2 * 56))) hx hb hw_X4 hown hK hP (by decide) cW_top rfl (by decide) hf_48 rfl rfl dX4_makeGreatestDivisor_56 ?_
          refine lv_aload_n hx hb dX4_makeGreatestDivisor_59 rfl (lv_at hl 1 rfl) ?_
          refine k_get (q0 := 136) (k := 8) (T := TX4) (Nf := 10) (ci := 4) (C := RX4) (v := .ref (ad (2 * 57))) hx hb hw_X4 hown hK hP (by decide) cW_top rfl (by decide) hf_51 rfl rfl dX4_makeGreatestDivisor_60 ?_
          refine k_callVv (rest := []) (nL := 4) ⟨hx, hb, hml, hown, hts⟩ (c_X2_copyFrom l D cy ad hI (va_up (va_up ρ' 58 (quoR (ρ' 56).2 (ρ' 57).2 (dg (ρ' 56).2 (ρ' 56).1) d)) 55 (resR (ρ' 56).2 (ρ' 57).2 (dg (ρ' 56).2 (ρ' 56).1) d)) x 56 57 (by first | assumption | omega) (by first | assumption | omega) (by first | assumption | omega)) (cwV 1 hts gX4_makeGreatestDivisor_X2_copyFrom rfl rfl rfl (by decide +kernel) ⟨Nat.le_of_ble_eq_true rfl, Nat.le_of_ble_eq_true rfl⟩) hK hP hS (fun _ h => h) (q0 := 2 * 56) (ci := 2) rfl (by omega) (cW_row (i := 56) (by omega)) rfl rfl rfl hl.1 rfl (Nat.le_of_ble_eq_true rfl) dX4_makeGreatestDivisor_63 ⟨Nat.zero_le _, Nat.zero_le _⟩ (fun H locs hP hS => ?_)
          have hP : va_P D vwCl (wL 143 ad (cW ad cy (va_up (va_up (va_up ρ' 58 (quoR (ρ' 56).2 (ρ' 57).2 (dg (ρ' 56).2 (ρ' 56).1) d)) 55 (resR (ρ' 56).2 (ρ' 57).2 (dg (ρ' 56).2 (ρ' 56).1) d)) 56 ((va_up (va_up ρ' 58 (quoR (ρ' 56).2 (ρ' 57).2 (dg (ρ' 56).2 (ρ' 56).1) d)) 55 (resR (ρ' 56).2 (ρ' 57).2 (dg (ρ' 56).2 (ρ' 56).1) d)) 57)) (x))) H := hP
          refine lv_aload_n hx hb dX4_makeGreatestDivisor_66 rfl (lv_at hl 1 rfl) ?_
          refine k_get (q0 := 136) (k := 8) (T := TX4) (Nf := 10) (ci := 4) (C := RX4) (v := .ref (ad (2 * 57))) hx hb hw_X4 hown hK hP (by decide) cW_top rfl (by decide) hf_51 rfl rfl dX4_makeGreatestDivisor_67 ?_
          refine lv_aload_n hx hb dX4_makeGreatestDivisor_70 rfl (lv_at hl 1 rfl) ?_
          refine k_get (q0 := 136) (k := 6) (T := TX4) (Nf := 10) (ci := 4) (C := RX4) (v := .ref (ad (2 * 55))) hx hb hw_X4 hown hK hP (by decide) cW_top rfl (by decide) hf_45 rfl rfl dX4_makeGreatestDivisor_71 ?_
          refine k_callVv (rest := []) (nL := 4) ⟨hx, hb, hml, hown, hts⟩ (c_X2_copyFrom l D cy ad hI (va_up (va_up (va_up ρ' 58 (quoR (ρ' 56).2 (ρ' 57).2 (dg (ρ' 56).2 (ρ' 56).1) d)) 55 (resR (ρ' 56).2 (ρ' 57).2 (dg (ρ' 56).2 (ρ' 56).1) d)) 56 ((va_up (va_up ρ' 58 (quoR (ρ' 56).2 (ρ' 57).2 (dg (ρ' 56).2 (ρ' 56).1) d)) 55 (resR (ρ' 56).2 (ρ' 57).2 (dg (ρ' 56).2 (ρ' 56).1) d)) 57)) x 57 55 (by first | assumption | omega) (by first | assumption | omega) (by first | assumption | omega)) (cwV 1 hts gX4_makeGreatestDivisor_X2_copyFrom rfl rfl rfl (by decide +kernel) ⟨Nat.le_of_ble_eq_true rfl, Nat.le_of_ble_eq_true rfl⟩) hK hP hS (fun _ h => h) (q0 := 2 * 57) (ci := 2) rfl (by omega) (cW_row (i := 57) (by omega)) rfl rfl rfl hl.1 rfl (Nat.le_of_ble_eq_true rfl) dX4_makeGreatestDivisor_74 ⟨Nat.zero_le _, Nat.zero_le _⟩ (fun H locs hP hS => ?_)
          have hP : va_P D vwCl (wL 143 ad (cW ad cy (va_up (va_up (va_up (va_up ρ' 58 (quoR (ρ' 56).2 (ρ' 57).2 (dg (ρ' 56).2 (ρ' 56).1) d)) 55 (resR (ρ' 56).2 (ρ' 57).2 (dg (ρ' 56).2 (ρ' 56).1) d)) 56 ((va_up (va_up ρ' 58 (quoR (ρ' 56).2 (ρ' 57).2 (dg (ρ' 56).2 (ρ' 56).1) d)) 55 (resR (ρ' 56).2 (ρ' 57).2 (dg (ρ' 56).2 (ρ' 56).1) d)) 57)) 57 ((va_up (va_up (va_up ρ' 58 (quoR (ρ' 56).2 (ρ' 57).2 (dg (ρ' 56).2 (ρ' 56).1) d)) 55 (resR (ρ' 56).2 (ρ' 57).2 (dg (ρ' 56).2 (ρ' 56).1) d)) 56 ((va_up (va_up ρ' 58 (quoR (ρ' 56).2 (ρ' 57).2 (dg (ρ' 56).2 (ρ' 56).1) d)) 55 (resR (ρ' 56).2 (ρ' 57).2 (dg (ρ' 56).2 (ρ' 56).1) d)) 57)) 55)) (x))) H := hP
          refine lv_iinc (v := nI (n + 1)) (lv' := [(3, .int (nI (n + 1))), (0, .ref (ad (136))), (1, .ref (ad (2 * a))), (2, .ref (ad (2 * b)))]) hx hb dX4_makeGreatestDivisor_77 hl (k := 0) rfl (nI_inc _) (by decide) rfl (fun ls hl => ?_)
          refine lv_goto (tgt := 18) hx hb dX4_makeGreatestDivisor_80 (by decide) ?_
          exact ih18 (n + 1) (B) (resR A.2 B.2 (dg A.2 A.1) d) (va_up (va_up (va_up (va_up ρ' 58 (quoR (ρ' 56).2 (ρ' 57).2 (dg (ρ' 56).2 (ρ' 56).1) d)) 55 (resR (ρ' 56).2 (ρ' 57).2 (dg (ρ' 56).2 (ρ' 56).1) d)) 56 ((va_up (va_up ρ' 58 (quoR (ρ' 56).2 (ρ' 57).2 (dg (ρ' 56).2 (ρ' 56).1) d)) 55 (resR (ρ' 56).2 (ρ' 57).2 (dg (ρ' 56).2 (ρ' 56).1) d)) 57)) 57 ((va_up (va_up (va_up ρ' 58 (quoR (ρ' 56).2 (ρ' 57).2 (dg (ρ' 56).2 (ρ' 56).1) d)) 55 (resR (ρ' 56).2 (ρ' 57).2 (dg (ρ' 56).2 (ρ' 56).1) d)) 56 ((va_up (va_up ρ' 58 (quoR (ρ' 56).2 (ρ' 57).2 (dg (ρ' 56).2 (ρ' 56).1) d)) 55 (resR (ρ' 56).2 (ρ' 57).2 (dg (ρ' 56).2 (ρ' 56).1) d)) 57)) 55)) (by have := resR_dg (la := A.1) hfA hZA (hfB d) (dg_top _ _ _ hd); omega) (by rw [va_up_ne _ _ (by decide), va_up_self, va_up_ne _ _ (by decide), va_up_ne _ _ (by decide), hB]) (by rw [va_up_self, va_up_ne _ _ (by decide), va_up_self, hA, hB]) hKB (resR_K hfA (by omega)) hZB resR_Z (fun i hi => by rw [va_up_ne _ _ (by omega), va_up_ne _ _ (by omega), va_up_ne _ _ (by omega), va_up_ne _ _ (by omega)]; exact hfr i hi) (by rw [← he, show 65 - n = (65 - (n + 1)) + 1 by omega, euc_s hd]) (Or.inl (by omega)) (by have := resR_dg (la := A.1) hfA hZA (hfB d) (dg_top _ _ _ hd); omega) _ _ hP hS _ hl
  exact lp18 (_ + 1) (0) (ρ a) (ρ b) (va_up (va_up ρ 56 (ρ a)) 57 ((va_up ρ 56 (ρ a)) b)) (by omega) (by rw [va_up_ne _ _ (by decide), va_up_self]) (by rw [va_up_self, va_up_ne _ _ (by omega)]) hra hrb hza hzb (fun i hi => by rw [va_up_ne _ _ (by omega), va_up_ne _ _ (by omega)]) rfl hnz (Nat.lt_succ_self _) _ _ hP hS _ hl
