set_option maxHeartbeats 4000000 in
set_option maxRecDepth 100000 in
theorem c_X4_change (l : Launch) (D : va_G) (cy : Nat → ClassId) (ad : Nat → Nat) (hI : wI 143 ad) (ρ : Nat → kR) (x : kX) (j : Nat) (hj : j < 6) (hpm : ∀ j, j < 6 → x.2.1 j < 9) (hp0 : ∀ j, j < 6 → x.2.1 j ≠ 0) (hpr : ∀ j, j < 6 → 1 ≤ x.2.1 j ∧ x.2.1 j ≤ 6) (hhl : x.1 ≤ 6) : kM l yX4_change wsX4_change ({ frames := 4, cells := 0, slots := 0, locals := 82 } : Room) D cy 143 ad (cWf ad cy) (cW ad cy (ρ) (x)) [.ref (ad (136)), .ref (ad (2 * j))] (kF none (va_up (keepR ρ x) j (ρ 54), keepX x)) := by
  refine k_met cX4_change 2 none (by decide) rfl (Nat.le_of_ble_eq_true rfl) ?_
  intro p e s m below meth c ls hx hb hr hts hown hlocks hml hK hP hS hl
  have hl : lv_has ls 2 [(0, .ref (ad (136))), (1, .ref (ad (2 * j)))] := hl
  have hown : s.vm.findClass RX4 = some m.cls := hown
  have hf_10 := hts (.fieldLink RX4 10 "TurnedRows" "state" "LTurnedRows$State;") (by decide +kernel)
  have hf_19 := hts (.fieldLink RX4 19 "TurnedRows" "history" "LTurnedRows$History;") (by decide +kernel)
  have hf_41 := hts (.fieldLink RX4 41 "TurnedRows" "made" "LTurnedRows$Row;") (by decide +kernel)
  have hw_X4 : ∀ qw ∈ wsX40, qw.before ([.ref (ad (136)), .ref (ad (2 * j))] : List Value).toArray s = true := fun qw h => hts qw ((by decide +kernel : ∀ qw ∈ wsX40, qw ∈ wsX4_change) qw h)
  refine lv_aload_n hx hb dX4_change_0 rfl (lv_at hl 0 rfl) ?_
  refine k_get (q0 := 136) (k := 1) (T := TX4) (Nf := 10) (ci := 4) (C := RX4) (v := .ref (ad (137))) hx hb hw_X4 hown hK hP (by decide) cW_top rfl (by decide) hf_19 rfl rfl dX4_change_1 ?_
  refine lv_aload_n hx hb dX4_change_4 rfl (lv_at hl 0 rfl) ?_
  refine k_get (q0 := 136) (k := 0) (T := TX4) (Nf := 10) (ci := 4) (C := RX4) (v := .ref (ad (118 + 2 * 0))) hx hb hw_X4 hown hK hP (by decide) cW_top rfl (by decide) hf_10 rfl rfl dX4_change_5 ?_
  refine k_callVv (rest := []) (nL := 2) ⟨hx, hb, hml, hown, hts⟩ (c_X0_keep l D cy ad hI ρ x hpm hhl hp0) (cwV 1 hts gX4_change_X0_keep rfl rfl rfl (by decide +kernel) ⟨Nat.le_of_ble_eq_true rfl, Nat.le_of_ble_eq_true rfl⟩) hK hP hS (fun _ h => h) (q0 := 137) (ci := 0) rfl (by decide) cW_hist rfl rfl rfl hl.1 rfl (Nat.le_of_ble_eq_true rfl) dX4_change_8 ⟨Nat.zero_le _, Nat.zero_le _⟩ (fun H locs hP hS => ?_)
  have hP : va_P D vwCl (wL 143 ad (cW ad cy (keepR ρ x) (keepX x))) H := hP
  refine lv_aload_n hx hb dX4_change_11 rfl (lv_at hl 1 rfl) ?_
  refine lv_aload_n hx hb dX4_change_12 rfl (lv_at hl 0 rfl) ?_
  refine k_get (q0 := 136) (k := 5) (T := TX4) (Nf := 10) (ci := 4) (C := RX4) (v := .ref (ad (2 * 54))) hx hb hw_X4 hown hK hP (by decide) cW_top rfl (by decide) hf_41 rfl rfl dX4_change_13 ?_
  refine k_callVv (rest := []) (nL := 2) ⟨hx, hb, hml, hown, hts⟩ (c_X2_copyFrom l D cy ad hI (keepR ρ x) (keepX x) j 54 (by first | assumption | omega) (by first | assumption | omega) (by omega)) (cwV 1 hts gX4_change_X2_copyFrom rfl rfl rfl (by decide +kernel) ⟨Nat.le_of_ble_eq_true rfl, Nat.le_of_ble_eq_true rfl⟩) hK hP hS (fun _ h => h) (q0 := 2 * j) (ci := 2) rfl (by omega) (cW_row (i := j) (by omega)) rfl rfl rfl hl.1 rfl (Nat.le_of_ble_eq_true rfl) dX4_change_16 ⟨Nat.zero_le _, Nat.zero_le _⟩ (fun H locs hP hS => ?_)
  have hP : va_P D vwCl (wL 143 ad (cW ad cy (va_up (keepR ρ x) j ((keepR ρ x) 54)) ((keepX x)))) H := hP
  rw [keepR_hi hpr (by decide)] at hP
  refine k_vret hx hb hr hlocks (va_up (keepR ρ x) j (ρ 54), keepX x) hP hS dX4_change_19 ?_
  exact ⟨rfl, rfl⟩
set_option maxHeartbeats 4000000 in
set_option maxRecDepth 100000 in
theorem c_X4_number (l : Launch) (D : va_G) (cy : Nat → ClassId) (ad : Nat → Nat) (hI : wI 143 ad) (ρ : Nat → kR) (x : kX) (S : kSt) (ra : Int32) (rp : Int32) (hSI : kInv S) (hR : cRep S (ρ, x)) : kM l yX4_number wsX4_number ({ frames := 1, cells := 0, slots := 0, locals := 21 } : Room) D cy 143 ad (cWf ad cy) (cW ad cy (ρ) (x)) [.ref (ad (136)), .int (ra), .int (rp)] (fun o u => o = some (.int (op_number S ra rp).1) ∧ cRep (op_number S ra rp).2 u) := by
  refine k_met cX4_number 4 (some .int) (by decide) rfl (Nat.le_of_ble_eq_true rfl) ?_
  intro p e s m below meth c ls hx hb hr hts hown hlocks hml hK hP hS hl
  have hl : lv_has ls 4 [(0, .ref (ad (136))), (1, .int (ra)), (2, .int (rp))] := hl
  have hown : s.vm.findClass RX4 = some m.cls := hown
  have hf_10 := hts (.fieldLink RX4 10 "TurnedRows" "state" "LTurnedRows$State;") (by decide +kernel)
  have hw_X4 : ∀ qw ∈ wsX40, qw.before ([.ref (ad (136)), .int (ra), .int (rp)] : List Value).toArray s = true := fun qw h => hts qw ((by decide +kernel : ∀ qw ∈ wsX40, qw ∈ wsX4_number) qw h)
  have hrow : ∀ j, j < 6 → rO (ρ j) := fun j hj => by rw [show ρ j = S.1 j from hR.1 j hj]; exact hSI.1 j hj
  have hreg : ∀ j, j < 6 → ρ j = S.1 j := hR.1
  have hpr : ∀ j, j < 6 → 1 ≤ x.2.1 j ∧ x.2.1 j ≤ 6 := hR.2.2.2.2.1
  have hpm : ∀ j, j < 6 → x.2.1 j < 9 := fun j hj => by have := hpr j hj; omega
  have hp0 : ∀ j, j < 6 → x.2.1 j ≠ 0 := fun j hj => by have := hpr j hj; omega
  have hhl : x.1 ≤ 6 := by rw [show x.1 = S.2.2.1 from hR.2.1.1]; exact hR.2.1.2
  have hplS : x.2.2.1 = S.2.2.2.2.2.1 := hR.2.2.2.2.2.2.1
  have hpl : x.2.2.1 ≤ 80 := by rw [hplS]; exact hSI.2.2.2.2.2.1
  have hpdS : ∀ j, j < S.2.2.2.2.2.1 → x.2.2.2.1 j = S.2.2.2.2.2.2 j := hR.2.2.2.2.2.2.2.1
  have hpd : ∀ j, j < x.2.2.1 → x.2.2.2.1 j < 127 := fun j hj => by rw [hpdS j (by omega)]; have := (hSI.2.2.2.2.2.2 j (by omega)).2; omega
  refine lv_aload_n hx hb dX4_number_0 rfl (lv_at hl 0 rfl) ?_
  refine k_get (q0 := 136) (k := 0) (T := TX4) (Nf := 10) (ci := 4) (C := RX4) (v := .ref (ad (118 + 2 * 0))) hx hb hw_X4 hown hK hP (by decide) cW_top rfl (by decide) hf_10 rfl rfl dX4_number_1 ?_
  refine lv_iload_n hx hb dX4_number_4 rfl (lv_at hl 1 rfl) ?_
  refine k_callVr (rest := []) (nL := 4) ⟨hx, hb, hml, hown, hts⟩ (c_X3_rowOf l D cy ad hI ρ x ra) (cwV 1 hts gX4_number_X3_rowOf rfl rfl rfl (by decide +kernel) ⟨Nat.le_of_ble_eq_true rfl, Nat.le_of_ble_eq_true rfl⟩) hK hP hS (fun _ h => h) (q0 := 118 + 2 * 0) (ci := 3) rfl (by omega) (cW_st (t := 0) (by omega)) rfl rfl rfl hl.1 rfl (Nat.le_of_ble_eq_true rfl) dX4_number_5 ⟨Nat.zero_le _, Nat.zero_le _⟩ (fun H locs hP hS => ?_)
  have hP : va_P D vwCl (wL 143 ad (cW ad cy (ρ) (x))) H := hP
  refine lv_astore_nV (lv' := [(3, va_rf (rOf ad ra)), (0, .ref (ad (136))), (1, .int (ra)), (2, .int (rp))]) hx hb dX4_number_8 rfl hl (by decide) rfl (fun ls hl => ?_)
  refine lv_aload_nV hx hb dX4_number_9 rfl (lv_at hl 0 rfl) ?_
  rcases kreg_cases ra with hjra | ⟨jra, hjra, ejra⟩
  · skip
    rw [kreg_bad hjra] at hl ⊢
    refine lv_ifnullN (tgt := 25) hx hb dX4_number_10 (by decide) ?_
    refine lv_iconst (v := (-1 : Int32)) hx hb dX4_number_25 (by decide) ?_
    refine k_iret hx hb hr hlocks (ρ, x) hP hS dX4_number_26 ?_
    rw [show op_number S ra rp = (-1, S) from if_pos (Or.inl hjra)]
    exact ⟨rfl, hR⟩
  · skip
    rw [kreg_ok hjra ejra] at hl ⊢
    refine lv_ifnull hx hb dX4_number_10 ?_
    refine lv_iload_n hx hb dX4_number_13 rfl (lv_at hl 3 rfl) ?_
    refine lv_if_lt (tgt := 25) hx hb dX4_number_14 (by decide) (fun h_1 => ?_) (fun h_1 => ?_)
    · skip
      refine lv_iconst (v := (-1 : Int32)) hx hb dX4_number_25 (by decide) ?_
      refine k_iret hx hb hr hlocks (ρ, x) hP hS dX4_number_26 ?_
      rw [show op_number S ra rp = (-1, S) from if_pos (Or.inr (fun q => absurd q.1 (Int32.not_le.mpr h_1)))]
      exact ⟨rfl, hR⟩
    · skip
      refine lv_iload_n hx hb dX4_number_17 rfl (lv_at hl 3 rfl) ?_
      refine lv_aload_n hx hb dX4_number_18 rfl (lv_at hl 0 rfl) ?_
      refine k_callVr (rest := [.int (rp)]) (nL := 4) ⟨hx, hb, hml, hown, hts⟩ (c_X2_length l D cy ad hI ρ x jra (by first | assumption | omega)) (cwV 0 hts gX4_number_X2_length rfl rfl rfl (by decide +kernel) ⟨Nat.le_of_ble_eq_true rfl, Nat.le_of_ble_eq_true rfl⟩) hK hP hS (fun _ h => h) (q0 := 2 * jra) (ci := 2) rfl (by omega) (cW_row (i := jra) (by omega)) rfl rfl rfl hl.1 rfl (Nat.le_of_ble_eq_true rfl) dX4_number_19 ⟨Nat.zero_le _, Nat.zero_le _⟩ (fun H locs hP hS => ?_)
      have hP : va_P D vwCl (wL 143 ad (cW ad cy (ρ) (x))) H := hP
      have hlj := (hrow jra hjra).2.1
      refine lv_icmp_lt (tgt := 27) hx hb dX4_number_22 (by decide) (fun h_2 => ?_) (fun h_2 => ?_)
      · skip
        obtain ⟨kp, hkp, ekp⟩ := kin0 (r := rp) (n := (ρ jra).1) (by omega) h_1 (Int32.not_le.mpr h_2)
        rw [ekp] at hl
        refine lv_aload_n hx hb dX4_number_27 rfl (lv_at hl 0 rfl) ?_
        refine lv_iload_n hx hb dX4_number_28 rfl (lv_at hl 3 rfl) ?_
        refine k_callVr (rest := []) (nL := 4) ⟨hx, hb, hml, hown, hts⟩ (c_X2_at l D cy ad hI ρ x jra kp (by first | assumption | omega) (by first | assumption | omega)) (cwV 1 hts gX4_number_X2_at rfl rfl rfl (by decide +kernel) ⟨Nat.le_of_ble_eq_true rfl, Nat.le_of_ble_eq_true rfl⟩) hK hP hS (fun _ h => h) (q0 := 2 * jra) (ci := 2) rfl (by omega) (cW_row (i := jra) (by omega)) rfl rfl rfl hl.1 rfl (Nat.le_of_ble_eq_true rfl) dX4_number_29 ⟨Nat.zero_le _, Nat.zero_le _⟩ (fun H locs hP hS => ?_)
        have hP : va_P D vwCl (wL 143 ad (cW ad cy (ρ) (x))) H := hP
        refine k_iret hx hb hr hlocks (ρ, x) hP hS dX4_number_32 ?_
        have hop : op_number S ra rp = (nI ((S.1 jra).2 kp), S) := by
          unfold op_number
          rw [ejra, ekp, rgN_nI (by omega), rgN_nI (by omega), if_neg]
          rintro (q | q)
          · exact q (isR_nI hjra)
          · exact q (kin_nI (by rw [← hreg jra hjra]; exact hkp) (by rw [← hreg jra hjra]; omega))
        rw [hop, ← hreg jra hjra]
        exact ⟨rfl, hR⟩
      · skip
        refine lv_iconst (v := (-1 : Int32)) hx hb dX4_number_25 (by decide) ?_
        refine k_iret hx hb hr hlocks (ρ, x) hP hS dX4_number_26 ?_
        rw [show op_number S ra rp = (-1, S) from if_pos (Or.inr (fun q => h_2 (by have q2 := q.2; rw [ejra, rgN_nI (by omega), ← hreg jra hjra] at q2; exact q2)))]
        exact ⟨rfl, hR⟩
set_option maxHeartbeats 4000000 in
set_option maxRecDepth 100000 in
theorem c_X4_of (l : Launch) (D : va_G) (cy : Nat → ClassId) (ad : Nat → Nat) (hI : wI 143 ad) (ρ : Nat → kR) (x : kX) (S : kSt) (ra : Int32) (rwh : Int32) (hSI : kInv S) (hR : cRep S (ρ, x)) : kM l yX4_of wsX4_of ({ frames := 3, cells := 0, slots := 0, locals := 66 } : Room) D cy 143 ad (cWf ad cy) (cW ad cy (ρ) (x)) [.ref (ad (136)), .int (ra), .int (rwh)] (fun o u => o = some (.int (op_of S ra rwh).1) ∧ cRep (op_of S ra rwh).2 u) := by
  refine k_met cX4_of 4 (some .int) (by decide) rfl (Nat.le_of_ble_eq_true rfl) ?_
  intro p e s m below meth c ls hx hb hr hts hown hlocks hml hK hP hS hl
  have hl : lv_has ls 4 [(0, .ref (ad (136))), (1, .int (ra)), (2, .int (rwh))] := hl
  have hown : s.vm.findClass RX4 = some m.cls := hown
  have hf_10 := hts (.fieldLink RX4 10 "TurnedRows" "state" "LTurnedRows$State;") (by decide +kernel)
  have hw_X4 : ∀ qw ∈ wsX40, qw.before ([.ref (ad (136)), .int (ra), .int (rwh)] : List Value).toArray s = true := fun qw h => hts qw ((by decide +kernel : ∀ qw ∈ wsX40, qw ∈ wsX4_of) qw h)
  have hrow : ∀ j, j < 6 → rO (ρ j) := fun j hj => by rw [show ρ j = S.1 j from hR.1 j hj]; exact hSI.1 j hj
  have hreg : ∀ j, j < 6 → ρ j = S.1 j := hR.1
  have hpr : ∀ j, j < 6 → 1 ≤ x.2.1 j ∧ x.2.1 j ≤ 6 := hR.2.2.2.2.1
  have hpm : ∀ j, j < 6 → x.2.1 j < 9 := fun j hj => by have := hpr j hj; omega
  have hp0 : ∀ j, j < 6 → x.2.1 j ≠ 0 := fun j hj => by have := hpr j hj; omega
  have hhl : x.1 ≤ 6 := by rw [show x.1 = S.2.2.1 from hR.2.1.1]; exact hR.2.1.2
  have hplS : x.2.2.1 = S.2.2.2.2.2.1 := hR.2.2.2.2.2.2.1
  have hpl : x.2.2.1 ≤ 80 := by rw [hplS]; exact hSI.2.2.2.2.2.1
  have hpdS : ∀ j, j < S.2.2.2.2.2.1 → x.2.2.2.1 j = S.2.2.2.2.2.2 j := hR.2.2.2.2.2.2.2.1
  have hpd : ∀ j, j < x.2.2.1 → x.2.2.2.1 j < 127 := fun j hj => by rw [hpdS j (by omega)]; have := (hSI.2.2.2.2.2.2 j (by omega)).2; omega
  refine lv_aload_n hx hb dX4_of_0 rfl (lv_at hl 0 rfl) ?_
  refine k_get (q0 := 136) (k := 0) (T := TX4) (Nf := 10) (ci := 4) (C := RX4) (v := .ref (ad (118 + 2 * 0))) hx hb hw_X4 hown hK hP (by decide) cW_top rfl (by decide) hf_10 rfl rfl dX4_of_1 ?_
  refine lv_iload_n hx hb dX4_of_4 rfl (lv_at hl 1 rfl) ?_
  refine k_callVr (rest := []) (nL := 4) ⟨hx, hb, hml, hown, hts⟩ (c_X3_rowOf l D cy ad hI ρ x ra) (cwV 1 hts gX4_of_X3_rowOf rfl rfl rfl (by decide +kernel) ⟨Nat.le_of_ble_eq_true rfl, Nat.le_of_ble_eq_true rfl⟩) hK hP hS (fun _ h => h) (q0 := 118 + 2 * 0) (ci := 3) rfl (by omega) (cW_st (t := 0) (by omega)) rfl rfl rfl hl.1 rfl (Nat.le_of_ble_eq_true rfl) dX4_of_5 ⟨Nat.zero_le _, Nat.zero_le _⟩ (fun H locs hP hS => ?_)
  have hP : va_P D vwCl (wL 143 ad (cW ad cy (ρ) (x))) H := hP
  refine lv_astore_nV (lv' := [(3, va_rf (rOf ad ra)), (0, .ref (ad (136))), (1, .int (ra)), (2, .int (rwh))]) hx hb dX4_of_8 rfl hl (by decide) rfl (fun ls hl => ?_)
  refine lv_aload_nV hx hb dX4_of_9 rfl (lv_at hl 0 rfl) ?_
  rcases kreg_cases ra with hjra | ⟨jra, hjra, ejra⟩
  · skip
    rw [kreg_bad hjra] at hl ⊢
    refine lv_ifnonnullN hx hb dX4_of_10 ?_
    refine lv_iconst (v := (-1 : Int32)) hx hb dX4_of_13 (by decide) ?_
    refine k_iret hx hb hr hlocks (ρ, x) hP hS dX4_of_14 ?_
    rw [show op_of S ra rwh = (-1, S) from if_pos hjra]
    exact ⟨rfl, hR⟩
  · skip
    rw [kreg_ok hjra ejra] at hl ⊢
    refine lv_ifnonnull (tgt := 15) hx hb dX4_of_10 (by decide) ?_
    refine lv_iload_n hx hb dX4_of_15 rfl (lv_at hl 3 rfl) ?_
    rcases ksw_cases rwh 6 (by decide) with hsw | ⟨qsw, hqsw, esw⟩
    · skip
      refine lv_tableOut (tgt := 86) hx hb dX4_of_16 (ksw_out (n := 6) hsw (by decide) (by decide)) (by decide) ?_
      refine lv_bipush (v := (-2 : Int32)) hx hb dX4_of_86 (by decide) ?_
      refine k_iret hx hb hr hlocks (ρ, x) hP hS dX4_of_88 ?_
      rw [ejra, op_of_x hjra, if_neg (show ¬ rwh = 0 from ksw_ne hsw 0 (by decide)), if_neg (show ¬ rwh = 1 from ksw_ne hsw 1 (by decide)), if_neg (show ¬ rwh = 2 from ksw_ne hsw 2 (by decide)), if_neg (show ¬ rwh = 3 from ksw_ne hsw 3 (by decide)), if_neg (show ¬ rwh = 4 from ksw_ne hsw 4 (by decide)), if_neg (show ¬ rwh = 5 from ksw_ne hsw 5 (by decide))]
      exact ⟨rfl, hR⟩
    · skip
      rcases (show qsw = 0 ∨ qsw = 1 ∨ qsw = 2 ∨ qsw = 3 ∨ qsw = 4 ∨ qsw = 5 by omega) with rfl | rfl | rfl | rfl | rfl | rfl
      · skip
        rw [esw] at hl
        refine n_push esw ?_
        refine lv_tableIn (off := 40) (tgt := 56) hx hb dX4_of_16 (by decide) (by decide) (by decide) (by decide) ?_
        have hlj := (hrow jra hjra).2.1
        have hbj := (hrow jra hjra).2.2.1
        refine lv_aload_n hx hb dX4_of_56 rfl (lv_at hl 0 rfl) ?_
        refine k_callVr (rest := []) (nL := 4) ⟨hx, hb, hml, hown, hts⟩ (c_X2_length l D cy ad hI ρ x jra (by first | assumption | omega)) (cwV 0 hts gX4_of_X2_length rfl rfl rfl (by decide +kernel) ⟨Nat.le_of_ble_eq_true rfl, Nat.le_of_ble_eq_true rfl⟩) hK hP hS (fun _ h => h) (q0 := 2 * jra) (ci := 2) rfl (by omega) (cW_row (i := jra) (by omega)) rfl rfl rfl hl.1 rfl (Nat.le_of_ble_eq_true rfl) dX4_of_57 ⟨Nat.zero_le _, Nat.zero_le _⟩ (fun H locs hP hS => ?_)
        have hP : va_P D vwCl (wL 143 ad (cW ad cy (ρ) (x))) H := hP
        refine k_iret hx hb hr hlocks (ρ, x) hP hS dX4_of_60 ?_
        rw [ejra, esw, op_of_x hjra, if_pos (by decide), ← hreg jra hjra]
        exact ⟨rfl, hR⟩
      · skip
        rw [esw] at hl
        refine n_push esw ?_
        refine lv_tableIn (off := 45) (tgt := 61) hx hb dX4_of_16 (by decide) (by decide) (by decide) (by decide) ?_
        have hlj := (hrow jra hjra).2.1
        have hbj := (hrow jra hjra).2.2.1
        refine lv_aload_n hx hb dX4_of_61 rfl (lv_at hl 0 rfl) ?_
        refine k_callVr (rest := []) (nL := 4) ⟨hx, hb, hml, hown, hts⟩ (c_X2_degree l D cy ad hI ρ x jra (by first | assumption | omega) hlj hbj) (cwV 0 hts gX4_of_X2_degree rfl rfl rfl (by decide +kernel) ⟨Nat.le_of_ble_eq_true rfl, Nat.le_of_ble_eq_true rfl⟩) hK hP hS (fun _ h => h) (q0 := 2 * jra) (ci := 2) rfl (by omega) (cW_row (i := jra) (by omega)) rfl rfl rfl hl.1 rfl (Nat.le_of_ble_eq_true rfl) dX4_of_62 ⟨Nat.zero_le _, Nat.zero_le _⟩ (fun H locs hP hS => ?_)
        have hP : va_P D vwCl (wL 143 ad (cW ad cy (ρ) (x))) H := hP
        refine k_iret hx hb hr hlocks (ρ, x) hP hS dX4_of_65 ?_
        rw [ejra, esw, op_of_x hjra, if_neg (by decide), if_pos (by decide), ← hreg jra hjra]
        exact ⟨rfl, hR⟩
      · skip
        rw [esw] at hl
        refine n_push esw ?_
        refine lv_tableIn (off := 50) (tgt := 66) hx hb dX4_of_16 (by decide) (by decide) (by decide) (by decide) ?_
        have hlj := (hrow jra hjra).2.1
        have hbj := (hrow jra hjra).2.2.1
        refine lv_aload_n hx hb dX4_of_66 rfl (lv_at hl 0 rfl) ?_
        refine k_callVr (rest := []) (nL := 4) ⟨hx, hb, hml, hown, hts⟩ (c_X2_countNotZero l D cy ad hI ρ x jra (by first | assumption | omega) hlj hbj) (cwV 0 hts gX4_of_X2_countNotZero rfl rfl rfl (by decide +kernel) ⟨Nat.le_of_ble_eq_true rfl, Nat.le_of_ble_eq_true rfl⟩) hK hP hS (fun _ h => h) (q0 := 2 * jra) (ci := 2) rfl (by omega) (cW_row (i := jra) (by omega)) rfl rfl rfl hl.1 rfl (Nat.le_of_ble_eq_true rfl) dX4_of_67 ⟨Nat.zero_le _, Nat.zero_le _⟩ (fun H locs hP hS => ?_)
        have hP : va_P D vwCl (wL 143 ad (cW ad cy (ρ) (x))) H := hP
        refine k_iret hx hb hr hlocks (ρ, x) hP hS dX4_of_70 ?_
        rw [ejra, esw, op_of_x hjra, if_neg (by decide), if_neg (by decide), if_pos (by decide), ← hreg jra hjra]
        exact ⟨rfl, hR⟩
      · skip
        rw [esw] at hl
        refine n_push esw ?_
        refine lv_tableIn (off := 55) (tgt := 71) hx hb dX4_of_16 (by decide) (by decide) (by decide) (by decide) ?_
        have hlj := (hrow jra hjra).2.1
        have hbj := (hrow jra hjra).2.2.1
        refine lv_aload_n hx hb dX4_of_71 rfl (lv_at hl 0 rfl) ?_
        refine k_callVr (rest := []) (nL := 4) ⟨hx, hb, hml, hown, hts⟩ (c_X2_total l D cy ad hI ρ x jra (by first | assumption | omega) hlj hbj) (cwV 0 hts gX4_of_X2_total rfl rfl rfl (by decide +kernel) ⟨Nat.le_of_ble_eq_true rfl, Nat.le_of_ble_eq_true rfl⟩) hK hP hS (fun _ h => h) (q0 := 2 * jra) (ci := 2) rfl (by omega) (cW_row (i := jra) (by omega)) rfl rfl rfl hl.1 rfl (Nat.le_of_ble_eq_true rfl) dX4_of_72 ⟨Nat.zero_le _, Nat.zero_le _⟩ (fun H locs hP hS => ?_)
        have hP : va_P D vwCl (wL 143 ad (cW ad cy (ρ) (x))) H := hP
        refine k_iret hx hb hr hlocks (ρ, x) hP hS dX4_of_75 ?_
        rw [ejra, esw, op_of_x hjra, if_neg (by decide), if_neg (by decide), if_neg (by decide), if_pos (by decide), ← hreg jra hjra]
        exact ⟨rfl, hR⟩
      · skip
        rw [esw] at hl
        refine n_push esw ?_
        refine lv_tableIn (off := 60) (tgt := 76) hx hb dX4_of_16 (by decide) (by decide) (by decide) (by decide) ?_
        have hlj := (hrow jra hjra).2.1
        have hbj := (hrow jra hjra).2.2.1
        refine lv_aload_n hx hb dX4_of_76 rfl (lv_at hl 0 rfl) ?_
        refine k_callVr (rest := []) (nL := 4) ⟨hx, hb, hml, hown, hts⟩ (c_X2_countRoots l D cy ad hI ρ x jra (by first | assumption | omega) hlj hbj) (cwV 0 hts gX4_of_X2_countRoots rfl rfl rfl (by decide +kernel) ⟨Nat.le_of_ble_eq_true rfl, Nat.le_of_ble_eq_true rfl⟩) hK hP hS (fun _ h => h) (q0 := 2 * jra) (ci := 2) rfl (by omega) (cW_row (i := jra) (by omega)) rfl rfl rfl hl.1 rfl (Nat.le_of_ble_eq_true rfl) dX4_of_77 ⟨Nat.zero_le _, Nat.zero_le _⟩ (fun H locs hP hS => ?_)
        have hP : va_P D vwCl (wL 143 ad (cW ad cy (ρ) (x))) H := hP
        refine k_iret hx hb hr hlocks (ρ, x) hP hS dX4_of_80 ?_
        rw [ejra, esw, op_of_x hjra, if_neg (by decide), if_neg (by decide), if_neg (by decide), if_neg (by decide), if_pos (by decide), ← hreg jra hjra]
        exact ⟨rfl, hR⟩
      · skip
        rw [esw] at hl
        refine n_push esw ?_
        refine lv_tableIn (off := 65) (tgt := 81) hx hb dX4_of_16 (by decide) (by decide) (by decide) (by decide) ?_
        have hlj := (hrow jra hjra).2.1
        have hbj := (hrow jra hjra).2.2.1
        refine lv_aload_n hx hb dX4_of_81 rfl (lv_at hl 0 rfl) ?_
        refine k_callVr (rest := []) (nL := 4) ⟨hx, hb, hml, hown, hts⟩ (c_X2_leastRoot l D cy ad hI ρ x jra (by first | assumption | omega) hlj hbj) (cwV 0 hts gX4_of_X2_leastRoot rfl rfl rfl (by decide +kernel) ⟨Nat.le_of_ble_eq_true rfl, Nat.le_of_ble_eq_true rfl⟩) hK hP hS (fun _ h => h) (q0 := 2 * jra) (ci := 2) rfl (by omega) (cW_row (i := jra) (by omega)) rfl rfl rfl hl.1 rfl (Nat.le_of_ble_eq_true rfl) dX4_of_82 ⟨Nat.zero_le _, Nat.zero_le _⟩ (fun H locs hP hS => ?_)
        have hP : va_P D vwCl (wL 143 ad (cW ad cy (ρ) (x))) H := hP
        refine k_iret hx hb hr hlocks (ρ, x) hP hS dX4_of_85 ?_
        rw [ejra, esw, op_of_x hjra, if_neg (by decide), if_neg (by decide), if_neg (by decide), if_neg (by decide), if_neg (by decide), if_pos (by decide), ← hreg jra hjra]
        exact ⟨rfl, hR⟩
set_option maxHeartbeats 4000000 in
set_option maxRecDepth 100000 in
theorem c_X4_value (l : Launch) (D : va_G) (cy : Nat → ClassId) (ad : Nat → Nat) (hI : wI 143 ad) (ρ : Nat → kR) (x : kX) (S : kSt) (ra : Int32) (rz : Int32) (hSI : kInv S) (hR : cRep S (ρ, x)) : kM l yX4_value wsX4_value ({ frames := 2, cells := 0, slots := 0, locals := 44 } : Room) D cy 143 ad (cWf ad cy) (cW ad cy (ρ) (x)) [.ref (ad (136)), .int (ra), .int (rz)] (fun o u => o = some (.int (op_value S ra rz).1) ∧ cRep (op_value S ra rz).2 u) := by
  refine k_met cX4_value 4 (some .int) (by decide) rfl (Nat.le_of_ble_eq_true rfl) ?_
  intro p e s m below meth c ls hx hb hr hts hown hlocks hml hK hP hS hl
  have hl : lv_has ls 4 [(0, .ref (ad (136))), (1, .int (ra)), (2, .int (rz))] := hl
  have hown : s.vm.findClass RX4 = some m.cls := hown
  have hf_10 := hts (.fieldLink RX4 10 "TurnedRows" "state" "LTurnedRows$State;") (by decide +kernel)
  have hw_X4 : ∀ qw ∈ wsX40, qw.before ([.ref (ad (136)), .int (ra), .int (rz)] : List Value).toArray s = true := fun qw h => hts qw ((by decide +kernel : ∀ qw ∈ wsX40, qw ∈ wsX4_value) qw h)
  have hrow : ∀ j, j < 6 → rO (ρ j) := fun j hj => by rw [show ρ j = S.1 j from hR.1 j hj]; exact hSI.1 j hj
  have hreg : ∀ j, j < 6 → ρ j = S.1 j := hR.1
  have hpr : ∀ j, j < 6 → 1 ≤ x.2.1 j ∧ x.2.1 j ≤ 6 := hR.2.2.2.2.1
  have hpm : ∀ j, j < 6 → x.2.1 j < 9 := fun j hj => by have := hpr j hj; omega
  have hp0 : ∀ j, j < 6 → x.2.1 j ≠ 0 := fun j hj => by have := hpr j hj; omega
  have hhl : x.1 ≤ 6 := by rw [show x.1 = S.2.2.1 from hR.2.1.1]; exact hR.2.1.2
  have hplS : x.2.2.1 = S.2.2.2.2.2.1 := hR.2.2.2.2.2.2.1
  have hpl : x.2.2.1 ≤ 80 := by rw [hplS]; exact hSI.2.2.2.2.2.1
  have hpdS : ∀ j, j < S.2.2.2.2.2.1 → x.2.2.2.1 j = S.2.2.2.2.2.2 j := hR.2.2.2.2.2.2.2.1
  have hpd : ∀ j, j < x.2.2.1 → x.2.2.2.1 j < 127 := fun j hj => by rw [hpdS j (by omega)]; have := (hSI.2.2.2.2.2.2 j (by omega)).2; omega
  refine lv_aload_n hx hb dX4_value_0 rfl (lv_at hl 0 rfl) ?_
  refine k_get (q0 := 136) (k := 0) (T := TX4) (Nf := 10) (ci := 4) (C := RX4) (v := .ref (ad (118 + 2 * 0))) hx hb hw_X4 hown hK hP (by decide) cW_top rfl (by decide) hf_10 rfl rfl dX4_value_1 ?_
  refine lv_iload_n hx hb dX4_value_4 rfl (lv_at hl 1 rfl) ?_
  refine k_callVr (rest := []) (nL := 4) ⟨hx, hb, hml, hown, hts⟩ (c_X3_rowOf l D cy ad hI ρ x ra) (cwV 1 hts gX4_value_X3_rowOf rfl rfl rfl (by decide +kernel) ⟨Nat.le_of_ble_eq_true rfl, Nat.le_of_ble_eq_true rfl⟩) hK hP hS (fun _ h => h) (q0 := 118 + 2 * 0) (ci := 3) rfl (by omega) (cW_st (t := 0) (by omega)) rfl rfl rfl hl.1 rfl (Nat.le_of_ble_eq_true rfl) dX4_value_5 ⟨Nat.zero_le _, Nat.zero_le _⟩ (fun H locs hP hS => ?_)
  have hP : va_P D vwCl (wL 143 ad (cW ad cy (ρ) (x))) H := hP
  refine lv_astore_nV (lv' := [(3, va_rf (rOf ad ra)), (0, .ref (ad (136))), (1, .int (ra)), (2, .int (rz))]) hx hb dX4_value_8 rfl hl (by decide) rfl (fun ls hl => ?_)
  refine lv_aload_nV hx hb dX4_value_9 rfl (lv_at hl 0 rfl) ?_
  rcases kreg_cases ra with hjra | ⟨jra, hjra, ejra⟩
  · skip
    rw [kreg_bad hjra] at hl ⊢
    refine lv_ifnonnullN hx hb dX4_value_10 ?_
    refine lv_iconst (v := (-1 : Int32)) hx hb dX4_value_13 (by decide) ?_
    refine k_iret hx hb hr hlocks (ρ, x) hP hS dX4_value_14 ?_
    rw [show op_value S ra rz = (-1, S) from if_pos hjra]
    exact ⟨rfl, hR⟩
  · skip
    rw [kreg_ok hjra ejra] at hl ⊢
    refine lv_ifnonnull (tgt := 15) hx hb dX4_value_10 (by decide) ?_
    refine lv_iload_n hx hb dX4_value_15 rfl (lv_at hl 3 rfl) ?_
    refine k_callSr (rest := []) (nL := 4) ⟨hx, hb, hml, hown, hts⟩ (c_X4_isNumber l D cy ad hI ρ x rz) (va_cwS 1 hts gX4_value_X4_isNumber rfl rfl rfl (by decide +kernel) ⟨Nat.le_of_ble_eq_true rfl, Nat.le_of_ble_eq_true rfl⟩) hK hP hS (fun _ h => h) rfl hl.1 rfl (Nat.le_of_ble_eq_true rfl) dX4_value_16 ⟨Nat.zero_le _, Nat.zero_le _⟩ (fun H locs hP hS => ?_)
    have hP : va_P D vwCl (wL 143 ad (cW ad cy (ρ) (x))) H := hP
    refine b_ifne (tgt := 25) hx hb dX4_value_19 (by decide) (fun h_1 => ?_) (fun h_1 => ?_)
    · skip
      obtain ⟨krz, hkrz, ekrz⟩ : ∃ k : Nat, k < 257 ∧ rz = nI k := by
        rcases kin_cases rz 257 (by decide) with q | q
        · exact absurd (of_decide_eq_true h_1) q
        · exact q
      rw [ekrz] at hl
      refine lv_aload_n hx hb dX4_value_25 rfl (lv_at hl 0 rfl) ?_
      refine lv_iload_n hx hb dX4_value_26 rfl (lv_at hl 3 rfl) ?_
      refine k_callVr (rest := []) (nL := 4) ⟨hx, hb, hml, hown, hts⟩ (c_X2_valueAt l D cy ad hI ρ x jra krz (by first | assumption | omega) (hrow jra hjra).2.1 (hrow jra hjra).2.2.1 (by first | assumption | omega)) (cwV 1 hts gX4_value_X2_valueAt rfl rfl rfl (by decide +kernel) ⟨Nat.le_of_ble_eq_true rfl, Nat.le_of_ble_eq_true rfl⟩) hK hP hS (fun _ h => h) (q0 := 2 * jra) (ci := 2) rfl (by omega) (cW_row (i := jra) (by omega)) rfl rfl rfl hl.1 rfl (Nat.le_of_ble_eq_true rfl) dX4_value_27 ⟨Nat.zero_le _, Nat.zero_le _⟩ (fun H locs hP hS => ?_)
      have hP : va_P D vwCl (wL 143 ad (cW ad cy (ρ) (x))) H := hP
      refine k_iret hx hb hr hlocks (ρ, x) hP hS dX4_value_30 ?_
      rw [ejra, ekrz, op_value_x hjra, if_neg (fun q => q (isN_nI hkrz)), rgN_nI (by omega), ← hreg jra hjra]
      exact ⟨rfl, hR⟩
    · skip
      have hnrz : ¬ isN rz := of_decide_eq_false h_1
      refine lv_bipush (v := (-2 : Int32)) hx hb dX4_value_22 (by decide) ?_
      refine k_iret hx hb hr hlocks (ρ, x) hP hS dX4_value_24 ?_
      rw [ejra, op_value_x hjra, if_pos hnrz]
      exact ⟨rfl, hR⟩
set_option maxHeartbeats 4000000 in
set_option maxRecDepth 100000 in
theorem c_X4_turningPoint (l : Launch) (D : va_G) (cy : Nat → ClassId) (ad : Nat → Nat) (hI : wI 143 ad) (ρ : Nat → kR) (x : kX) (S : kSt) (rn : Int32) (rp : Int32) (hSI : kInv S) (hR : cRep S (ρ, x)) : kM l yX4_turningPoint wsX4_turningPoint ({ frames := 2, cells := 0, slots := 0, locals := 44 } : Room) D cy 143 ad (cWf ad cy) (cW ad cy (ρ) (x)) [.ref (ad (136)), .int (rn), .int (rp)] (fun o u => o = some (.int (op_turningPoint S rn rp).1) ∧ cRep (op_turningPoint S rn rp).2 u) := by
  refine k_met cX4_turningPoint 4 (some .int) (by decide) rfl (Nat.le_of_ble_eq_true rfl) ?_
  intro p e s m below meth c ls hx hb hr hts hown hlocks hml hK hP hS hl
  have hl : lv_has ls 4 [(0, .ref (ad (136))), (1, .int (rn)), (2, .int (rp))] := hl
  have hown : s.vm.findClass RX4 = some m.cls := hown
  have hrow : ∀ j, j < 6 → rO (ρ j) := fun j hj => by rw [show ρ j = S.1 j from hR.1 j hj]; exact hSI.1 j hj
  have hreg : ∀ j, j < 6 → ρ j = S.1 j := hR.1
  have hpr : ∀ j, j < 6 → 1 ≤ x.2.1 j ∧ x.2.1 j ≤ 6 := hR.2.2.2.2.1
  have hpm : ∀ j, j < 6 → x.2.1 j < 9 := fun j hj => by have := hpr j hj; omega
  have hp0 : ∀ j, j < 6 → x.2.1 j ≠ 0 := fun j hj => by have := hpr j hj; omega
  have hhl : x.1 ≤ 6 := by rw [show x.1 = S.2.2.1 from hR.2.1.1]; exact hR.2.1.2
  have hplS : x.2.2.1 = S.2.2.2.2.2.1 := hR.2.2.2.2.2.2.1
  have hpl : x.2.2.1 ≤ 80 := by rw [hplS]; exact hSI.2.2.2.2.2.1
  have hpdS : ∀ j, j < S.2.2.2.2.2.1 → x.2.2.2.1 j = S.2.2.2.2.2.2 j := hR.2.2.2.2.2.2.2.1
  have hpd : ∀ j, j < x.2.2.1 → x.2.2.2.1 j < 127 := fun j hj => by rw [hpdS j (by omega)]; have := (hSI.2.2.2.2.2.2 j (by omega)).2; omega
  refine lv_iload_n hx hb dX4_turningPoint_0 rfl (lv_at hl 1 rfl) ?_
  refine k_callSr (rest := []) (nL := 4) ⟨hx, hb, hml, hown, hts⟩ (c_X4_pointOf l D cy ad hI ρ x rn) (va_cwS 1 hts gX4_turningPoint_X4_pointOf rfl rfl rfl (by decide +kernel) ⟨Nat.le_of_ble_eq_true rfl, Nat.le_of_ble_eq_true rfl⟩) hK hP hS (fun _ h => h) rfl hl.1 rfl (Nat.le_of_ble_eq_true rfl) dX4_turningPoint_1 ⟨Nat.zero_le _, Nat.zero_le _⟩ (fun H locs hP hS => ?_)
  have hP : va_P D vwCl (wL 143 ad (cW ad cy (ρ) (x))) H := hP
  refine lv_istore_n (lv' := [(3, .int (ptV rn)), (0, .ref (ad (136))), (1, .int (rn)), (2, .int (rp))]) hx hb dX4_turningPoint_4 rfl hl (by decide) rfl (fun ls hl => ?_)
  refine lv_iload_n hx hb dX4_turningPoint_5 rfl (lv_at hl 0 rfl) ?_
  refine lv_bipush (v := (-6 : Int32)) hx hb dX4_turningPoint_6 (by decide) ?_
  refine lv_icmp_eq (tgt := 22) hx hb dX4_turningPoint_8 (by decide) (fun h_1 => ?_) (fun h_1 => ?_)
  · skip
    have hz : isZ rn = false := ptV_none.mp h_1
    refine lv_bipush (v := (-2 : Int32)) hx hb dX4_turningPoint_22 (by decide) ?_
    refine k_iret hx hb hr hlocks (ρ, x) hP hS dX4_turningPoint_24 ?_
    rw [show op_turningPoint S rn rp = (-2, S) from if_pos (Or.inl hz)]
    exact ⟨rfl, hR⟩
  · skip
    have hz : isZ rn = true := by
      cases hq : isZ rn with
      | true => rfl
      | false => exact absurd (ptV_none.mpr hq) h_1
    have ept := ptV_ok hz
    have hptl := tpt_lt (rgN rn)
    refine lv_iload_n hx hb dX4_turningPoint_11 rfl (lv_at hl 3 rfl) ?_
    refine lv_if_lt (tgt := 22) hx hb dX4_turningPoint_12 (by decide) (fun h_2 => ?_) (fun h_2 => ?_)
    · skip
      refine lv_bipush (v := (-2 : Int32)) hx hb dX4_turningPoint_22 (by decide) ?_
      refine k_iret hx hb hr hlocks (ρ, x) hP hS dX4_turningPoint_24 ?_
      rw [show op_turningPoint S rn rp = (-2, S) from if_pos (Or.inr (fun q => absurd q.1 (Int32.not_le.mpr h_2)))]
      exact ⟨rfl, hR⟩
    · skip
      refine lv_iload_n hx hb dX4_turningPoint_15 rfl (lv_at hl 3 rfl) ?_
      refine lv_sipush (v := nI (1000)) hx hb dX4_turningPoint_16 rfl ?_
      refine lv_icmp_le (tgt := 25) hx hb dX4_turningPoint_19 (by decide) (fun h_3 => ?_) (fun h_3 => ?_)
      · skip
        obtain ⟨kp, hkp, ekp⟩ := kin0' (r := rp) (n := 1000) (by decide) h_2 (Int32.not_lt.mpr h_3)
        rw [ekp, ept] at hl
        refine lv_iload_n hx hb dX4_turningPoint_25 rfl (lv_at hl 0 rfl) ?_
        refine lv_iload_n hx hb dX4_turningPoint_26 rfl (lv_at hl 3 rfl) ?_
        refine k_callSr (rest := []) (nL := 4) ⟨hx, hb, hml, hown, hts⟩ (c_X4_raise l D cy ad hI ρ x (tpt (rgN rn)) kp (by first | assumption | omega) (by first | assumption | omega)) (va_cwS 2 hts gX4_turningPoint_X4_raise rfl rfl rfl (by decide +kernel) ⟨Nat.le_of_ble_eq_true rfl, Nat.le_of_ble_eq_true rfl⟩) hK hP hS (fun _ h => h) rfl hl.1 rfl (Nat.le_of_ble_eq_true rfl) dX4_turningPoint_27 ⟨Nat.zero_le _, Nat.zero_le _⟩ (fun H locs hP hS => ?_)
        have hP : va_P D vwCl (wL 143 ad (cW ad cy (ρ) (x))) H := hP
        refine k_iret hx hb hr hlocks (ρ, x) hP hS dX4_turningPoint_30 ?_
        rw [show op_turningPoint S rn rp = (nI (pw (tpt (rgN rn)) (rgN rp)), S) from if_neg (by rintro (q | q); rw [hz] at q; cases q; exact q (by rw [ekp]; exact kin0_nI hkp (by decide))), ekp, rgN_nI (by omega)]
        exact ⟨rfl, hR⟩
      · skip
        refine lv_bipush (v := (-2 : Int32)) hx hb dX4_turningPoint_22 (by decide) ?_
        refine k_iret hx hb hr hlocks (ρ, x) hP hS dX4_turningPoint_24 ?_
        rw [show op_turningPoint S rn rp = (-2, S) from if_pos (Or.inr (fun q => h_3 q.2))]
        exact ⟨rfl, hR⟩
