set_option maxHeartbeats 4000000 in
set_option maxRecDepth 100000 in
theorem c_X4_read (l : Launch) (D : va_G) (cy : Nat → ClassId) (ad : Nat → Nat) (hI : wI 143 ad) (ρ : Nat → kR) (x : kX) (S : kSt) (ra : Int32) (hSI : kInv S) (hR : cRep S (ρ, x)) : kM l yX4_read wsX4_read ({ frames := 5, cells := 0, slots := 0, locals := 103 } : Room) D cy 143 ad (cWf ad cy) (cW ad cy (ρ) (x)) [.ref (ad (136)), .int (ra)] (fun o u => o = some (.int (op_read S ra).1) ∧ cRep (op_read S ra).2 u) := by
  refine k_met cX4_read 3 (some .int) (by decide) rfl (Nat.le_of_ble_eq_true rfl) ?_
  intro p e s m below meth c ls hx hb hr hts hown hlocks hml hK hP hS hl
  have hl : lv_has ls 3 [(0, .ref (ad (136))), (1, .int (ra))] := hl
  have hown : s.vm.findClass RX4 = some m.cls := hown
  have hf_10 := hts (.fieldLink RX4 10 "TurnedRows" "state" "LTurnedRows$State;") (by decide +kernel)
  have hf_26 := hts (.fieldLink RX4 26 "TurnedRows" "pad" "LTurnedRows$Pad;") (by decide +kernel)
  have hf_41 := hts (.fieldLink RX4 41 "TurnedRows" "made" "LTurnedRows$Row;") (by decide +kernel)
  have hw_X4 : ∀ qw ∈ wsX40, qw.before ([.ref (ad (136)), .int (ra)] : List Value).toArray s = true := fun qw h => hts qw ((by decide +kernel : ∀ qw ∈ wsX40, qw ∈ wsX4_read) qw h)
  have hrow : ∀ j, j < 6 → rO (ρ j) := fun j hj => by rw [show ρ j = S.1 j from hR.1 j hj]; exact hSI.1 j hj
  have hreg : ∀ j, j < 6 → ρ j = S.1 j := hR.1
  have hpr : ∀ j, j < 6 → 1 ≤ x.2.1 j ∧ x.2.1 j ≤ 6 := hR.2.2.2.2.1
  have hpm : ∀ j, j < 6 → x.2.1 j < 9 := fun j hj => by have := hpr j hj; omega
  have hp0 : ∀ j, j < 6 → x.2.1 j ≠ 0 := fun j hj => by have := hpr j hj; omega
  have hhl : x.1 ≤ 6 := by rw [show x.1 = S.2.2.1 from hR.2.1.1]; exact hR.2.1.2
  have hplS : x.2.2.1 = S.2.2.2.2.2.1 := hR.2.2.2.2.2.2.1
  have hpl : x.2.2.1 ≤ 80 := by rw [hplS]; exact hSI.2.2.2.2.2.1
  have hpdS : ∀ j, j < S.2.2.2.2.2.1 → x.2.2.2.1 j = S.2.2.2.2.2.2 j := hR.2.2.2.2.2.2.2.1
  have hpd : ∀ j, j < x.2.2.1 → x.2.2.2.1 j < 127 := fun j hj => by rw [hpdS j (by omega)]; have := (hSI.2.2.2.2.2.2 j (by omega)).2; omega
  have hpsA : psA x.2.2.2.1 x.2.2.1 = psA S.2.2.2.2.2.2 S.2.2.2.2.2.1 := by rw [hplS]; exact psA_congr hpdS
  refine lv_aload_n hx hb dX4_read_0 rfl (lv_at hl 0 rfl) ?_
  refine k_get (q0 := 136) (k := 0) (T := TX4) (Nf := 10) (ci := 4) (C := RX4) (v := .ref (ad (118 + 2 * 0))) hx hb hw_X4 hown hK hP (by decide) cW_top rfl (by decide) hf_10 rfl rfl dX4_read_1 ?_
  refine lv_iload_n hx hb dX4_read_4 rfl (lv_at hl 1 rfl) ?_
  refine k_callVr (rest := []) (nL := 3) ⟨hx, hb, hml, hown, hts⟩ (c_X3_rowOf l D cy ad hI ρ x ra) (cwV 1 hts gX4_read_X3_rowOf rfl rfl rfl (by decide +kernel) ⟨Nat.le_of_ble_eq_true rfl, Nat.le_of_ble_eq_true rfl⟩) hK hP hS (fun _ h => h) (q0 := 118 + 2 * 0) (ci := 3) rfl (by omega) (cW_st (t := 0) (by omega)) rfl rfl rfl hl.1 rfl (Nat.le_of_ble_eq_true rfl) dX4_read_5 ⟨Nat.zero_le _, Nat.zero_le _⟩ (fun H locs hP hS => ?_)
  have hP : va_P D vwCl (wL 143 ad (cW ad cy (ρ) (x))) H := hP
  refine lv_astore_nV (lv' := [(2, va_rf (rOf ad ra)), (0, .ref (ad (136))), (1, .int (ra))]) hx hb dX4_read_8 rfl hl (by decide) rfl (fun ls hl => ?_)
  refine lv_aload_nV hx hb dX4_read_9 rfl (lv_at hl 0 rfl) ?_
  rcases kreg_cases ra with hjra | ⟨jra, hjra, ejra⟩
  · skip
    rw [kreg_bad hjra] at hl ⊢
    refine lv_ifnonnullN hx hb dX4_read_10 ?_
    refine lv_iconst (v := (-1 : Int32)) hx hb dX4_read_13 (by decide) ?_
    refine k_iret hx hb hr hlocks (ρ, x) hP hS dX4_read_14 ?_
    rw [show op_read S ra = (-1, S) from if_pos hjra]
    exact ⟨rfl, hR⟩
  · skip
    rw [kreg_ok hjra ejra] at hl ⊢
    refine lv_ifnonnull (tgt := 15) hx hb dX4_read_10 (by decide) ?_
    refine lv_aload_n hx hb dX4_read_15 rfl (lv_at hl 1 rfl) ?_
    refine k_get (q0 := 136) (k := 2) (T := TX4) (Nf := 10) (ci := 4) (C := RX4) (v := .ref (ad (139))) hx hb hw_X4 hown hK hP (by decide) cW_top rfl (by decide) hf_26 rfl rfl dX4_read_16 ?_
    refine lv_aload_n hx hb dX4_read_19 rfl (lv_at hl 1 rfl) ?_
    refine k_get (q0 := 136) (k := 5) (T := TX4) (Nf := 10) (ci := 4) (C := RX4) (v := .ref (ad (2 * 54))) hx hb hw_X4 hown hK hP (by decide) cW_top rfl (by decide) hf_41 rfl rfl dX4_read_20 ?_
    refine k_callV (rest := []) (nL := 3) ⟨hx, hb, hml, hown, hts⟩ (c_X1_scan l D cy ad hI ρ x 54 (by first | assumption | omega) (by first | assumption | omega) (by first | assumption | omega)) (cwV 1 hts gX4_read_X1_scan rfl rfl rfl (by decide +kernel) ⟨Nat.le_of_ble_eq_true rfl, Nat.le_of_ble_eq_true rfl⟩) hK hP hS (fun _ h => h) (q0 := 139) (ci := 1) rfl (by decide) cW_pad rfl rfl rfl hl.1 rfl (Nat.le_of_ble_eq_true rfl) dX4_read_23 ⟨Nat.zero_le _, Nat.zero_le _⟩ (fun o u H locs hpost hP hS _ => ?_)
    obtain ⟨ρ2, x2⟩ := u
    obtain ⟨ho, hx2, hfr, h54⟩ := hpost
    dsimp only at hx2 hfr h54
    subst ho
    rw [hx2] at hP
    have hP : va_P D vwCl (wL 143 ad (cW ad cy (ρ2) (x))) H := hP
    refine lv_bipush (v := (-6 : Int32)) hx hb dX4_read_26 (by decide) ?_
    refine lv_icmp_eq (tgt := 34) hx hb dX4_read_28 (by decide) (fun h_1 => ?_) (fun h_1 => ?_)
    · skip
      have hok : (psA x.2.2.2.1 x.2.2.1).1 = -6 := h_1
      have hfr2 : ∀ i, i < 54 → ρ2 i = ρ i := fun i hi => hfr i (by omega)
      refine lv_aload_n hx hb dX4_read_34 rfl (lv_at hl 1 rfl) ?_
      refine lv_aload_n hx hb dX4_read_35 rfl (lv_at hl 0 rfl) ?_
      refine k_callVv (rest := []) (nL := 3) ⟨hx, hb, hml, hown, hts⟩ (c_X4_change l D cy ad hI ρ2 x jra (by omega) hpm hp0 hpr hhl) (cwV 1 hts gX4_read_X4_change rfl rfl rfl (by decide +kernel) ⟨Nat.le_of_ble_eq_true rfl, Nat.le_of_ble_eq_true rfl⟩) hK hP hS (fun _ h => h) (q0 := 136) (ci := 4) rfl (by decide) cW_top rfl rfl rfl hl.1 rfl (Nat.le_of_ble_eq_true rfl) dX4_read_36 ⟨Nat.zero_le _, Nat.zero_le _⟩ (fun H locs hP hS => ?_)
      have hP : va_P D vwCl (wL 143 ad (cW ad cy (va_up (keepR ρ2 x) jra (ρ2 54)) (keepX x))) H := hP
      have eW : (va_up (keepR ρ2 x) jra (ρ2 54)) jra = (psA x.2.2.2.1 x.2.2.1).2 := by rw [va_up_self]; exact h54 hok
      refine lv_aload_n hx hb dX4_read_39 rfl (lv_at hl 1 rfl) ?_
      refine k_get (q0 := 136) (k := 2) (T := TX4) (Nf := 10) (ci := 4) (C := RX4) (v := .ref (ad (139))) hx hb hw_X4 hown hK hP (by decide) cW_top rfl (by decide) hf_26 rfl rfl dX4_read_40 ?_
      refine k_callVv (rest := []) (nL := 3) ⟨hx, hb, hml, hown, hts⟩ (c_X1_empty l D cy ad hI (va_up (keepR ρ2 x) jra (ρ2 54)) (keepX x) ) (cwV 0 hts gX4_read_X1_empty rfl rfl rfl (by decide +kernel) ⟨Nat.le_of_ble_eq_true rfl, Nat.le_of_ble_eq_true rfl⟩) hK hP hS (fun _ h => h) (q0 := 139) (ci := 1) rfl (by decide) cW_pad rfl rfl rfl hl.1 rfl (Nat.le_of_ble_eq_true rfl) dX4_read_43 ⟨Nat.zero_le _, Nat.zero_le _⟩ (fun H locs hP hS => ?_)
      have hP : va_P D vwCl (wL 143 ad (cW ad cy ((va_up (keepR ρ2 x) jra (ρ2 54))) (((keepX x).1, (keepX x).2.1, 0, (keepX x).2.2.2)))) H := hP
      refine lv_aload_n hx hb dX4_read_46 rfl (lv_at hl 0 rfl) ?_
      refine k_callVr (rest := []) (nL := 3) ⟨hx, hb, hml, hown, hts⟩ (c_X2_length l D cy ad hI (va_up (keepR ρ2 x) jra (ρ2 54)) ((keepX x).1, (keepX x).2.1, 0, (keepX x).2.2.2) jra (by first | assumption | omega)) (cwV 0 hts gX4_read_X2_length rfl rfl rfl (by decide +kernel) ⟨Nat.le_of_ble_eq_true rfl, Nat.le_of_ble_eq_true rfl⟩) hK hP hS (fun _ h => h) (q0 := 2 * jra) (ci := 2) rfl (by omega) (cW_row (i := jra) (by omega)) rfl rfl rfl hl.1 rfl (Nat.le_of_ble_eq_true rfl) dX4_read_47 ⟨Nat.zero_le _, Nat.zero_le _⟩ (fun H locs hP hS => ?_)
      have hP : va_P D vwCl (wL 143 ad (cW ad cy ((va_up (keepR ρ2 x) jra (ρ2 54))) (((keepX x).1, (keepX x).2.1, 0, (keepX x).2.2.2)))) H := hP
      refine k_iret hx hb hr hlocks ((va_up (keepR ρ2 x) jra (ρ2 54)), ((keepX x).1, (keepX x).2.1, 0, (keepX x).2.2.2)) hP hS dX4_read_50 ?_
      rw [ejra, op_read_x hjra, ← hpsA, if_neg (fun q => q hok), eW]
      exact ⟨rfl, cRep_pad (cRep_chg hR hfr2 hjra (h54 hok)) (fun j hj => absurd hj (Nat.not_lt_zero _))⟩
    · skip
      have hbad : (psA x.2.2.2.1 x.2.2.1).1 ≠ -6 := h_1
      refine lv_bipush (v := (-3 : Int32)) hx hb dX4_read_31 (by decide) ?_
      refine k_iret hx hb hr hlocks (ρ2, x) hP hS dX4_read_33 ?_
      rw [ejra, op_read_x hjra, if_pos (by rw [← hpsA]; exact hbad)]
      exact ⟨rfl, hR.eqs (fun i hi => hfr i (by omega))⟩
set_option maxHeartbeats 4000000 in
set_option maxRecDepth 100000 in
theorem c_X4_set (l : Launch) (D : va_G) (cy : Nat → ClassId) (ad : Nat → Nat) (hI : wI 143 ad) (ρ : Nat → kR) (x : kX) (S : kSt) (ra : Int32) (rp : Int32) (rv : Int32) (hSI : kInv S) (hR : cRep S (ρ, x)) : kM l yX4_set wsX4_set ({ frames := 4, cells := 0, slots := 0, locals := 82 } : Room) D cy 143 ad (cWf ad cy) (cW ad cy (ρ) (x)) [.ref (ad (136)), .int (ra), .int (rp), .int (rv)] (fun o u => o = some (.int (op_set S ra rp rv).1) ∧ cRep (op_set S ra rp rv).2 u) := by
  refine k_met cX4_set 5 (some .int) (by decide) rfl (Nat.le_of_ble_eq_true rfl) ?_
  intro p e s m below meth c ls hx hb hr hts hown hlocks hml hK hP hS hl
  have hl : lv_has ls 5 [(0, .ref (ad (136))), (1, .int (ra)), (2, .int (rp)), (3, .int (rv))] := hl
  have hown : s.vm.findClass RX4 = some m.cls := hown
  have hf_10 := hts (.fieldLink RX4 10 "TurnedRows" "state" "LTurnedRows$State;") (by decide +kernel)
  have hf_19 := hts (.fieldLink RX4 19 "TurnedRows" "history" "LTurnedRows$History;") (by decide +kernel)
  have hw_X4 : ∀ qw ∈ wsX40, qw.before ([.ref (ad (136)), .int (ra), .int (rp), .int (rv)] : List Value).toArray s = true := fun qw h => hts qw ((by decide +kernel : ∀ qw ∈ wsX40, qw ∈ wsX4_set) qw h)
  have hm_84 := hts (.methodLink RX4 84 Lib.Math.max.name) (by decide +kernel)
  have hms := hts (.static Lib.Math.max.name) (by decide +kernel)
  have hmi := hts (.initialized "java/lang/Math") (by decide +kernel)
  have hmc := hts (.code Lib.Math.max.name Lib.Math.max.code 2 (some .int)) (by decide +kernel)
  have hrow : ∀ j, j < 6 → rO (ρ j) := fun j hj => by rw [show ρ j = S.1 j from hR.1 j hj]; exact hSI.1 j hj
  have hreg : ∀ j, j < 6 → ρ j = S.1 j := hR.1
  have hpr : ∀ j, j < 6 → 1 ≤ x.2.1 j ∧ x.2.1 j ≤ 6 := hR.2.2.2.2.1
  have hpm : ∀ j, j < 6 → x.2.1 j < 9 := fun j hj => by have := hpr j hj; omega
  have hp0 : ∀ j, j < 6 → x.2.1 j ≠ 0 := fun j hj => by have := hpr j hj; omega
  have hhl : x.1 ≤ 6 := by rw [show x.1 = S.2.2.1 from hR.2.1.1]; exact hR.2.1.2
  have hplS : x.2.2.1 = S.2.2.2.2.2.1 := hR.2.2.2.2.2.2.1
  have hpl : x.2.2.1 ≤ 80 := by rw [hplS]; exact hSI.2.2.2.2.2.1
  have hpdS : ∀ j, j < S.2.2.2.2.2.1 → x.2.2.2.1 j = S.2.2.2.2.2.2 j := hR.2.2.2.2.2.2.2.1
  have hpd : ∀ j, j < x.2.2.1 → x.2.2.2.1 j < 127 := fun j hj => by rw [hpdS j (by omega)]; have := (hSI.2.2.2.2.2.2 j (by omega)).2; omega
  refine lv_aload_n hx hb dX4_set_0 rfl (lv_at hl 0 rfl) ?_
  refine k_get (q0 := 136) (k := 0) (T := TX4) (Nf := 10) (ci := 4) (C := RX4) (v := .ref (ad (118 + 2 * 0))) hx hb hw_X4 hown hK hP (by decide) cW_top rfl (by decide) hf_10 rfl rfl dX4_set_1 ?_
  refine lv_iload_n hx hb dX4_set_4 rfl (lv_at hl 1 rfl) ?_
  refine k_callVr (rest := []) (nL := 5) ⟨hx, hb, hml, hown, hts⟩ (c_X3_rowOf l D cy ad hI ρ x ra) (cwV 1 hts gX4_set_X3_rowOf rfl rfl rfl (by decide +kernel) ⟨Nat.le_of_ble_eq_true rfl, Nat.le_of_ble_eq_true rfl⟩) hK hP hS (fun _ h => h) (q0 := 118 + 2 * 0) (ci := 3) rfl (by omega) (cW_st (t := 0) (by omega)) rfl rfl rfl hl.1 rfl (Nat.le_of_ble_eq_true rfl) dX4_set_5 ⟨Nat.zero_le _, Nat.zero_le _⟩ (fun H locs hP hS => ?_)
  have hP : va_P D vwCl (wL 143 ad (cW ad cy (ρ) (x))) H := hP
  refine lv_astoreV (lv' := [(4, va_rf (rOf ad ra)), (0, .ref (ad (136))), (1, .int (ra)), (2, .int (rp)), (3, .int (rv))]) hx hb dX4_set_8 hl (by decide) rfl (fun ls hl => ?_)
  refine lv_aloadV hx hb dX4_set_10 (lv_at hl 0 rfl) ?_
  rcases kreg_cases ra with hjra | ⟨jra, hjra, ejra⟩
  · skip
    rw [kreg_bad hjra] at hl ⊢
    refine lv_ifnullN (tgt := 28) hx hb dX4_set_12 (by decide) ?_
    refine lv_iconst (v := (-1 : Int32)) hx hb dX4_set_28 (by decide) ?_
    refine k_iret hx hb hr hlocks (ρ, x) hP hS dX4_set_29 ?_
    rw [show op_set S ra rp rv = (-1, S) from if_pos (Or.inl hjra)]
    exact ⟨rfl, hR⟩
  · skip
    rw [kreg_ok hjra ejra] at hl ⊢
    refine lv_ifnull hx hb dX4_set_12 ?_
    refine lv_iload_n hx hb dX4_set_15 rfl (lv_at hl 3 rfl) ?_
    refine lv_if_lt (tgt := 28) hx hb dX4_set_16 (by decide) (fun h_1 => ?_) (fun h_1 => ?_)
    · skip
      refine lv_iconst (v := (-1 : Int32)) hx hb dX4_set_28 (by decide) ?_
      refine k_iret hx hb hr hlocks (ρ, x) hP hS dX4_set_29 ?_
      rw [show op_set S ra rp rv = (-1, S) from if_pos (Or.inr (fun q => absurd q.1 (Int32.not_le.mpr h_1)))]
      exact ⟨rfl, hR⟩
    · skip
      refine lv_iload_n hx hb dX4_set_19 rfl (lv_at hl 3 rfl) ?_
      refine lv_aload hx hb dX4_set_20 (lv_at hl 0 rfl) ?_
      refine k_callVr (rest := [.int (rp)]) (nL := 5) ⟨hx, hb, hml, hown, hts⟩ (c_X2_length l D cy ad hI ρ x jra (by first | assumption | omega)) (cwV 0 hts gX4_set_X2_length rfl rfl rfl (by decide +kernel) ⟨Nat.le_of_ble_eq_true rfl, Nat.le_of_ble_eq_true rfl⟩) hK hP hS (fun _ h => h) (q0 := 2 * jra) (ci := 2) rfl (by omega) (cW_row (i := jra) (by omega)) rfl rfl rfl hl.1 rfl (Nat.le_of_ble_eq_true rfl) dX4_set_22 ⟨Nat.zero_le _, Nat.zero_le _⟩ (fun H locs hP hS => ?_)
      have hP : va_P D vwCl (wL 143 ad (cW ad cy (ρ) (x))) H := hP
      have hoa := hrow jra hjra
      have hla := hoa.2.1
      have hla1 := hoa.1
      refine lv_icmp_le (tgt := 30) hx hb dX4_set_25 (by decide) (fun h_2 => ?_) (fun h_2 => ?_)
      · skip
        obtain ⟨kp, hkp, ekp⟩ := kin0' (r := rp) (n := (ρ jra).1) (by omega) h_1 (Int32.not_lt.mpr h_2)
        rw [ekp] at hl
        have hset : op_set S ra rp rv = if ¬ isN rv then (-2, S) else if rp = 64 then (-4, S) else (nI (setR (S.1 jra) kp (rgN rv)).1, chgS S jra (setR (S.1 jra) kp (rgN rv))) := by
          unfold op_set
          rw [ejra, ekp, rgN_nI (by omega), rgN_nI (by omega), if_neg]
          rintro (q | q)
          · exact q (isR_nI hjra)
          · exact q (kin0_nI (by rw [← hreg jra hjra]; exact hkp) (by rw [← hreg jra hjra]; omega))
        refine lv_iload_n hx hb dX4_set_30 rfl (lv_at hl 4 rfl) ?_
        refine k_callSr (rest := []) (nL := 5) ⟨hx, hb, hml, hown, hts⟩ (c_X4_isNumber l D cy ad hI ρ x rv) (va_cwS 1 hts gX4_set_X4_isNumber rfl rfl rfl (by decide +kernel) ⟨Nat.le_of_ble_eq_true rfl, Nat.le_of_ble_eq_true rfl⟩) hK hP hS (fun _ h => h) rfl hl.1 rfl (Nat.le_of_ble_eq_true rfl) dX4_set_31 ⟨Nat.zero_le _, Nat.zero_le _⟩ (fun H locs hP hS => ?_)
        have hP : va_P D vwCl (wL 143 ad (cW ad cy (ρ) (x))) H := hP
        refine b_ifne (tgt := 40) hx hb dX4_set_34 (by decide) (fun h_3 => ?_) (fun h_3 => ?_)
        · skip
          obtain ⟨krv, hkrv, ekrv⟩ : ∃ k : Nat, k < 257 ∧ rv = nI k := by
            rcases kin_cases rv 257 (by decide) with q | q
            · exact absurd (of_decide_eq_true h_3) q
            · exact q
          rw [ekrv] at hl
          refine lv_iload_n hx hb dX4_set_40 rfl (lv_at hl 3 rfl) ?_
          refine lv_bipush (v := nI (64)) hx hb dX4_set_41 rfl ?_
          refine n_icmp_lt (tgt := 49) hx hb (by omega) (by omega) dX4_set_43 (by decide) (fun h_4 => ?_) (fun h_4 => ?_)
          · skip
            have hk64 : kp < 64 := h_4
            refine lv_aload_n hx hb dX4_set_49 rfl (lv_at hl 1 rfl) ?_
            refine k_get (q0 := 136) (k := 1) (T := TX4) (Nf := 10) (ci := 4) (C := RX4) (v := .ref (ad (137))) hx hb hw_X4 hown hK hP (by decide) cW_top rfl (by decide) hf_19 rfl rfl dX4_set_50 ?_
            refine lv_aload_n hx hb dX4_set_53 rfl (lv_at hl 1 rfl) ?_
            refine k_get (q0 := 136) (k := 0) (T := TX4) (Nf := 10) (ci := 4) (C := RX4) (v := .ref (ad (118 + 2 * 0))) hx hb hw_X4 hown hK hP (by decide) cW_top rfl (by decide) hf_10 rfl rfl dX4_set_54 ?_
            refine k_callVv (rest := []) (nL := 5) ⟨hx, hb, hml, hown, hts⟩ (c_X0_keep l D cy ad hI ρ x hpm hhl hp0) (cwV 1 hts gX4_set_X0_keep rfl rfl rfl (by decide +kernel) ⟨Nat.le_of_ble_eq_true rfl, Nat.le_of_ble_eq_true rfl⟩) hK hP hS (fun _ h => h) (q0 := 137) (ci := 0) rfl (by decide) cW_hist rfl rfl rfl hl.1 rfl (Nat.le_of_ble_eq_true rfl) dX4_set_57 ⟨Nat.zero_le _, Nat.zero_le _⟩ (fun H locs hP hS => ?_)
            have hP : va_P D vwCl (wL 143 ad (cW ad cy (keepR ρ x) (keepX x))) H := hP
            have hkr : keepR ρ x jra = ρ jra := cpS_out (Or.inl (by have := kpm_rng hpr (khl x) khl_lt; omega))
            have ez : zfrom (ρ jra).2 (max (ρ jra).1 (kp + 1)) = (ρ jra).2 := by
              funext j
              unfold zfrom
              by_cases q : max (ρ jra).1 (kp + 1) ≤ j
              · rw [if_pos q, hoa.2.2.2 j (by omega)]
              · rw [if_neg q]
            refine lv_aload hx hb dX4_set_60 (lv_at hl 0 rfl) ?_
            refine lv_aload hx hb dX4_set_62 (lv_at hl 0 rfl) ?_
            refine k_callVr (rest := [.ref (ad (2 * jra))]) (nL := 5) ⟨hx, hb, hml, hown, hts⟩ (c_X2_length l D cy ad hI (keepR ρ x) (keepX x) jra (by first | assumption | omega)) (cwV 0 hts gX4_set_X2_length rfl rfl rfl (by decide +kernel) ⟨Nat.le_of_ble_eq_true rfl, Nat.le_of_ble_eq_true rfl⟩) hK hP hS (fun _ h => h) (q0 := 2 * jra) (ci := 2) rfl (by omega) (cW_row (i := jra) (by omega)) rfl rfl rfl hl.1 rfl (Nat.le_of_ble_eq_true rfl) dX4_set_64 ⟨Nat.zero_le _, Nat.zero_le _⟩ (fun H locs hP hS => ?_)
            have hP : va_P D vwCl (wL 143 ad (cW ad cy (keepR ρ x) (keepX x))) H := hP
            refine n_push (a := (ρ jra).1) (by rw [hkr]) ?_
            refine lv_iload_n hx hb dX4_set_67 rfl (lv_at hl 3 rfl) ?_
            refine lv_iconst (v := nI (1)) hx hb dX4_set_68 rfl ?_
            refine n_iadd hx hb dX4_set_69 ?_
            refine n_max (a := (ρ jra).1) (b := kp + 1) hx hb (hml.trans hl.1.symm) hown hm_84 hms hmi hmc (by decide) (Nat.le_of_ble_eq_true rfl) (Nat.zero_le _) (Nat.zero_le _) (by omega) (by omega) dX4_set_70 ?_
            refine k_callVv (rest := []) (nL := 5) ⟨hx, hb, hml, hown, hts⟩ (c_X2_resize l D cy ad hI (keepR ρ x) (keepX x) jra (max ((ρ jra).1) (kp + 1)) (by first | assumption | omega) (by first | assumption | omega)) (cwV 1 hts gX4_set_X2_resize rfl rfl rfl (by decide +kernel) ⟨Nat.le_of_ble_eq_true rfl, Nat.le_of_ble_eq_true rfl⟩) hK hP hS (fun _ h => h) (q0 := 2 * jra) (ci := 2) rfl (by omega) (cW_row (i := jra) (by omega)) rfl rfl rfl hl.1 rfl (Nat.le_of_ble_eq_true rfl) dX4_set_73 ⟨Nat.zero_le _, Nat.zero_le _⟩ (fun H locs hP hS => ?_)
            have hP : va_P D vwCl (wL 143 ad (cW ad cy (va_up (keepR ρ x) jra ((max ((ρ jra).1) (kp + 1)), zfrom ((keepR ρ x) jra).2 (max ((ρ jra).1) (kp + 1)))) ((keepX x)))) H := hP
            have eW1 : (va_up (keepR ρ x) jra ((max ((ρ jra).1) (kp + 1)), zfrom ((keepR ρ x) jra).2 (max ((ρ jra).1) (kp + 1)))) jra = (max (ρ jra).1 (kp + 1), (ρ jra).2) := by rw [va_up_self, hkr, ez]
            refine lv_aload hx hb dX4_set_76 (lv_at hl 0 rfl) ?_
            refine lv_iload_n hx hb dX4_set_78 rfl (lv_at hl 3 rfl) ?_
            refine lv_iload_n hx hb dX4_set_79 rfl (lv_at hl 4 rfl) ?_
            refine k_callVv (rest := []) (nL := 5) ⟨hx, hb, hml, hown, hts⟩ (c_X2_write l D cy ad hI (va_up (keepR ρ x) jra ((max ((ρ jra).1) (kp + 1)), zfrom ((keepR ρ x) jra).2 (max ((ρ jra).1) (kp + 1)))) (keepX x) jra kp (nI (krv)) (by first | assumption | omega) (by first | assumption | omega)) (cwV 2 hts gX4_set_X2_write rfl rfl rfl (by decide +kernel) ⟨Nat.le_of_ble_eq_true rfl, Nat.le_of_ble_eq_true rfl⟩) hK hP hS (fun _ h => h) (q0 := 2 * jra) (ci := 2) rfl (by omega) (cW_row (i := jra) (by omega)) rfl rfl rfl hl.1 rfl (Nat.le_of_ble_eq_true rfl) dX4_set_80 ⟨Nat.zero_le _, Nat.zero_le _⟩ (fun H locs hP hS => ?_)
            have hP : va_P D vwCl (wL 143 ad (cW ad cy (va_up (va_up (keepR ρ x) jra ((max ((ρ jra).1) (kp + 1)), zfrom ((keepR ρ x) jra).2 (max ((ρ jra).1) (kp + 1)))) jra (((va_up (keepR ρ x) jra ((max ((ρ jra).1) (kp + 1)), zfrom ((keepR ρ x) jra).2 (max ((ρ jra).1) (kp + 1)))) jra).1, va_up ((va_up (keepR ρ x) jra ((max ((ρ jra).1) (kp + 1)), zfrom ((keepR ρ x) jra).2 (max ((ρ jra).1) (kp + 1)))) jra).2 kp (kmod (nI (krv)).toInt))) ((keepX x)))) H := hP
            have eW : (va_up (va_up (keepR ρ x) jra ((max ((ρ jra).1) (kp + 1)), zfrom ((keepR ρ x) jra).2 (max ((ρ jra).1) (kp + 1)))) jra (((va_up (keepR ρ x) jra ((max ((ρ jra).1) (kp + 1)), zfrom ((keepR ρ x) jra).2 (max ((ρ jra).1) (kp + 1)))) jra).1, va_up ((va_up (keepR ρ x) jra ((max ((ρ jra).1) (kp + 1)), zfrom ((keepR ρ x) jra).2 (max ((ρ jra).1) (kp + 1)))) jra).2 kp (kmod (nI (krv)).toInt))) jra = setR (ρ jra) kp krv := by rw [va_up_self, eW1, kmod_nI (by omega), Nat.mod_eq_of_lt hkrv]; rfl
            refine lv_aload hx hb dX4_set_83 (lv_at hl 0 rfl) ?_
            refine k_callVr (rest := []) (nL := 5) ⟨hx, hb, hml, hown, hts⟩ (c_X2_length l D cy ad hI (va_up (va_up (keepR ρ x) jra ((max ((ρ jra).1) (kp + 1)), zfrom ((keepR ρ x) jra).2 (max ((ρ jra).1) (kp + 1)))) jra (((va_up (keepR ρ x) jra ((max ((ρ jra).1) (kp + 1)), zfrom ((keepR ρ x) jra).2 (max ((ρ jra).1) (kp + 1)))) jra).1, va_up ((va_up (keepR ρ x) jra ((max ((ρ jra).1) (kp + 1)), zfrom ((keepR ρ x) jra).2 (max ((ρ jra).1) (kp + 1)))) jra).2 kp (kmod (nI (krv)).toInt))) (keepX x) jra (by first | assumption | omega)) (cwV 0 hts gX4_set_X2_length rfl rfl rfl (by decide +kernel) ⟨Nat.le_of_ble_eq_true rfl, Nat.le_of_ble_eq_true rfl⟩) hK hP hS (fun _ h => h) (q0 := 2 * jra) (ci := 2) rfl (by omega) (cW_row (i := jra) (by omega)) rfl rfl rfl hl.1 rfl (Nat.le_of_ble_eq_true rfl) dX4_set_85 ⟨Nat.zero_le _, Nat.zero_le _⟩ (fun H locs hP hS => ?_)
            have hP : va_P D vwCl (wL 143 ad (cW ad cy (va_up (va_up (keepR ρ x) jra ((max ((ρ jra).1) (kp + 1)), zfrom ((keepR ρ x) jra).2 (max ((ρ jra).1) (kp + 1)))) jra (((va_up (keepR ρ x) jra ((max ((ρ jra).1) (kp + 1)), zfrom ((keepR ρ x) jra).2 (max ((ρ jra).1) (kp + 1)))) jra).1, va_up ((va_up (keepR ρ x) jra ((max ((ρ jra).1) (kp + 1)), zfrom ((keepR ρ x) jra).2 (max ((ρ jra).1) (kp + 1)))) jra).2 kp (kmod (nI (krv)).toInt))) ((keepX x)))) H := hP
            refine k_iret hx hb hr hlocks (va_up (va_up (keepR ρ x) jra ((max ((ρ jra).1) (kp + 1)), zfrom ((keepR ρ x) jra).2 (max ((ρ jra).1) (kp + 1)))) jra (((va_up (keepR ρ x) jra ((max ((ρ jra).1) (kp + 1)), zfrom ((keepR ρ x) jra).2 (max ((ρ jra).1) (kp + 1)))) jra).1, va_up ((va_up (keepR ρ x) jra ((max ((ρ jra).1) (kp + 1)), zfrom ((keepR ρ x) jra).2 (max ((ρ jra).1) (kp + 1)))) jra).2 kp (kmod (nI (krv)).toInt)), (keepX x)) hP hS dX4_set_88 ?_
            rw [hset, ekrv, if_neg (fun q => q (isN_nI hkrv)), if_neg (fun q => by
              have q2 : nI kp = nI 64 := ekp.symm.trans q
              have := (nI_eq (by omega) (by decide)).mp q2
              omega), rgN_nI (by omega), ← hreg jra hjra, eW]
            refine ⟨rfl, ?_⟩
            have h1 := cRep_set (setR (ρ jra) kp krv) hjra (cRep_keep hR)
            have e1 : ∀ (A : Nat → kR), A jra = setR (ρ jra) kp krv → (∀ i, i ≠ jra → A i = keepR ρ x i) → A = va_up (keepR ρ x) jra (setR (ρ jra) kp krv) := fun A h1 h2 => by
              funext i
              by_cases q : i = jra
              · rw [q, h1, va_up_self]
              · rw [h2 i q, va_up_ne _ _ q]
            rw [e1 _ eW (fun i hi => by rw [va_up_ne _ _ hi, va_up_ne _ _ hi])]
            exact h1
          · skip
            have hk64 : kp = 64 := by omega
            refine lv_bipush (v := (-4 : Int32)) hx hb dX4_set_46 (by decide) ?_
            refine k_iret hx hb hr hlocks (ρ, x) hP hS dX4_set_48 ?_
            rw [hset, ekrv, if_neg (fun q => q (isN_nI hkrv)), if_pos (by rw [ekp, hk64]; rfl)]
            exact ⟨rfl, hR⟩
        · skip
          have hnrv : ¬ isN rv := of_decide_eq_false h_3
          refine lv_bipush (v := (-2 : Int32)) hx hb dX4_set_37 (by decide) ?_
          refine k_iret hx hb hr hlocks (ρ, x) hP hS dX4_set_39 ?_
          rw [hset, if_pos hnrv]
          exact ⟨rfl, hR⟩
      · skip
        refine lv_iconst (v := (-1 : Int32)) hx hb dX4_set_28 (by decide) ?_
        refine k_iret hx hb hr hlocks (ρ, x) hP hS dX4_set_29 ?_
        rw [show op_set S ra rp rv = (-1, S) from if_pos (Or.inr (fun q => h_2 (by have q2 := q.2; rw [ejra, rgN_nI (by omega), ← hreg jra hjra] at q2; exact q2)))]
        exact ⟨rfl, hR⟩
set_option maxHeartbeats 4000000 in
set_option maxRecDepth 100000 in
theorem c_X4_divide (l : Launch) (D : va_G) (cy : Nat → ClassId) (ad : Nat → Nat) (hI : wI 143 ad) (ρ : Nat → kR) (x : kX) (S : kSt) (ra : Int32) (rb : Int32) (rc : Int32) (rd : Int32) (hSI : kInv S) (hR : cRep S (ρ, x)) : kM l yX4_divide wsX4_divide ({ frames := 5, cells := 0, slots := 0, locals := 103 } : Room) D cy 143 ad (cWf ad cy) (cW ad cy (ρ) (x)) [.ref (ad (136)), .int (ra), .int (rb), .int (rc), .int (rd)] (fun o u => o = some (.int (op_divide S ra rb rc rd).1) ∧ cRep (op_divide S ra rb rc rd).2 u) := by
  refine k_met cX4_divide 9 (some .int) (by decide) rfl (Nat.le_of_ble_eq_true rfl) ?_
  intro p e s m below meth c ls hx hb hr hts hown hlocks hml hK hP hS hl
  have hl : lv_has ls 9 [(0, .ref (ad (136))), (1, .int (ra)), (2, .int (rb)), (3, .int (rc)), (4, .int (rd))] := hl
  have hown : s.vm.findClass RX4 = some m.cls := hown
  have hf_10 := hts (.fieldLink RX4 10 "TurnedRows" "state" "LTurnedRows$State;") (by decide +kernel)
  have hf_41 := hts (.fieldLink RX4 41 "TurnedRows" "made" "LTurnedRows$Row;") (by decide +kernel)
  have hf_45 := hts (.fieldLink RX4 45 "TurnedRows" "madeRest" "LTurnedRows$Row;") (by decide +kernel)
  have hw_X4 : ∀ qw ∈ wsX40, qw.before ([.ref (ad (136)), .int (ra), .int (rb), .int (rc), .int (rd)] : List Value).toArray s = true := fun qw h => hts qw ((by decide +kernel : ∀ qw ∈ wsX40, qw ∈ wsX4_divide) qw h)
  have hrow : ∀ j, j < 6 → rO (ρ j) := fun j hj => by rw [show ρ j = S.1 j from hR.1 j hj]; exact hSI.1 j hj
  have hreg : ∀ j, j < 6 → ρ j = S.1 j := hR.1
  have hpr : ∀ j, j < 6 → 1 ≤ x.2.1 j ∧ x.2.1 j ≤ 6 := hR.2.2.2.2.1
  have hpm : ∀ j, j < 6 → x.2.1 j < 9 := fun j hj => by have := hpr j hj; omega
  have hp0 : ∀ j, j < 6 → x.2.1 j ≠ 0 := fun j hj => by have := hpr j hj; omega
  have hhl : x.1 ≤ 6 := by rw [show x.1 = S.2.2.1 from hR.2.1.1]; exact hR.2.1.2
  have hplS : x.2.2.1 = S.2.2.2.2.2.1 := hR.2.2.2.2.2.2.1
  have hpl : x.2.2.1 ≤ 80 := by rw [hplS]; exact hSI.2.2.2.2.2.1
  have hpdS : ∀ j, j < S.2.2.2.2.2.1 → x.2.2.2.1 j = S.2.2.2.2.2.2 j := hR.2.2.2.2.2.2.2.1
  have hpd : ∀ j, j < x.2.2.1 → x.2.2.2.1 j < 127 := fun j hj => by rw [hpdS j (by omega)]; have := (hSI.2.2.2.2.2.2 j (by omega)).2; omega
  refine lv_aload_n hx hb dX4_divide_0 rfl (lv_at hl 0 rfl) ?_
  refine k_get (q0 := 136) (k := 0) (T := TX4) (Nf := 10) (ci := 4) (C := RX4) (v := .ref (ad (118 + 2 * 0))) hx hb hw_X4 hown hK hP (by decide) cW_top rfl (by decide) hf_10 rfl rfl dX4_divide_1 ?_
  refine lv_iload_n hx hb dX4_divide_4 rfl (lv_at hl 1 rfl) ?_
  refine k_callVr (rest := []) (nL := 9) ⟨hx, hb, hml, hown, hts⟩ (c_X3_rowOf l D cy ad hI ρ x ra) (cwV 1 hts gX4_divide_X3_rowOf rfl rfl rfl (by decide +kernel) ⟨Nat.le_of_ble_eq_true rfl, Nat.le_of_ble_eq_true rfl⟩) hK hP hS (fun _ h => h) (q0 := 118 + 2 * 0) (ci := 3) rfl (by omega) (cW_st (t := 0) (by omega)) rfl rfl rfl hl.1 rfl (Nat.le_of_ble_eq_true rfl) dX4_divide_5 ⟨Nat.zero_le _, Nat.zero_le _⟩ (fun H locs hP hS => ?_)
  have hP : va_P D vwCl (wL 143 ad (cW ad cy (ρ) (x))) H := hP
  refine lv_astoreV (lv' := [(5, va_rf (rOf ad ra)), (0, .ref (ad (136))), (1, .int (ra)), (2, .int (rb)), (3, .int (rc)), (4, .int (rd))]) hx hb dX4_divide_8 hl (by decide) rfl (fun ls hl => ?_)
  refine lv_aload_n hx hb dX4_divide_10 rfl (lv_at hl 1 rfl) ?_
  refine k_get (q0 := 136) (k := 0) (T := TX4) (Nf := 10) (ci := 4) (C := RX4) (v := .ref (ad (118 + 2 * 0))) hx hb hw_X4 hown hK hP (by decide) cW_top rfl (by decide) hf_10 rfl rfl dX4_divide_11 ?_
  refine lv_iload_n hx hb dX4_divide_14 rfl (lv_at hl 3 rfl) ?_
  refine k_callVr (rest := []) (nL := 9) ⟨hx, hb, hml, hown, hts⟩ (c_X3_rowOf l D cy ad hI ρ x rb) (cwV 1 hts gX4_divide_X3_rowOf rfl rfl rfl (by decide +kernel) ⟨Nat.le_of_ble_eq_true rfl, Nat.le_of_ble_eq_true rfl⟩) hK hP hS (fun _ h => h) (q0 := 118 + 2 * 0) (ci := 3) rfl (by omega) (cW_st (t := 0) (by omega)) rfl rfl rfl hl.1 rfl (Nat.le_of_ble_eq_true rfl) dX4_divide_15 ⟨Nat.zero_le _, Nat.zero_le _⟩ (fun H locs hP hS => ?_)
  have hP : va_P D vwCl (wL 143 ad (cW ad cy (ρ) (x))) H := hP
  refine lv_astoreV (lv' := [(6, va_rf (rOf ad rb)), (5, va_rf (rOf ad ra)), (0, .ref (ad (136))), (1, .int (ra)), (2, .int (rb)), (3, .int (rc)), (4, .int (rd))]) hx hb dX4_divide_18 hl (by decide) (by simp [List.filter, va_rf_cat]) (fun ls hl => ?_)
  refine lv_aload_n hx hb dX4_divide_20 rfl (lv_at hl 2 rfl) ?_
  refine k_get (q0 := 136) (k := 0) (T := TX4) (Nf := 10) (ci := 4) (C := RX4) (v := .ref (ad (118 + 2 * 0))) hx hb hw_X4 hown hK hP (by decide) cW_top rfl (by decide) hf_10 rfl rfl dX4_divide_21 ?_
  refine lv_iload_n hx hb dX4_divide_24 rfl (lv_at hl 5 rfl) ?_
  refine k_callVr (rest := []) (nL := 9) ⟨hx, hb, hml, hown, hts⟩ (c_X3_rowOf l D cy ad hI ρ x rc) (cwV 1 hts gX4_divide_X3_rowOf rfl rfl rfl (by decide +kernel) ⟨Nat.le_of_ble_eq_true rfl, Nat.le_of_ble_eq_true rfl⟩) hK hP hS (fun _ h => h) (q0 := 118 + 2 * 0) (ci := 3) rfl (by omega) (cW_st (t := 0) (by omega)) rfl rfl rfl hl.1 rfl (Nat.le_of_ble_eq_true rfl) dX4_divide_25 ⟨Nat.zero_le _, Nat.zero_le _⟩ (fun H locs hP hS => ?_)
  have hP : va_P D vwCl (wL 143 ad (cW ad cy (ρ) (x))) H := hP
  refine lv_astoreV (lv' := [(7, va_rf (rOf ad rc)), (6, va_rf (rOf ad rb)), (5, va_rf (rOf ad ra)), (0, .ref (ad (136))), (1, .int (ra)), (2, .int (rb)), (3, .int (rc)), (4, .int (rd))]) hx hb dX4_divide_28 hl (by decide) (by simp [List.filter, va_rf_cat]) (fun ls hl => ?_)
  refine lv_aload_n hx hb dX4_divide_30 rfl (lv_at hl 3 rfl) ?_
  refine k_get (q0 := 136) (k := 0) (T := TX4) (Nf := 10) (ci := 4) (C := RX4) (v := .ref (ad (118 + 2 * 0))) hx hb hw_X4 hown hK hP (by decide) cW_top rfl (by decide) hf_10 rfl rfl dX4_divide_31 ?_
  refine lv_iload hx hb dX4_divide_34 (lv_at hl 7 rfl) ?_
  refine k_callVr (rest := []) (nL := 9) ⟨hx, hb, hml, hown, hts⟩ (c_X3_rowOf l D cy ad hI ρ x rd) (cwV 1 hts gX4_divide_X3_rowOf rfl rfl rfl (by decide +kernel) ⟨Nat.le_of_ble_eq_true rfl, Nat.le_of_ble_eq_true rfl⟩) hK hP hS (fun _ h => h) (q0 := 118 + 2 * 0) (ci := 3) rfl (by omega) (cW_st (t := 0) (by omega)) rfl rfl rfl hl.1 rfl (Nat.le_of_ble_eq_true rfl) dX4_divide_36 ⟨Nat.zero_le _, Nat.zero_le _⟩ (fun H locs hP hS => ?_)
  have hP : va_P D vwCl (wL 143 ad (cW ad cy (ρ) (x))) H := hP
  refine lv_astoreV (lv' := [(8, va_rf (rOf ad rd)), (7, va_rf (rOf ad rc)), (6, va_rf (rOf ad rb)), (5, va_rf (rOf ad ra)), (0, .ref (ad (136))), (1, .int (ra)), (2, .int (rb)), (3, .int (rc)), (4, .int (rd))]) hx hb dX4_divide_39 hl (by decide) (by simp [List.filter, va_rf_cat]) (fun ls hl => ?_)
  refine lv_aloadV hx hb dX4_divide_41 (lv_at hl 3 rfl) ?_
  rcases kreg_cases ra with hjra | ⟨jra, hjra, ejra⟩
  · skip
    rw [kreg_bad hjra] at hl ⊢
    refine lv_ifnullN (tgt := 61) hx hb dX4_divide_43 (by decide) ?_
    refine lv_iconst (v := (-1 : Int32)) hx hb dX4_divide_61 (by decide) ?_
    refine k_iret hx hb hr hlocks (ρ, x) hP hS dX4_divide_62 ?_
    rw [show op_divide S ra rb rc rd = (-1, S) from if_pos (by first | exact Or.inl hjra | exact Or.inr (Or.inl hjrb) | exact Or.inr (Or.inr (Or.inl hjrc)) | exact Or.inr (Or.inr (Or.inr (hjrd))))]
    exact ⟨rfl, hR⟩
  · skip
    rw [kreg_ok hjra ejra] at hl ⊢
    refine lv_ifnull hx hb dX4_divide_43 ?_
    refine lv_aloadV hx hb dX4_divide_46 (lv_at hl 2 rfl) ?_
    rcases kreg_cases rb with hjrb | ⟨jrb, hjrb, ejrb⟩
    · skip
      rw [kreg_bad hjrb] at hl ⊢
      refine lv_ifnullN (tgt := 61) hx hb dX4_divide_48 (by decide) ?_
      refine lv_iconst (v := (-1 : Int32)) hx hb dX4_divide_61 (by decide) ?_
      refine k_iret hx hb hr hlocks (ρ, x) hP hS dX4_divide_62 ?_
      rw [show op_divide S ra rb rc rd = (-1, S) from if_pos (by first | exact Or.inl hjra | exact Or.inr (Or.inl hjrb) | exact Or.inr (Or.inr (Or.inl hjrc)) | exact Or.inr (Or.inr (Or.inr (hjrd))))]
      exact ⟨rfl, hR⟩
    · skip
      rw [kreg_ok hjrb ejrb] at hl ⊢
      refine lv_ifnull hx hb dX4_divide_48 ?_
      refine lv_aloadV hx hb dX4_divide_51 (lv_at hl 1 rfl) ?_
      rcases kreg_cases rc with hjrc | ⟨jrc, hjrc, ejrc⟩
      · skip
        rw [kreg_bad hjrc] at hl ⊢
        refine lv_ifnullN (tgt := 61) hx hb dX4_divide_53 (by decide) ?_
        refine lv_iconst (v := (-1 : Int32)) hx hb dX4_divide_61 (by decide) ?_
        refine k_iret hx hb hr hlocks (ρ, x) hP hS dX4_divide_62 ?_
        rw [show op_divide S ra rb rc rd = (-1, S) from if_pos (by first | exact Or.inl hjra | exact Or.inr (Or.inl hjrb) | exact Or.inr (Or.inr (Or.inl hjrc)) | exact Or.inr (Or.inr (Or.inr (hjrd))))]
        exact ⟨rfl, hR⟩
      · skip
        rw [kreg_ok hjrc ejrc] at hl ⊢
        refine lv_ifnull hx hb dX4_divide_53 ?_
        refine lv_aloadV hx hb dX4_divide_56 (lv_at hl 0 rfl) ?_
        rcases kreg_cases rd with hjrd | ⟨jrd, hjrd, ejrd⟩
        · skip
          rw [kreg_bad hjrd] at hl ⊢
          refine lv_ifnonnullN hx hb dX4_divide_58 ?_
          refine lv_iconst (v := (-1 : Int32)) hx hb dX4_divide_61 (by decide) ?_
          refine k_iret hx hb hr hlocks (ρ, x) hP hS dX4_divide_62 ?_
          rw [show op_divide S ra rb rc rd = (-1, S) from if_pos (by first | exact Or.inl hjra | exact Or.inr (Or.inl hjrb) | exact Or.inr (Or.inr (Or.inl hjrc)) | exact Or.inr (Or.inr (Or.inr (hjrd))))]
          exact ⟨rfl, hR⟩
        · skip
          rw [kreg_ok hjrd ejrd] at hl ⊢
          refine lv_ifnonnull (tgt := 63) hx hb dX4_divide_58 (by decide) ?_
          refine lv_iload_n hx hb dX4_divide_63 rfl (lv_at hl 7 rfl) ?_
          refine lv_iload hx hb dX4_divide_64 (lv_at hl 8 rfl) ?_
          refine lv_icmp_ne (tgt := 72) hx hb dX4_divide_66 (by decide) (fun h_1 => ?_) (fun h_1 => ?_)
          · skip
            refine lv_aload hx hb dX4_divide_72 (lv_at hl 2 rfl) ?_
            have hoa := hrow jra hjra
            have hob := hrow jrb hjrb
            have hdb := dg_le (ρ jrb).2 (ρ jrb).1
            have hda := dg_le (ρ jra).2 (ρ jra).1
            have hlb := hob.2.1
            have hla := hoa.2.1
            refine k_callVr (rest := []) (nL := 9) ⟨hx, hb, hml, hown, hts⟩ (c_X2_degree l D cy ad hI ρ x jrb (by first | assumption | omega) hlb hob.2.2.1) (cwV 0 hts gX4_divide_X2_degree rfl rfl rfl (by decide +kernel) ⟨Nat.le_of_ble_eq_true rfl, Nat.le_of_ble_eq_true rfl⟩) hK hP hS (fun _ h => h) (q0 := 2 * jrb) (ci := 2) rfl (by omega) (cW_row (i := jrb) (by omega)) rfl rfl rfl hl.1 rfl (Nat.le_of_ble_eq_true rfl) dX4_divide_74 ⟨Nat.zero_le _, Nat.zero_le _⟩ (fun H locs hP hS => ?_)
            have hP : va_P D vwCl (wL 143 ad (cW ad cy (ρ) (x))) H := hP
            refine lv_bipush (v := (-6 : Int32)) hx hb dX4_divide_77 (by decide) ?_
            refine lv_icmp_ne (tgt := 85) hx hb dX4_divide_79 (by decide) (fun h_2 => ?_) (fun h_2 => ?_)
            · skip
              have hz : rD (ρ jrb) ≠ 0 := fun z => h_2 ((dV_none (D := dg (ρ jrb).2 (ρ jrb).1) (by omega)).mpr z)
              obtain ⟨d, hd⟩ : ∃ d, dg (ρ jrb).2 (ρ jrb).1 = d + 1 := ⟨rD (ρ jrb) - 1, by unfold rD at hz ⊢; omega⟩
              have hd1 : rD (ρ jrb) - 1 = d := by unfold rD; omega
              have eq1 : quo (ρ jra) (ρ jrb) = quoR (ρ jra).2 (ρ jrb).2 (dg (ρ jra).2 (ρ jra).1) d := by unfold quo; rw [hd1]; rfl
              have eq2 : res (ρ jra) (ρ jrb) = resR (ρ jra).2 (ρ jrb).2 (dg (ρ jra).2 (ρ jra).1) d := by unfold res; rw [hd1]; rfl
              have hOr : rO (res (ρ jra) (ρ jrb)) := by rw [eq2]; exact resR_O hoa.2.2.1 (by omega)
              refine lv_aload hx hb dX4_divide_85 (lv_at hl 3 rfl) ?_
              refine lv_aload hx hb dX4_divide_87 (lv_at hl 2 rfl) ?_
              refine lv_aload_n hx hb dX4_divide_89 rfl (lv_at hl 4 rfl) ?_
              refine k_get (q0 := 136) (k := 5) (T := TX4) (Nf := 10) (ci := 4) (C := RX4) (v := .ref (ad (2 * 54))) hx hb hw_X4 hown hK hP (by decide) cW_top rfl (by decide) hf_41 rfl rfl dX4_divide_90 ?_
              refine lv_aload_n hx hb dX4_divide_93 rfl (lv_at hl 4 rfl) ?_
              refine k_get (q0 := 136) (k := 6) (T := TX4) (Nf := 10) (ci := 4) (C := RX4) (v := .ref (ad (2 * 55))) hx hb hw_X4 hown hK hP (by decide) cW_top rfl (by decide) hf_45 rfl rfl dX4_divide_94 ?_
              refine k_callSv (rest := []) (nL := 9) ⟨hx, hb, hml, hown, hts⟩ (c_X4_divideRows l D cy ad hI ρ x jra jrb 54 55 d (by first | assumption | omega) (by first | assumption | omega) (by first | assumption | omega) (by first | assumption | omega) (by first | assumption | omega) (by first | assumption | omega) (by decide) (by first | assumption | omega) (by first | assumption | omega) hoa.K hob.K hd) (va_cwS 4 hts gX4_divide_X4_divideRows rfl rfl rfl (by decide +kernel) ⟨Nat.le_of_ble_eq_true rfl, Nat.le_of_ble_eq_true rfl⟩) hK hP hS (fun _ h => h) rfl hl.1 rfl (Nat.le_of_ble_eq_true rfl) dX4_divide_97 ⟨Nat.zero_le _, Nat.zero_le _⟩ (fun H locs hP hS => ?_)
              have hP : va_P D vwCl (wL 143 ad (cW ad cy (va_up (va_up ρ 54 (quoR (ρ jra).2 (ρ jrb).2 (dg (ρ jra).2 (ρ jra).1) d)) 55 (resR (ρ jra).2 (ρ jrb).2 (dg (ρ jra).2 (ρ jra).1) d)) (x))) H := hP
              refine lv_aload_n hx hb dX4_divide_100 rfl (lv_at hl 4 rfl) ?_
              refine lv_aload hx hb dX4_divide_101 (lv_at hl 1 rfl) ?_
              refine k_callVv (rest := []) (nL := 9) ⟨hx, hb, hml, hown, hts⟩ (c_X4_change l D cy ad hI (va_up (va_up ρ 54 (quoR (ρ jra).2 (ρ jrb).2 (dg (ρ jra).2 (ρ jra).1) d)) 55 (resR (ρ jra).2 (ρ jrb).2 (dg (ρ jra).2 (ρ jra).1) d)) x jrc (by omega) hpm hp0 hpr hhl) (cwV 1 hts gX4_divide_X4_change rfl rfl rfl (by decide +kernel) ⟨Nat.le_of_ble_eq_true rfl, Nat.le_of_ble_eq_true rfl⟩) hK hP hS (fun _ h => h) (q0 := 136) (ci := 4) rfl (by decide) cW_top rfl rfl rfl hl.1 rfl (Nat.le_of_ble_eq_true rfl) dX4_divide_103 ⟨Nat.zero_le _, Nat.zero_le _⟩ (fun H locs hP hS => ?_)
              have hP : va_P D vwCl (wL 143 ad (cW ad cy (va_up (keepR (va_up (va_up ρ 54 (quoR (ρ jra).2 (ρ jrb).2 (dg (ρ jra).2 (ρ jra).1) d)) 55 (resR (ρ jra).2 (ρ jrb).2 (dg (ρ jra).2 (ρ jra).1) d)) x) jrc ((va_up (va_up ρ 54 (quoR (ρ jra).2 (ρ jrb).2 (dg (ρ jra).2 (ρ jra).1) d)) 55 (resR (ρ jra).2 (ρ jrb).2 (dg (ρ jra).2 (ρ jra).1) d)) 54)) (keepX x))) H := hP
              refine lv_aload hx hb dX4_divide_106 (lv_at hl 0 rfl) ?_
              refine lv_aload_n hx hb dX4_divide_108 rfl (lv_at hl 4 rfl) ?_
              refine k_get (q0 := 136) (k := 6) (T := TX4) (Nf := 10) (ci := 4) (C := RX4) (v := .ref (ad (2 * 55))) hx hb hw_X4 hown hK hP (by decide) cW_top rfl (by decide) hf_45 rfl rfl dX4_divide_109 ?_
              refine k_callVv (rest := []) (nL := 9) ⟨hx, hb, hml, hown, hts⟩ (c_X2_copyFrom l D cy ad hI (va_up (keepR (va_up (va_up ρ 54 (quoR (ρ jra).2 (ρ jrb).2 (dg (ρ jra).2 (ρ jra).1) d)) 55 (resR (ρ jra).2 (ρ jrb).2 (dg (ρ jra).2 (ρ jra).1) d)) x) jrc ((va_up (va_up ρ 54 (quoR (ρ jra).2 (ρ jrb).2 (dg (ρ jra).2 (ρ jra).1) d)) 55 (resR (ρ jra).2 (ρ jrb).2 (dg (ρ jra).2 (ρ jra).1) d)) 54)) (keepX x) jrd 55 (by first | assumption | omega) (by first | assumption | omega) (by omega)) (cwV 1 hts gX4_divide_X2_copyFrom rfl rfl rfl (by decide +kernel) ⟨Nat.le_of_ble_eq_true rfl, Nat.le_of_ble_eq_true rfl⟩) hK hP hS (fun _ h => h) (q0 := 2 * jrd) (ci := 2) rfl (by omega) (cW_row (i := jrd) (by omega)) rfl rfl rfl hl.1 rfl (Nat.le_of_ble_eq_true rfl) dX4_divide_112 ⟨Nat.zero_le _, Nat.zero_le _⟩ (fun H locs hP hS => ?_)
              have hP : va_P D vwCl (wL 143 ad (cW ad cy (va_up (va_up (keepR (va_up (va_up ρ 54 (quoR (ρ jra).2 (ρ jrb).2 (dg (ρ jra).2 (ρ jra).1) d)) 55 (resR (ρ jra).2 (ρ jrb).2 (dg (ρ jra).2 (ρ jra).1) d)) x) jrc ((va_up (va_up ρ 54 (quoR (ρ jra).2 (ρ jrb).2 (dg (ρ jra).2 (ρ jra).1) d)) 55 (resR (ρ jra).2 (ρ jrb).2 (dg (ρ jra).2 (ρ jra).1) d)) 54)) jrd ((va_up (keepR (va_up (va_up ρ 54 (quoR (ρ jra).2 (ρ jrb).2 (dg (ρ jra).2 (ρ jra).1) d)) 55 (resR (ρ jra).2 (ρ jrb).2 (dg (ρ jra).2 (ρ jra).1) d)) x) jrc ((va_up (va_up ρ 54 (quoR (ρ jra).2 (ρ jrb).2 (dg (ρ jra).2 (ρ jra).1) d)) 55 (resR (ρ jra).2 (ρ jrb).2 (dg (ρ jra).2 (ρ jra).1) d)) 54)) 55)) ((keepX x)))) H := hP
              have eW : (va_up (va_up (keepR (va_up (va_up ρ 54 (quoR (ρ jra).2 (ρ jrb).2 (dg (ρ jra).2 (ρ jra).1) d)) 55 (resR (ρ jra).2 (ρ jrb).2 (dg (ρ jra).2 (ρ jra).1) d)) x) jrc ((va_up (va_up ρ 54 (quoR (ρ jra).2 (ρ jrb).2 (dg (ρ jra).2 (ρ jra).1) d)) 55 (resR (ρ jra).2 (ρ jrb).2 (dg (ρ jra).2 (ρ jra).1) d)) 54)) jrd ((va_up (keepR (va_up (va_up ρ 54 (quoR (ρ jra).2 (ρ jrb).2 (dg (ρ jra).2 (ρ jra).1) d)) 55 (resR (ρ jra).2 (ρ jrb).2 (dg (ρ jra).2 (ρ jra).1) d)) x) jrc ((va_up (va_up ρ 54 (quoR (ρ jra).2 (ρ jrb).2 (dg (ρ jra).2 (ρ jra).1) d)) 55 (resR (ρ jra).2 (ρ jrb).2 (dg (ρ jra).2 (ρ jra).1) d)) 54)) 55)) jrd = res (ρ jra) (ρ jrb) := by
                rw [va_up_self, va_up_ne _ _ (show 55 ≠ jrc by omega), keepR_hi hpr (by decide), va_up_self]
                exact eq2.symm
              refine lv_aload hx hb dX4_divide_115 (lv_at hl 0 rfl) ?_
              refine k_callVr (rest := []) (nL := 9) ⟨hx, hb, hml, hown, hts⟩ (c_X2_degree l D cy ad hI (va_up (va_up (keepR (va_up (va_up ρ 54 (quoR (ρ jra).2 (ρ jrb).2 (dg (ρ jra).2 (ρ jra).1) d)) 55 (resR (ρ jra).2 (ρ jrb).2 (dg (ρ jra).2 (ρ jra).1) d)) x) jrc ((va_up (va_up ρ 54 (quoR (ρ jra).2 (ρ jrb).2 (dg (ρ jra).2 (ρ jra).1) d)) 55 (resR (ρ jra).2 (ρ jrb).2 (dg (ρ jra).2 (ρ jra).1) d)) 54)) jrd ((va_up (keepR (va_up (va_up ρ 54 (quoR (ρ jra).2 (ρ jrb).2 (dg (ρ jra).2 (ρ jra).1) d)) 55 (resR (ρ jra).2 (ρ jrb).2 (dg (ρ jra).2 (ρ jra).1) d)) x) jrc ((va_up (va_up ρ 54 (quoR (ρ jra).2 (ρ jrb).2 (dg (ρ jra).2 (ρ jra).1) d)) 55 (resR (ρ jra).2 (ρ jrb).2 (dg (ρ jra).2 (ρ jra).1) d)) 54)) 55)) (keepX x) jrd (by first | assumption | omega) (by rw [eW]; exact hOr.2.1) (by rw [eW]; exact hOr.2.2.1)) (cwV 0 hts gX4_divide_X2_degree rfl rfl rfl (by decide +kernel) ⟨Nat.le_of_ble_eq_true rfl, Nat.le_of_ble_eq_true rfl⟩) hK hP hS (fun _ h => h) (q0 := 2 * jrd) (ci := 2) rfl (by omega) (cW_row (i := jrd) (by omega)) rfl rfl rfl hl.1 rfl (Nat.le_of_ble_eq_true rfl) dX4_divide_117 ⟨Nat.zero_le _, Nat.zero_le _⟩ (fun H locs hP hS => ?_)
              have hP : va_P D vwCl (wL 143 ad (cW ad cy (va_up (va_up (keepR (va_up (va_up ρ 54 (quoR (ρ jra).2 (ρ jrb).2 (dg (ρ jra).2 (ρ jra).1) d)) 55 (resR (ρ jra).2 (ρ jrb).2 (dg (ρ jra).2 (ρ jra).1) d)) x) jrc ((va_up (va_up ρ 54 (quoR (ρ jra).2 (ρ jrb).2 (dg (ρ jra).2 (ρ jra).1) d)) 55 (resR (ρ jra).2 (ρ jrb).2 (dg (ρ jra).2 (ρ jra).1) d)) 54)) jrd ((va_up (keepR (va_up (va_up ρ 54 (quoR (ρ jra).2 (ρ jrb).2 (dg (ρ jra).2 (ρ jra).1) d)) 55 (resR (ρ jra).2 (ρ jrb).2 (dg (ρ jra).2 (ρ jra).1) d)) x) jrc ((va_up (va_up ρ 54 (quoR (ρ jra).2 (ρ jrb).2 (dg (ρ jra).2 (ρ jra).1) d)) 55 (resR (ρ jra).2 (ρ jrb).2 (dg (ρ jra).2 (ρ jra).1) d)) 54)) 55)) ((keepX x)))) H := hP
              refine k_iret hx hb hr hlocks (va_up (va_up (keepR (va_up (va_up ρ 54 (quoR (ρ jra).2 (ρ jrb).2 (dg (ρ jra).2 (ρ jra).1) d)) 55 (resR (ρ jra).2 (ρ jrb).2 (dg (ρ jra).2 (ρ jra).1) d)) x) jrc ((va_up (va_up ρ 54 (quoR (ρ jra).2 (ρ jrb).2 (dg (ρ jra).2 (ρ jra).1) d)) 55 (resR (ρ jra).2 (ρ jrb).2 (dg (ρ jra).2 (ρ jra).1) d)) 54)) jrd ((va_up (keepR (va_up (va_up ρ 54 (quoR (ρ jra).2 (ρ jrb).2 (dg (ρ jra).2 (ρ jra).1) d)) 55 (resR (ρ jra).2 (ρ jrb).2 (dg (ρ jra).2 (ρ jra).1) d)) x) jrc ((va_up (va_up ρ 54 (quoR (ρ jra).2 (ρ jrb).2 (dg (ρ jra).2 (ρ jra).1) d)) 55 (resR (ρ jra).2 (ρ jrb).2 (dg (ρ jra).2 (ρ jra).1) d)) 54)) 55), (keepX x)) hP hS dX4_divide_120 ?_
              rw [ejrc, ejrd] at h_1 ⊢
              rw [ejra, ejrb, op_divide_x hjra hjrb hjrc hjrd, if_neg h_1, ← hreg jra hjra, ← hreg jrb hjrb, if_neg hz, eW]
              exact ⟨rfl, cRep_chg2 hR (fun i hi => by rw [va_up_ne _ _ (by omega), va_up_ne _ _ (by omega)]) hjrc hjrd (by rw [va_up_ne _ _ (by decide), va_up_self]; exact eq1.symm) (by rw [va_up_self]; exact eq2.symm)⟩
            · skip
              have hz : rD (ρ jrb) = 0 := (dV_none (D := dg (ρ jrb).2 (ρ jrb).1) (by omega)).mp h_2
              refine lv_bipush (v := (-5 : Int32)) hx hb dX4_divide_82 (by decide) ?_
              refine k_iret hx hb hr hlocks (ρ, x) hP hS dX4_divide_84 ?_
              rw [ejrc, ejrd] at h_1 ⊢
              rw [ejra, ejrb, op_divide_x hjra hjrb hjrc hjrd, if_neg h_1, ← hreg jra hjra, ← hreg jrb hjrb, if_pos hz]
              exact ⟨rfl, hR⟩
          · skip
            refine lv_bipush (v := (-2 : Int32)) hx hb dX4_divide_69 (by decide) ?_
            refine k_iret hx hb hr hlocks (ρ, x) hP hS dX4_divide_71 ?_
            rw [ejrc, ejrd] at h_1 ⊢
            rw [ejra, ejrb, op_divide_x hjra hjrb hjrc hjrd, if_pos h_1]
            exact ⟨rfl, hR⟩
set_option maxHeartbeats 4000000 in
set_option maxRecDepth 100000 in
theorem c_X4_divisor (l : Launch) (D : va_G) (cy : Nat → ClassId) (ad : Nat → Nat) (hI : wI 143 ad) (ρ : Nat → kR) (x : kX) (S : kSt) (ra : Int32) (rb : Int32) (rc : Int32) (hSI : kInv S) (hR : cRep S (ρ, x)) : kM l yX4_divisor wsX4_divisor ({ frames := 5, cells := 0, slots := 0, locals := 118 } : Room) D cy 143 ad (cWf ad cy) (cW ad cy (ρ) (x)) [.ref (ad (136)), .int (ra), .int (rb), .int (rc)] (fun o u => o = some (.int (op_divisor S ra rb rc).1) ∧ cRep (op_divisor S ra rb rc).2 u) := by
  refine k_met cX4_divisor 7 (some .int) (by decide) rfl (Nat.le_of_ble_eq_true rfl) ?_
  intro p e s m below meth c ls hx hb hr hts hown hlocks hml hK hP hS hl
  have hl : lv_has ls 7 [(0, .ref (ad (136))), (1, .int (ra)), (2, .int (rb)), (3, .int (rc))] := hl
  have hown : s.vm.findClass RX4 = some m.cls := hown
  have hf_10 := hts (.fieldLink RX4 10 "TurnedRows" "state" "LTurnedRows$State;") (by decide +kernel)
  have hw_X4 : ∀ qw ∈ wsX40, qw.before ([.ref (ad (136)), .int (ra), .int (rb), .int (rc)] : List Value).toArray s = true := fun qw h => hts qw ((by decide +kernel : ∀ qw ∈ wsX40, qw ∈ wsX4_divisor) qw h)
  have hrow : ∀ j, j < 6 → rO (ρ j) := fun j hj => by rw [show ρ j = S.1 j from hR.1 j hj]; exact hSI.1 j hj
  have hreg : ∀ j, j < 6 → ρ j = S.1 j := hR.1
  have hpr : ∀ j, j < 6 → 1 ≤ x.2.1 j ∧ x.2.1 j ≤ 6 := hR.2.2.2.2.1
  have hpm : ∀ j, j < 6 → x.2.1 j < 9 := fun j hj => by have := hpr j hj; omega
  have hp0 : ∀ j, j < 6 → x.2.1 j ≠ 0 := fun j hj => by have := hpr j hj; omega
  have hhl : x.1 ≤ 6 := by rw [show x.1 = S.2.2.1 from hR.2.1.1]; exact hR.2.1.2
  have hplS : x.2.2.1 = S.2.2.2.2.2.1 := hR.2.2.2.2.2.2.1
  have hpl : x.2.2.1 ≤ 80 := by rw [hplS]; exact hSI.2.2.2.2.2.1
  have hpdS : ∀ j, j < S.2.2.2.2.2.1 → x.2.2.2.1 j = S.2.2.2.2.2.2 j := hR.2.2.2.2.2.2.2.1
  have hpd : ∀ j, j < x.2.2.1 → x.2.2.2.1 j < 127 := fun j hj => by rw [hpdS j (by omega)]; have := (hSI.2.2.2.2.2.2 j (by omega)).2; omega
  refine lv_aload_n hx hb dX4_divisor_0 rfl (lv_at hl 0 rfl) ?_
  refine k_get (q0 := 136) (k := 0) (T := TX4) (Nf := 10) (ci := 4) (C := RX4) (v := .ref (ad (118 + 2 * 0))) hx hb hw_X4 hown hK hP (by decide) cW_top rfl (by decide) hf_10 rfl rfl dX4_divisor_1 ?_
  refine lv_iload_n hx hb dX4_divisor_4 rfl (lv_at hl 1 rfl) ?_
  refine k_callVr (rest := []) (nL := 7) ⟨hx, hb, hml, hown, hts⟩ (c_X3_rowOf l D cy ad hI ρ x ra) (cwV 1 hts gX4_divisor_X3_rowOf rfl rfl rfl (by decide +kernel) ⟨Nat.le_of_ble_eq_true rfl, Nat.le_of_ble_eq_true rfl⟩) hK hP hS (fun _ h => h) (q0 := 118 + 2 * 0) (ci := 3) rfl (by omega) (cW_st (t := 0) (by omega)) rfl rfl rfl hl.1 rfl (Nat.le_of_ble_eq_true rfl) dX4_divisor_5 ⟨Nat.zero_le _, Nat.zero_le _⟩ (fun H locs hP hS => ?_)
  have hP : va_P D vwCl (wL 143 ad (cW ad cy (ρ) (x))) H := hP
  refine lv_astoreV (lv' := [(4, va_rf (rOf ad ra)), (0, .ref (ad (136))), (1, .int (ra)), (2, .int (rb)), (3, .int (rc))]) hx hb dX4_divisor_8 hl (by decide) rfl (fun ls hl => ?_)
  refine lv_aload_n hx hb dX4_divisor_10 rfl (lv_at hl 1 rfl) ?_
  refine k_get (q0 := 136) (k := 0) (T := TX4) (Nf := 10) (ci := 4) (C := RX4) (v := .ref (ad (118 + 2 * 0))) hx hb hw_X4 hown hK hP (by decide) cW_top rfl (by decide) hf_10 rfl rfl dX4_divisor_11 ?_
  refine lv_iload_n hx hb dX4_divisor_14 rfl (lv_at hl 3 rfl) ?_
  refine k_callVr (rest := []) (nL := 7) ⟨hx, hb, hml, hown, hts⟩ (c_X3_rowOf l D cy ad hI ρ x rb) (cwV 1 hts gX4_divisor_X3_rowOf rfl rfl rfl (by decide +kernel) ⟨Nat.le_of_ble_eq_true rfl, Nat.le_of_ble_eq_true rfl⟩) hK hP hS (fun _ h => h) (q0 := 118 + 2 * 0) (ci := 3) rfl (by omega) (cW_st (t := 0) (by omega)) rfl rfl rfl hl.1 rfl (Nat.le_of_ble_eq_true rfl) dX4_divisor_15 ⟨Nat.zero_le _, Nat.zero_le _⟩ (fun H locs hP hS => ?_)
  have hP : va_P D vwCl (wL 143 ad (cW ad cy (ρ) (x))) H := hP
  refine lv_astoreV (lv' := [(5, va_rf (rOf ad rb)), (4, va_rf (rOf ad ra)), (0, .ref (ad (136))), (1, .int (ra)), (2, .int (rb)), (3, .int (rc))]) hx hb dX4_divisor_18 hl (by decide) (by simp [List.filter, va_rf_cat]) (fun ls hl => ?_)
  refine lv_aload_n hx hb dX4_divisor_20 rfl (lv_at hl 2 rfl) ?_
  refine k_get (q0 := 136) (k := 0) (T := TX4) (Nf := 10) (ci := 4) (C := RX4) (v := .ref (ad (118 + 2 * 0))) hx hb hw_X4 hown hK hP (by decide) cW_top rfl (by decide) hf_10 rfl rfl dX4_divisor_21 ?_
  refine lv_iload_n hx hb dX4_divisor_24 rfl (lv_at hl 5 rfl) ?_
  refine k_callVr (rest := []) (nL := 7) ⟨hx, hb, hml, hown, hts⟩ (c_X3_rowOf l D cy ad hI ρ x rc) (cwV 1 hts gX4_divisor_X3_rowOf rfl rfl rfl (by decide +kernel) ⟨Nat.le_of_ble_eq_true rfl, Nat.le_of_ble_eq_true rfl⟩) hK hP hS (fun _ h => h) (q0 := 118 + 2 * 0) (ci := 3) rfl (by omega) (cW_st (t := 0) (by omega)) rfl rfl rfl hl.1 rfl (Nat.le_of_ble_eq_true rfl) dX4_divisor_25 ⟨Nat.zero_le _, Nat.zero_le _⟩ (fun H locs hP hS => ?_)
  have hP : va_P D vwCl (wL 143 ad (cW ad cy (ρ) (x))) H := hP
  refine lv_astoreV (lv' := [(6, va_rf (rOf ad rc)), (5, va_rf (rOf ad rb)), (4, va_rf (rOf ad ra)), (0, .ref (ad (136))), (1, .int (ra)), (2, .int (rb)), (3, .int (rc))]) hx hb dX4_divisor_28 hl (by decide) (by simp [List.filter, va_rf_cat]) (fun ls hl => ?_)
  refine lv_aloadV hx hb dX4_divisor_30 (lv_at hl 2 rfl) ?_
  rcases kreg_cases ra with hjra | ⟨jra, hjra, ejra⟩
  · skip
    rw [kreg_bad hjra] at hl ⊢
    refine lv_ifnullN (tgt := 45) hx hb dX4_divisor_32 (by decide) ?_
    refine lv_iconst (v := (-1 : Int32)) hx hb dX4_divisor_45 (by decide) ?_
    refine k_iret hx hb hr hlocks (ρ, x) hP hS dX4_divisor_46 ?_
    rw [show op_divisor S ra rb rc = (-1, S) from if_pos (by first | exact Or.inl hjra | exact Or.inr (Or.inl hjrb) | exact Or.inr (Or.inr (hjrc)))]
    exact ⟨rfl, hR⟩
  · skip
    rw [kreg_ok hjra ejra] at hl ⊢
    refine lv_ifnull hx hb dX4_divisor_32 ?_
    refine lv_aloadV hx hb dX4_divisor_35 (lv_at hl 1 rfl) ?_
    rcases kreg_cases rb with hjrb | ⟨jrb, hjrb, ejrb⟩
    · skip
      rw [kreg_bad hjrb] at hl ⊢
      refine lv_ifnullN (tgt := 45) hx hb dX4_divisor_37 (by decide) ?_
      refine lv_iconst (v := (-1 : Int32)) hx hb dX4_divisor_45 (by decide) ?_
      refine k_iret hx hb hr hlocks (ρ, x) hP hS dX4_divisor_46 ?_
      rw [show op_divisor S ra rb rc = (-1, S) from if_pos (by first | exact Or.inl hjra | exact Or.inr (Or.inl hjrb) | exact Or.inr (Or.inr (hjrc)))]
      exact ⟨rfl, hR⟩
    · skip
      rw [kreg_ok hjrb ejrb] at hl ⊢
      refine lv_ifnull hx hb dX4_divisor_37 ?_
      refine lv_aloadV hx hb dX4_divisor_40 (lv_at hl 0 rfl) ?_
      rcases kreg_cases rc with hjrc | ⟨jrc, hjrc, ejrc⟩
      · skip
        rw [kreg_bad hjrc] at hl ⊢
        refine lv_ifnonnullN hx hb dX4_divisor_42 ?_
        refine lv_iconst (v := (-1 : Int32)) hx hb dX4_divisor_45 (by decide) ?_
        refine k_iret hx hb hr hlocks (ρ, x) hP hS dX4_divisor_46 ?_
        rw [show op_divisor S ra rb rc = (-1, S) from if_pos (by first | exact Or.inl hjra | exact Or.inr (Or.inl hjrb) | exact Or.inr (Or.inr (hjrc)))]
        exact ⟨rfl, hR⟩
      · skip
        rw [kreg_ok hjrc ejrc] at hl ⊢
        refine lv_ifnonnull (tgt := 47) hx hb dX4_divisor_42 (by decide) ?_
        refine lv_aload hx hb dX4_divisor_47 (lv_at hl 2 rfl) ?_
        have hoa := hrow jra hjra
        have hob := hrow jrb hjrb
        have hdb := dg_le (ρ jrb).2 (ρ jrb).1
        have hda := dg_le (ρ jra).2 (ρ jra).1
        have hlb := hob.2.1
        have hla := hoa.2.1
        refine k_callVr (rest := []) (nL := 7) ⟨hx, hb, hml, hown, hts⟩ (c_X2_degree l D cy ad hI ρ x jra (by first | assumption | omega) hla hoa.2.2.1) (cwV 0 hts gX4_divisor_X2_degree rfl rfl rfl (by decide +kernel) ⟨Nat.le_of_ble_eq_true rfl, Nat.le_of_ble_eq_true rfl⟩) hK hP hS (fun _ h => h) (q0 := 2 * jra) (ci := 2) rfl (by omega) (cW_row (i := jra) (by omega)) rfl rfl rfl hl.1 rfl (Nat.le_of_ble_eq_true rfl) dX4_divisor_49 ⟨Nat.zero_le _, Nat.zero_le _⟩ (fun H locs hP hS => ?_)
        have hP : va_P D vwCl (wL 143 ad (cW ad cy (ρ) (x))) H := hP
        refine lv_bipush (v := (-6 : Int32)) hx hb dX4_divisor_52 (by decide) ?_
        refine lv_icmp_ne (tgt := 70) hx hb dX4_divisor_54 (by decide) (fun h_1 => ?_) (fun h_1 => ?_)
        · skip
          have hnz : 0 < rD (ρ jra) ∨ 0 < rD (ρ jrb) := Or.inl (Nat.pos_of_ne_zero (fun z => h_1 ((dV_none (D := dg (ρ jra).2 (ρ jra).1) (by omega)).mpr z)))
          refine lv_aload_n hx hb dX4_divisor_70 rfl (lv_at hl 3 rfl) ?_
          refine lv_aload hx hb dX4_divisor_71 (lv_at hl 2 rfl) ?_
          refine lv_aload hx hb dX4_divisor_73 (lv_at hl 1 rfl) ?_
          refine k_callV (rest := []) (nL := 7) ⟨hx, hb, hml, hown, hts⟩ (c_X4_makeGreatestDivisor l D cy ad hI ρ x jra jrb (by first | assumption | omega) (by first | assumption | omega) hoa.K hob.K hoa.2.2.2 hob.2.2.2 hnz) (cwV 2 hts gX4_divisor_X4_makeGreatestDivisor rfl rfl rfl (by decide +kernel) ⟨Nat.le_of_ble_eq_true rfl, Nat.le_of_ble_eq_true rfl⟩) hK hP hS (fun _ h => h) (q0 := 136) (ci := 4) rfl (by decide) cW_top rfl rfl rfl hl.1 rfl (Nat.le_of_ble_eq_true rfl) dX4_divisor_75 ⟨Nat.zero_le _, Nat.zero_le _⟩ (fun o u H locs hpost hP hS _ => ?_)
          obtain ⟨ρ2, x2⟩ := u
          obtain ⟨ho, hx2, hfr, h54⟩ := hpost
          dsimp only at hx2 hfr h54
          subst ho
          rw [hx2] at hP
          have hP : va_P D vwCl (wL 143 ad (cW ad cy (ρ2) (x))) H := hP
          refine lv_aload_n hx hb dX4_divisor_78 rfl (lv_at hl 3 rfl) ?_
          refine lv_aload hx hb dX4_divisor_79 (lv_at hl 0 rfl) ?_
          refine k_callVv (rest := []) (nL := 7) ⟨hx, hb, hml, hown, hts⟩ (c_X4_change l D cy ad hI ρ2 x jrc (by omega) hpm hp0 hpr hhl) (cwV 1 hts gX4_divisor_X4_change rfl rfl rfl (by decide +kernel) ⟨Nat.le_of_ble_eq_true rfl, Nat.le_of_ble_eq_true rfl⟩) hK hP hS (fun _ h => h) (q0 := 136) (ci := 4) rfl (by decide) cW_top rfl rfl rfl hl.1 rfl (Nat.le_of_ble_eq_true rfl) dX4_divisor_81 ⟨Nat.zero_le _, Nat.zero_le _⟩ (fun H locs hP hS => ?_)
          have hP : va_P D vwCl (wL 143 ad (cW ad cy (va_up (keepR ρ2 x) jrc (ρ2 54)) (keepX x))) H := hP
          have eW : (va_up (keepR ρ2 x) jrc (ρ2 54)) jrc = gcdR (ρ jra) (ρ jrb) := by rw [va_up_self]; exact h54
          have hW : rO (gcdR (ρ jra) (ρ jrb)) := gcdR_O hoa hob hnz
          refine lv_aload hx hb dX4_divisor_84 (lv_at hl 0 rfl) ?_
          refine k_callVr (rest := []) (nL := 7) ⟨hx, hb, hml, hown, hts⟩ (c_X2_degree l D cy ad hI (va_up (keepR ρ2 x) jrc (ρ2 54)) (keepX x) jrc (by first | assumption | omega) (by rw [eW]; exact hW.2.1) (by rw [eW]; exact hW.2.2.1)) (cwV 0 hts gX4_divisor_X2_degree rfl rfl rfl (by decide +kernel) ⟨Nat.le_of_ble_eq_true rfl, Nat.le_of_ble_eq_true rfl⟩) hK hP hS (fun _ h => h) (q0 := 2 * jrc) (ci := 2) rfl (by omega) (cW_row (i := jrc) (by omega)) rfl rfl rfl hl.1 rfl (Nat.le_of_ble_eq_true rfl) dX4_divisor_86 ⟨Nat.zero_le _, Nat.zero_le _⟩ (fun H locs hP hS => ?_)
          have hP : va_P D vwCl (wL 143 ad (cW ad cy (va_up (keepR ρ2 x) jrc (ρ2 54)) (keepX x))) H := hP
          refine k_iret hx hb hr hlocks (va_up (keepR ρ2 x) jrc (ρ2 54), keepX x) hP hS dX4_divisor_89 ?_
          rw [ejra, ejrb, ejrc, op_divisor_x hjra hjrb hjrc, ← hreg jra hjra, ← hreg jrb hjrb, if_neg (by omega), eW]
          exact ⟨rfl, cRep_chg hR hfr hjrc h54⟩
        · skip
          have hza : rD (ρ jra) = 0 := (dV_none (D := dg (ρ jra).2 (ρ jra).1) (by omega)).mp h_1
          refine lv_aload hx hb dX4_divisor_57 (lv_at hl 1 rfl) ?_
          refine k_callVr (rest := []) (nL := 7) ⟨hx, hb, hml, hown, hts⟩ (c_X2_degree l D cy ad hI ρ x jrb (by first | assumption | omega) hlb hob.2.2.1) (cwV 0 hts gX4_divisor_X2_degree rfl rfl rfl (by decide +kernel) ⟨Nat.le_of_ble_eq_true rfl, Nat.le_of_ble_eq_true rfl⟩) hK hP hS (fun _ h => h) (q0 := 2 * jrb) (ci := 2) rfl (by omega) (cW_row (i := jrb) (by omega)) rfl rfl rfl hl.1 rfl (Nat.le_of_ble_eq_true rfl) dX4_divisor_59 ⟨Nat.zero_le _, Nat.zero_le _⟩ (fun H locs hP hS => ?_)
          have hP : va_P D vwCl (wL 143 ad (cW ad cy (ρ) (x))) H := hP
          refine lv_bipush (v := (-6 : Int32)) hx hb dX4_divisor_62 (by decide) ?_
          refine lv_icmp_ne (tgt := 70) hx hb dX4_divisor_64 (by decide) (fun h_2 => ?_) (fun h_2 => ?_)
          · skip
            have hnz : 0 < rD (ρ jra) ∨ 0 < rD (ρ jrb) := Or.inr (Nat.pos_of_ne_zero (fun z => h_2 ((dV_none (D := dg (ρ jrb).2 (ρ jrb).1) (by omega)).mpr z)))
            refine lv_aload_n hx hb dX4_divisor_70 rfl (lv_at hl 3 rfl) ?_
            refine lv_aload hx hb dX4_divisor_71 (lv_at hl 2 rfl) ?_
            refine lv_aload hx hb dX4_divisor_73 (lv_at hl 1 rfl) ?_
            refine k_callV (rest := []) (nL := 7) ⟨hx, hb, hml, hown, hts⟩ (c_X4_makeGreatestDivisor l D cy ad hI ρ x jra jrb (by first | assumption | omega) (by first | assumption | omega) hoa.K hob.K hoa.2.2.2 hob.2.2.2 hnz) (cwV 2 hts gX4_divisor_X4_makeGreatestDivisor rfl rfl rfl (by decide +kernel) ⟨Nat.le_of_ble_eq_true rfl, Nat.le_of_ble_eq_true rfl⟩) hK hP hS (fun _ h => h) (q0 := 136) (ci := 4) rfl (by decide) cW_top rfl rfl rfl hl.1 rfl (Nat.le_of_ble_eq_true rfl) dX4_divisor_75 ⟨Nat.zero_le _, Nat.zero_le _⟩ (fun o u H locs hpost hP hS _ => ?_)
            obtain ⟨ρ2, x2⟩ := u
            obtain ⟨ho, hx2, hfr, h54⟩ := hpost
            dsimp only at hx2 hfr h54
            subst ho
            rw [hx2] at hP
            have hP : va_P D vwCl (wL 143 ad (cW ad cy (ρ2) (x))) H := hP
            refine lv_aload_n hx hb dX4_divisor_78 rfl (lv_at hl 3 rfl) ?_
            refine lv_aload hx hb dX4_divisor_79 (lv_at hl 0 rfl) ?_
            refine k_callVv (rest := []) (nL := 7) ⟨hx, hb, hml, hown, hts⟩ (c_X4_change l D cy ad hI ρ2 x jrc (by omega) hpm hp0 hpr hhl) (cwV 1 hts gX4_divisor_X4_change rfl rfl rfl (by decide +kernel) ⟨Nat.le_of_ble_eq_true rfl, Nat.le_of_ble_eq_true rfl⟩) hK hP hS (fun _ h => h) (q0 := 136) (ci := 4) rfl (by decide) cW_top rfl rfl rfl hl.1 rfl (Nat.le_of_ble_eq_true rfl) dX4_divisor_81 ⟨Nat.zero_le _, Nat.zero_le _⟩ (fun H locs hP hS => ?_)
            have hP : va_P D vwCl (wL 143 ad (cW ad cy (va_up (keepR ρ2 x) jrc (ρ2 54)) (keepX x))) H := hP
            have eW : (va_up (keepR ρ2 x) jrc (ρ2 54)) jrc = gcdR (ρ jra) (ρ jrb) := by rw [va_up_self]; exact h54
            have hW : rO (gcdR (ρ jra) (ρ jrb)) := gcdR_O hoa hob hnz
            refine lv_aload hx hb dX4_divisor_84 (lv_at hl 0 rfl) ?_
            refine k_callVr (rest := []) (nL := 7) ⟨hx, hb, hml, hown, hts⟩ (c_X2_degree l D cy ad hI (va_up (keepR ρ2 x) jrc (ρ2 54)) (keepX x) jrc (by first | assumption | omega) (by rw [eW]; exact hW.2.1) (by rw [eW]; exact hW.2.2.1)) (cwV 0 hts gX4_divisor_X2_degree rfl rfl rfl (by decide +kernel) ⟨Nat.le_of_ble_eq_true rfl, Nat.le_of_ble_eq_true rfl⟩) hK hP hS (fun _ h => h) (q0 := 2 * jrc) (ci := 2) rfl (by omega) (cW_row (i := jrc) (by omega)) rfl rfl rfl hl.1 rfl (Nat.le_of_ble_eq_true rfl) dX4_divisor_86 ⟨Nat.zero_le _, Nat.zero_le _⟩ (fun H locs hP hS => ?_)
            have hP : va_P D vwCl (wL 143 ad (cW ad cy (va_up (keepR ρ2 x) jrc (ρ2 54)) (keepX x))) H := hP
            refine k_iret hx hb hr hlocks (va_up (keepR ρ2 x) jrc (ρ2 54), keepX x) hP hS dX4_divisor_89 ?_
            rw [ejra, ejrb, ejrc, op_divisor_x hjra hjrb hjrc, ← hreg jra hjra, ← hreg jrb hjrb, if_neg (by omega), eW]
            exact ⟨rfl, cRep_chg hR hfr hjrc h54⟩
          · skip
            have hzb : rD (ρ jrb) = 0 := (dV_none (D := dg (ρ jrb).2 (ρ jrb).1) (by omega)).mp h_2
            refine lv_bipush (v := (-5 : Int32)) hx hb dX4_divisor_67 (by decide) ?_
            refine k_iret hx hb hr hlocks (ρ, x) hP hS dX4_divisor_69 ?_
            rw [ejra, ejrb, ejrc, op_divisor_x hjra hjrb hjrc, ← hreg jra hjra, ← hreg jrb hjrb, if_pos ⟨hza, hzb⟩]
            exact ⟨rfl, hR⟩
set_option maxHeartbeats 4000000 in
set_option maxRecDepth 100000 in
theorem c_X4_put (l : Launch) (D : va_G) (cy : Nat → ClassId) (ad : Nat → Nat) (hI : wI 143 ad) (ρ : Nat → kR) (x : kX) (S : kSt) (u1 : Nat) (hSI : kInv S) (hR : cRep S (ρ, x)) (hu : u1 < 2 ^ 64) : kM l yX4_put wsX4_put ({ frames := 1, cells := 0, slots := 0, locals := 25 } : Room) D cy 143 ad (cWf ad cy) (cW ad cy (ρ) (x)) [.ref (ad (136)), .long (lN u1)] (fun o u => o = some (.int (op_put S u1).1) ∧ cRep (op_put S u1).2 u) := by
  refine k_met cX4_put 5 (some .int) (by decide) rfl (Nat.le_of_ble_eq_true rfl) ?_
  intro p e s m below meth c ls hx hb hr hts hown hlocks hml hK hP hS hl
  have hl : lv_has ls 5 [(0, .ref (ad (136))), (1, .long (lN u1))] := hl
  have hown : s.vm.findClass RX4 = some m.cls := hown
  have hf_26 := hts (.fieldLink RX4 26 "TurnedRows" "pad" "LTurnedRows$Pad;") (by decide +kernel)
  have hw_X4 : ∀ qw ∈ wsX40, qw.before ([.ref (ad (136)), .long (lN u1)] : List Value).toArray s = true := fun qw h => hts qw ((by decide +kernel : ∀ qw ∈ wsX40, qw ∈ wsX4_put) qw h)
  have hrow : ∀ j, j < 6 → rO (ρ j) := fun j hj => by rw [show ρ j = S.1 j from hR.1 j hj]; exact hSI.1 j hj
  have hreg : ∀ j, j < 6 → ρ j = S.1 j := hR.1
  have hpr : ∀ j, j < 6 → 1 ≤ x.2.1 j ∧ x.2.1 j ≤ 6 := hR.2.2.2.2.1
  have hpm : ∀ j, j < 6 → x.2.1 j < 9 := fun j hj => by have := hpr j hj; omega
  have hp0 : ∀ j, j < 6 → x.2.1 j ≠ 0 := fun j hj => by have := hpr j hj; omega
  have hhl : x.1 ≤ 6 := by rw [show x.1 = S.2.2.1 from hR.2.1.1]; exact hR.2.1.2
  have hplS : x.2.2.1 = S.2.2.2.2.2.1 := hR.2.2.2.2.2.2.1
  have hpl : x.2.2.1 ≤ 80 := by rw [hplS]; exact hSI.2.2.2.2.2.1
  have hpdS : ∀ j, j < S.2.2.2.2.2.1 → x.2.2.2.1 j = S.2.2.2.2.2.2 j := hR.2.2.2.2.2.2.2.1
  have hpd : ∀ j, j < x.2.2.1 → x.2.2.2.1 j < 127 := fun j hj => by rw [hpdS j (by omega)]; have := (hSI.2.2.2.2.2.2 j (by omega)).2; omega
  have hcl := chr_le 8 0 u1
  obtain ⟨nc, enc⟩ : ∃ z, z = chr 8 0 u1 := ⟨_, rfl⟩
  rw [← enc] at hcl
  refine lv_lload_n hx hb dX4_put_0 rfl (lv_at hl 1 rfl) ?_
  refine k_callSr (rest := []) (nL := 5) ⟨hx, hb, hml, hown, hts⟩ (c_X4_countCharacters l D cy ad hI ρ x u1 (by first | assumption | omega)) (va_cwS 1 hts gX4_put_X4_countCharacters rfl rfl rfl (by decide +kernel) ⟨Nat.le_of_ble_eq_true rfl, Nat.le_of_ble_eq_true rfl⟩) hK hP hS (fun _ h => h) rfl hl.1 rfl (Nat.le_of_ble_eq_true rfl) dX4_put_1 ⟨Nat.zero_le _, Nat.zero_le _⟩ (fun H locs hP hS => ?_)
  have hP : va_P D vwCl (wL 143 ad (cW ad cy (ρ) (x))) H := hP
  refine n_push (a := nc) (by rw [enc]) ?_
  refine lv_istore_n (lv' := [(3, .int (nI (nc))), (0, .ref (ad (136))), (1, .long (lN u1))]) hx hb dX4_put_4 rfl hl (by decide) rfl (fun ls hl => ?_)
  refine lv_iload_n hx hb dX4_put_5 rfl (lv_at hl 0 rfl) ?_
  refine n_ifne (tgt := 12) hx hb (by omega) dX4_put_6 (by decide) (fun h_1 => ?_) (fun h_1 => ?_)
  · skip
    refine lv_aload_n hx hb dX4_put_12 rfl (lv_at hl 1 rfl) ?_
    refine k_get (q0 := 136) (k := 2) (T := TX4) (Nf := 10) (ci := 4) (C := RX4) (v := .ref (ad (139))) hx hb hw_X4 hown hK hP (by decide) cW_top rfl (by decide) hf_26 rfl rfl dX4_put_13 ?_
    refine k_callVr (rest := []) (nL := 5) ⟨hx, hb, hml, hown, hts⟩ (c_X1_length l D cy ad hI ρ x ) (cwV 0 hts gX4_put_X1_length rfl rfl rfl (by decide +kernel) ⟨Nat.le_of_ble_eq_true rfl, Nat.le_of_ble_eq_true rfl⟩) hK hP hS (fun _ h => h) (q0 := 139) (ci := 1) rfl (by decide) cW_pad rfl rfl rfl hl.1 rfl (Nat.le_of_ble_eq_true rfl) dX4_put_16 ⟨Nat.zero_le _, Nat.zero_le _⟩ (fun H locs hP hS => ?_)
    have hP : va_P D vwCl (wL 143 ad (cW ad cy (ρ) (x))) H := hP
    refine lv_iload_n hx hb dX4_put_19 rfl (lv_at hl 0 rfl) ?_
    refine n_iadd hx hb dX4_put_20 ?_
    refine lv_bipush (v := nI (80)) hx hb dX4_put_21 rfl ?_
    refine n_icmp_le (tgt := 29) hx hb (by omega) (by omega) dX4_put_23 (by decide) (fun h_2 => ?_) (fun h_2 => ?_)
    · skip
      refine lv_iload_n hx hb dX4_put_29 rfl (lv_at hl 0 rfl) ?_
      refine lv_iconst (v := nI (1)) hx hb dX4_put_30 rfl ?_
      refine lv_isub hx hb dX4_put_31 ?_
      refine lv_istore (lv' := [(4, .int (nI (nc) - 1)), (3, .int (nI (nc))), (0, .ref (ad (136))), (1, .long (lN u1))]) hx hb dX4_put_32 hl (by decide) rfl (fun ls hl => ?_)
      have lp34 : ∀ (fu : Nat) (t : Nat) (x' : kX), (t ≤ nc) → (x' = appX x u1 nc (nc - t)) → t < fu → ∀ (H : Heap) (locs : List Loc), va_P D vwCl (wL 143 ad (cW ad cy (ρ) (x'))) H → va_S (wA 143 ad) s.heap H locs → ∀ (ls : Array Slot), lv_has ls 5 [(4, .int (nI (t) - 1)), (3, .int (nI (nc))), (1, .long (lN u1)), (0, .ref (ad (136)))] → W p l e ({ frames := 1, cells := 0, slots := 0, locals := 25 } : Room) s m ([.ref (ad (136)), .long (lN u1)] : List Value).toArray below meth c H locs 0 0 (MQ below (kQ D 143 ad (cWf ad cy) (fun o u => o = some (.int (op_put S u1).1) ∧ cRep (op_put S u1).2 u)) ([.ref (ad (136)), .long (lN u1)] : List Value).toArray s 0 0 (wA 143 ad)) (F0 m 34 ls []) := by
        intro fu
        induction fu with
        | zero => intro t x' ht hx' hfu; exact absurd hfu (Nat.not_lt_zero _)
        | succ fu ih34 =>
          intro t x' ht hx' hfu H locs hP hS ls hl
          refine lv_iload hx hb dX4_put_34 (lv_at hl 0 rfl) ?_
          refine n_down (n := t) (tgt := 64) hx hb (by omega) dX4_put_36 (by decide) (fun h_3 => ?_) (fun h_3 => ?_)
          · skip
            refine lv_aload_n hx hb dX4_put_64 rfl (lv_at hl 3 rfl) ?_
            refine k_get (q0 := 136) (k := 2) (T := TX4) (Nf := 10) (ci := 4) (C := RX4) (v := .ref (ad (139))) hx hb hw_X4 hown hK hP (by decide) cW_top rfl (by decide) hf_26 rfl rfl dX4_put_65 ?_
            refine k_callVr (rest := []) (nL := 5) ⟨hx, hb, hml, hown, hts⟩ (c_X1_length l D cy ad hI ρ x' ) (cwV 0 hts gX4_put_X1_length rfl rfl rfl (by decide +kernel) ⟨Nat.le_of_ble_eq_true rfl, Nat.le_of_ble_eq_true rfl⟩) hK hP hS (fun _ h => h) (q0 := 139) (ci := 1) rfl (by decide) cW_pad rfl rfl rfl hl.1 rfl (Nat.le_of_ble_eq_true rfl) dX4_put_68 ⟨Nat.zero_le _, Nat.zero_le _⟩ (fun H locs hP hS => ?_)
            have hP : va_P D vwCl (wL 143 ad (cW ad cy (ρ) (x'))) H := hP
            refine k_iret hx hb hr hlocks (ρ, x') hP hS dX4_put_71 ?_
            have hop : op_put S u1 = (nI (S.2.2.2.2.2.1 + nc), padS S (S.2.2.2.2.2.1 + nc) (app S.2.2.2.2.2.2 S.2.2.2.2.2.1 u1 nc nc)) := by
              unfold op_put
              rw [← enc, if_neg h_1, if_neg (by omega)]
            rw [hop, hx', show nc - t = nc by omega, ← hplS]
            refine ⟨rfl, cRep_pad hR (fun j hj => ?_)⟩
            exact app_congr (fun i hi => hpdS i (by omega)) nc j hj
          · skip
            obtain ⟨j, rfl⟩ : ∃ j, t = j + 1 := ⟨t - 1, by omega⟩
            rw [nI_pred] at hl
            refine lv_aload_n hx hb dX4_put_39 rfl (lv_at hl 3 rfl) ?_
            refine k_get (q0 := 136) (k := 2) (T := TX4) (Nf := 10) (ci := 4) (C := RX4) (v := .ref (ad (139))) hx hb hw_X4 hown hK hP (by decide) cW_top rfl (by decide) hf_26 rfl rfl dX4_put_40 ?_
            refine lv_lload_n hx hb dX4_put_43 rfl (lv_at hl 2 rfl) ?_
            refine lv_bipush (v := nI (8)) hx hb dX4_put_44 rfl ?_
            refine lv_iload hx hb dX4_put_46 (lv_at hl 0 rfl) ?_
            refine n_imul hx hb dX4_put_48 ?_
            refine lv_lushr hx hb dX4_put_49 rfl ?_
            refine l_push (b := lN (u1 / 2 ^ (8 * j))) (wb_shr hu (by omega)) ?_
            refine lv_l2i hx hb dX4_put_50 rfl ?_
            refine n_push (a := u1 / 2 ^ (8 * j)) (lN_toI _) ?_
            refine lv_sipush (v := nI (255)) hx hb dX4_put_51 rfl ?_
            refine lv_iand hx hb dX4_put_54 ?_
            refine n_push (a := u1 / 2 ^ (8 * j) % 256) (nI_and255 _) ?_
            refine k_callVv (rest := []) (nL := 5) ⟨hx, hb, hml, hown, hts⟩ (c_X1_append l D cy ad hI ρ x' (u1 / 2 ^ (8 * j) % 256) (by rw [hx']; show x.2.2.1 + (nc - (j + 1)) < 80; omega)) (cwV 1 hts gX4_put_X1_append rfl rfl rfl (by decide +kernel) ⟨Nat.le_of_ble_eq_true rfl, Nat.le_of_ble_eq_true rfl⟩) hK hP hS (fun _ h => h) (q0 := 139) (ci := 1) rfl (by decide) cW_pad rfl rfl rfl hl.1 rfl (Nat.le_of_ble_eq_true rfl) dX4_put_55 ⟨Nat.zero_le _, Nat.zero_le _⟩ (fun H locs hP hS => ?_)
            have hP : va_P D vwCl (wL 143 ad (cW ad cy (ρ) ((x'.1, x'.2.1, x'.2.2.1 + 1, va_up x'.2.2.2.1 x'.2.2.1 (u1 / 2 ^ (8 * j) % 256), x'.2.2.2.2)))) H := hP
            refine lv_iinc (v := nI (j) - 1) (lv' := [(4, .int (nI (j) - 1)), (3, .int (nI (nc))), (1, .long (lN u1)), (0, .ref (ad (136)))]) hx hb dX4_put_58 hl (k := 0) rfl (nI_dec' _) (by decide) rfl (fun ls hl => ?_)
            refine lv_goto (tgt := 34) hx hb dX4_put_61 (by decide) ?_
            exact ih34 (j) ((x'.1, x'.2.1, x'.2.2.1 + 1, va_up x'.2.2.2.1 x'.2.2.1 (u1 / 2 ^ (8 * j) % 256), x'.2.2.2.2)) (by omega) (by rw [hx', show nc - j = (nc - (j + 1)) + 1 by omega]; unfold appX; rw [app]; dsimp only; rw [show nc - 1 - (nc - (j + 1)) = j by omega]; rfl) (by omega) _ _ hP hS _ hl
      exact lp34 (_ + 1) (nc) (x) (Nat.le_refl _) (by rw [Nat.sub_self]; rfl) (Nat.lt_succ_self _) _ _ hP hS _ (lv_sub hl [0, 1, 3, 2] rfl)
    · skip
      refine lv_bipush (v := (-4 : Int32)) hx hb dX4_put_26 (by decide) ?_
      refine k_iret hx hb hr hlocks (ρ, x) hP hS dX4_put_28 ?_
      rw [show op_put S u1 = (-4, S) from (if_neg (by rw [← enc]; exact h_1)).trans (if_pos (by rw [← enc, ← hplS]; omega))]
      exact ⟨rfl, hR⟩
  · skip
    refine lv_bipush (v := (-2 : Int32)) hx hb dX4_put_9 (by decide) ?_
    refine k_iret hx hb hr hlocks (ρ, x) hP hS dX4_put_11 ?_
    rw [show op_put S u1 = (-2, S) from if_pos (by rw [← enc]; exact h_1)]
    exact ⟨rfl, hR⟩
set_option maxHeartbeats 4000000 in
set_option maxRecDepth 100000 in
theorem c_X4_wipe (l : Launch) (D : va_G) (cy : Nat → ClassId) (ad : Nat → Nat) (hI : wI 143 ad) (ρ : Nat → kR) (x : kX) (S : kSt) (hSI : kInv S) (hR : cRep S (ρ, x)) : kM l yX4_wipe wsX4_wipe ({ frames := 1, cells := 0, slots := 0, locals := 20 } : Room) D cy 143 ad (cWf ad cy) (cW ad cy (ρ) (x)) [.ref (ad (136))] (fun o u => o = some (.int (op_wipe S).1) ∧ cRep (op_wipe S).2 u) := by
  refine k_met cX4_wipe 2 (some .int) (by decide) rfl (Nat.le_of_ble_eq_true rfl) ?_
  intro p e s m below meth c ls hx hb hr hts hown hlocks hml hK hP hS hl
  have hl : lv_has ls 2 [(0, .ref (ad (136)))] := hl
  have hown : s.vm.findClass RX4 = some m.cls := hown
  have hf_26 := hts (.fieldLink RX4 26 "TurnedRows" "pad" "LTurnedRows$Pad;") (by decide +kernel)
  have hw_X4 : ∀ qw ∈ wsX40, qw.before ([.ref (ad (136))] : List Value).toArray s = true := fun qw h => hts qw ((by decide +kernel : ∀ qw ∈ wsX40, qw ∈ wsX4_wipe) qw h)
  have hrow : ∀ j, j < 6 → rO (ρ j) := fun j hj => by rw [show ρ j = S.1 j from hR.1 j hj]; exact hSI.1 j hj
  have hreg : ∀ j, j < 6 → ρ j = S.1 j := hR.1
  have hpr : ∀ j, j < 6 → 1 ≤ x.2.1 j ∧ x.2.1 j ≤ 6 := hR.2.2.2.2.1
  have hpm : ∀ j, j < 6 → x.2.1 j < 9 := fun j hj => by have := hpr j hj; omega
  have hp0 : ∀ j, j < 6 → x.2.1 j ≠ 0 := fun j hj => by have := hpr j hj; omega
  have hhl : x.1 ≤ 6 := by rw [show x.1 = S.2.2.1 from hR.2.1.1]; exact hR.2.1.2
  have hplS : x.2.2.1 = S.2.2.2.2.2.1 := hR.2.2.2.2.2.2.1
  have hpl : x.2.2.1 ≤ 80 := by rw [hplS]; exact hSI.2.2.2.2.2.1
  have hpdS : ∀ j, j < S.2.2.2.2.2.1 → x.2.2.2.1 j = S.2.2.2.2.2.2 j := hR.2.2.2.2.2.2.2.1
  have hpd : ∀ j, j < x.2.2.1 → x.2.2.2.1 j < 127 := fun j hj => by rw [hpdS j (by omega)]; have := (hSI.2.2.2.2.2.2 j (by omega)).2; omega
  refine lv_aload_n hx hb dX4_wipe_0 rfl (lv_at hl 0 rfl) ?_
  refine k_get (q0 := 136) (k := 2) (T := TX4) (Nf := 10) (ci := 4) (C := RX4) (v := .ref (ad (139))) hx hb hw_X4 hown hK hP (by decide) cW_top rfl (by decide) hf_26 rfl rfl dX4_wipe_1 ?_
  refine k_callVr (rest := []) (nL := 2) ⟨hx, hb, hml, hown, hts⟩ (c_X1_length l D cy ad hI ρ x ) (cwV 0 hts gX4_wipe_X1_length rfl rfl rfl (by decide +kernel) ⟨Nat.le_of_ble_eq_true rfl, Nat.le_of_ble_eq_true rfl⟩) hK hP hS (fun _ h => h) (q0 := 139) (ci := 1) rfl (by decide) cW_pad rfl rfl rfl hl.1 rfl (Nat.le_of_ble_eq_true rfl) dX4_wipe_4 ⟨Nat.zero_le _, Nat.zero_le _⟩ (fun H locs hP hS => ?_)
  have hP : va_P D vwCl (wL 143 ad (cW ad cy (ρ) (x))) H := hP
  refine lv_istore_n (lv' := [(1, .int (nI (x.2.2.1))), (0, .ref (ad (136)))]) hx hb dX4_wipe_7 rfl hl (by decide) rfl (fun ls hl => ?_)
  refine lv_aload_n hx hb dX4_wipe_8 rfl (lv_at hl 1 rfl) ?_
  refine k_get (q0 := 136) (k := 2) (T := TX4) (Nf := 10) (ci := 4) (C := RX4) (v := .ref (ad (139))) hx hb hw_X4 hown hK hP (by decide) cW_top rfl (by decide) hf_26 rfl rfl dX4_wipe_9 ?_
  refine k_callVv (rest := []) (nL := 2) ⟨hx, hb, hml, hown, hts⟩ (c_X1_empty l D cy ad hI ρ x ) (cwV 0 hts gX4_wipe_X1_empty rfl rfl rfl (by decide +kernel) ⟨Nat.le_of_ble_eq_true rfl, Nat.le_of_ble_eq_true rfl⟩) hK hP hS (fun _ h => h) (q0 := 139) (ci := 1) rfl (by decide) cW_pad rfl rfl rfl hl.1 rfl (Nat.le_of_ble_eq_true rfl) dX4_wipe_12 ⟨Nat.zero_le _, Nat.zero_le _⟩ (fun H locs hP hS => ?_)
  have hP : va_P D vwCl (wL 143 ad (cW ad cy (ρ) ((x.1, x.2.1, 0, x.2.2.2)))) H := hP
  refine lv_iload_n hx hb dX4_wipe_15 rfl (lv_at hl 0 rfl) ?_
  refine k_iret hx hb hr hlocks (ρ, (x.1, x.2.1, 0, x.2.2.2)) hP hS dX4_wipe_16 ?_
  refine ⟨by rw [show (op_wipe S).1 = nI S.2.2.2.2.2.1 from rfl, ← hplS], ?_⟩
  exact cRep_pad hR (fun j hj => absurd hj (Nat.not_lt_zero _))
