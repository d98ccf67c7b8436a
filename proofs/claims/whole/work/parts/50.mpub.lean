set_option maxHeartbeats 4000000 in
set_option maxRecDepth 100000 in
theorem c_X5_turningPoint (l : Launch) (D : va_G) (cy : Nat → ClassId) (ad : Nat → Nat) (hI : wI 9 ad) (v : kV) (S : kSt) (rn : Int32) (rp : Int32) (hSI : kInv S) (hR : mRep S v) : kM l yX5_turningPoint wsX5_turningPoint ({ frames := 3, cells := 0, slots := 0, locals := 64 } : Room) D cy 9 ad (mW ad cy) (mW ad cy (v)) [.ref (ad (0)), .int (rn), .int (rp)] (fun o u => o = some (.int (op_turningPoint S rn rp).1) ∧ mRep (op_turningPoint S rn rp).2 u) := by
  refine k_met cX5_turningPoint 3 (some .int) (by decide) rfl (Nat.le_of_ble_eq_true rfl) ?_
  intro p e s m below meth c ls hx hb hr hts hown hlocks hml hK hP hS hl
  have hl : lv_has ls 3 [(0, .ref (ad (0))), (1, .int (rn)), (2, .int (rp))] := hl
  have hown : s.vm.findClass RX5 = some m.cls := hown
  have hM : mReg S.1 v := hR.reg hSI
  have hrow : ∀ j, j < 6 → rO (S.1 j) := hSI.1
  have hpm6 : vpm v ≤ 6 := by rw [hR.2.1.1]; exact hR.2.1.2
  have hplS : vty v = S.2.2.2.2.2.1 := hR.2.2.2.2.1
  have hty80 : vty v ≤ 80 := by rw [hplS]; exact hSI.2.2.2.2.2.1
  have hpdS : ∀ j, j < S.2.2.2.2.2.1 → vpd v j = S.2.2.2.2.2.2 j := hR.2.2.2.2.2.1
  have hpd : ∀ j, j < vty v → vpd v j < 127 := fun j hj => by rw [hpdS j (by omega)]; have := (hSI.2.2.2.2.2.2 j (by omega)).2; omega
  refine lv_iload_n hx hb dX5_turningPoint_0 rfl (lv_at hl 1 rfl) ?_
  refine k_callSr (rest := []) (nL := 3) ⟨hx, hb, hml, hown, hts⟩ (c_X5_isSize l D cy ad hI v rn) (va_cwS 1 hts gX5_turningPoint_X5_isSize rfl rfl rfl (by decide +kernel) ⟨Nat.le_of_ble_eq_true rfl, Nat.le_of_ble_eq_true rfl⟩) hK hP hS (fun _ h => h) rfl hl.1 rfl (Nat.le_of_ble_eq_true rfl) dX5_turningPoint_1 ⟨Nat.zero_le _, Nat.zero_le _⟩ (fun H locs hP hS => ?_)
  have hP : va_P D vwCl (wL 9 ad (mW ad cy (v))) H := hP
  refine b_ifeq (tgt := 29) hx hb dX5_turningPoint_4 (by decide) (fun h_1 => ?_) (fun h_1 => ?_)
  · skip
    have hz : isZ rn = false := h_1
    refine lv_bipush (v := (-2 : Int32)) hx hb dX5_turningPoint_29 (by decide) ?_
    refine k_iret hx hb hr hlocks (v) hP hS dX5_turningPoint_31 ?_
    rw [show op_turningPoint S rn rp = (-2, S) from if_pos (Or.inl hz)]
    exact ⟨rfl, hR⟩
  · skip
    have hz : isZ rn = true := h_1
    obtain ⟨kn, hkn1, hkn, ekn⟩ := isZ_cases hz
    rw [ekn] at hl
    have hptl := tpt_lt kn
    refine lv_iload_n hx hb dX5_turningPoint_7 rfl (lv_at hl 2 rfl) ?_
    refine lv_iconst (v := nI (0)) hx hb dX5_turningPoint_8 rfl ?_
    refine lv_sipush (v := nI (1000)) hx hb dX5_turningPoint_9 rfl ?_
    refine k_callSr (rest := []) (nL := 3) ⟨hx, hb, hml, hown, hts⟩ (c_X5_in l D cy ad hI v rp (nI (0)) (nI (1000))) (va_cwS 3 hts gX5_turningPoint_X5_in rfl rfl rfl (by decide +kernel) ⟨Nat.le_of_ble_eq_true rfl, Nat.le_of_ble_eq_true rfl⟩) hK hP hS (fun _ h => h) rfl hl.1 rfl (Nat.le_of_ble_eq_true rfl) dX5_turningPoint_12 ⟨Nat.zero_le _, Nat.zero_le _⟩ (fun H locs hP hS => ?_)
    have hP : va_P D vwCl (wL 9 ad (mW ad cy (v))) H := hP
    refine b_ifeq (tgt := 29) hx hb dX5_turningPoint_15 (by decide) (fun h_2 => ?_) (fun h_2 => ?_)
    · skip
      have hnp : ¬ (0 ≤ rp ∧ rp ≤ 1000) := of_decide_eq_false h_2
      refine lv_bipush (v := (-2 : Int32)) hx hb dX5_turningPoint_29 (by decide) ?_
      refine k_iret hx hb hr hlocks (v) hP hS dX5_turningPoint_31 ?_
      rw [show op_turningPoint S rn rp = (-2, S) from if_pos (Or.inr hnp)]
      exact ⟨rfl, hR⟩
    · skip
      obtain ⟨kp, hkp, ekp⟩ := (le_cases rp 1000 (by decide)).resolve_left (fun q => q (of_decide_eq_true h_2))
      rw [ekp] at hl
      refine lv_iload_n hx hb dX5_turningPoint_18 rfl (lv_at hl 1 rfl) ?_
      refine k_callSr (rest := []) (nL := 3) ⟨hx, hb, hml, hown, hts⟩ (c_X5_pointOf l D cy ad hI v kn ⟨hkn1, hkn⟩) (va_cwS 1 hts gX5_turningPoint_X5_pointOf rfl rfl rfl (by decide +kernel) ⟨Nat.le_of_ble_eq_true rfl, Nat.le_of_ble_eq_true rfl⟩) hK hP hS (fun _ h => h) rfl hl.1 rfl (Nat.le_of_ble_eq_true rfl) dX5_turningPoint_19 ⟨Nat.zero_le _, Nat.zero_le _⟩ (fun H locs hP hS => ?_)
      have hP : va_P D vwCl (wL 9 ad (mW ad cy (v))) H := hP
      refine lv_iload_n hx hb dX5_turningPoint_22 rfl (lv_at hl 2 rfl) ?_
      refine k_callSr (rest := []) (nL := 3) ⟨hx, hb, hml, hown, hts⟩ (c_X5_raised l D cy ad hI v (tpt kn) kp (by first | assumption | omega) (by first | assumption | omega)) (va_cwS 2 hts gX5_turningPoint_X5_raised rfl rfl rfl (by decide +kernel) ⟨Nat.le_of_ble_eq_true rfl, Nat.le_of_ble_eq_true rfl⟩) hK hP hS (fun _ h => h) rfl hl.1 rfl (Nat.le_of_ble_eq_true rfl) dX5_turningPoint_23 ⟨Nat.zero_le _, Nat.zero_le _⟩ (fun H locs hP hS => ?_)
      have hP : va_P D vwCl (wL 9 ad (mW ad cy (v))) H := hP
      refine lv_goto (tgt := 31) hx hb dX5_turningPoint_26 (by decide) ?_
      refine k_iret hx hb hr hlocks (v) hP hS dX5_turningPoint_31 ?_
      rw [show op_turningPoint S rn rp = (nI (pw (tpt (rgN rn)) (rgN rp)), S) from if_neg (by rintro (q | q); rw [hz] at q; cases q; exact q (by rw [ekp]; exact kin0_nI hkp (by decide))), ekp, ekn, rgN_nI (by omega), rgN_nI (by omega)]
      exact ⟨rfl, hR⟩
set_option maxHeartbeats 4000000 in
set_option maxRecDepth 100000 in
theorem c_X5_fault (l : Launch) (D : va_G) (cy : Nat → ClassId) (ad : Nat → Nat) (hI : wI 9 ad) (v : kV) (S : kSt) (hSI : kInv S) (hR : mRep S v) : kM l yX5_fault wsX5_fault ({ frames := 2, cells := 0, slots := 0, locals := 47 } : Room) D cy 9 ad (mW ad cy) (mW ad cy (v)) [.ref (ad (0))] (fun o u => o = some (.int (op_fault S).1) ∧ mRep (op_fault S).2 u) := by
  refine k_met cX5_fault 1 (some .int) (by decide) rfl (Nat.le_of_ble_eq_true rfl) ?_
  intro p e s m below meth c ls hx hb hr hts hown hlocks hml hK hP hS hl
  have hl : lv_has ls 1 [(0, .ref (ad (0)))] := hl
  have hown : s.vm.findClass RX5 = some m.cls := hown
  have hM : mReg S.1 v := hR.reg hSI
  have hrow : ∀ j, j < 6 → rO (S.1 j) := hSI.1
  have hpm6 : vpm v ≤ 6 := by rw [hR.2.1.1]; exact hR.2.1.2
  have hplS : vty v = S.2.2.2.2.2.1 := hR.2.2.2.2.1
  have hty80 : vty v ≤ 80 := by rw [hplS]; exact hSI.2.2.2.2.2.1
  have hpdS : ∀ j, j < S.2.2.2.2.2.1 → vpd v j = S.2.2.2.2.2.2 j := hR.2.2.2.2.2.1
  have hpd : ∀ j, j < vty v → vpd v j < 127 := fun j hj => by rw [hpdS j (by omega)]; have := (hSI.2.2.2.2.2.2 j (by omega)).2; omega
  have ePs : psA (vpd v) (vty v) = psA S.2.2.2.2.2.2 S.2.2.2.2.2.1 := by rw [hplS]; exact psA_congr hpdS
  refine lv_aload_n hx hb dX5_fault_0 rfl (lv_at hl 0 rfl) ?_
  refine k_callV (rest := []) (nL := 1) ⟨hx, hb, hml, hown, hts⟩ (c_X5_readPad l D cy ad hI v hty80 hpd) (cwV 0 hts gX5_fault_X5_readPad rfl rfl rfl (by decide +kernel) ⟨Nat.le_of_ble_eq_true rfl, Nat.le_of_ble_eq_true rfl⟩) hK hP hS (fun _ h => h) (q0 := 0) (ci := 5) rfl (by decide) mW_obj rfl rfl rfl hl.1 rfl (Nat.le_of_ble_eq_true rfl) dX5_fault_1 ⟨Nat.zero_le _, Nat.zero_le _⟩ (fun o u H locs hpost hP hS _ => ?_)
  obtain ⟨ho, g1, g2, g3, g4, g5, g6, g7, g8⟩ := hpost
  subst ho
  have hP : va_P D vwCl (wL 9 ad (mW ad cy (u))) H := hP
  refine k_iret hx hb hr hlocks (u) hP hS dX5_fault_4 ?_
  rw [show op_fault S = ((psA S.2.2.2.2.2.2 S.2.2.2.2.2.1).1, S) from rfl, ePs]
  exact ⟨rfl, mRep_eq hR g1 g2 g3 g4 g5 g6 g7⟩
set_option maxHeartbeats 4000000 in
set_option maxRecDepth 100000 in
theorem c_X5_read (l : Launch) (D : va_G) (cy : Nat → ClassId) (ad : Nat → Nat) (hI : wI 9 ad) (v : kV) (S : kSt) (ra : Int32) (hSI : kInv S) (hR : mRep S v) : kM l yX5_read wsX5_read ({ frames := 2, cells := 0, slots := 0, locals := 47 } : Room) D cy 9 ad (mW ad cy) (mW ad cy (v)) [.ref (ad (0)), .int (ra)] (fun o u => o = some (.int (op_read S ra).1) ∧ mRep (op_read S ra).2 u) := by
  refine k_met cX5_read 2 (some .int) (by decide) rfl (Nat.le_of_ble_eq_true rfl) ?_
  intro p e s m below meth c ls hx hb hr hts hown hlocks hml hK hP hS hl
  have hl : lv_has ls 2 [(0, .ref (ad (0))), (1, .int (ra))] := hl
  have hown : s.vm.findClass RX5 = some m.cls := hown
  have hf_62 := hts (.fieldLink RX5 62 "TurnedRowsModel" "length" "I") (by decide +kernel)
  have hf_124 := hts (.fieldLink RX5 124 "TurnedRowsModel" "typed" "I") (by decide +kernel)
  have hw_X5 : ∀ qw ∈ wsX50, qw.before ([.ref (ad (0)), .int (ra)] : List Value).toArray s = true := fun qw h => hts qw ((by decide +kernel : ∀ qw ∈ wsX50, qw ∈ wsX5_read) qw h)
  have hM : mReg S.1 v := hR.reg hSI
  have hrow : ∀ j, j < 6 → rO (S.1 j) := hSI.1
  have hpm6 : vpm v ≤ 6 := by rw [hR.2.1.1]; exact hR.2.1.2
  have hplS : vty v = S.2.2.2.2.2.1 := hR.2.2.2.2.1
  have hty80 : vty v ≤ 80 := by rw [hplS]; exact hSI.2.2.2.2.2.1
  have hpdS : ∀ j, j < S.2.2.2.2.2.1 → vpd v j = S.2.2.2.2.2.2 j := hR.2.2.2.2.2.1
  have hpd : ∀ j, j < vty v → vpd v j < 127 := fun j hj => by rw [hpdS j (by omega)]; have := (hSI.2.2.2.2.2.2 j (by omega)).2; omega
  have ePs : psA (vpd v) (vty v) = psA S.2.2.2.2.2.2 S.2.2.2.2.2.1 := by rw [hplS]; exact psA_congr hpdS
  refine lv_iload_n hx hb dX5_read_0 rfl (lv_at hl 1 rfl) ?_
  refine k_callSr (rest := []) (nL := 2) ⟨hx, hb, hml, hown, hts⟩ (c_X5_isRegister l D cy ad hI v ra) (va_cwS 1 hts gX5_read_X5_isRegister rfl rfl rfl (by decide +kernel) ⟨Nat.le_of_ble_eq_true rfl, Nat.le_of_ble_eq_true rfl⟩) hK hP hS (fun _ h => h) rfl hl.1 rfl (Nat.le_of_ble_eq_true rfl) dX5_read_1 ⟨Nat.zero_le _, Nat.zero_le _⟩ (fun H locs hP hS => ?_)
  have hP : va_P D vwCl (wL 9 ad (mW ad cy (v))) H := hP
  refine b_ifne (tgt := 9) hx hb dX5_read_4 (by decide) (fun h_1 => ?_) (fun h_1 => ?_)
  · skip
    obtain ⟨jra, hjra, ejra⟩ := (kreg_cases ra).resolve_left (fun q => q (of_decide_eq_true h_1))
    rw [ejra] at hl
    refine lv_aload_n hx hb dX5_read_9 rfl (lv_at hl 0 rfl) ?_
    refine k_callV (rest := []) (nL := 2) ⟨hx, hb, hml, hown, hts⟩ (c_X5_readPad l D cy ad hI v hty80 hpd) (cwV 0 hts gX5_read_X5_readPad rfl rfl rfl (by decide +kernel) ⟨Nat.le_of_ble_eq_true rfl, Nat.le_of_ble_eq_true rfl⟩) hK hP hS (fun _ h => h) (q0 := 0) (ci := 5) rfl (by decide) mW_obj rfl rfl rfl hl.1 rfl (Nat.le_of_ble_eq_true rfl) dX5_read_10 ⟨Nat.zero_le _, Nat.zero_le _⟩ (fun o u H locs hpost hP hS _ => ?_)
    obtain ⟨ho, g1, g2, g3, g4, g5, g6, g7, g8⟩ := hpost
    subst ho
    have hP : va_P D vwCl (wL 9 ad (mW ad cy (u))) H := hP
    refine lv_bipush (v := (-6 : Int32)) hx hb dX5_read_13 (by decide) ?_
    refine lv_icmp_eq (tgt := 21) hx hb dX5_read_15 (by decide) (fun h_2 => ?_) (fun h_2 => ?_)
    · skip
      have h6 : (psA (vpd v) (vty v)).1 = -6 := h_2
      obtain ⟨gl, gk⟩ := g8 h6
      have hO := psA_O (n := vty v) hty80 h6
      have hOl := hO.2.1
      have hpmu : vpm u ≤ 6 := by rw [g2]; exact hpm6
      refine lv_aload_n hx hb dX5_read_21 rfl (lv_at hl 0 rfl) ?_
      refine k_callVv (rest := []) (nL := 2) ⟨hx, hb, hml, hown, hts⟩ (c_X5_record l D cy ad hI u hpmu) (cwV 0 hts gX5_read_X5_record rfl rfl rfl (by decide +kernel) ⟨Nat.le_of_ble_eq_true rfl, Nat.le_of_ble_eq_true rfl⟩) hK hP hS (fun _ h => h) (q0 := 0) (ci := 5) rfl (by decide) mW_obj rfl rfl rfl hl.1 rfl (Nat.le_of_ble_eq_true rfl) dX5_read_22 ⟨Nat.zero_le _, Nat.zero_le _⟩ (fun H locs hP hS => ?_)
      have hP : va_P D vwCl (wL 9 ad (mW ad cy (recV u))) H := hP
      refine lv_aload_n hx hb dX5_read_25 rfl (lv_at hl 0 rfl) ?_
      refine lv_iload_n hx hb dX5_read_26 rfl (lv_at hl 1 rfl) ?_
      refine k_callVv (rest := []) (nL := 2) ⟨hx, hb, hml, hown, hts⟩ (c_X5_store l D cy ad hI (recV u) jra (by first | assumption | omega) (by show vln u < _; omega)) (cwV 1 hts gX5_read_X5_store rfl rfl rfl (by decide +kernel) ⟨Nat.le_of_ble_eq_true rfl, Nat.le_of_ble_eq_true rfl⟩) hK hP hS (fun _ h => h) (q0 := 0) (ci := 5) rfl (by decide) mW_obj rfl rfl rfl hl.1 rfl (Nat.le_of_ble_eq_true rfl) dX5_read_27 ⟨Nat.zero_le _, Nat.zero_le _⟩ (fun H locs hP hS => ?_)
      have hP : va_P D vwCl (wL 9 ad (mW ad cy (sto (recV u) jra))) H := hP
      refine lv_aload_n hx hb dX5_read_30 rfl (lv_at hl 0 rfl) ?_
      refine lv_iconst (v := nI (0)) hx hb dX5_read_31 rfl ?_
      refine k_put (q0 := 0) (k := 6) (T := TX5) (Nf := 11) (ci := 5) (C := RX5) (v := .int (nI (0))) (Wd' := mW ad cy (pty (sto (recV u) jra) 0)) hx hb hw_X5 tyX5 tyX5_ok nmX5 hown hK hI hP hS (by decide) mW_obj rfl (by decide) hf_124 rfl rfl (ty := .int) (by decide +kernel) rfl rfl (Nat.le_of_ble_eq_true rfl) mW_up_ty dX5_read_32 (fun H locs hP hS => ?_)
      refine lv_aload_n hx hb dX5_read_35 rfl (lv_at hl 0 rfl) ?_
      refine k_get (q0 := 0) (k := 8) (T := TX5) (Nf := 11) (ci := 5) (C := RX5) (v := .int (nI (vln (pty (sto (recV u) jra) 0)))) hx hb hw_X5 hown hK hP (by decide) mW_obj rfl (by decide) hf_62 rfl rfl dX5_read_36 ?_
      refine k_iret hx hb hr hlocks (pty (sto (recV u) jra) 0) hP hS dX5_read_39 ?_
      rw [ejra, op_read_x hjra, ← ePs, if_neg (fun q => q h6)]
      exact ⟨rN gl, mRep_pad (mRep.chg (v := v) (w := recV u) (mRep_rec (mRep_eq hR g1 g2 g3 g4 g5 g6 g7)) hjra gl gk) rfl rfl rfl rfl rfl rfl (fun j hj => absurd hj (Nat.not_lt_zero _))⟩
    · skip
      have h6 : (psA (vpd v) (vty v)).1 ≠ -6 := h_2
      refine lv_bipush (v := (-3 : Int32)) hx hb dX5_read_18 (by decide) ?_
      refine k_iret hx hb hr hlocks (u) hP hS dX5_read_20 ?_
      rw [ejra, op_read_x hjra, ← ePs, if_pos h6]
      exact ⟨rfl, mRep_eq hR g1 g2 g3 g4 g5 g6 g7⟩
  · skip
    have hjra : ¬ isR ra := of_decide_eq_false h_1
    refine lv_iconst (v := (-1 : Int32)) hx hb dX5_read_7 (by decide) ?_
    refine k_iret hx hb hr hlocks (v) hP hS dX5_read_8 ?_
    rw [show op_read S ra = (-1, S) from if_pos hjra]
    exact ⟨rfl, hR⟩
set_option maxHeartbeats 4000000 in
set_option maxRecDepth 100000 in
theorem c_X5_sum (l : Launch) (D : va_G) (cy : Nat → ClassId) (ad : Nat → Nat) (hI : wI 9 ad) (v : kV) (S : kSt) (ra : Int32) (rb : Int32) (rp : Int32) (hSI : kInv S) (hR : mRep S v) : kM l yX5_sum wsX5_sum ({ frames := 3, cells := 0, slots := 0, locals := 71 } : Room) D cy 9 ad (mW ad cy) (mW ad cy (v)) [.ref (ad (0)), .int (ra), .int (rb), .int (rp)] (fun o u => o = some (.int (op_sum S ra rb rp).1) ∧ mRep (op_sum S ra rb rp).2 u) := by
  refine k_met cX5_sum 5 (some .int) (by decide) rfl (Nat.le_of_ble_eq_true rfl) ?_
  intro p e s m below meth c ls hx hb hr hts hown hlocks hml hK hP hS hl
  have hl : lv_has ls 5 [(0, .ref (ad (0))), (1, .int (ra)), (2, .int (rb)), (3, .int (rp))] := hl
  have hown : s.vm.findClass RX5 = some m.cls := hown
  have hM : mReg S.1 v := hR.reg hSI
  have hrow : ∀ j, j < 6 → rO (S.1 j) := hSI.1
  have hpm6 : vpm v ≤ 6 := by rw [hR.2.1.1]; exact hR.2.1.2
  have hplS : vty v = S.2.2.2.2.2.1 := hR.2.2.2.2.1
  have hty80 : vty v ≤ 80 := by rw [hplS]; exact hSI.2.2.2.2.2.1
  have hpdS : ∀ j, j < S.2.2.2.2.2.1 → vpd v j = S.2.2.2.2.2.2 j := hR.2.2.2.2.2.1
  have hpd : ∀ j, j < vty v → vpd v j < 127 := fun j hj => by rw [hpdS j (by omega)]; have := (hSI.2.2.2.2.2.2 j (by omega)).2; omega
  refine lv_iload_n hx hb dX5_sum_0 rfl (lv_at hl 1 rfl) ?_
  refine k_callSr (rest := []) (nL := 5) ⟨hx, hb, hml, hown, hts⟩ (c_X5_isRegister l D cy ad hI v ra) (va_cwS 1 hts gX5_sum_X5_isRegister rfl rfl rfl (by decide +kernel) ⟨Nat.le_of_ble_eq_true rfl, Nat.le_of_ble_eq_true rfl⟩) hK hP hS (fun _ h => h) rfl hl.1 rfl (Nat.le_of_ble_eq_true rfl) dX5_sum_1 ⟨Nat.zero_le _, Nat.zero_le _⟩ (fun H locs hP hS => ?_)
  have hP : va_P D vwCl (wL 9 ad (mW ad cy (v))) H := hP
  refine b_ifeq (tgt := 14) hx hb dX5_sum_4 (by decide) (fun h_1 => ?_) (fun h_1 => ?_)
  · skip
    have hjra : ¬ isR ra := of_decide_eq_false h_1
    refine lv_iconst (v := (-1 : Int32)) hx hb dX5_sum_14 (by decide) ?_
    refine k_iret hx hb hr hlocks (v) hP hS dX5_sum_15 ?_
    rw [show op_sum S ra rb rp = (-1, S) from if_pos (by first | exact Or.inl hjra | exact Or.inr (hjrb))]
    exact ⟨rfl, hR⟩
  · skip
    obtain ⟨jra, hjra, ejra⟩ := (kreg_cases ra).resolve_left (fun q => q (of_decide_eq_true h_1))
    rw [ejra] at hl
    refine lv_iload_n hx hb dX5_sum_7 rfl (lv_at hl 2 rfl) ?_
    refine k_callSr (rest := []) (nL := 5) ⟨hx, hb, hml, hown, hts⟩ (c_X5_isRegister l D cy ad hI v rb) (va_cwS 1 hts gX5_sum_X5_isRegister rfl rfl rfl (by decide +kernel) ⟨Nat.le_of_ble_eq_true rfl, Nat.le_of_ble_eq_true rfl⟩) hK hP hS (fun _ h => h) rfl hl.1 rfl (Nat.le_of_ble_eq_true rfl) dX5_sum_8 ⟨Nat.zero_le _, Nat.zero_le _⟩ (fun H locs hP hS => ?_)
    have hP : va_P D vwCl (wL 9 ad (mW ad cy (v))) H := hP
    refine b_ifne (tgt := 16) hx hb dX5_sum_11 (by decide) (fun h_2 => ?_) (fun h_2 => ?_)
    · skip
      obtain ⟨jrb, hjrb, ejrb⟩ := (kreg_cases rb).resolve_left (fun q => q (of_decide_eq_true h_2))
      rw [ejrb] at hl
      refine lv_aload_n hx hb dX5_sum_16 rfl (lv_at hl 0 rfl) ?_
      refine lv_iload_n hx hb dX5_sum_17 rfl (lv_at hl 1 rfl) ?_
      refine lv_iload_n hx hb dX5_sum_18 rfl (lv_at hl 2 rfl) ?_
      have hoa := hrow jra hjra
      have hob := hrow jrb hjrb
      have hla := hoa.2.1
      have hla1 := hoa.1
      have hlb := hob.2.1
      have hlb1 := hob.1
      have hpb : plc (S.1 jra).1 (S.1 jrb).1 ≤ 65 := by unfold plc; omega
      refine k_callVr (rest := []) (nL := 5) ⟨hx, hb, hml, hown, hts⟩ (c_X5_places l D cy ad hI v S.1 jra jrb hM (by first | assumption | omega) (by first | assumption | omega)) (cwV 2 hts gX5_sum_X5_places rfl rfl rfl (by decide +kernel) ⟨Nat.le_of_ble_eq_true rfl, Nat.le_of_ble_eq_true rfl⟩) hK hP hS (fun _ h => h) (q0 := 0) (ci := 5) rfl (by decide) mW_obj rfl rfl rfl hl.1 rfl (Nat.le_of_ble_eq_true rfl) dX5_sum_19 ⟨Nat.zero_le _, Nat.zero_le _⟩ (fun H locs hP hS => ?_)
      have hP : va_P D vwCl (wL 9 ad (mW ad cy (v))) H := hP
      refine lv_istore (lv' := [(4, .int (nI (plc (S.1 jra).1 (S.1 jrb).1))), (0, .ref (ad (0))), (1, .int (nI (jra))), (2, .int (nI (jrb))), (3, .int (rp))]) hx hb dX5_sum_22 hl (by decide) rfl (fun ls hl => ?_)
      refine lv_iload hx hb dX5_sum_24 (lv_at hl 0 rfl) ?_
      refine n_ifne (tgt := 32) hx hb (by omega) dX5_sum_26 (by decide) (fun h_3 => ?_) (fun h_3 => ?_)
      · skip
        have hp0 : plc (S.1 jra).1 (S.1 jrb).1 ≠ 0 := h_3
        obtain ⟨hge, hpe⟩ := plc_e hp0
        refine lv_iload_n hx hb dX5_sum_32 rfl (lv_at hl 4 rfl) ?_
        refine lv_iconst (v := nI (0)) hx hb dX5_sum_33 rfl ?_
        refine lv_iload hx hb dX5_sum_34 (lv_at hl 0 rfl) ?_
        refine lv_iconst (v := nI (1)) hx hb dX5_sum_36 rfl ?_
        refine lv_isub hx hb dX5_sum_37 ?_
        refine k_callSr (rest := []) (nL := 5) ⟨hx, hb, hml, hown, hts⟩ (c_X5_in l D cy ad hI v rp (nI (0)) (nI (plc (S.1 jra).1 (S.1 jrb).1) - 1)) (va_cwS 3 hts gX5_sum_X5_in rfl rfl rfl (by decide +kernel) ⟨Nat.le_of_ble_eq_true rfl, Nat.le_of_ble_eq_true rfl⟩) hK hP hS (fun _ h => h) rfl hl.1 rfl (Nat.le_of_ble_eq_true rfl) dX5_sum_38 ⟨Nat.zero_le _, Nat.zero_le _⟩ (fun H locs hP hS => ?_)
        have hP : va_P D vwCl (wL 9 ad (mW ad cy (v))) H := hP
        refine b_ifeq (tgt := 54) hx hb dX5_sum_41 (by decide) (fun h_4 => ?_) (fun h_4 => ?_)
        · skip
          have hpN : ¬ (0 ≤ rp ∧ rp < nI ((S.1 jra).1 - (S.1 jrb).1 + 1)) := by rw [← hpe]; exact fun q => of_decide_eq_false h_4 ((in_len (by omega) (by omega)).mpr q)
          refine lv_bipush (v := (-2 : Int32)) hx hb dX5_sum_54 (by decide) ?_
          refine k_iret hx hb hr hlocks (v) hP hS dX5_sum_56 ?_
          rw [ejra, ejrb, op_sum_x hjra hjrb, if_neg (by omega), if_pos hpN]
          exact ⟨rfl, hR⟩
        · skip
          have hpI := (in_len (n := plc (S.1 jra).1 (S.1 jrb).1) (by omega) (by omega)).mp (of_decide_eq_true h_4)
          obtain ⟨kp, hkp, ekp⟩ := (kin_cases rp (plc (S.1 jra).1 (S.1 jrb).1) (by omega)).resolve_left (fun q => q hpI)
          rw [ekp] at hl
          refine lv_aload_n hx hb dX5_sum_44 rfl (lv_at hl 1 rfl) ?_
          refine lv_iload_n hx hb dX5_sum_45 rfl (lv_at hl 2 rfl) ?_
          refine lv_iload_n hx hb dX5_sum_46 rfl (lv_at hl 3 rfl) ?_
          refine lv_iload_n hx hb dX5_sum_47 rfl (lv_at hl 4 rfl) ?_
          refine k_callVr (rest := []) (nL := 5) ⟨hx, hb, hml, hown, hts⟩ (c_X5_sumAt l D cy ad hI v S.1 jra jrb kp hM (by first | assumption | omega) (by first | assumption | omega) (by first | assumption | omega)) (cwV 3 hts gX5_sum_X5_sumAt rfl rfl rfl (by decide +kernel) ⟨Nat.le_of_ble_eq_true rfl, Nat.le_of_ble_eq_true rfl⟩) hK hP hS (fun _ h => h) (q0 := 0) (ci := 5) rfl (by decide) mW_obj rfl rfl rfl hl.1 rfl (Nat.le_of_ble_eq_true rfl) dX5_sum_48 ⟨Nat.zero_le _, Nat.zero_le _⟩ (fun H locs hP hS => ?_)
          have hP : va_P D vwCl (wL 9 ad (mW ad cy (v))) H := hP
          refine lv_goto (tgt := 56) hx hb dX5_sum_51 (by decide) ?_
          refine k_iret hx hb hr hlocks (v) hP hS dX5_sum_56 ?_
          rw [ejra, ejrb, ekp, op_sum_x hjra hjrb, if_neg (by omega), if_neg (fun q => q (kin_nI (by omega) (by omega))), rgN_nI (by omega)]
          exact ⟨rfl, hR⟩
      · skip
        have hlt := plc_z (show plc (S.1 jra).1 (S.1 jrb).1 = 0 from h_3)
        refine lv_bipush (v := (-5 : Int32)) hx hb dX5_sum_29 (by decide) ?_
        refine k_iret hx hb hr hlocks (v) hP hS dX5_sum_31 ?_
        rw [ejra, ejrb, op_sum_x hjra hjrb, if_pos hlt]
        exact ⟨rfl, hR⟩
    · skip
      have hjrb : ¬ isR rb := of_decide_eq_false h_2
      refine lv_iconst (v := (-1 : Int32)) hx hb dX5_sum_14 (by decide) ?_
      refine k_iret hx hb hr hlocks (v) hP hS dX5_sum_15 ?_
      rw [show op_sum S ra rb rp = (-1, S) from if_pos (by first | exact Or.inl hjra | exact Or.inr (hjrb))]
      exact ⟨rfl, hR⟩
set_option maxHeartbeats 4000000 in
set_option maxRecDepth 100000 in
theorem c_X5_fits (l : Launch) (D : va_G) (cy : Nat → ClassId) (ad : Nat → Nat) (hI : wI 9 ad) (v : kV) (S : kSt) (ra : Int32) (rb : Int32) (hSI : kInv S) (hR : mRep S v) : kM l yX5_fits wsX5_fits ({ frames := 3, cells := 0, slots := 0, locals := 70 } : Room) D cy 9 ad (mW ad cy) (mW ad cy (v)) [.ref (ad (0)), .int (ra), .int (rb)] (fun o u => o = some (.long (op_fits S ra rb).1) ∧ mRep (op_fits S ra rb).2 u) := by
  refine k_met cX5_fits 6 (some .long) (by decide) rfl (Nat.le_of_ble_eq_true rfl) ?_
  intro p e s m below meth c ls hx hb hr hts hown hlocks hml hK hP hS hl
  have hl : lv_has ls 6 [(0, .ref (ad (0))), (1, .int (ra)), (2, .int (rb))] := hl
  have hown : s.vm.findClass RX5 = some m.cls := hown
  have hM : mReg S.1 v := hR.reg hSI
  have hrow : ∀ j, j < 6 → rO (S.1 j) := hSI.1
  have hpm6 : vpm v ≤ 6 := by rw [hR.2.1.1]; exact hR.2.1.2
  have hplS : vty v = S.2.2.2.2.2.1 := hR.2.2.2.2.1
  have hty80 : vty v ≤ 80 := by rw [hplS]; exact hSI.2.2.2.2.2.1
  have hpdS : ∀ j, j < S.2.2.2.2.2.1 → vpd v j = S.2.2.2.2.2.2 j := hR.2.2.2.2.2.1
  have hpd : ∀ j, j < vty v → vpd v j < 127 := fun j hj => by rw [hpdS j (by omega)]; have := (hSI.2.2.2.2.2.2 j (by omega)).2; omega
  refine lv_iload_n hx hb dX5_fits_0 rfl (lv_at hl 1 rfl) ?_
  refine k_callSr (rest := []) (nL := 6) ⟨hx, hb, hml, hown, hts⟩ (c_X5_isRegister l D cy ad hI v ra) (va_cwS 1 hts gX5_fits_X5_isRegister rfl rfl rfl (by decide +kernel) ⟨Nat.le_of_ble_eq_true rfl, Nat.le_of_ble_eq_true rfl⟩) hK hP hS (fun _ h => h) rfl hl.1 rfl (Nat.le_of_ble_eq_true rfl) dX5_fits_1 ⟨Nat.zero_le _, Nat.zero_le _⟩ (fun H locs hP hS => ?_)
  have hP : va_P D vwCl (wL 9 ad (mW ad cy (v))) H := hP
  refine b_ifeq (tgt := 14) hx hb dX5_fits_4 (by decide) (fun h_1 => ?_) (fun h_1 => ?_)
  · skip
    have hjra : ¬ isR ra := of_decide_eq_false h_1
    refine lv_ldc2 hx hb hown (hts (.constantLong RX5 127 (-1)) (by decide +kernel)) dX5_fits_14 ?_
    refine k_lret hx hb hr hlocks (v) hP hS dX5_fits_17 ?_
    rw [show op_fits S ra rb = (-1, S) from if_pos (by first | exact Or.inl hjra | exact Or.inr (hjrb))]
    exact ⟨rfl, hR⟩
  · skip
    obtain ⟨jra, hjra, ejra⟩ := (kreg_cases ra).resolve_left (fun q => q (of_decide_eq_true h_1))
    rw [ejra] at hl
    refine lv_iload_n hx hb dX5_fits_7 rfl (lv_at hl 2 rfl) ?_
    refine k_callSr (rest := []) (nL := 6) ⟨hx, hb, hml, hown, hts⟩ (c_X5_isRegister l D cy ad hI v rb) (va_cwS 1 hts gX5_fits_X5_isRegister rfl rfl rfl (by decide +kernel) ⟨Nat.le_of_ble_eq_true rfl, Nat.le_of_ble_eq_true rfl⟩) hK hP hS (fun _ h => h) rfl hl.1 rfl (Nat.le_of_ble_eq_true rfl) dX5_fits_8 ⟨Nat.zero_le _, Nat.zero_le _⟩ (fun H locs hP hS => ?_)
    have hP : va_P D vwCl (wL 9 ad (mW ad cy (v))) H := hP
    refine b_ifne (tgt := 18) hx hb dX5_fits_11 (by decide) (fun h_2 => ?_) (fun h_2 => ?_)
    · skip
      obtain ⟨jrb, hjrb, ejrb⟩ := (kreg_cases rb).resolve_left (fun q => q (of_decide_eq_true h_2))
      rw [ejrb] at hl
      refine lv_aload_n hx hb dX5_fits_18 rfl (lv_at hl 0 rfl) ?_
      refine lv_iload_n hx hb dX5_fits_19 rfl (lv_at hl 1 rfl) ?_
      refine lv_iload_n hx hb dX5_fits_20 rfl (lv_at hl 2 rfl) ?_
      have hoa := hrow jra hjra
      have hob := hrow jrb hjrb
      have hla := hoa.2.1
      have hla1 := hoa.1
      have hlb := hob.2.1
      have hlb1 := hob.1
      have hpb : plc (S.1 jra).1 (S.1 jrb).1 ≤ 65 := by unfold plc; omega
      refine k_callVr (rest := []) (nL := 6) ⟨hx, hb, hml, hown, hts⟩ (c_X5_places l D cy ad hI v S.1 jra jrb hM (by first | assumption | omega) (by first | assumption | omega)) (cwV 2 hts gX5_fits_X5_places rfl rfl rfl (by decide +kernel) ⟨Nat.le_of_ble_eq_true rfl, Nat.le_of_ble_eq_true rfl⟩) hK hP hS (fun _ h => h) (q0 := 0) (ci := 5) rfl (by decide) mW_obj rfl rfl rfl hl.1 rfl (Nat.le_of_ble_eq_true rfl) dX5_fits_21 ⟨Nat.zero_le _, Nat.zero_le _⟩ (fun H locs hP hS => ?_)
      have hP : va_P D vwCl (wL 9 ad (mW ad cy (v))) H := hP
      refine n_ifne (tgt := 31) hx hb (by omega) dX5_fits_24 (by decide) (fun h_3 => ?_) (fun h_3 => ?_)
      · skip
        have hp0 : plc (S.1 jra).1 (S.1 jrb).1 ≠ 0 := h_3
        obtain ⟨hge, hpe⟩ := plc_e hp0
        refine lv_lconst (v := lN 0) hx hb dX5_fits_31 rfl ?_
        refine lv_lstore_n (lv' := [(3, .long (lN 0)), (0, .ref (ad (0))), (1, .int (nI (jra))), (2, .int (nI (jrb)))]) hx hb dX5_fits_32 rfl hl (by decide) rfl (fun ls hl => ?_)
        refine lv_iconst (v := nI (0)) hx hb dX5_fits_33 rfl ?_
        refine lv_istore (lv' := [(5, .int (nI (0))), (3, .long (lN 0)), (0, .ref (ad (0))), (1, .int (nI (jra))), (2, .int (nI (jrb)))]) hx hb dX5_fits_34 hl (by decide) rfl (fun ls hl => ?_)
        have lp36 : ∀ (fu : Nat) (k : Nat), (k ≤ plc (S.1 jra).1 (S.1 jrb).1) → (k ≤ 60) → 60 - k < fu → ∀ (H : Heap) (locs : List Loc), va_P D vwCl (wL 9 ad (mW ad cy (v))) H → va_S (wA 9 ad) s.heap H locs → ∀ (ls : Array Slot), lv_has ls 6 [(5, .int (nI (k))), (3, .long (lN (fl (fitB (S.1 jra) (S.1 jrb)) k))), (0, .ref (ad (0))), (1, .int (nI (jra))), (2, .int (nI (jrb)))] → W p l e ({ frames := 3, cells := 0, slots := 0, locals := 70 } : Room) s m ([.ref (ad (0)), .int (ra), .int (rb)] : List Value).toArray below meth c H locs 0 0 (MQ below (kQ D 9 ad (mW ad cy) (fun o u => o = some (.long (op_fits S ra rb).1) ∧ mRep (op_fits S ra rb).2 u)) ([.ref (ad (0)), .int (ra), .int (rb)] : List Value).toArray s 0 0 (wA 9 ad)) (F0 m 36 ls []) := by
          intro fu
          induction fu with
          | zero => intro k hk hk60 hfu; exact absurd hfu (Nat.not_lt_zero _)
          | succ fu ih36 =>
            intro k hk hk60 hfu H locs hP hS ls hl
            refine lv_iload hx hb dX5_fits_36 (lv_at hl 0 rfl) ?_
            refine lv_aload_n hx hb dX5_fits_38 rfl (lv_at hl 2 rfl) ?_
            refine lv_iload_n hx hb dX5_fits_39 rfl (lv_at hl 3 rfl) ?_
            refine lv_iload_n hx hb dX5_fits_40 rfl (lv_at hl 4 rfl) ?_
            refine k_callVr (rest := [.int (nI (k))]) (nL := 6) ⟨hx, hb, hml, hown, hts⟩ (c_X5_places l D cy ad hI v S.1 jra jrb hM (by first | assumption | omega) (by first | assumption | omega)) (cwV 2 hts gX5_fits_X5_places rfl rfl rfl (by decide +kernel) ⟨Nat.le_of_ble_eq_true rfl, Nat.le_of_ble_eq_true rfl⟩) hK hP hS (fun _ h => h) (q0 := 0) (ci := 5) rfl (by decide) mW_obj rfl rfl rfl hl.1 rfl (Nat.le_of_ble_eq_true rfl) dX5_fits_41 ⟨Nat.zero_le _, Nat.zero_le _⟩ (fun H locs hP hS => ?_)
            have hP : va_P D vwCl (wL 9 ad (mW ad cy (v))) H := hP
            refine n_icmp_ge (tgt := 82) hx hb (by omega) (by omega) dX5_fits_44 (by decide) (fun h_4 => ?_) (fun h_4 => ?_)
            · skip
              refine lv_lload_n hx hb dX5_fits_82 rfl (lv_at hl 1 rfl) ?_
              refine k_lret hx hb hr hlocks (v) hP hS dX5_fits_83 ?_
              rw [ejra, ejrb, op_fits_x hjra hjrb, if_neg (by omega), show min ((S.1 jra).1 - (S.1 jrb).1 + 1) 60 = k by omega]
              exact ⟨rfl, hR⟩
            · skip
              refine lv_iload hx hb dX5_fits_47 (lv_at hl 0 rfl) ?_
              refine lv_bipush (v := nI (60)) hx hb dX5_fits_49 rfl ?_
              refine n_icmp_ge (tgt := 82) hx hb (by omega) (by omega) dX5_fits_51 (by decide) (fun h_5 => ?_) (fun h_5 => ?_)
              · skip
                refine lv_lload_n hx hb dX5_fits_82 rfl (lv_at hl 1 rfl) ?_
                refine k_lret hx hb hr hlocks (v) hP hS dX5_fits_83 ?_
                rw [ejra, ejrb, op_fits_x hjra hjrb, if_neg (by omega), show min ((S.1 jra).1 - (S.1 jrb).1 + 1) 60 = k by omega]
                exact ⟨rfl, hR⟩
              · skip
                refine lv_lload_n hx hb dX5_fits_54 rfl (lv_at hl 1 rfl) ?_
                refine lv_aload_n hx hb dX5_fits_55 rfl (lv_at hl 2 rfl) ?_
                refine lv_iload_n hx hb dX5_fits_56 rfl (lv_at hl 3 rfl) ?_
                refine lv_iload_n hx hb dX5_fits_57 rfl (lv_at hl 4 rfl) ?_
                refine lv_iload hx hb dX5_fits_58 (lv_at hl 0 rfl) ?_
                refine k_callVr (rest := [.long (lN (fl (fitB (S.1 jra) (S.1 jrb)) k))]) (nL := 6) ⟨hx, hb, hml, hown, hts⟩ (c_X5_fitsAt l D cy ad hI v S.1 jra jrb k hM (by first | assumption | omega) (by first | assumption | omega) (by first | assumption | omega)) (cwV 3 hts gX5_fits_X5_fitsAt rfl rfl rfl (by decide +kernel) ⟨Nat.le_of_ble_eq_true rfl, Nat.le_of_ble_eq_true rfl⟩) hK hP hS (fun _ h => h) (q0 := 0) (ci := 5) rfl (by decide) mW_obj rfl rfl rfl hl.1 rfl (Nat.le_of_ble_eq_true rfl) dX5_fits_60 ⟨Nat.zero_le _, Nat.zero_le _⟩ (fun H locs hP hS => ?_)
                have hP : va_P D vwCl (wL 9 ad (mW ad cy (v))) H := hP
                refine b_ifeq (tgt := 73) hx hb dX5_fits_63 (by decide) (fun h_6 => ?_) (fun h_6 => ?_)
                · skip
                  have hq : fitB (S.1 jra) (S.1 jrb) k = false := h_6
                  refine lv_lconst (v := lN 0) hx hb dX5_fits_73 rfl ?_
                  refine lv_lor hx hb dX5_fits_74 ?_
                  refine l_push (b := lN (fl (fitB (S.1 jra) (S.1 jrb)) k ||| 0)) (wb_or (fl_lt _ k (by omega)) (by decide)) ?_
                  refine lv_lstore_n (lv' := [(3, .long (lN (fl (fitB (S.1 jra) (S.1 jrb)) k ||| 0))), (5, .int (nI (k))), (0, .ref (ad (0))), (1, .int (nI (jra))), (2, .int (nI (jrb)))]) hx hb dX5_fits_75 rfl hl (by decide) rfl (fun ls hl => ?_)
                  refine lv_iinc (v := nI (k + 1)) (lv' := [(5, .int (nI (k + 1))), (3, .long (lN (fl (fitB (S.1 jra) (S.1 jrb)) k ||| 0))), (0, .ref (ad (0))), (1, .int (nI (jra))), (2, .int (nI (jrb)))]) hx hb dX5_fits_76 hl (k := 1) rfl (nI_inc _) (by decide) rfl (fun ls hl => ?_)
                  refine lv_goto (tgt := 36) hx hb dX5_fits_79 (by decide) ?_
                  rw [Nat.or_zero, show fl (fitB (S.1 jra) (S.1 jrb)) k = fl (fitB (S.1 jra) (S.1 jrb)) (k + 1) from (fl_f (P := fitB (S.1 jra) (S.1 jrb)) (n := k) hq).symm] at hl
                  exact ih36 (k + 1) (by omega) (by omega) (by omega) _ _ hP hS _ hl
                · skip
                  have hq : fitB (S.1 jra) (S.1 jrb) k = true := h_6
                  refine lv_lconst (v := lN 1) hx hb dX5_fits_66 rfl ?_
                  refine lv_iload hx hb dX5_fits_67 (lv_at hl 0 rfl) ?_
                  refine lv_lshl hx hb dX5_fits_69 rfl ?_
                  refine l_push (b := lN (2 ^ k)) (by rw [wb_shl 1 (by omega), Nat.one_mul]) ?_
                  refine lv_goto (tgt := 74) hx hb dX5_fits_70 (by decide) ?_
                  refine lv_lor hx hb dX5_fits_74 ?_
                  refine l_push (b := lN (fl (fitB (S.1 jra) (S.1 jrb)) k ||| 2 ^ k)) (wb_or (fl_lt _ k (by omega)) (Nat.pow_lt_pow_right (by decide) (by omega))) ?_
                  refine lv_lstore_n (lv' := [(3, .long (lN (fl (fitB (S.1 jra) (S.1 jrb)) k ||| 2 ^ k))), (5, .int (nI (k))), (0, .ref (ad (0))), (1, .int (nI (jra))), (2, .int (nI (jrb)))]) hx hb dX5_fits_75 rfl hl (by decide) rfl (fun ls hl => ?_)
                  refine lv_iinc (v := nI (k + 1)) (lv' := [(5, .int (nI (k + 1))), (3, .long (lN (fl (fitB (S.1 jra) (S.1 jrb)) k ||| 2 ^ k))), (0, .ref (ad (0))), (1, .int (nI (jra))), (2, .int (nI (jrb)))]) hx hb dX5_fits_76 hl (k := 1) rfl (nI_inc _) (by decide) rfl (fun ls hl => ?_)
                  refine lv_goto (tgt := 36) hx hb dX5_fits_79 (by decide) ?_
                  rw [show fl (fitB (S.1 jra) (S.1 jrb)) k ||| 2 ^ k = fl (fitB (S.1 jra) (S.1 jrb)) (k + 1) from (fl_t (P := fitB (S.1 jra) (S.1 jrb)) (n := k) hq).symm] at hl
                  exact ih36 (k + 1) (by omega) (by omega) (by omega) _ _ hP hS _ hl
        exact lp36 (_ + 1) (0) (Nat.zero_le _) (by decide) (Nat.lt_succ_self _) _ _ hP hS _ hl
      · skip
        have hlt := plc_z (show plc (S.1 jra).1 (S.1 jrb).1 = 0 from h_3)
        refine lv_ldc2 hx hb hown (hts (.constantLong RX5 132 (-5)) (by decide +kernel)) dX5_fits_27 ?_
        refine k_lret hx hb hr hlocks (v) hP hS dX5_fits_30 ?_
        rw [ejra, ejrb, op_fits_x hjra hjrb, if_pos hlt]
        exact ⟨rfl, hR⟩
    · skip
      have hjrb : ¬ isR rb := of_decide_eq_false h_2
      refine lv_ldc2 hx hb hown (hts (.constantLong RX5 127 (-1)) (by decide +kernel)) dX5_fits_14 ?_
      refine k_lret hx hb hr hlocks (v) hP hS dX5_fits_17 ?_
      rw [show op_fits S ra rb = (-1, S) from if_pos (by first | exact Or.inl hjra | exact Or.inr (hjrb))]
      exact ⟨rfl, hR⟩
set_option maxHeartbeats 4000000 in
set_option maxRecDepth 100000 in
theorem c_X5_restore (l : Launch) (D : va_G) (cy : Nat → ClassId) (ad : Nat → Nat) (hI : wI 9 ad) (v : kV) (S : kSt) (rt : Int32) (hSI : kInv S) (hR : mRep S v) : kM l yX5_restore wsX5_restore ({ frames := 2, cells := 0, slots := 0, locals := 43 } : Room) D cy 9 ad (mW ad cy) (mW ad cy (v)) [.ref (ad (0)), .int (rt)] (fun o u => o = some (.int (op_restore S rt).1) ∧ mRep (op_restore S rt).2 u) := by
  refine k_met cX5_restore 3 (some .int) (by decide) rfl (Nat.le_of_ble_eq_true rfl) ?_
  intro p e s m below meth c ls hx hb hr hts hown hlocks hml hK hP hS hl
  have hl : lv_has ls 3 [(0, .ref (ad (0))), (1, .int (rt))] := hl
  have hown : s.vm.findClass RX5 = some m.cls := hown
  have hf_7 := hts (.fieldLink RX5 7 "TurnedRowsModel" "z" "[I") (by decide +kernel)
  have hf_16 := hts (.fieldLink RX5 16 "TurnedRowsModel" "slots" "[I") (by decide +kernel)
  have hf_19 := hts (.fieldLink RX5 19 "TurnedRowsModel" "isSaved" "[Z") (by decide +kernel)
  have hw_X5 : ∀ qw ∈ wsX50, qw.before ([.ref (ad (0)), .int (rt)] : List Value).toArray s = true := fun qw h => hts qw ((by decide +kernel : ∀ qw ∈ wsX50, qw ∈ wsX5_restore) qw h)
  have hM : mReg S.1 v := hR.reg hSI
  have hrow : ∀ j, j < 6 → rO (S.1 j) := hSI.1
  have hpm6 : vpm v ≤ 6 := by rw [hR.2.1.1]; exact hR.2.1.2
  have hplS : vty v = S.2.2.2.2.2.1 := hR.2.2.2.2.1
  have hty80 : vty v ≤ 80 := by rw [hplS]; exact hSI.2.2.2.2.2.1
  have hpdS : ∀ j, j < S.2.2.2.2.2.1 → vpd v j = S.2.2.2.2.2.2 j := hR.2.2.2.2.2.1
  have hpd : ∀ j, j < vty v → vpd v j < 127 := fun j hj => by rw [hpdS j (by omega)]; have := (hSI.2.2.2.2.2.2 j (by omega)).2; omega
  refine lv_iload_n hx hb dX5_restore_0 rfl (lv_at hl 1 rfl) ?_
  refine lv_iconst (v := nI (0)) hx hb dX5_restore_1 rfl ?_
  refine lv_iconst (v := nI (1)) hx hb dX5_restore_2 rfl ?_
  refine k_callSr (rest := []) (nL := 3) ⟨hx, hb, hml, hown, hts⟩ (c_X5_in l D cy ad hI v rt (nI (0)) (nI (1))) (va_cwS 3 hts gX5_restore_X5_in rfl rfl rfl (by decide +kernel) ⟨Nat.le_of_ble_eq_true rfl, Nat.le_of_ble_eq_true rfl⟩) hK hP hS (fun _ h => h) rfl hl.1 rfl (Nat.le_of_ble_eq_true rfl) dX5_restore_3 ⟨Nat.zero_le _, Nat.zero_le _⟩ (fun H locs hP hS => ?_)
  have hP : va_P D vwCl (wL 9 ad (mW ad cy (v))) H := hP
  refine b_ifne (tgt := 12) hx hb dX5_restore_6 (by decide) (fun h_1 => ?_) (fun h_1 => ?_)
  · skip
    obtain ⟨kt, hkt, ekt⟩ := (kin_cases rt 2 (by decide)).resolve_left (fun q => q (in_2.mp (of_decide_eq_true h_1)))
    rw [ekt] at hl
    refine lv_aload_n hx hb dX5_restore_12 rfl (lv_at hl 0 rfl) ?_
    refine k_get (q0 := 0) (k := 3) (T := TX5) (Nf := 11) (ci := 5) (C := RX5) (v := .ref (ad (4))) hx hb hw_X5 hown hK hP (by decide) mW_obj rfl (by decide) hf_19 rfl rfl dX5_restore_13 ?_
    refine lv_iload_n hx hb dX5_restore_16 rfl (lv_at hl 1 rfl) ?_
    refine k_zald (q0 := 4) (j := kt) hx hb hK hP (by decide) mW_sv (by decide) (by omega) dX5_restore_17 ?_
    refine n_same (a := vsv v kt) rfl ?_
    have hsv1 : vsv v kt ≤ 1 := by rw [hR.2.2.2.2.2.2 kt hkt]; exact hSI.2.2.2.2.1 kt hkt
    refine n_ifne (tgt := 24) hx hb (by omega) dX5_restore_18 (by decide) (fun h_2 => ?_) (fun h_2 => ?_)
    · skip
      have hs1 : S.2.2.2.2.1 kt = 1 := by
        have z1 := hSI.2.2.2.2.1 kt hkt
        have z2 : S.2.2.2.2.1 kt ≠ 0 := by rw [← hR.2.2.2.2.2.2 kt hkt]; exact h_2
        omega
      refine lv_aload_n hx hb dX5_restore_24 rfl (lv_at hl 0 rfl) ?_
      refine k_callVv (rest := []) (nL := 3) ⟨hx, hb, hml, hown, hts⟩ (c_X5_record l D cy ad hI v (by first | assumption | omega)) (cwV 0 hts gX5_restore_X5_record rfl rfl rfl (by decide +kernel) ⟨Nat.le_of_ble_eq_true rfl, Nat.le_of_ble_eq_true rfl⟩) hK hP hS (fun _ h => h) (q0 := 0) (ci := 5) rfl (by decide) mW_obj rfl rfl rfl hl.1 rfl (Nat.le_of_ble_eq_true rfl) dX5_restore_25 ⟨Nat.zero_le _, Nat.zero_le _⟩ (fun H locs hP hS => ?_)
      have hP : va_P D vwCl (wL 9 ad (mW ad cy (recV v))) H := hP
      refine lv_iconst (v := nI (0)) hx hb dX5_restore_28 rfl ?_
      refine lv_istore_n (lv' := [(2, .int (nI (0))), (0, .ref (ad (0))), (1, .int (nI (kt)))]) hx hb dX5_restore_29 rfl hl (by decide) rfl (fun ls hl => ?_)
      have lp30 : ∀ (fu : Nat) (k : Nat) (v' : kV), (k ≤ 390) → (v' = pz (recV v) (cpK (vz v) (fun k => vsl v (kt * 390 + k)) 0 k)) → 390 - k < fu → ∀ (H : Heap) (locs : List Loc), va_P D vwCl (wL 9 ad (mW ad cy (v'))) H → va_S (wA 9 ad) s.heap H locs → ∀ (ls : Array Slot), lv_has ls 3 [(2, .int (nI (k))), (0, .ref (ad (0))), (1, .int (nI (kt)))] → W p l e ({ frames := 2, cells := 0, slots := 0, locals := 43 } : Room) s m ([.ref (ad (0)), .int (rt)] : List Value).toArray below meth c H locs 0 0 (MQ below (kQ D 9 ad (mW ad cy) (fun o u => o = some (.int (op_restore S rt).1) ∧ mRep (op_restore S rt).2 u)) ([.ref (ad (0)), .int (rt)] : List Value).toArray s 0 0 (wA 9 ad)) (F0 m 30 ls []) := by
        intro fu
        induction fu with
        | zero => intro k v' hk hv hfu; exact absurd hfu (Nat.not_lt_zero _)
        | succ fu ih30 =>
          intro k v' hk hv hfu H locs hP hS ls hl
          refine lv_iload_n hx hb dX5_restore_30 rfl (lv_at hl 0 rfl) ?_
          refine lv_sipush (v := nI (390)) hx hb dX5_restore_31 rfl ?_
          refine n_icmp_ge (tgt := 61) hx hb (by omega) (by omega) dX5_restore_34 (by decide) (fun h_3 => ?_) (fun h_3 => ?_)
          · skip
            refine lv_aload_n hx hb dX5_restore_61 rfl (lv_at hl 1 rfl) ?_
            have hLd := mRep_load (mRep_rec hR) hkt hs1
            have hv9 : v' = pz (recV v) (cpK (vz v) (fun k => vsl v (kt * 390 + k)) 0 390) := by rw [hv, show k = 390 by omega]
            refine k_callVr (rest := []) (nL := 3) ⟨hx, hb, hml, hown, hts⟩ (c_X5_lengths l D cy ad hI v' (S.2.2.2.1 kt) (by rw [hv9]; exact fun r hr => ⟨(hLd.1 r hr).1, hSI.2.2.2.1 kt r hkt hr hs1, (hLd.1 r hr).2⟩)) (cwV 0 hts gX5_restore_X5_lengths rfl rfl rfl (by decide +kernel) ⟨Nat.le_of_ble_eq_true rfl, Nat.le_of_ble_eq_true rfl⟩) hK hP hS (fun _ h => h) (q0 := 0) (ci := 5) rfl (by decide) mW_obj rfl rfl rfl hl.1 rfl (Nat.le_of_ble_eq_true rfl) dX5_restore_62 ⟨Nat.zero_le _, Nat.zero_le _⟩ (fun H locs hP hS => ?_)
            have hP : va_P D vwCl (wL 9 ad (mW ad cy (v'))) H := hP
            refine k_iret hx hb hr hlocks (v') hP hS dX5_restore_65 ?_
            rw [ekt, show op_restore S (nI kt) = (nI (ln6 (S.2.2.2.1 kt) 0), (S.2.2.2.1 kt, (recS S).2)) from (if_neg (fun q => q (kin_nI hkt (by decide)))).trans ((if_neg (by rw [rgN_nI (by omega)]; omega)).trans (by rw [rgN_nI (by omega)]))]
            exact ⟨rfl, by rw [hv9]; exact hLd⟩
          · skip
            refine lv_aload_n hx hb dX5_restore_37 rfl (lv_at hl 1 rfl) ?_
            refine k_get (q0 := 0) (k := 0) (T := TX5) (Nf := 11) (ci := 5) (C := RX5) (v := .ref (ad (1))) hx hb hw_X5 hown hK hP (by decide) mW_obj rfl (by decide) hf_7 rfl rfl dX5_restore_38 ?_
            refine lv_iload_n hx hb dX5_restore_41 rfl (lv_at hl 0 rfl) ?_
            refine lv_aload_n hx hb dX5_restore_42 rfl (lv_at hl 1 rfl) ?_
            refine k_get (q0 := 0) (k := 2) (T := TX5) (Nf := 11) (ci := 5) (C := RX5) (v := .ref (ad (3))) hx hb hw_X5 hown hK hP (by decide) mW_obj rfl (by decide) hf_16 rfl rfl dX5_restore_43 ?_
            refine lv_iload_n hx hb dX5_restore_46 rfl (lv_at hl 2 rfl) ?_
            refine lv_sipush (v := nI (390)) hx hb dX5_restore_47 rfl ?_
            refine n_imul hx hb dX5_restore_50 ?_
            refine lv_iload_n hx hb dX5_restore_51 rfl (lv_at hl 0 rfl) ?_
            refine n_iadd hx hb dX5_restore_52 ?_
            refine k_iald (q0 := 3) (j := (kt * 390) + k) hx hb hK hP (by decide) mW_sl (by decide) (by omega) dX5_restore_53 ?_
            refine n_same (a := vsl v' ((kt * 390) + k)) rfl ?_
            refine n_push (a := vsl v (kt * 390 + k)) (by rw [hv]; rfl) ?_
            refine k_iast (q0 := 1) (j := k) (v := nI (vsl v (kt * 390 + k))) (Wd' := mW ad cy (pz v' (va_up (vz v') k (vsl v (kt * 390 + k))))) hx hb hK hI hP hS (by decide) mW_z (by decide) (by omega) mW_up_z dX5_restore_54 (fun H locs hP hS => ?_)
            refine lv_iinc (v := nI (k + 1)) (lv' := [(2, .int (nI (k + 1))), (0, .ref (ad (0))), (1, .int (nI (kt)))]) hx hb dX5_restore_55 hl (k := 0) rfl (nI_inc _) (by decide) rfl (fun ls hl => ?_)
            refine lv_goto (tgt := 30) hx hb dX5_restore_58 (by decide) ?_
            exact ih30 (k + 1) (pz v' (va_up (vz v') k (vsl v (kt * 390 + k)))) (by omega) (by rw [hv]; refine congrArg (pz (recV v)) ?_; have := cpK_s (vz v) (fun k => vsl v (kt * 390 + k)) 0 k; rw [Nat.zero_add] at this; exact this) (by omega) _ _ hP hS _ hl
      exact lp30 (_ + 1) (0) (recV v) (by omega) (by rw [cpK_0]; rfl) (Nat.lt_succ_self _) _ _ hP hS _ hl
    · skip
      have hs0 : S.2.2.2.2.1 kt = 0 := by rw [← hR.2.2.2.2.2.2 kt hkt]; exact h_2
      refine lv_bipush (v := (-5 : Int32)) hx hb dX5_restore_21 (by decide) ?_
      refine k_iret hx hb hr hlocks (v) hP hS dX5_restore_23 ?_
      rw [ekt, show op_restore S (nI kt) = (-5, S) from (if_neg (fun q => q (kin_nI hkt (by decide)))).trans (if_pos (by rw [rgN_nI (by omega)]; exact hs0))]
      exact ⟨rfl, hR⟩
  · skip
    have hkt : ¬ (0 ≤ rt ∧ rt < 2) := fun q => of_decide_eq_false h_1 (in_2.mpr q)
    refine lv_bipush (v := (-2 : Int32)) hx hb dX5_restore_9 (by decide) ?_
    refine k_iret hx hb hr hlocks (v) hP hS dX5_restore_11 ?_
    rw [show op_restore S rt = (-2, S) from if_pos hkt]
    exact ⟨rfl, hR⟩
