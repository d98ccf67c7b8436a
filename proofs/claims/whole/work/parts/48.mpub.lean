set_option maxHeartbeats 4000000 in
set_option maxRecDepth 100000 in
theorem c_X5_number (l : Launch) (D : va_G) (cy : Nat → ClassId) (ad : Nat → Nat) (hI : wI 9 ad) (v : kV) (S : kSt) (ra : Int32) (rp : Int32) (hSI : kInv S) (hR : mRep S v) : kM l yX5_number wsX5_number ({ frames := 2, cells := 0, slots := 0, locals := 43 } : Room) D cy 9 ad (mW ad cy) (mW ad cy (v)) [.ref (ad (0)), .int (ra), .int (rp)] (fun o u => o = some (.int (op_number S ra rp).1) ∧ mRep (op_number S ra rp).2 u) := by
  refine k_met cX5_number 3 (some .int) (by decide) rfl (Nat.le_of_ble_eq_true rfl) ?_
  intro p e s m below meth c ls hx hb hr hts hown hlocks hml hK hP hS hl
  have hl : lv_has ls 3 [(0, .ref (ad (0))), (1, .int (ra)), (2, .int (rp))] := hl
  have hown : s.vm.findClass RX5 = some m.cls := hown
  have hM : mReg S.1 v := hR.reg hSI
  have hrow : ∀ j, j < 6 → rO (S.1 j) := hSI.1
  have hpm6 : vpm v ≤ 6 := by rw [hR.2.1.1]; exact hR.2.1.2
  have hplS : vty v = S.2.2.2.2.2.1 := hR.2.2.2.2.1
  have hty80 : vty v ≤ 80 := by rw [hplS]; exact hSI.2.2.2.2.2.1
  have hpdS : ∀ j, j < S.2.2.2.2.2.1 → vpd v j = S.2.2.2.2.2.2 j := hR.2.2.2.2.2.1
  have hpd : ∀ j, j < vty v → vpd v j < 127 := fun j hj => by rw [hpdS j (by omega)]; have := (hSI.2.2.2.2.2.2 j (by omega)).2; omega
  refine lv_iload_n hx hb dX5_number_0 rfl (lv_at hl 1 rfl) ?_
  refine k_callSr (rest := []) (nL := 3) ⟨hx, hb, hml, hown, hts⟩ (c_X5_isRegister l D cy ad hI v ra) (va_cwS 1 hts gX5_number_X5_isRegister rfl rfl rfl (by decide +kernel) ⟨Nat.le_of_ble_eq_true rfl, Nat.le_of_ble_eq_true rfl⟩) hK hP hS (fun _ h => h) rfl hl.1 rfl (Nat.le_of_ble_eq_true rfl) dX5_number_1 ⟨Nat.zero_le _, Nat.zero_le _⟩ (fun H locs hP hS => ?_)
  have hP : va_P D vwCl (wL 9 ad (mW ad cy (v))) H := hP
  refine b_ifeq (tgt := 22) hx hb dX5_number_4 (by decide) (fun h_1 => ?_) (fun h_1 => ?_)
  · skip
    have hjra : ¬ isR ra := of_decide_eq_false h_1
    refine lv_iconst (v := (-1 : Int32)) hx hb dX5_number_22 (by decide) ?_
    refine k_iret hx hb hr hlocks (v) hP hS dX5_number_23 ?_
    rw [show op_number S ra rp = (-1, S) from if_pos (Or.inl hjra)]
    exact ⟨rfl, hR⟩
  · skip
    obtain ⟨jra, hjra, ejra⟩ := (kreg_cases ra).resolve_left (fun q => q (of_decide_eq_true h_1))
    rw [ejra] at hl
    refine lv_iload_n hx hb dX5_number_7 rfl (lv_at hl 2 rfl) ?_
    refine lv_iconst (v := nI (0)) hx hb dX5_number_8 rfl ?_
    refine lv_aload_n hx hb dX5_number_9 rfl (lv_at hl 0 rfl) ?_
    refine lv_iload_n hx hb dX5_number_10 rfl (lv_at hl 1 rfl) ?_
    refine k_callVr (rest := [.int (nI (0)), .int (rp)]) (nL := 3) ⟨hx, hb, hml, hown, hts⟩ (c_X5_lengthOf l D cy ad hI v S.1 jra hM (by first | assumption | omega)) (cwV 1 hts gX5_number_X5_lengthOf rfl rfl rfl (by decide +kernel) ⟨Nat.le_of_ble_eq_true rfl, Nat.le_of_ble_eq_true rfl⟩) hK hP hS (fun _ h => h) (q0 := 0) (ci := 5) rfl (by decide) mW_obj rfl rfl rfl hl.1 rfl (Nat.le_of_ble_eq_true rfl) dX5_number_11 ⟨Nat.zero_le _, Nat.zero_le _⟩ (fun H locs hP hS => ?_)
    have hP : va_P D vwCl (wL 9 ad (mW ad cy (v))) H := hP
    refine lv_iconst (v := nI (1)) hx hb dX5_number_14 rfl ?_
    refine lv_isub hx hb dX5_number_15 ?_
    refine k_callSr (rest := []) (nL := 3) ⟨hx, hb, hml, hown, hts⟩ (c_X5_in l D cy ad hI v rp (nI (0)) (nI ((S.1 jra).1) - 1)) (va_cwS 3 hts gX5_number_X5_in rfl rfl rfl (by decide +kernel) ⟨Nat.le_of_ble_eq_true rfl, Nat.le_of_ble_eq_true rfl⟩) hK hP hS (fun _ h => h) rfl hl.1 rfl (Nat.le_of_ble_eq_true rfl) dX5_number_16 ⟨Nat.zero_le _, Nat.zero_le _⟩ (fun H locs hP hS => ?_)
    have hP : va_P D vwCl (wL 9 ad (mW ad cy (v))) H := hP
    refine b_ifne (tgt := 24) hx hb dX5_number_19 (by decide) (fun h_2 => ?_) (fun h_2 => ?_)
    · skip
      have hlj := (hrow jra hjra).2.1
      have hlj1 := (hrow jra hjra).1
      have hpI := (in_len hlj1 (by omega)).mp (of_decide_eq_true h_2)
      obtain ⟨kp, hkp, ekp⟩ := (kin_cases rp (S.1 jra).1 (by omega)).resolve_left (fun q => q hpI)
      rw [ekp] at hl
      refine lv_aload_n hx hb dX5_number_24 rfl (lv_at hl 0 rfl) ?_
      refine lv_iload_n hx hb dX5_number_25 rfl (lv_at hl 1 rfl) ?_
      refine lv_iload_n hx hb dX5_number_26 rfl (lv_at hl 2 rfl) ?_
      refine k_callVr (rest := []) (nL := 3) ⟨hx, hb, hml, hown, hts⟩ (c_X5_at l D cy ad hI v S.1 jra kp hM (by first | assumption | omega) (by first | assumption | omega)) (cwV 2 hts gX5_number_X5_at rfl rfl rfl (by decide +kernel) ⟨Nat.le_of_ble_eq_true rfl, Nat.le_of_ble_eq_true rfl⟩) hK hP hS (fun _ h => h) (q0 := 0) (ci := 5) rfl (by decide) mW_obj rfl rfl rfl hl.1 rfl (Nat.le_of_ble_eq_true rfl) dX5_number_27 ⟨Nat.zero_le _, Nat.zero_le _⟩ (fun H locs hP hS => ?_)
      have hP : va_P D vwCl (wL 9 ad (mW ad cy (v))) H := hP
      refine k_iret hx hb hr hlocks (v) hP hS dX5_number_30 ?_
      have hop : op_number S ra rp = (nI ((S.1 jra).2 kp), S) := by
        unfold op_number
        rw [ejra, ekp, rgN_nI (by omega), rgN_nI (by omega), if_neg]
        rintro (q | q)
        · exact q (isR_nI hjra)
        · exact q (kin_nI hkp (by omega))
      rw [hop]
      exact ⟨rfl, hR⟩
    · skip
      have hlj := (hrow jra hjra).2.1
      have hlj1 := (hrow jra hjra).1
      have hpN : ¬ (0 ≤ rp ∧ rp < nI (S.1 jra).1) := fun q => of_decide_eq_false h_2 ((in_len hlj1 (by omega)).mpr q)
      refine lv_iconst (v := (-1 : Int32)) hx hb dX5_number_22 (by decide) ?_
      refine k_iret hx hb hr hlocks (v) hP hS dX5_number_23 ?_
      rw [show op_number S ra rp = (-1, S) from if_pos (Or.inr (by rw [ejra, rgN_nI (by omega)]; exact hpN))]
      exact ⟨rfl, hR⟩
set_option maxHeartbeats 4000000 in
set_option maxRecDepth 100000 in
theorem c_X5_of (l : Launch) (D : va_G) (cy : Nat → ClassId) (ad : Nat → Nat) (hI : wI 9 ad) (v : kV) (S : kSt) (ra : Int32) (rwh : Int32) (hSI : kInv S) (hR : mRep S v) : kM l yX5_of wsX5_of ({ frames := 4, cells := 0, slots := 0, locals := 93 } : Room) D cy 9 ad (mW ad cy) (mW ad cy (v)) [.ref (ad (0)), .int (ra), .int (rwh)] (fun o u => o = some (.int (op_of S ra rwh).1) ∧ mRep (op_of S ra rwh).2 u) := by
  refine k_met cX5_of 3 (some .int) (by decide) rfl (Nat.le_of_ble_eq_true rfl) ?_
  intro p e s m below meth c ls hx hb hr hts hown hlocks hml hK hP hS hl
  have hl : lv_has ls 3 [(0, .ref (ad (0))), (1, .int (ra)), (2, .int (rwh))] := hl
  have hown : s.vm.findClass RX5 = some m.cls := hown
  have hM : mReg S.1 v := hR.reg hSI
  have hrow : ∀ j, j < 6 → rO (S.1 j) := hSI.1
  have hpm6 : vpm v ≤ 6 := by rw [hR.2.1.1]; exact hR.2.1.2
  have hplS : vty v = S.2.2.2.2.2.1 := hR.2.2.2.2.1
  have hty80 : vty v ≤ 80 := by rw [hplS]; exact hSI.2.2.2.2.2.1
  have hpdS : ∀ j, j < S.2.2.2.2.2.1 → vpd v j = S.2.2.2.2.2.2 j := hR.2.2.2.2.2.1
  have hpd : ∀ j, j < vty v → vpd v j < 127 := fun j hj => by rw [hpdS j (by omega)]; have := (hSI.2.2.2.2.2.2 j (by omega)).2; omega
  refine lv_iload_n hx hb dX5_of_0 rfl (lv_at hl 1 rfl) ?_
  refine k_callSr (rest := []) (nL := 3) ⟨hx, hb, hml, hown, hts⟩ (c_X5_isRegister l D cy ad hI v ra) (va_cwS 1 hts gX5_of_X5_isRegister rfl rfl rfl (by decide +kernel) ⟨Nat.le_of_ble_eq_true rfl, Nat.le_of_ble_eq_true rfl⟩) hK hP hS (fun _ h => h) rfl hl.1 rfl (Nat.le_of_ble_eq_true rfl) dX5_of_1 ⟨Nat.zero_le _, Nat.zero_le _⟩ (fun H locs hP hS => ?_)
  have hP : va_P D vwCl (wL 9 ad (mW ad cy (v))) H := hP
  refine b_ifne (tgt := 9) hx hb dX5_of_4 (by decide) (fun h_1 => ?_) (fun h_1 => ?_)
  · skip
    obtain ⟨jra, hjra, ejra⟩ := (kreg_cases ra).resolve_left (fun q => q (of_decide_eq_true h_1))
    rw [ejra] at hl
    refine lv_iload_n hx hb dX5_of_9 rfl (lv_at hl 2 rfl) ?_
    rcases ksw_cases rwh 6 (by decide) with hsw | ⟨qsw, hqsw, esw⟩
    · skip
      refine lv_tableOut (tgt := 86) hx hb dX5_of_10 (ksw_out (n := 6) hsw (by decide) (by decide)) (by decide) ?_
      refine lv_bipush (v := (-2 : Int32)) hx hb dX5_of_86 (by decide) ?_
      refine k_iret hx hb hr hlocks (v) hP hS dX5_of_88 ?_
      rw [ejra, op_of_x hjra, if_neg (show ¬ rwh = 0 from ksw_ne hsw 0 (by decide)), if_neg (show ¬ rwh = 1 from ksw_ne hsw 1 (by decide)), if_neg (show ¬ rwh = 2 from ksw_ne hsw 2 (by decide)), if_neg (show ¬ rwh = 3 from ksw_ne hsw 3 (by decide)), if_neg (show ¬ rwh = 4 from ksw_ne hsw 4 (by decide)), if_neg (show ¬ rwh = 5 from ksw_ne hsw 5 (by decide))]
      exact ⟨rfl, hR⟩
    · skip
      rcases (show qsw = 0 ∨ qsw = 1 ∨ qsw = 2 ∨ qsw = 3 ∨ qsw = 4 ∨ qsw = 5 by omega) with rfl | rfl | rfl | rfl | rfl | rfl
      · skip
        rw [esw] at hl
        refine n_push esw ?_
        refine lv_tableIn (off := 38) (tgt := 48) hx hb dX5_of_10 (by decide) (by decide) (by decide) (by decide) ?_
        refine lv_aload_n hx hb dX5_of_48 rfl (lv_at hl 0 rfl) ?_
        refine lv_iload_n hx hb dX5_of_49 rfl (lv_at hl 1 rfl) ?_
        refine k_callVr (rest := []) (nL := 3) ⟨hx, hb, hml, hown, hts⟩ (c_X5_lengthOf l D cy ad hI v S.1 jra hM (by first | assumption | omega)) (cwV 1 hts gX5_of_X5_lengthOf rfl rfl rfl (by decide +kernel) ⟨Nat.le_of_ble_eq_true rfl, Nat.le_of_ble_eq_true rfl⟩) hK hP hS (fun _ h => h) (q0 := 0) (ci := 5) rfl (by decide) mW_obj rfl rfl rfl hl.1 rfl (Nat.le_of_ble_eq_true rfl) dX5_of_50 ⟨Nat.zero_le _, Nat.zero_le _⟩ (fun H locs hP hS => ?_)
        have hP : va_P D vwCl (wL 9 ad (mW ad cy (v))) H := hP
        refine k_iret hx hb hr hlocks (v) hP hS dX5_of_53 ?_
        rw [ejra, esw, op_of_x hjra, if_pos (by decide)]
        exact ⟨rfl, hR⟩
      · skip
        rw [esw] at hl
        refine n_push esw ?_
        refine lv_tableIn (off := 44) (tgt := 54) hx hb dX5_of_10 (by decide) (by decide) (by decide) (by decide) ?_
        refine lv_aload_n hx hb dX5_of_54 rfl (lv_at hl 0 rfl) ?_
        refine lv_iload_n hx hb dX5_of_55 rfl (lv_at hl 1 rfl) ?_
        refine k_callVr (rest := []) (nL := 3) ⟨hx, hb, hml, hown, hts⟩ (c_X5_degreeOf l D cy ad hI v S.1 jra hM (by first | assumption | omega)) (cwV 1 hts gX5_of_X5_degreeOf rfl rfl rfl (by decide +kernel) ⟨Nat.le_of_ble_eq_true rfl, Nat.le_of_ble_eq_true rfl⟩) hK hP hS (fun _ h => h) (q0 := 0) (ci := 5) rfl (by decide) mW_obj rfl rfl rfl hl.1 rfl (Nat.le_of_ble_eq_true rfl) dX5_of_56 ⟨Nat.zero_le _, Nat.zero_le _⟩ (fun H locs hP hS => ?_)
        have hP : va_P D vwCl (wL 9 ad (mW ad cy (v))) H := hP
        refine k_iret hx hb hr hlocks (v) hP hS dX5_of_59 ?_
        rw [ejra, esw, op_of_x hjra, if_neg (by decide), if_pos (by decide)]
        exact ⟨rfl, hR⟩
      · skip
        rw [esw] at hl
        refine n_push esw ?_
        refine lv_tableIn (off := 50) (tgt := 60) hx hb dX5_of_10 (by decide) (by decide) (by decide) (by decide) ?_
        refine lv_aload_n hx hb dX5_of_60 rfl (lv_at hl 0 rfl) ?_
        refine lv_iload_n hx hb dX5_of_61 rfl (lv_at hl 1 rfl) ?_
        refine k_callVr (rest := []) (nL := 3) ⟨hx, hb, hml, hown, hts⟩ (c_X5_notNought l D cy ad hI v S.1 jra hM (by first | assumption | omega)) (cwV 1 hts gX5_of_X5_notNought rfl rfl rfl (by decide +kernel) ⟨Nat.le_of_ble_eq_true rfl, Nat.le_of_ble_eq_true rfl⟩) hK hP hS (fun _ h => h) (q0 := 0) (ci := 5) rfl (by decide) mW_obj rfl rfl rfl hl.1 rfl (Nat.le_of_ble_eq_true rfl) dX5_of_62 ⟨Nat.zero_le _, Nat.zero_le _⟩ (fun H locs hP hS => ?_)
        have hP : va_P D vwCl (wL 9 ad (mW ad cy (v))) H := hP
        refine k_iret hx hb hr hlocks (v) hP hS dX5_of_65 ?_
        rw [ejra, esw, op_of_x hjra, if_neg (by decide), if_neg (by decide), if_pos (by decide)]
        exact ⟨rfl, hR⟩
      · skip
        rw [esw] at hl
        refine n_push esw ?_
        refine lv_tableIn (off := 56) (tgt := 66) hx hb dX5_of_10 (by decide) (by decide) (by decide) (by decide) ?_
        refine lv_aload_n hx hb dX5_of_66 rfl (lv_at hl 0 rfl) ?_
        refine lv_iload_n hx hb dX5_of_67 rfl (lv_at hl 1 rfl) ?_
        refine k_callVr (rest := []) (nL := 3) ⟨hx, hb, hml, hown, hts⟩ (c_X5_sumOf l D cy ad hI v S.1 jra hM (by first | assumption | omega)) (cwV 1 hts gX5_of_X5_sumOf rfl rfl rfl (by decide +kernel) ⟨Nat.le_of_ble_eq_true rfl, Nat.le_of_ble_eq_true rfl⟩) hK hP hS (fun _ h => h) (q0 := 0) (ci := 5) rfl (by decide) mW_obj rfl rfl rfl hl.1 rfl (Nat.le_of_ble_eq_true rfl) dX5_of_68 ⟨Nat.zero_le _, Nat.zero_le _⟩ (fun H locs hP hS => ?_)
        have hP : va_P D vwCl (wL 9 ad (mW ad cy (v))) H := hP
        refine k_iret hx hb hr hlocks (v) hP hS dX5_of_71 ?_
        rw [ejra, esw, op_of_x hjra, if_neg (by decide), if_neg (by decide), if_neg (by decide), if_pos (by decide)]
        exact ⟨rfl, hR⟩
      · skip
        rw [esw] at hl
        refine n_push esw ?_
        refine lv_tableIn (off := 62) (tgt := 72) hx hb dX5_of_10 (by decide) (by decide) (by decide) (by decide) ?_
        refine lv_aload_n hx hb dX5_of_72 rfl (lv_at hl 0 rfl) ?_
        refine lv_iload_n hx hb dX5_of_73 rfl (lv_at hl 1 rfl) ?_
        refine lv_iconst (v := nI (0)) hx hb dX5_of_74 rfl ?_
        refine k_callVr (rest := []) (nL := 3) ⟨hx, hb, hml, hown, hts⟩ (c_X5_noughts_0 l D cy ad hI v S.1 jra hM (by first | assumption | omega)) (cwV 2 hts gX5_of_X5_noughts rfl rfl rfl (by decide +kernel) ⟨Nat.le_of_ble_eq_true rfl, Nat.le_of_ble_eq_true rfl⟩) hK hP hS (fun _ h => h) (q0 := 0) (ci := 5) rfl (by decide) mW_obj rfl rfl rfl hl.1 rfl (Nat.le_of_ble_eq_true rfl) dX5_of_75 ⟨Nat.zero_le _, Nat.zero_le _⟩ (fun H locs hP hS => ?_)
        have hP : va_P D vwCl (wL 9 ad (mW ad cy (v))) H := hP
        refine k_iret hx hb hr hlocks (v) hP hS dX5_of_78 ?_
        rw [ejra, esw, op_of_x hjra, if_neg (by decide), if_neg (by decide), if_neg (by decide), if_neg (by decide), if_pos (by decide)]
        exact ⟨rfl, hR⟩
      · skip
        rw [esw] at hl
        refine n_push esw ?_
        refine lv_tableIn (off := 69) (tgt := 79) hx hb dX5_of_10 (by decide) (by decide) (by decide) (by decide) ?_
        refine lv_aload_n hx hb dX5_of_79 rfl (lv_at hl 0 rfl) ?_
        refine lv_iload_n hx hb dX5_of_80 rfl (lv_at hl 1 rfl) ?_
        refine lv_iconst (v := nI (1)) hx hb dX5_of_81 rfl ?_
        refine k_callVr (rest := []) (nL := 3) ⟨hx, hb, hml, hown, hts⟩ (c_X5_noughts_1 l D cy ad hI v S.1 jra hM (by first | assumption | omega)) (cwV 2 hts gX5_of_X5_noughts rfl rfl rfl (by decide +kernel) ⟨Nat.le_of_ble_eq_true rfl, Nat.le_of_ble_eq_true rfl⟩) hK hP hS (fun _ h => h) (q0 := 0) (ci := 5) rfl (by decide) mW_obj rfl rfl rfl hl.1 rfl (Nat.le_of_ble_eq_true rfl) dX5_of_82 ⟨Nat.zero_le _, Nat.zero_le _⟩ (fun H locs hP hS => ?_)
        have hP : va_P D vwCl (wL 9 ad (mW ad cy (v))) H := hP
        refine k_iret hx hb hr hlocks (v) hP hS dX5_of_85 ?_
        rw [ejra, esw, op_of_x hjra, if_neg (by decide), if_neg (by decide), if_neg (by decide), if_neg (by decide), if_neg (by decide), if_pos (by decide)]
        exact ⟨rfl, hR⟩
  · skip
    have hjra : ¬ isR ra := of_decide_eq_false h_1
    refine lv_iconst (v := (-1 : Int32)) hx hb dX5_of_7 (by decide) ?_
    refine k_iret hx hb hr hlocks (v) hP hS dX5_of_8 ?_
    rw [show op_of S ra rwh = (-1, S) from if_pos hjra]
    exact ⟨rfl, hR⟩
set_option maxHeartbeats 4000000 in
set_option maxRecDepth 100000 in
theorem c_X5_value (l : Launch) (D : va_G) (cy : Nat → ClassId) (ad : Nat → Nat) (hI : wI 9 ad) (v : kV) (S : kSt) (ra : Int32) (rz : Int32) (hSI : kInv S) (hR : mRep S v) : kM l yX5_value wsX5_value ({ frames := 3, cells := 0, slots := 0, locals := 67 } : Room) D cy 9 ad (mW ad cy) (mW ad cy (v)) [.ref (ad (0)), .int (ra), .int (rz)] (fun o u => o = some (.int (op_value S ra rz).1) ∧ mRep (op_value S ra rz).2 u) := by
  refine k_met cX5_value 3 (some .int) (by decide) rfl (Nat.le_of_ble_eq_true rfl) ?_
  intro p e s m below meth c ls hx hb hr hts hown hlocks hml hK hP hS hl
  have hl : lv_has ls 3 [(0, .ref (ad (0))), (1, .int (ra)), (2, .int (rz))] := hl
  have hown : s.vm.findClass RX5 = some m.cls := hown
  have hM : mReg S.1 v := hR.reg hSI
  have hrow : ∀ j, j < 6 → rO (S.1 j) := hSI.1
  have hpm6 : vpm v ≤ 6 := by rw [hR.2.1.1]; exact hR.2.1.2
  have hplS : vty v = S.2.2.2.2.2.1 := hR.2.2.2.2.1
  have hty80 : vty v ≤ 80 := by rw [hplS]; exact hSI.2.2.2.2.2.1
  have hpdS : ∀ j, j < S.2.2.2.2.2.1 → vpd v j = S.2.2.2.2.2.2 j := hR.2.2.2.2.2.1
  have hpd : ∀ j, j < vty v → vpd v j < 127 := fun j hj => by rw [hpdS j (by omega)]; have := (hSI.2.2.2.2.2.2 j (by omega)).2; omega
  refine lv_iload_n hx hb dX5_value_0 rfl (lv_at hl 1 rfl) ?_
  refine k_callSr (rest := []) (nL := 3) ⟨hx, hb, hml, hown, hts⟩ (c_X5_isRegister l D cy ad hI v ra) (va_cwS 1 hts gX5_value_X5_isRegister rfl rfl rfl (by decide +kernel) ⟨Nat.le_of_ble_eq_true rfl, Nat.le_of_ble_eq_true rfl⟩) hK hP hS (fun _ h => h) rfl hl.1 rfl (Nat.le_of_ble_eq_true rfl) dX5_value_1 ⟨Nat.zero_le _, Nat.zero_le _⟩ (fun H locs hP hS => ?_)
  have hP : va_P D vwCl (wL 9 ad (mW ad cy (v))) H := hP
  refine b_ifne (tgt := 9) hx hb dX5_value_4 (by decide) (fun h_1 => ?_) (fun h_1 => ?_)
  · skip
    obtain ⟨jra, hjra, ejra⟩ := (kreg_cases ra).resolve_left (fun q => q (of_decide_eq_true h_1))
    rw [ejra] at hl
    refine lv_iload_n hx hb dX5_value_9 rfl (lv_at hl 2 rfl) ?_
    refine k_callSr (rest := []) (nL := 3) ⟨hx, hb, hml, hown, hts⟩ (c_X5_isNumber l D cy ad hI v rz) (va_cwS 1 hts gX5_value_X5_isNumber rfl rfl rfl (by decide +kernel) ⟨Nat.le_of_ble_eq_true rfl, Nat.le_of_ble_eq_true rfl⟩) hK hP hS (fun _ h => h) rfl hl.1 rfl (Nat.le_of_ble_eq_true rfl) dX5_value_10 ⟨Nat.zero_le _, Nat.zero_le _⟩ (fun H locs hP hS => ?_)
    have hP : va_P D vwCl (wL 9 ad (mW ad cy (v))) H := hP
    refine b_ifeq (tgt := 25) hx hb dX5_value_13 (by decide) (fun h_2 => ?_) (fun h_2 => ?_)
    · skip
      have hnrz : ¬ isN rz := of_decide_eq_false h_2
      refine lv_bipush (v := (-2 : Int32)) hx hb dX5_value_25 (by decide) ?_
      refine k_iret hx hb hr hlocks (v) hP hS dX5_value_27 ?_
      rw [ejra, op_value_x hjra, if_pos hnrz]
      exact ⟨rfl, hR⟩
    · skip
      obtain ⟨krz, hkrz, ekrz⟩ : ∃ k : Nat, k < 257 ∧ rz = nI k := (kin_cases rz 257 (by decide)).resolve_left (fun q => q (of_decide_eq_true h_2))
      rw [ekrz] at hl
      refine lv_aload_n hx hb dX5_value_16 rfl (lv_at hl 0 rfl) ?_
      refine lv_iload_n hx hb dX5_value_17 rfl (lv_at hl 1 rfl) ?_
      refine lv_iload_n hx hb dX5_value_18 rfl (lv_at hl 2 rfl) ?_
      refine k_callVr (rest := []) (nL := 3) ⟨hx, hb, hml, hown, hts⟩ (c_X5_valueAt l D cy ad hI v S.1 jra krz hM (by first | assumption | omega) (by first | assumption | omega)) (cwV 2 hts gX5_value_X5_valueAt rfl rfl rfl (by decide +kernel) ⟨Nat.le_of_ble_eq_true rfl, Nat.le_of_ble_eq_true rfl⟩) hK hP hS (fun _ h => h) (q0 := 0) (ci := 5) rfl (by decide) mW_obj rfl rfl rfl hl.1 rfl (Nat.le_of_ble_eq_true rfl) dX5_value_19 ⟨Nat.zero_le _, Nat.zero_le _⟩ (fun H locs hP hS => ?_)
      have hP : va_P D vwCl (wL 9 ad (mW ad cy (v))) H := hP
      refine lv_goto (tgt := 27) hx hb dX5_value_22 (by decide) ?_
      refine k_iret hx hb hr hlocks (v) hP hS dX5_value_27 ?_
      rw [ejra, ekrz, op_value_x hjra, if_neg (fun q => q (isN_nI hkrz)), rgN_nI (by omega)]
      exact ⟨rfl, hR⟩
  · skip
    have hjra : ¬ isR ra := of_decide_eq_false h_1
    refine lv_iconst (v := (-1 : Int32)) hx hb dX5_value_7 (by decide) ?_
    refine k_iret hx hb hr hlocks (v) hP hS dX5_value_8 ?_
    rw [show op_value S ra rz = (-1, S) from if_pos hjra]
    exact ⟨rfl, hR⟩
set_option maxHeartbeats 4000000 in
set_option maxRecDepth 100000 in
theorem c_X5_count (l : Launch) (D : va_G) (cy : Nat → ClassId) (ad : Nat → Nat) (hI : wI 9 ad) (v : kV) (S : kSt) (rwh : Int32) (hSI : kInv S) (hR : mRep S v) : kM l yX5_count wsX5_count ({ frames := 2, cells := 0, slots := 0, locals := 43 } : Room) D cy 9 ad (mW ad cy) (mW ad cy (v)) [.ref (ad (0)), .int (rwh)] (fun o u => o = some (.int (op_count S rwh).1) ∧ mRep (op_count S rwh).2 u) := by
  refine k_met cX5_count 2 (some .int) (by decide) rfl (Nat.le_of_ble_eq_true rfl) ?_
  intro p e s m below meth c ls hx hb hr hts hown hlocks hml hK hP hS hl
  have hl : lv_has ls 2 [(0, .ref (ad (0))), (1, .int (rwh))] := hl
  have hown : s.vm.findClass RX5 = some m.cls := hown
  have hf_44 := hts (.fieldLink RX5 44 "TurnedRowsModel" "pastMany" "I") (by decide +kernel)
  have hf_124 := hts (.fieldLink RX5 124 "TurnedRowsModel" "typed" "I") (by decide +kernel)
  have hw_X5 : ∀ qw ∈ wsX50, qw.before ([.ref (ad (0)), .int (rwh)] : List Value).toArray s = true := fun qw h => hts qw ((by decide +kernel : ∀ qw ∈ wsX50, qw ∈ wsX5_count) qw h)
  have hM : mReg S.1 v := hR.reg hSI
  have hrow : ∀ j, j < 6 → rO (S.1 j) := hSI.1
  have hpm6 : vpm v ≤ 6 := by rw [hR.2.1.1]; exact hR.2.1.2
  have hplS : vty v = S.2.2.2.2.2.1 := hR.2.2.2.2.1
  have hty80 : vty v ≤ 80 := by rw [hplS]; exact hSI.2.2.2.2.2.1
  have hpdS : ∀ j, j < S.2.2.2.2.2.1 → vpd v j = S.2.2.2.2.2.2 j := hR.2.2.2.2.2.1
  have hpd : ∀ j, j < vty v → vpd v j < 127 := fun j hj => by rw [hpdS j (by omega)]; have := (hSI.2.2.2.2.2.2 j (by omega)).2; omega
  refine lv_iload_n hx hb dX5_count_0 rfl (lv_at hl 1 rfl) ?_
  rcases ksw_cases rwh 3 (by decide) with hsw | ⟨qsw, hqsw, esw⟩
  · skip
    refine lv_tableOut (tgt := 43) hx hb dX5_count_1 (ksw_out (n := 3) hsw (by decide) (by decide)) (by decide) ?_
    refine lv_bipush (v := (-2 : Int32)) hx hb dX5_count_43 (by decide) ?_
    refine k_iret hx hb hr hlocks (v) hP hS dX5_count_45 ?_
    unfold op_count
    rw [if_neg (show ¬ rwh = 0 from ksw_ne hsw 0 (by decide)), if_neg (show ¬ rwh = 1 from ksw_ne hsw 1 (by decide)), if_neg (show ¬ rwh = 2 from ksw_ne hsw 2 (by decide))]
    exact ⟨rfl, hR⟩
  · skip
    rcases (show qsw = 0 ∨ qsw = 1 ∨ qsw = 2 by omega) with rfl | rfl | rfl
    · skip
      rw [esw] at hl
      refine n_push esw ?_
      refine lv_tableIn (off := 27) (tgt := 28) hx hb dX5_count_1 (by decide) (by decide) (by decide) (by decide) ?_
      refine lv_aload_n hx hb dX5_count_28 rfl (lv_at hl 0 rfl) ?_
      refine k_callVr (rest := []) (nL := 2) ⟨hx, hb, hml, hown, hts⟩ (c_X5_lengths l D cy ad hI v S.1 hM) (cwV 0 hts gX5_count_X5_lengths rfl rfl rfl (by decide +kernel) ⟨Nat.le_of_ble_eq_true rfl, Nat.le_of_ble_eq_true rfl⟩) hK hP hS (fun _ h => h) (q0 := 0) (ci := 5) rfl (by decide) mW_obj rfl rfl rfl hl.1 rfl (Nat.le_of_ble_eq_true rfl) dX5_count_29 ⟨Nat.zero_le _, Nat.zero_le _⟩ (fun H locs hP hS => ?_)
      have hP : va_P D vwCl (wL 9 ad (mW ad cy (v))) H := hP
      refine k_iret hx hb hr hlocks (v) hP hS dX5_count_32 ?_
      rw [esw, show op_count S (nI 0) = (nI (ln6 S.1 0), S) from if_pos (by decide)]
      exact ⟨rfl, hR⟩
    · skip
      rw [esw] at hl
      refine n_push esw ?_
      refine lv_tableIn (off := 32) (tgt := 33) hx hb dX5_count_1 (by decide) (by decide) (by decide) (by decide) ?_
      refine lv_aload_n hx hb dX5_count_33 rfl (lv_at hl 0 rfl) ?_
      refine k_get (q0 := 0) (k := 6) (T := TX5) (Nf := 11) (ci := 5) (C := RX5) (v := .int (nI (vty v))) hx hb hw_X5 hown hK hP (by decide) mW_obj rfl (by decide) hf_124 rfl rfl dX5_count_34 ?_
      refine k_iret hx hb hr hlocks (v) hP hS dX5_count_37 ?_
      rw [esw, show op_count S (nI 1) = (nI S.2.2.2.2.2.1, S) from rfl, ← hplS]
      exact ⟨rfl, hR⟩
    · skip
      rw [esw] at hl
      refine n_push esw ?_
      refine lv_tableIn (off := 37) (tgt := 38) hx hb dX5_count_1 (by decide) (by decide) (by decide) (by decide) ?_
      refine lv_aload_n hx hb dX5_count_38 rfl (lv_at hl 0 rfl) ?_
      refine k_get (q0 := 0) (k := 4) (T := TX5) (Nf := 11) (ci := 5) (C := RX5) (v := .int (nI (vpm v))) hx hb hw_X5 hown hK hP (by decide) mW_obj rfl (by decide) hf_44 rfl rfl dX5_count_39 ?_
      refine k_iret hx hb hr hlocks (v) hP hS dX5_count_42 ?_
      rw [esw, show op_count S (nI 2) = (nI S.2.2.1, S) from rfl, ← show vpm v = S.2.2.1 from hR.2.1.1]
      exact ⟨rfl, hR⟩
set_option maxHeartbeats 4000000 in
set_option maxRecDepth 100000 in
theorem c_X5_wipe (l : Launch) (D : va_G) (cy : Nat → ClassId) (ad : Nat → Nat) (hI : wI 9 ad) (v : kV) (S : kSt) (hSI : kInv S) (hR : mRep S v) : kM l yX5_wipe wsX5_wipe ({ frames := 0, cells := 0, slots := 0, locals := 0 } : Room) D cy 9 ad (mW ad cy) (mW ad cy (v)) [.ref (ad (0))] (fun o u => o = some (.int (op_wipe S).1) ∧ mRep (op_wipe S).2 u) := by
  refine k_met cX5_wipe 2 (some .int) (by decide) rfl (Nat.le_of_ble_eq_true rfl) ?_
  intro p e s m below meth c ls hx hb hr hts hown hlocks hml hK hP hS hl
  have hl : lv_has ls 2 [(0, .ref (ad (0)))] := hl
  have hown : s.vm.findClass RX5 = some m.cls := hown
  have hf_124 := hts (.fieldLink RX5 124 "TurnedRowsModel" "typed" "I") (by decide +kernel)
  have hw_X5 : ∀ qw ∈ wsX50, qw.before ([.ref (ad (0))] : List Value).toArray s = true := fun qw h => hts qw ((by decide +kernel : ∀ qw ∈ wsX50, qw ∈ wsX5_wipe) qw h)
  have hM : mReg S.1 v := hR.reg hSI
  have hrow : ∀ j, j < 6 → rO (S.1 j) := hSI.1
  have hpm6 : vpm v ≤ 6 := by rw [hR.2.1.1]; exact hR.2.1.2
  have hplS : vty v = S.2.2.2.2.2.1 := hR.2.2.2.2.1
  have hty80 : vty v ≤ 80 := by rw [hplS]; exact hSI.2.2.2.2.2.1
  have hpdS : ∀ j, j < S.2.2.2.2.2.1 → vpd v j = S.2.2.2.2.2.2 j := hR.2.2.2.2.2.1
  have hpd : ∀ j, j < vty v → vpd v j < 127 := fun j hj => by rw [hpdS j (by omega)]; have := (hSI.2.2.2.2.2.2 j (by omega)).2; omega
  refine lv_aload_n hx hb dX5_wipe_0 rfl (lv_at hl 0 rfl) ?_
  refine k_get (q0 := 0) (k := 6) (T := TX5) (Nf := 11) (ci := 5) (C := RX5) (v := .int (nI (vty v))) hx hb hw_X5 hown hK hP (by decide) mW_obj rfl (by decide) hf_124 rfl rfl dX5_wipe_1 ?_
  refine lv_istore_n (lv' := [(1, .int (nI (vty v))), (0, .ref (ad (0)))]) hx hb dX5_wipe_4 rfl hl (by decide) rfl (fun ls hl => ?_)
  refine lv_aload_n hx hb dX5_wipe_5 rfl (lv_at hl 1 rfl) ?_
  refine lv_iconst (v := nI (0)) hx hb dX5_wipe_6 rfl ?_
  refine k_put (q0 := 0) (k := 6) (T := TX5) (Nf := 11) (ci := 5) (C := RX5) (v := .int (nI (0))) (Wd' := mW ad cy (pty v 0)) hx hb hw_X5 tyX5 tyX5_ok nmX5 hown hK hI hP hS (by decide) mW_obj rfl (by decide) hf_124 rfl rfl (ty := .int) (by decide +kernel) rfl rfl (Nat.le_of_ble_eq_true rfl) mW_up_ty dX5_wipe_7 (fun H locs hP hS => ?_)
  refine lv_iload_n hx hb dX5_wipe_10 rfl (lv_at hl 0 rfl) ?_
  refine k_iret hx hb hr hlocks (pty v 0) hP hS dX5_wipe_11 ?_
  rw [show op_wipe S = (nI S.2.2.2.2.2.1, padS S 0 S.2.2.2.2.2.2) from rfl, ← hplS]
  exact ⟨rfl, mRep_pad hR rfl rfl rfl rfl rfl rfl (fun j hj => absurd hj (Nat.not_lt_zero _))⟩
set_option maxHeartbeats 4000000 in
set_option maxRecDepth 100000 in
theorem c_X5_save (l : Launch) (D : va_G) (cy : Nat → ClassId) (ad : Nat → Nat) (hI : wI 9 ad) (v : kV) (S : kSt) (rt : Int32) (hSI : kInv S) (hR : mRep S v) : kM l yX5_save wsX5_save ({ frames := 2, cells := 0, slots := 0, locals := 43 } : Room) D cy 9 ad (mW ad cy) (mW ad cy (v)) [.ref (ad (0)), .int (rt)] (fun o u => o = some (.int (op_save S rt).1) ∧ mRep (op_save S rt).2 u) := by
  refine k_met cX5_save 3 (some .int) (by decide) rfl (Nat.le_of_ble_eq_true rfl) ?_
  intro p e s m below meth c ls hx hb hr hts hown hlocks hml hK hP hS hl
  have hl : lv_has ls 3 [(0, .ref (ad (0))), (1, .int (rt))] := hl
  have hown : s.vm.findClass RX5 = some m.cls := hown
  have hf_7 := hts (.fieldLink RX5 7 "TurnedRowsModel" "z" "[I") (by decide +kernel)
  have hf_16 := hts (.fieldLink RX5 16 "TurnedRowsModel" "slots" "[I") (by decide +kernel)
  have hf_19 := hts (.fieldLink RX5 19 "TurnedRowsModel" "isSaved" "[Z") (by decide +kernel)
  have hw_X5 : ∀ qw ∈ wsX50, qw.before ([.ref (ad (0)), .int (rt)] : List Value).toArray s = true := fun qw h => hts qw ((by decide +kernel : ∀ qw ∈ wsX50, qw ∈ wsX5_save) qw h)
  have hM : mReg S.1 v := hR.reg hSI
  have hrow : ∀ j, j < 6 → rO (S.1 j) := hSI.1
  have hpm6 : vpm v ≤ 6 := by rw [hR.2.1.1]; exact hR.2.1.2
  have hplS : vty v = S.2.2.2.2.2.1 := hR.2.2.2.2.1
  have hty80 : vty v ≤ 80 := by rw [hplS]; exact hSI.2.2.2.2.2.1
  have hpdS : ∀ j, j < S.2.2.2.2.2.1 → vpd v j = S.2.2.2.2.2.2 j := hR.2.2.2.2.2.1
  have hpd : ∀ j, j < vty v → vpd v j < 127 := fun j hj => by rw [hpdS j (by omega)]; have := (hSI.2.2.2.2.2.2 j (by omega)).2; omega
  refine lv_iload_n hx hb dX5_save_0 rfl (lv_at hl 1 rfl) ?_
  refine lv_iconst (v := nI (0)) hx hb dX5_save_1 rfl ?_
  refine lv_iconst (v := nI (1)) hx hb dX5_save_2 rfl ?_
  refine k_callSr (rest := []) (nL := 3) ⟨hx, hb, hml, hown, hts⟩ (c_X5_in l D cy ad hI v rt (nI (0)) (nI (1))) (va_cwS 3 hts gX5_save_X5_in rfl rfl rfl (by decide +kernel) ⟨Nat.le_of_ble_eq_true rfl, Nat.le_of_ble_eq_true rfl⟩) hK hP hS (fun _ h => h) rfl hl.1 rfl (Nat.le_of_ble_eq_true rfl) dX5_save_3 ⟨Nat.zero_le _, Nat.zero_le _⟩ (fun H locs hP hS => ?_)
  have hP : va_P D vwCl (wL 9 ad (mW ad cy (v))) H := hP
  refine b_ifne (tgt := 12) hx hb dX5_save_6 (by decide) (fun h_1 => ?_) (fun h_1 => ?_)
  · skip
    obtain ⟨kt, hkt, ekt⟩ := (kin_cases rt 2 (by decide)).resolve_left (fun q => q (in_2.mp (of_decide_eq_true h_1)))
    rw [ekt] at hl
    refine lv_aload_n hx hb dX5_save_12 rfl (lv_at hl 0 rfl) ?_
    refine k_get (q0 := 0) (k := 3) (T := TX5) (Nf := 11) (ci := 5) (C := RX5) (v := .ref (ad (4))) hx hb hw_X5 hown hK hP (by decide) mW_obj rfl (by decide) hf_19 rfl rfl dX5_save_13 ?_
    refine lv_iload_n hx hb dX5_save_16 rfl (lv_at hl 1 rfl) ?_
    refine lv_iconst (v := nI (1)) hx hb dX5_save_17 rfl ?_
    refine k_zast (q0 := 4) (j := kt) (v := nI (1)) (Wd' := mW ad cy (psv v (va_up (vsv v) kt 1))) hx hb hK hI hP hS (by decide) mW_sv (by decide) (by omega) (by rfl) mW_up_sv dX5_save_18 (fun H locs hP hS => ?_)
    refine lv_iconst (v := nI (0)) hx hb dX5_save_19 rfl ?_
    refine lv_istore_n (lv' := [(2, .int (nI (0))), (0, .ref (ad (0))), (1, .int (nI (kt)))]) hx hb dX5_save_20 rfl hl (by decide) rfl (fun ls hl => ?_)
    have lp21 : ∀ (fu : Nat) (k : Nat) (v' : kV), (k ≤ 390) → (v' = psl (psv v (va_up (vsv v) kt 1)) (cpK (vsl v) (vz v) (kt * 390) k)) → 390 - k < fu → ∀ (H : Heap) (locs : List Loc), va_P D vwCl (wL 9 ad (mW ad cy (v'))) H → va_S (wA 9 ad) s.heap H locs → ∀ (ls : Array Slot), lv_has ls 3 [(2, .int (nI (k))), (0, .ref (ad (0))), (1, .int (nI (kt)))] → W p l e ({ frames := 2, cells := 0, slots := 0, locals := 43 } : Room) s m ([.ref (ad (0)), .int (rt)] : List Value).toArray below meth c H locs 0 0 (MQ below (kQ D 9 ad (mW ad cy) (fun o u => o = some (.int (op_save S rt).1) ∧ mRep (op_save S rt).2 u)) ([.ref (ad (0)), .int (rt)] : List Value).toArray s 0 0 (wA 9 ad)) (F0 m 21 ls []) := by
      intro fu
      induction fu with
      | zero => intro k v' hk hv hfu; exact absurd hfu (Nat.not_lt_zero _)
      | succ fu ih21 =>
        intro k v' hk hv hfu H locs hP hS ls hl
        refine lv_iload_n hx hb dX5_save_21 rfl (lv_at hl 0 rfl) ?_
        refine lv_sipush (v := nI (390)) hx hb dX5_save_22 rfl ?_
        refine n_icmp_ge (tgt := 52) hx hb (by omega) (by omega) dX5_save_25 (by decide) (fun h_2 => ?_) (fun h_2 => ?_)
        · skip
          refine lv_aload_n hx hb dX5_save_52 rfl (lv_at hl 1 rfl) ?_
          refine k_callVr (rest := []) (nL := 3) ⟨hx, hb, hml, hown, hts⟩ (c_X5_lengths l D cy ad hI v' S.1 (by rw [hv]; exact hM)) (cwV 0 hts gX5_save_X5_lengths rfl rfl rfl (by decide +kernel) ⟨Nat.le_of_ble_eq_true rfl, Nat.le_of_ble_eq_true rfl⟩) hK hP hS (fun _ h => h) (q0 := 0) (ci := 5) rfl (by decide) mW_obj rfl rfl rfl hl.1 rfl (Nat.le_of_ble_eq_true rfl) dX5_save_53 ⟨Nat.zero_le _, Nat.zero_le _⟩ (fun H locs hP hS => ?_)
          have hP : va_P D vwCl (wL 9 ad (mW ad cy (v'))) H := hP
          refine k_iret hx hb hr hlocks (v') hP hS dX5_save_56 ?_
          rw [ekt, show op_save S (nI kt) = (nI (ln6 S.1 0), (S.1, S.2.1, S.2.2.1, va_up S.2.2.2.1 (rgN (nI kt)) S.1, va_up S.2.2.2.2.1 (rgN (nI kt)) 1, S.2.2.2.2.2)) from if_neg (fun q => q (kin_nI hkt (by decide))), rgN_nI (by omega), hv, show k = 390 by omega]
          exact ⟨rfl, mRep_save hR hkt⟩
        · skip
          refine lv_aload_n hx hb dX5_save_28 rfl (lv_at hl 1 rfl) ?_
          refine k_get (q0 := 0) (k := 2) (T := TX5) (Nf := 11) (ci := 5) (C := RX5) (v := .ref (ad (3))) hx hb hw_X5 hown hK hP (by decide) mW_obj rfl (by decide) hf_16 rfl rfl dX5_save_29 ?_
          refine lv_iload_n hx hb dX5_save_32 rfl (lv_at hl 2 rfl) ?_
          refine lv_sipush (v := nI (390)) hx hb dX5_save_33 rfl ?_
          refine n_imul hx hb dX5_save_36 ?_
          refine lv_iload_n hx hb dX5_save_37 rfl (lv_at hl 0 rfl) ?_
          refine n_iadd hx hb dX5_save_38 ?_
          refine lv_aload_n hx hb dX5_save_39 rfl (lv_at hl 1 rfl) ?_
          refine k_get (q0 := 0) (k := 0) (T := TX5) (Nf := 11) (ci := 5) (C := RX5) (v := .ref (ad (1))) hx hb hw_X5 hown hK hP (by decide) mW_obj rfl (by decide) hf_7 rfl rfl dX5_save_40 ?_
          refine lv_iload_n hx hb dX5_save_43 rfl (lv_at hl 0 rfl) ?_
          refine k_iald (q0 := 1) (j := k) hx hb hK hP (by decide) mW_z (by decide) (by omega) dX5_save_44 ?_
          refine n_same (a := vz v' k) rfl ?_
          refine n_push (a := vz v k) (by rw [hv]; rfl) ?_
          refine k_iast (q0 := 3) (j := (kt * 390) + k) (v := nI (vz v k)) (Wd' := mW ad cy (psl v' (va_up (vsl v') ((kt * 390) + k) (vz v k)))) hx hb hK hI hP hS (by decide) mW_sl (by decide) (by omega) mW_up_sl dX5_save_45 (fun H locs hP hS => ?_)
          refine lv_iinc (v := nI (k + 1)) (lv' := [(2, .int (nI (k + 1))), (0, .ref (ad (0))), (1, .int (nI (kt)))]) hx hb dX5_save_46 hl (k := 0) rfl (nI_inc _) (by decide) rfl (fun ls hl => ?_)
          refine lv_goto (tgt := 21) hx hb dX5_save_49 (by decide) ?_
          exact ih21 (k + 1) (psl v' (va_up (vsl v') ((kt * 390) + k) (vz v k))) (by omega) (by rw [hv]; exact congrArg (psl (psv v (va_up (vsv v) kt 1))) (cpK_s _ _ _ _)) (by omega) _ _ hP hS _ hl
    exact lp21 (_ + 1) (0) (psv v (va_up (vsv v) kt 1)) (by omega) (by rw [cpK_0]; rfl) (Nat.lt_succ_self _) _ _ hP hS _ hl
  · skip
    have hkt : ¬ (0 ≤ rt ∧ rt < 2) := fun q => of_decide_eq_false h_1 (in_2.mpr q)
    refine lv_bipush (v := (-2 : Int32)) hx hb dX5_save_9 (by decide) ?_
    refine k_iret hx hb hr hlocks (v) hP hS dX5_save_11 ?_
    rw [show op_save S rt = (-2, S) from if_pos hkt]
    exact ⟨rfl, hR⟩
set_option maxHeartbeats 4000000 in
set_option maxRecDepth 100000 in
theorem c_X5_undo (l : Launch) (D : va_G) (cy : Nat → ClassId) (ad : Nat → Nat) (hI : wI 9 ad) (v : kV) (S : kSt) (hSI : kInv S) (hR : mRep S v) : kM l yX5_undo wsX5_undo ({ frames := 0, cells := 0, slots := 0, locals := 0 } : Room) D cy 9 ad (mW ad cy) (mW ad cy (v)) [.ref (ad (0))] (fun o u => o = some (.int (op_undo S).1) ∧ mRep (op_undo S).2 u) := by
  refine k_met cX5_undo 2 (some .int) (by decide) rfl (Nat.le_of_ble_eq_true rfl) ?_
  intro p e s m below meth c ls hx hb hr hts hown hlocks hml hK hP hS hl
  have hl : lv_has ls 2 [(0, .ref (ad (0)))] := hl
  have hown : s.vm.findClass RX5 = some m.cls := hown
  have hf_7 := hts (.fieldLink RX5 7 "TurnedRowsModel" "z" "[I") (by decide +kernel)
  have hf_13 := hts (.fieldLink RX5 13 "TurnedRowsModel" "past" "[I") (by decide +kernel)
  have hf_44 := hts (.fieldLink RX5 44 "TurnedRowsModel" "pastMany" "I") (by decide +kernel)
  have hw_X5 : ∀ qw ∈ wsX50, qw.before ([.ref (ad (0))] : List Value).toArray s = true := fun qw h => hts qw ((by decide +kernel : ∀ qw ∈ wsX50, qw ∈ wsX5_undo) qw h)
  have hM : mReg S.1 v := hR.reg hSI
  have hrow : ∀ j, j < 6 → rO (S.1 j) := hSI.1
  have hpm6 : vpm v ≤ 6 := by rw [hR.2.1.1]; exact hR.2.1.2
  have hplS : vty v = S.2.2.2.2.2.1 := hR.2.2.2.2.1
  have hty80 : vty v ≤ 80 := by rw [hplS]; exact hSI.2.2.2.2.2.1
  have hpdS : ∀ j, j < S.2.2.2.2.2.1 → vpd v j = S.2.2.2.2.2.2 j := hR.2.2.2.2.2.1
  have hpd : ∀ j, j < vty v → vpd v j < 127 := fun j hj => by rw [hpdS j (by omega)]; have := (hSI.2.2.2.2.2.2 j (by omega)).2; omega
  refine lv_aload_n hx hb dX5_undo_0 rfl (lv_at hl 0 rfl) ?_
  refine k_get (q0 := 0) (k := 4) (T := TX5) (Nf := 11) (ci := 5) (C := RX5) (v := .int (nI (vpm v))) hx hb hw_X5 hown hK hP (by decide) mW_obj rfl (by decide) hf_44 rfl rfl dX5_undo_1 ?_
  refine n_ifne (tgt := 10) hx hb (by omega) dX5_undo_4 (by decide) (fun h_1 => ?_) (fun h_1 => ?_)
  · skip
    have hz := h_1
    refine lv_aload_n hx hb dX5_undo_10 rfl (lv_at hl 0 rfl) ?_
    refine lv_dup hx hb dX5_undo_11 rfl ?_
    refine k_get (q0 := 0) (k := 4) (T := TX5) (Nf := 11) (ci := 5) (C := RX5) (v := .int (nI (vpm v))) hx hb hw_X5 hown hK hP (by decide) mW_obj rfl (by decide) hf_44 rfl rfl dX5_undo_12 ?_
    refine lv_iconst (v := nI (1)) hx hb dX5_undo_15 rfl ?_
    refine n_isub hx hb (by omega) dX5_undo_16 ?_
    refine k_put (q0 := 0) (k := 4) (T := TX5) (Nf := 11) (ci := 5) (C := RX5) (v := .int (nI ((vpm v) - 1))) (Wd' := mW ad cy (ppm v ((vpm v) - 1))) hx hb hw_X5 tyX5 tyX5_ok nmX5 hown hK hI hP hS (by decide) mW_obj rfl (by decide) hf_44 rfl rfl (ty := .int) (by decide +kernel) rfl rfl (Nat.le_of_ble_eq_true rfl) mW_up_pm dX5_undo_17 (fun H locs hP hS => ?_)
    refine lv_iconst (v := nI (0)) hx hb dX5_undo_20 rfl ?_
    refine lv_istore_n (lv' := [(1, .int (nI (0))), (0, .ref (ad (0)))]) hx hb dX5_undo_21 rfl hl (by decide) rfl (fun ls hl => ?_)
    have lp22 : ∀ (fu : Nat) (k : Nat) (v' : kV), (k ≤ 390) → (vpm v ≠ 0) → (v' = pz (ppm v (vpm v - 1)) (cpK (vz v) (fun k => vpa v ((vpm v - 1) * 390 + k)) 0 k)) → 390 - k < fu → ∀ (H : Heap) (locs : List Loc), va_P D vwCl (wL 9 ad (mW ad cy (v'))) H → va_S (wA 9 ad) s.heap H locs → ∀ (ls : Array Slot), lv_has ls 2 [(1, .int (nI (k))), (0, .ref (ad (0)))] → W p l e ({ frames := 0, cells := 0, slots := 0, locals := 0 } : Room) s m ([.ref (ad (0))] : List Value).toArray below meth c H locs 0 0 (MQ below (kQ D 9 ad (mW ad cy) (fun o u => o = some (.int (op_undo S).1) ∧ mRep (op_undo S).2 u)) ([.ref (ad (0))] : List Value).toArray s 0 0 (wA 9 ad)) (F0 m 22 ls []) := by
      intro fu
      induction fu with
      | zero => intro k v' hk hz9 hv hfu; exact absurd hfu (Nat.not_lt_zero _)
      | succ fu ih22 =>
        intro k v' hk hz9 hv hfu H locs hP hS ls hl
        have hpm9 : vpm v' = vpm v - 1 := by rw [hv]; rfl
        refine lv_iload_n hx hb dX5_undo_22 rfl (lv_at hl 0 rfl) ?_
        refine lv_sipush (v := nI (390)) hx hb dX5_undo_23 rfl ?_
        refine n_icmp_ge (tgt := 56) hx hb (by omega) (by omega) dX5_undo_26 (by decide) (fun h_2 => ?_) (fun h_2 => ?_)
        · skip
          refine lv_aload_n hx hb dX5_undo_56 rfl (lv_at hl 1 rfl) ?_
          refine k_get (q0 := 0) (k := 4) (T := TX5) (Nf := 11) (ci := 5) (C := RX5) (v := .int (nI (vpm v'))) hx hb hw_X5 hown hK hP (by decide) mW_obj rfl (by decide) hf_44 rfl rfl dX5_undo_57 ?_
          refine n_push (a := vpm v - 1) (by rw [hv]; rfl) ?_
          refine k_iret hx hb hr hlocks (v') hP hS dX5_undo_60 ?_
          rw [show op_undo S = (nI (S.2.2.1 - 1), (S.2.1 (S.2.2.1 - 1), S.2.1, S.2.2.1 - 1, S.2.2.2)) from if_neg (by rw [← hR.2.1.1]; exact hz9), ← hR.2.1.1, hv, show k = 390 by omega]
          exact ⟨rfl, by have := mRep_undo hR (by rw [← hR.2.1.1]; exact hz9); rw [← hR.2.1.1] at this; exact this⟩
        · skip
          refine lv_aload_n hx hb dX5_undo_29 rfl (lv_at hl 1 rfl) ?_
          refine k_get (q0 := 0) (k := 0) (T := TX5) (Nf := 11) (ci := 5) (C := RX5) (v := .ref (ad (1))) hx hb hw_X5 hown hK hP (by decide) mW_obj rfl (by decide) hf_7 rfl rfl dX5_undo_30 ?_
          refine lv_iload_n hx hb dX5_undo_33 rfl (lv_at hl 0 rfl) ?_
          refine lv_aload_n hx hb dX5_undo_34 rfl (lv_at hl 1 rfl) ?_
          refine k_get (q0 := 0) (k := 1) (T := TX5) (Nf := 11) (ci := 5) (C := RX5) (v := .ref (ad (2))) hx hb hw_X5 hown hK hP (by decide) mW_obj rfl (by decide) hf_13 rfl rfl dX5_undo_35 ?_
          refine lv_aload_n hx hb dX5_undo_38 rfl (lv_at hl 1 rfl) ?_
          refine k_get (q0 := 0) (k := 4) (T := TX5) (Nf := 11) (ci := 5) (C := RX5) (v := .int (nI (vpm v'))) hx hb hw_X5 hown hK hP (by decide) mW_obj rfl (by decide) hf_44 rfl rfl dX5_undo_39 ?_
          refine lv_sipush (v := nI (390)) hx hb dX5_undo_42 rfl ?_
          refine n_imul hx hb dX5_undo_45 ?_
          refine lv_iload_n hx hb dX5_undo_46 rfl (lv_at hl 0 rfl) ?_
          refine n_iadd hx hb dX5_undo_47 ?_
          refine k_iald (q0 := 2) (j := ((vpm v') * 390) + k) hx hb hK hP (by decide) mW_pa (by decide) (by omega) dX5_undo_48 ?_
          refine n_same (a := vpa v' (((vpm v') * 390) + k)) rfl ?_
          refine n_push (a := vpa v ((vpm v - 1) * 390 + k)) (by rw [hv]; rfl) ?_
          refine k_iast (q0 := 1) (j := k) (v := nI (vpa v ((vpm v - 1) * 390 + k))) (Wd' := mW ad cy (pz v' (va_up (vz v') k (vpa v ((vpm v - 1) * 390 + k))))) hx hb hK hI hP hS (by decide) mW_z (by decide) (by omega) mW_up_z dX5_undo_49 (fun H locs hP hS => ?_)
          refine lv_iinc (v := nI (k + 1)) (lv' := [(1, .int (nI (k + 1))), (0, .ref (ad (0)))]) hx hb dX5_undo_50 hl (k := 0) rfl (nI_inc _) (by decide) rfl (fun ls hl => ?_)
          refine lv_goto (tgt := 22) hx hb dX5_undo_53 (by decide) ?_
          exact ih22 (k + 1) (pz v' (va_up (vz v') k (vpa v ((vpm v - 1) * 390 + k)))) (by omega) hz9 (by rw [hv]; refine congrArg (pz (ppm v (vpm v - 1))) ?_; have := cpK_s (vz v) (fun k => vpa v ((vpm v - 1) * 390 + k)) 0 k; rw [Nat.zero_add] at this; exact this) (by omega) _ _ hP hS _ hl
    exact lp22 (_ + 1) (0) (ppm v ((vpm v) - 1)) (by omega) (by omega) (by rw [cpK_0]; rfl) (Nat.lt_succ_self _) _ _ hP hS _ hl
  · skip
    have hz := h_1
    refine lv_bipush (v := (-5 : Int32)) hx hb dX5_undo_7 (by decide) ?_
    refine k_iret hx hb hr hlocks (v) hP hS dX5_undo_9 ?_
    rw [show op_undo S = (-5, S) from if_pos (by rw [← hR.2.1.1]; exact hz)]
    exact ⟨rfl, hR⟩
