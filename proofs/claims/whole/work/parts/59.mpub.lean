set_option maxHeartbeats 4000000 in
set_option maxRecDepth 100000 in
theorem c_X5_lengthOf_z (l : Launch) (D : va_G) (cy : Nat → ClassId) (ad : Nat → Nat) (hI : wI 9 ad) (v : kV) (r : Nat) (n : Nat) (hr6 : r < 6) (hn : vz v (65 * r) = n) : kM l yX5_lengthOf wsX5_lengthOf ({ frames := 0, cells := 0, slots := 0, locals := 0 } : Room) D cy 9 ad (mW ad cy) (mW ad cy (v)) [.ref (ad (0)), .int (nI (r))] (kF (some (.int (nI (n)))) (v)) := by
  refine k_met cX5_lengthOf 2 (some .int) (by decide) rfl (Nat.le_of_ble_eq_true rfl) ?_
  intro p e s m below meth c ls hx hb hr hts hown hlocks hml hK hP hS hl
  have hl : lv_has ls 2 [(0, .ref (ad (0))), (1, .int (nI (r)))] := hl
  have hown : s.vm.findClass RX5 = some m.cls := hown
  have hf_7 := hts (.fieldLink RX5 7 "TurnedRowsModel" "z" "[I") (by decide +kernel)
  have hw_X5 : ∀ qw ∈ wsX50, qw.before ([.ref (ad (0)), .int (nI (r))] : List Value).toArray s = true := fun qw h => hts qw ((by decide +kernel : ∀ qw ∈ wsX50, qw ∈ wsX5_lengthOf) qw h)
  refine lv_aload_n hx hb dX5_lengthOf_0 rfl (lv_at hl 0 rfl) ?_
  refine k_get (q0 := 0) (k := 0) (T := TX5) (Nf := 11) (ci := 5) (C := RX5) (v := .ref (ad (1))) hx hb hw_X5 hown hK hP (by decide) mW_obj rfl (by decide) hf_7 rfl rfl dX5_lengthOf_1 ?_
  refine lv_bipush (v := nI (65)) hx hb dX5_lengthOf_4 rfl ?_
  refine lv_iload_n hx hb dX5_lengthOf_6 rfl (lv_at hl 1 rfl) ?_
  refine n_imul hx hb dX5_lengthOf_7 ?_
  refine k_iald (q0 := 1) (j := 65 * r) hx hb hK hP (by decide) mW_z (by decide) (by omega) dX5_lengthOf_8 ?_
  refine n_same (a := vz v (65 * r)) rfl ?_
  refine k_iret hx hb hr hlocks (v) hP hS dX5_lengthOf_9 ?_
  exact ⟨rN hn, rfl⟩
set_option maxHeartbeats 4000000 in
set_option maxRecDepth 100000 in
theorem c_X5_set (l : Launch) (D : va_G) (cy : Nat → ClassId) (ad : Nat → Nat) (hI : wI 9 ad) (v : kV) (S : kSt) (ra : Int32) (rp : Int32) (rz : Int32) (hSI : kInv S) (hR : mRep S v) : kM l yX5_set wsX5_set ({ frames := 2, cells := 0, slots := 0, locals := 42 } : Room) D cy 9 ad (mW ad cy) (mW ad cy (v)) [.ref (ad (0)), .int (ra), .int (rp), .int (rz)] (fun o u => o = some (.int (op_set S ra rp rz).1) ∧ mRep (op_set S ra rp rz).2 u) := by
  refine k_met cX5_set 4 (some .int) (by decide) rfl (Nat.le_of_ble_eq_true rfl) ?_
  intro p e s m below meth c ls hx hb hr hts hown hlocks hml hK hP hS hl
  have hl : lv_has ls 4 [(0, .ref (ad (0))), (1, .int (ra)), (2, .int (rp)), (3, .int (rz))] := hl
  have hown : s.vm.findClass RX5 = some m.cls := hown
  have hf_7 := hts (.fieldLink RX5 7 "TurnedRowsModel" "z" "[I") (by decide +kernel)
  have hw_X5 : ∀ qw ∈ wsX50, qw.before ([.ref (ad (0)), .int (ra), .int (rp), .int (rz)] : List Value).toArray s = true := fun qw h => hts qw ((by decide +kernel : ∀ qw ∈ wsX50, qw ∈ wsX5_set) qw h)
  have hM : mReg S.1 v := hR.reg hSI
  have hrow : ∀ j, j < 6 → rO (S.1 j) := hSI.1
  have hpm6 : vpm v ≤ 6 := by rw [hR.2.1.1]; exact hR.2.1.2
  have hplS : vty v = S.2.2.2.2.2.1 := hR.2.2.2.2.1
  have hty80 : vty v ≤ 80 := by rw [hplS]; exact hSI.2.2.2.2.2.1
  have hpdS : ∀ j, j < S.2.2.2.2.2.1 → vpd v j = S.2.2.2.2.2.2 j := hR.2.2.2.2.2.1
  have hpd : ∀ j, j < vty v → vpd v j < 127 := fun j hj => by rw [hpdS j (by omega)]; have := (hSI.2.2.2.2.2.2 j (by omega)).2; omega
  refine lv_iload_n hx hb dX5_set_0 rfl (lv_at hl 1 rfl) ?_
  refine k_callSr (rest := []) (nL := 4) ⟨hx, hb, hml, hown, hts⟩ (c_X5_isRegister l D cy ad hI v ra) (va_cwS 1 hts gX5_set_X5_isRegister rfl rfl rfl (by decide +kernel) ⟨Nat.le_of_ble_eq_true rfl, Nat.le_of_ble_eq_true rfl⟩) hK hP hS (fun _ h => h) rfl hl.1 rfl (Nat.le_of_ble_eq_true rfl) dX5_set_1 ⟨Nat.zero_le _, Nat.zero_le _⟩ (fun H locs hP hS => ?_)
  have hP : va_P D vwCl (wL 9 ad (mW ad cy (v))) H := hP
  refine b_ifeq (tgt := 20) hx hb dX5_set_4 (by decide) (fun h_1 => ?_) (fun h_1 => ?_)
  · skip
    have hjra : ¬ isR ra := of_decide_eq_false h_1
    refine lv_iconst (v := (-1 : Int32)) hx hb dX5_set_20 (by decide) ?_
    refine k_iret hx hb hr hlocks (v) hP hS dX5_set_21 ?_
    rw [show op_set S ra rp rz = (-1, S) from if_pos (Or.inl hjra)]
    exact ⟨rfl, hR⟩
  · skip
    obtain ⟨jra, hjra, ejra⟩ := (kreg_cases ra).resolve_left (fun q => q (of_decide_eq_true h_1))
    rw [ejra] at hl
    refine lv_iload_n hx hb dX5_set_7 rfl (lv_at hl 2 rfl) ?_
    refine lv_iconst (v := nI (0)) hx hb dX5_set_8 rfl ?_
    refine lv_aload_n hx hb dX5_set_9 rfl (lv_at hl 0 rfl) ?_
    refine lv_iload_n hx hb dX5_set_10 rfl (lv_at hl 1 rfl) ?_
    refine k_callVr (rest := [.int (nI (0)), .int (rp)]) (nL := 4) ⟨hx, hb, hml, hown, hts⟩ (c_X5_lengthOf l D cy ad hI v S.1 jra hM (by first | assumption | omega)) (cwV 1 hts gX5_set_X5_lengthOf rfl rfl rfl (by decide +kernel) ⟨Nat.le_of_ble_eq_true rfl, Nat.le_of_ble_eq_true rfl⟩) hK hP hS (fun _ h => h) (q0 := 0) (ci := 5) rfl (by decide) mW_obj rfl rfl rfl hl.1 rfl (Nat.le_of_ble_eq_true rfl) dX5_set_11 ⟨Nat.zero_le _, Nat.zero_le _⟩ (fun H locs hP hS => ?_)
    have hP : va_P D vwCl (wL 9 ad (mW ad cy (v))) H := hP
    refine k_callSr (rest := []) (nL := 4) ⟨hx, hb, hml, hown, hts⟩ (c_X5_in l D cy ad hI v rp (nI (0)) (nI ((S.1 jra).1))) (va_cwS 3 hts gX5_set_X5_in rfl rfl rfl (by decide +kernel) ⟨Nat.le_of_ble_eq_true rfl, Nat.le_of_ble_eq_true rfl⟩) hK hP hS (fun _ h => h) rfl hl.1 rfl (Nat.le_of_ble_eq_true rfl) dX5_set_14 ⟨Nat.zero_le _, Nat.zero_le _⟩ (fun H locs hP hS => ?_)
    have hP : va_P D vwCl (wL 9 ad (mW ad cy (v))) H := hP
    refine b_ifne (tgt := 22) hx hb dX5_set_17 (by decide) (fun h_2 => ?_) (fun h_2 => ?_)
    · skip
      have hoa := hrow jra hjra
      have hla := hoa.2.1
      have hla1 := hoa.1
      obtain ⟨kp, hkp, ekp⟩ := (le_cases rp (S.1 jra).1 (by omega)).resolve_left (fun q => q (of_decide_eq_true h_2))
      rw [ekp] at hl
      refine lv_iload_n hx hb dX5_set_22 rfl (lv_at hl 3 rfl) ?_
      refine k_callSr (rest := []) (nL := 4) ⟨hx, hb, hml, hown, hts⟩ (c_X5_isNumber l D cy ad hI v rz) (va_cwS 1 hts gX5_set_X5_isNumber rfl rfl rfl (by decide +kernel) ⟨Nat.le_of_ble_eq_true rfl, Nat.le_of_ble_eq_true rfl⟩) hK hP hS (fun _ h => h) rfl hl.1 rfl (Nat.le_of_ble_eq_true rfl) dX5_set_23 ⟨Nat.zero_le _, Nat.zero_le _⟩ (fun H locs hP hS => ?_)
      have hP : va_P D vwCl (wL 9 ad (mW ad cy (v))) H := hP
      refine b_ifne (tgt := 32) hx hb dX5_set_26 (by decide) (fun h_3 => ?_) (fun h_3 => ?_)
      · skip
        obtain ⟨krz, hkrz, ekrz⟩ : ∃ k : Nat, k < 257 ∧ rz = nI k := (kin_cases rz 257 (by decide)).resolve_left (fun q => q (of_decide_eq_true h_3))
        rw [ekrz] at hl
        refine lv_iload_n hx hb dX5_set_32 rfl (lv_at hl 2 rfl) ?_
        refine lv_bipush (v := nI (64)) hx hb dX5_set_33 rfl ?_
        refine n_icmp_ne (tgt := 41) hx hb (by omega) (by omega) dX5_set_35 (by decide) (fun h_4 => ?_) (fun h_4 => ?_)
        · skip
          have hp64 := h_4
          refine lv_aload_n hx hb dX5_set_41 rfl (lv_at hl 0 rfl) ?_
          refine k_callVv (rest := []) (nL := 4) ⟨hx, hb, hml, hown, hts⟩ (c_X5_record l D cy ad hI v (by first | assumption | omega)) (cwV 0 hts gX5_set_X5_record rfl rfl rfl (by decide +kernel) ⟨Nat.le_of_ble_eq_true rfl, Nat.le_of_ble_eq_true rfl⟩) hK hP hS (fun _ h => h) (q0 := 0) (ci := 5) rfl (by decide) mW_obj rfl rfl rfl hl.1 rfl (Nat.le_of_ble_eq_true rfl) dX5_set_42 ⟨Nat.zero_le _, Nat.zero_le _⟩ (fun H locs hP hS => ?_)
          have hP : va_P D vwCl (wL 9 ad (mW ad cy (recV v))) H := hP
          refine lv_aload_n hx hb dX5_set_45 rfl (lv_at hl 0 rfl) ?_
          refine k_get (q0 := 0) (k := 0) (T := TX5) (Nf := 11) (ci := 5) (C := RX5) (v := .ref (ad (1))) hx hb hw_X5 hown hK hP (by decide) mW_obj rfl (by decide) hf_7 rfl rfl dX5_set_46 ?_
          refine lv_bipush (v := nI (65)) hx hb dX5_set_49 rfl ?_
          refine lv_iload_n hx hb dX5_set_51 rfl (lv_at hl 1 rfl) ?_
          refine n_imul hx hb dX5_set_52 ?_
          refine lv_iconst (v := nI (1)) hx hb dX5_set_53 rfl ?_
          refine n_iadd hx hb dX5_set_54 ?_
          refine lv_iload_n hx hb dX5_set_55 rfl (lv_at hl 2 rfl) ?_
          refine n_iadd hx hb dX5_set_56 ?_
          refine lv_iload_n hx hb dX5_set_57 rfl (lv_at hl 3 rfl) ?_
          refine k_iast (q0 := 1) (j := ((65 * jra) + 1) + kp) (v := nI (krz)) (Wd' := mW ad cy (pz (recV v) (va_up (vz (recV v)) (((65 * jra) + 1) + kp) krz))) hx hb hK hI hP hS (by decide) mW_z (by decide) (by omega) mW_up_z dX5_set_58 (fun H locs hP hS => ?_)
          refine lv_aload_n hx hb dX5_set_59 rfl (lv_at hl 0 rfl) ?_
          refine k_get (q0 := 0) (k := 0) (T := TX5) (Nf := 11) (ci := 5) (C := RX5) (v := .ref (ad (1))) hx hb hw_X5 hown hK hP (by decide) mW_obj rfl (by decide) hf_7 rfl rfl dX5_set_60 ?_
          refine lv_bipush (v := nI (65)) hx hb dX5_set_63 rfl ?_
          refine lv_iload_n hx hb dX5_set_65 rfl (lv_at hl 1 rfl) ?_
          refine n_imul hx hb dX5_set_66 ?_
          refine lv_dup2_11 hx hb dX5_set_67 rfl rfl ?_
          refine k_iald (q0 := 1) (j := 65 * jra) hx hb hK hP (by decide) mW_z (by decide) (by omega) dX5_set_68 ?_
          refine n_same (a := vz (pz (recV v) (va_up (vz (recV v)) (((65 * jra) + 1) + kp) krz)) (65 * jra)) rfl ?_
          refine n_push (a := (S.1 jra).1) (congrArg nI ((va_up_ne _ _ (by omega)).trans (hR.1 jra hjra).1)) ?_
          refine lv_iload_n hx hb dX5_set_69 rfl (lv_at hl 2 rfl) ?_
          refine lv_aload_n hx hb dX5_set_70 rfl (lv_at hl 0 rfl) ?_
          refine lv_iload_n hx hb dX5_set_71 rfl (lv_at hl 1 rfl) ?_
          refine k_callVr (rest := [.int (nI (kp)), .int (nI ((S.1 jra).1)), .int (nI (65 * jra)), .ref (ad (1))]) (nL := 4) ⟨hx, hb, hml, hown, hts⟩ (c_X5_lengthOf_z l D cy ad hI (pz (recV v) (va_up (vz (recV v)) (((65 * jra) + 1) + kp) krz)) jra ((S.1 jra).1) (by first | assumption | omega) ((va_up_ne _ _ (by omega)).trans (hR.1 jra hjra).1)) (cwV 1 hts gX5_set_X5_lengthOf rfl rfl rfl (by decide +kernel) ⟨Nat.le_of_ble_eq_true rfl, Nat.le_of_ble_eq_true rfl⟩) hK hP hS (fun _ h => h) (q0 := 0) (ci := 5) rfl (by decide) mW_obj rfl rfl rfl hl.1 rfl (Nat.le_of_ble_eq_true rfl) dX5_set_72 ⟨Nat.zero_le _, Nat.zero_le _⟩ (fun H locs hP hS => ?_)
          have hP : va_P D vwCl (wL 9 ad (mW ad cy (pz (recV v) (va_up (vz (recV v)) (((65 * jra) + 1) + kp) krz)))) H := hP
          refine n_icmp_ne (tgt := 82) hx hb (by omega) (by omega) dX5_set_75 (by decide) (fun h_5 => ?_) (fun h_5 => ?_)
          · skip
            have hpl := h_5
            refine lv_iconst (v := nI (0)) hx hb dX5_set_82 rfl ?_
            refine n_iadd hx hb dX5_set_83 ?_
            refine n_push (a := (S.1 jra).1) (congrArg nI (Nat.add_zero _)) ?_
            refine k_iast (q0 := 1) (j := 65 * jra) (v := nI ((S.1 jra).1)) (Wd' := mW ad cy (pz (pz (recV v) (va_up (vz (recV v)) (((65 * jra) + 1) + kp) krz)) (va_up (vz (pz (recV v) (va_up (vz (recV v)) (((65 * jra) + 1) + kp) krz))) (65 * jra) ((S.1 jra).1)))) hx hb hK hI hP hS (by decide) mW_z (by decide) (by omega) mW_up_z dX5_set_84 (fun H locs hP hS => ?_)
            refine lv_aload_n hx hb dX5_set_85 rfl (lv_at hl 0 rfl) ?_
            refine lv_iload_n hx hb dX5_set_86 rfl (lv_at hl 1 rfl) ?_
            refine k_callVr (rest := []) (nL := 4) ⟨hx, hb, hml, hown, hts⟩ (c_X5_lengthOf_z l D cy ad hI (pz (pz (recV v) (va_up (vz (recV v)) (((65 * jra) + 1) + kp) krz)) (va_up (vz (pz (recV v) (va_up (vz (recV v)) (((65 * jra) + 1) + kp) krz))) (65 * jra) ((S.1 jra).1))) jra (max (S.1 jra).1 (kp + 1)) (by first | assumption | omega) ((va_up_self _ _ _).trans (by omega))) (cwV 1 hts gX5_set_X5_lengthOf rfl rfl rfl (by decide +kernel) ⟨Nat.le_of_ble_eq_true rfl, Nat.le_of_ble_eq_true rfl⟩) hK hP hS (fun _ h => h) (q0 := 0) (ci := 5) rfl (by decide) mW_obj rfl rfl rfl hl.1 rfl (Nat.le_of_ble_eq_true rfl) dX5_set_87 ⟨Nat.zero_le _, Nat.zero_le _⟩ (fun H locs hP hS => ?_)
            have hP : va_P D vwCl (wL 9 ad (mW ad cy (pz (pz (recV v) (va_up (vz (recV v)) (((65 * jra) + 1) + kp) krz)) (va_up (vz (pz (recV v) (va_up (vz (recV v)) (((65 * jra) + 1) + kp) krz))) (65 * jra) ((S.1 jra).1))))) H := hP
            have hop : op_set S ra rp rz = (nI (setR (S.1 jra) kp krz).1, chgS S jra (setR (S.1 jra) kp krz)) := by
              unfold op_set
              rw [ejra, ekp, ekrz, rgN_nI (by omega), rgN_nI (by omega), rgN_nI (by omega), if_neg (by rintro (q | q); exact q (isR_nI hjra); exact q (kin0_nI hkp (by omega))), if_neg (fun q => q (isN_nI hkrz)), if_neg (show ¬ nI kp = (64 : Int32) from fun q => hp64 (m_inj (by omega) (by decide) q))]
            refine k_iret hx hb hr hlocks (pz (pz (recV v) (va_up (vz (recV v)) (((65 * jra) + 1) + kp) krz)) (va_up (vz (pz (recV v) (va_up (vz (recV v)) (((65 * jra) + 1) + kp) krz))) (65 * jra) ((S.1 jra).1))) hP hS dX5_set_90 ?_
            rw [hop]
            obtain ⟨s1, s2, s3⟩ := set_z (p := kp) (x := krz) (n := (S.1 jra).1) (hR.1 jra hjra).1 (hR.1 jra hjra).2 (by omega)
            exact ⟨rfl, mRep_set (mRep_rec hR) (fun i hi => s1 i hi (by omega)) s2 s3 rfl rfl rfl rfl rfl rfl⟩
          · skip
            have hpl := h_5
            refine lv_iconst (v := nI (1)) hx hb dX5_set_78 rfl ?_
            refine lv_goto (tgt := 83) hx hb dX5_set_79 (by decide) ?_
            refine n_iadd hx hb dX5_set_83 ?_
            refine n_push (a := (S.1 jra).1 + 1) rfl ?_
            refine k_iast (q0 := 1) (j := 65 * jra) (v := nI ((S.1 jra).1 + 1)) (Wd' := mW ad cy (pz (pz (recV v) (va_up (vz (recV v)) (((65 * jra) + 1) + kp) krz)) (va_up (vz (pz (recV v) (va_up (vz (recV v)) (((65 * jra) + 1) + kp) krz))) (65 * jra) ((S.1 jra).1 + 1)))) hx hb hK hI hP hS (by decide) mW_z (by decide) (by omega) mW_up_z dX5_set_84 (fun H locs hP hS => ?_)
            refine lv_aload_n hx hb dX5_set_85 rfl (lv_at hl 0 rfl) ?_
            refine lv_iload_n hx hb dX5_set_86 rfl (lv_at hl 1 rfl) ?_
            refine k_callVr (rest := []) (nL := 4) ⟨hx, hb, hml, hown, hts⟩ (c_X5_lengthOf_z l D cy ad hI (pz (pz (recV v) (va_up (vz (recV v)) (((65 * jra) + 1) + kp) krz)) (va_up (vz (pz (recV v) (va_up (vz (recV v)) (((65 * jra) + 1) + kp) krz))) (65 * jra) ((S.1 jra).1 + 1))) jra (max (S.1 jra).1 (kp + 1)) (by first | assumption | omega) ((va_up_self _ _ _).trans (by omega))) (cwV 1 hts gX5_set_X5_lengthOf rfl rfl rfl (by decide +kernel) ⟨Nat.le_of_ble_eq_true rfl, Nat.le_of_ble_eq_true rfl⟩) hK hP hS (fun _ h => h) (q0 := 0) (ci := 5) rfl (by decide) mW_obj rfl rfl rfl hl.1 rfl (Nat.le_of_ble_eq_true rfl) dX5_set_87 ⟨Nat.zero_le _, Nat.zero_le _⟩ (fun H locs hP hS => ?_)
            have hP : va_P D vwCl (wL 9 ad (mW ad cy (pz (pz (recV v) (va_up (vz (recV v)) (((65 * jra) + 1) + kp) krz)) (va_up (vz (pz (recV v) (va_up (vz (recV v)) (((65 * jra) + 1) + kp) krz))) (65 * jra) ((S.1 jra).1 + 1))))) H := hP
            have hop : op_set S ra rp rz = (nI (setR (S.1 jra) kp krz).1, chgS S jra (setR (S.1 jra) kp krz)) := by
              unfold op_set
              rw [ejra, ekp, ekrz, rgN_nI (by omega), rgN_nI (by omega), rgN_nI (by omega), if_neg (by rintro (q | q); exact q (isR_nI hjra); exact q (kin0_nI hkp (by omega))), if_neg (fun q => q (isN_nI hkrz)), if_neg (show ¬ nI kp = (64 : Int32) from fun q => hp64 (m_inj (by omega) (by decide) q))]
            refine k_iret hx hb hr hlocks (pz (pz (recV v) (va_up (vz (recV v)) (((65 * jra) + 1) + kp) krz)) (va_up (vz (pz (recV v) (va_up (vz (recV v)) (((65 * jra) + 1) + kp) krz))) (65 * jra) ((S.1 jra).1 + 1))) hP hS dX5_set_90 ?_
            rw [hop]
            obtain ⟨s1, s2, s3⟩ := set_z (p := kp) (x := krz) (n := (S.1 jra).1 + 1) (hR.1 jra hjra).1 (hR.1 jra hjra).2 (by omega)
            exact ⟨rfl, mRep_set (mRep_rec hR) (fun i hi => s1 i hi (by omega)) s2 s3 rfl rfl rfl rfl rfl rfl⟩
        · skip
          have hp64 := h_4
          refine lv_bipush (v := (-4 : Int32)) hx hb dX5_set_38 (by decide) ?_
          refine k_iret hx hb hr hlocks (v) hP hS dX5_set_40 ?_
          have hop : op_set S ra rp rz = (-4, S) := by
            unfold op_set
            rw [ejra, ekp, ekrz, rgN_nI (by omega), if_neg (by rintro (q | q); exact q (isR_nI hjra); exact q (kin0_nI hkp (by omega))), if_neg (fun q => q (isN_nI hkrz)), if_pos (by rw [hp64]; rfl)]
          rw [hop]
          exact ⟨rfl, hR⟩
      · skip
        have hnrz : ¬ isN rz := of_decide_eq_false h_3
        refine lv_bipush (v := (-2 : Int32)) hx hb dX5_set_29 (by decide) ?_
        refine k_iret hx hb hr hlocks (v) hP hS dX5_set_31 ?_
        have hop : op_set S ra rp rz = (-2, S) := by
          unfold op_set
          rw [ejra, ekp, rgN_nI (by omega), if_neg (by rintro (q | q); exact q (isR_nI hjra); exact q (kin0_nI hkp (by omega))), if_pos hnrz]
        rw [hop]
        exact ⟨rfl, hR⟩
    · skip
      have hnp : ¬ (0 ≤ rp ∧ rp ≤ nI (S.1 jra).1) := of_decide_eq_false h_2
      refine lv_iconst (v := (-1 : Int32)) hx hb dX5_set_20 (by decide) ?_
      refine k_iret hx hb hr hlocks (v) hP hS dX5_set_21 ?_
      rw [show op_set S ra rp rz = (-1, S) from if_pos (Or.inr (by rw [ejra, rgN_nI (by omega)]; exact hnp))]
      exact ⟨rfl, hR⟩
