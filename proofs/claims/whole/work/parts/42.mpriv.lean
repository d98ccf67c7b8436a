set_option maxHeartbeats 4000000 in
set_option maxRecDepth 100000 in
theorem c_X5_in (l : Launch) (D : va_G) (cy : Nat → ClassId) (ad : Nat → Nat) (hI : wI 9 ad) (v : kV) (q1 : Int32) (q2 : Int32) (q3 : Int32) : kM l yX5_in wsX5_in ({ frames := 0, cells := 0, slots := 0, locals := 0 } : Room) D cy 9 ad (mW ad cy) (mW ad cy (v)) [.int (q1), .int (q2), .int (q3)] (kF (some (.int (kB (decide (q2 ≤ q1 ∧ q1 ≤ q3))))) (v)) := by
  refine k_met cX5_in 3 (some .boolean) (by decide) rfl (Nat.le_of_ble_eq_true rfl) ?_
  intro p e s m below meth c ls hx hb hr hts hown hlocks hml hK hP hS hl
  have hl : lv_has ls 3 [(0, .int (q1)), (1, .int (q2)), (2, .int (q3))] := hl
  have hown : s.vm.findClass RX5 = some m.cls := hown
  refine lv_iload_n hx hb dX5_in_0 rfl (lv_at hl 0 rfl) ?_
  refine lv_iload_n hx hb dX5_in_1 rfl (lv_at hl 1 rfl) ?_
  refine lv_icmp_lt (tgt := 14) hx hb dX5_in_2 (by decide) (fun h_1 => ?_) (fun h_1 => ?_)
  · skip
    refine lv_iconst (v := nI (0)) hx hb dX5_in_14 rfl ?_
    refine k_zret hx hb hr hlocks (by first | rfl | exact nar_kB _ | decide) (v) hP hS dX5_in_15 ?_
    exact ⟨by rw [show decide (q2 ≤ q1 ∧ q1 ≤ q3) = false from decide_eq_false (fun q => absurd q.1 (Int32.not_le.mpr h_1))]; rfl, rfl⟩
  · skip
    refine lv_iload_n hx hb dX5_in_5 rfl (lv_at hl 0 rfl) ?_
    refine lv_iload_n hx hb dX5_in_6 rfl (lv_at hl 2 rfl) ?_
    refine lv_icmp_gt (tgt := 14) hx hb dX5_in_7 (by decide) (fun h_2 => ?_) (fun h_2 => ?_)
    · skip
      refine lv_iconst (v := nI (0)) hx hb dX5_in_14 rfl ?_
      refine k_zret hx hb hr hlocks (by first | rfl | exact nar_kB _ | decide) (v) hP hS dX5_in_15 ?_
      exact ⟨by rw [show decide (q2 ≤ q1 ∧ q1 ≤ q3) = false from decide_eq_false (fun q => absurd q.2 (Int32.not_le.mpr h_2))]; rfl, rfl⟩
    · skip
      refine lv_iconst (v := nI (1)) hx hb dX5_in_10 rfl ?_
      refine lv_goto (tgt := 15) hx hb dX5_in_11 (by decide) ?_
      refine k_zret hx hb hr hlocks (by first | rfl | exact nar_kB _ | decide) (v) hP hS dX5_in_15 ?_
      exact ⟨by rw [show decide (q2 ≤ q1 ∧ q1 ≤ q3) = true from decide_eq_true ⟨Int32.not_lt.mp h_1, Int32.not_lt.mp h_2⟩]; rfl, rfl⟩
set_option maxHeartbeats 4000000 in
set_option maxRecDepth 100000 in
theorem c_X5_isRegister (l : Launch) (D : va_G) (cy : Nat → ClassId) (ad : Nat → Nat) (hI : wI 9 ad) (v : kV) (r : Int32) : kM l yX5_isRegister wsX5_isRegister ({ frames := 1, cells := 0, slots := 0, locals := 22 } : Room) D cy 9 ad (mW ad cy) (mW ad cy (v)) [.int (r)] (kF (some (.int (kB (decide (isR r))))) (v)) := by
  refine k_met cX5_isRegister 1 (some .boolean) (by decide) rfl (Nat.le_of_ble_eq_true rfl) ?_
  intro p e s m below meth c ls hx hb hr hts hown hlocks hml hK hP hS hl
  have hl : lv_has ls 1 [(0, .int (r))] := hl
  have hown : s.vm.findClass RX5 = some m.cls := hown
  refine lv_iload_n hx hb dX5_isRegister_0 rfl (lv_at hl 0 rfl) ?_
  refine lv_iconst (v := nI (0)) hx hb dX5_isRegister_1 rfl ?_
  refine lv_iconst (v := nI (5)) hx hb dX5_isRegister_2 rfl ?_
  refine k_callSr (rest := []) (nL := 1) ⟨hx, hb, hml, hown, hts⟩ (c_X5_in l D cy ad hI v r (nI (0)) (nI (5))) (va_cwS 3 hts gX5_isRegister_X5_in rfl rfl rfl (by decide +kernel) ⟨Nat.le_of_ble_eq_true rfl, Nat.le_of_ble_eq_true rfl⟩) hK hP hS (fun _ h => h) rfl hl.1 rfl (Nat.le_of_ble_eq_true rfl) dX5_isRegister_3 ⟨Nat.zero_le _, Nat.zero_le _⟩ (fun H locs hP hS => ?_)
  have hP : va_P D vwCl (wL 9 ad (mW ad cy (v))) H := hP
  refine k_zret hx hb hr hlocks (by first | rfl | exact nar_kB _ | decide) (v) hP hS dX5_isRegister_6 ?_
  exact ⟨by rw [show decide (nI 0 ≤ r ∧ r ≤ nI 5) = decide (isR r) from decide_eq_decide.mpr isR_iff], rfl⟩
set_option maxHeartbeats 4000000 in
set_option maxRecDepth 100000 in
theorem c_X5_isNumber (l : Launch) (D : va_G) (cy : Nat → ClassId) (ad : Nat → Nat) (hI : wI 9 ad) (v : kV) (r : Int32) : kM l yX5_isNumber wsX5_isNumber ({ frames := 1, cells := 0, slots := 0, locals := 22 } : Room) D cy 9 ad (mW ad cy) (mW ad cy (v)) [.int (r)] (kF (some (.int (kB (decide (isN r))))) (v)) := by
  refine k_met cX5_isNumber 1 (some .boolean) (by decide) rfl (Nat.le_of_ble_eq_true rfl) ?_
  intro p e s m below meth c ls hx hb hr hts hown hlocks hml hK hP hS hl
  have hl : lv_has ls 1 [(0, .int (r))] := hl
  have hown : s.vm.findClass RX5 = some m.cls := hown
  refine lv_iload_n hx hb dX5_isNumber_0 rfl (lv_at hl 0 rfl) ?_
  refine lv_iconst (v := nI (0)) hx hb dX5_isNumber_1 rfl ?_
  refine lv_sipush (v := nI (256)) hx hb dX5_isNumber_2 rfl ?_
  refine k_callSr (rest := []) (nL := 1) ⟨hx, hb, hml, hown, hts⟩ (c_X5_in l D cy ad hI v r (nI (0)) (nI (256))) (va_cwS 3 hts gX5_isNumber_X5_in rfl rfl rfl (by decide +kernel) ⟨Nat.le_of_ble_eq_true rfl, Nat.le_of_ble_eq_true rfl⟩) hK hP hS (fun _ h => h) rfl hl.1 rfl (Nat.le_of_ble_eq_true rfl) dX5_isNumber_5 ⟨Nat.zero_le _, Nat.zero_le _⟩ (fun H locs hP hS => ?_)
  have hP : va_P D vwCl (wL 9 ad (mW ad cy (v))) H := hP
  refine k_zret hx hb hr hlocks (by first | rfl | exact nar_kB _ | decide) (v) hP hS dX5_isNumber_8 ?_
  exact ⟨by rw [show decide (nI 0 ≤ r ∧ r ≤ nI 256) = decide (isN r) from decide_eq_decide.mpr isN_iff], rfl⟩
set_option maxHeartbeats 4000000 in
set_option maxRecDepth 100000 in
theorem c_X5_lengthOf (l : Launch) (D : va_G) (cy : Nat → ClassId) (ad : Nat → Nat) (hI : wI 9 ad) (v : kV) (R : Nat → kR) (r : Nat) (hM : mReg R v) (hr6 : r < 6) : kM l yX5_lengthOf wsX5_lengthOf ({ frames := 0, cells := 0, slots := 0, locals := 0 } : Room) D cy 9 ad (mW ad cy) (mW ad cy (v)) [.ref (ad (0)), .int (nI (r))] (kF (some (.int (nI ((R r).1)))) (v)) := by
  refine k_met cX5_lengthOf 2 (some .int) (by decide) rfl (Nat.le_of_ble_eq_true rfl) ?_
  intro p e s m below meth c ls hx hb hr hts hown hlocks hml hK hP hS hl
  have hl : lv_has ls 2 [(0, .ref (ad (0))), (1, .int (nI (r)))] := hl
  have hown : s.vm.findClass RX5 = some m.cls := hown
  have hf_7 := hts (.fieldLink RX5 7 "TurnedRowsModel" "z" "[I") (by decide +kernel)
  have hw_X5 : ∀ qw ∈ wsX50, qw.before ([.ref (ad (0)), .int (nI (r))] : List Value).toArray s = true := fun qw h => hts qw ((by decide +kernel : ∀ qw ∈ wsX50, qw ∈ wsX5_lengthOf) qw h)
  refine lv_aload_n hx hb dX5_lengthOf_0 rfl (lv_at hl 0 rfl) ?_
  refine k_get (q0 := 0) (k := 0) (T := TX5) (Nf := 11) (ci := 5) (C := RX5) (v := .ref (ad (1))) hx hb hw_X5 hown hK hP (by decide) mW_obj rfl (by decide) hf_7 rfl rfl dX5_lengthOf_1 ?_
  refine lv_bipush (v := nI (65)) hx hb dX5_lengthOf_4 rfl ?_
  refine lv_iload_n hx hb dX5_lengthOf_6 rfl (lv_at hl 1 rfl) ?_
  refine n_imul hx hb dX5_lengthOf_7 ?_
  refine k_iald (q0 := 1) (j := 65 * r) hx hb hK hP (by decide) mW_z (by decide) (by omega) dX5_lengthOf_8 ?_
  refine n_same (a := vz v (65 * r)) rfl ?_
  refine k_iret hx hb hr hlocks (v) hP hS dX5_lengthOf_9 ?_
  exact ⟨rN (hM.at0 hr6), rfl⟩
set_option maxHeartbeats 4000000 in
set_option maxRecDepth 100000 in
theorem c_X5_at (l : Launch) (D : va_G) (cy : Nat → ClassId) (ad : Nat → Nat) (hI : wI 9 ad) (v : kV) (R : Nat → kR) (r : Nat) (k : Nat) (hM : mReg R v) (hr6 : r < 6) (hk : k < 64) : kM l yX5_at wsX5_at ({ frames := 1, cells := 0, slots := 0, locals := 21 } : Room) D cy 9 ad (mW ad cy) (mW ad cy (v)) [.ref (ad (0)), .int (nI (r)), .int (nI (k))] (kF (some (.int (nI ((R r).2 k)))) (v)) := by
  refine k_met cX5_at 3 (some .int) (by decide) rfl (Nat.le_of_ble_eq_true rfl) ?_
  intro p e s m below meth c ls hx hb hr hts hown hlocks hml hK hP hS hl
  have hl : lv_has ls 3 [(0, .ref (ad (0))), (1, .int (nI (r))), (2, .int (nI (k)))] := hl
  have hown : s.vm.findClass RX5 = some m.cls := hown
  have hf_7 := hts (.fieldLink RX5 7 "TurnedRowsModel" "z" "[I") (by decide +kernel)
  have hw_X5 : ∀ qw ∈ wsX50, qw.before ([.ref (ad (0)), .int (nI (r)), .int (nI (k))] : List Value).toArray s = true := fun qw h => hts qw ((by decide +kernel : ∀ qw ∈ wsX50, qw ∈ wsX5_at) qw h)
  have hlr := (hM.O hr6).2.1
  refine lv_iload_n hx hb dX5_at_0 rfl (lv_at hl 2 rfl) ?_
  refine lv_aload_n hx hb dX5_at_1 rfl (lv_at hl 0 rfl) ?_
  refine lv_iload_n hx hb dX5_at_2 rfl (lv_at hl 1 rfl) ?_
  refine k_callVr (rest := [.int (nI (k))]) (nL := 3) ⟨hx, hb, hml, hown, hts⟩ (c_X5_lengthOf l D cy ad hI v R r hM (by first | assumption | omega)) (cwV 1 hts gX5_at_X5_lengthOf rfl rfl rfl (by decide +kernel) ⟨Nat.le_of_ble_eq_true rfl, Nat.le_of_ble_eq_true rfl⟩) hK hP hS (fun _ h => h) (q0 := 0) (ci := 5) rfl (by decide) mW_obj rfl rfl rfl hl.1 rfl (Nat.le_of_ble_eq_true rfl) dX5_at_3 ⟨Nat.zero_le _, Nat.zero_le _⟩ (fun H locs hP hS => ?_)
  have hP : va_P D vwCl (wL 9 ad (mW ad cy (v))) H := hP
  refine n_icmp_ge (tgt := 25) hx hb (by omega) (by omega) dX5_at_6 (by decide) (fun h_1 => ?_) (fun h_1 => ?_)
  · skip
    refine lv_iconst (v := nI (0)) hx hb dX5_at_25 rfl ?_
    refine k_iret hx hb hr hlocks (v) hP hS dX5_at_26 ?_
    exact ⟨rN ((hM.O hr6).2.2.2 k h_1).symm, rfl⟩
  · skip
    refine lv_aload_n hx hb dX5_at_9 rfl (lv_at hl 0 rfl) ?_
    refine k_get (q0 := 0) (k := 0) (T := TX5) (Nf := 11) (ci := 5) (C := RX5) (v := .ref (ad (1))) hx hb hw_X5 hown hK hP (by decide) mW_obj rfl (by decide) hf_7 rfl rfl dX5_at_10 ?_
    refine lv_bipush (v := nI (65)) hx hb dX5_at_13 rfl ?_
    refine lv_iload_n hx hb dX5_at_15 rfl (lv_at hl 1 rfl) ?_
    refine n_imul hx hb dX5_at_16 ?_
    refine lv_iconst (v := nI (1)) hx hb dX5_at_17 rfl ?_
    refine n_iadd hx hb dX5_at_18 ?_
    refine lv_iload_n hx hb dX5_at_19 rfl (lv_at hl 2 rfl) ?_
    refine n_iadd hx hb dX5_at_20 ?_
    refine k_iald (q0 := 1) (j := ((65 * r) + 1) + k) hx hb hK hP (by decide) mW_z (by decide) (by omega) dX5_at_21 ?_
    refine n_same (a := vz v (((65 * r) + 1) + k)) rfl ?_
    refine lv_goto (tgt := 26) hx hb dX5_at_22 (by decide) ?_
    refine k_iret hx hb hr hlocks (v) hP hS dX5_at_26 ?_
    exact ⟨rN (hM.at1 hr6 hk), rfl⟩
set_option maxHeartbeats 4000000 in
set_option maxRecDepth 100000 in
theorem c_X5_record (l : Launch) (D : va_G) (cy : Nat → ClassId) (ad : Nat → Nat) (hI : wI 9 ad) (v : kV) (hpm6 : vpm v ≤ 6) : kM l yX5_record wsX5_record ({ frames := 0, cells := 0, slots := 0, locals := 0 } : Room) D cy 9 ad (mW ad cy) (mW ad cy (v)) [.ref (ad (0))] (kF none (recV v)) := by
  refine k_met cX5_record 2 none (by decide) rfl (Nat.le_of_ble_eq_true rfl) ?_
  intro p e s m below meth c ls hx hb hr hts hown hlocks hml hK hP hS hl
  have hl : lv_has ls 2 [(0, .ref (ad (0)))] := hl
  have hown : s.vm.findClass RX5 = some m.cls := hown
  have hf_7 := hts (.fieldLink RX5 7 "TurnedRowsModel" "z" "[I") (by decide +kernel)
  have hf_13 := hts (.fieldLink RX5 13 "TurnedRowsModel" "past" "[I") (by decide +kernel)
  have hf_44 := hts (.fieldLink RX5 44 "TurnedRowsModel" "pastMany" "I") (by decide +kernel)
  have hw_X5 : ∀ qw ∈ wsX50, qw.before ([.ref (ad (0))] : List Value).toArray s = true := fun qw h => hts qw ((by decide +kernel : ∀ qw ∈ wsX50, qw ∈ wsX5_record) qw h)
  refine lv_aload_n hx hb dX5_record_0 rfl (lv_at hl 0 rfl) ?_
  refine k_get (q0 := 0) (k := 4) (T := TX5) (Nf := 11) (ci := 5) (C := RX5) (v := .int (nI (vpm v))) hx hb hw_X5 hown hK hP (by decide) mW_obj rfl (by decide) hf_44 rfl rfl dX5_record_1 ?_
  refine lv_bipush (v := nI (6)) hx hb dX5_record_4 rfl ?_
  refine n_icmp_ne (tgt := 50) hx hb (by omega) (by omega) dX5_record_6 (by decide) (fun h_1 => ?_) (fun h_1 => ?_)
  · skip
    have hrn : recN v = vpm v := if_neg h_1
    have hrp : recP v = vpa v := if_neg h_1
    refine lv_iconst (v := nI (0)) hx hb dX5_record_50 rfl ?_
    refine lv_istore_n (lv' := [(1, .int (nI (0))), (0, .ref (ad (0)))]) hx hb dX5_record_51 rfl hl (by decide) rfl (fun ls hl => ?_)
    have lp52 : ∀ (fu : Nat) (k2 : Nat) (v'' : kV), (k2 ≤ 390) → (v'' = ppm (ppa v (cpK (recP v) (vz v) (recN v * 390) k2)) (recN v)) → (recN v ≤ 5) → 390 - k2 < fu → ∀ (H : Heap) (locs : List Loc), va_P D vwCl (wL 9 ad (mW ad cy (v''))) H → va_S (wA 9 ad) s.heap H locs → ∀ (ls : Array Slot), lv_has ls 2 [(1, .int (nI (k2))), (0, .ref (ad (0)))] → W p l e ({ frames := 0, cells := 0, slots := 0, locals := 0 } : Room) s m ([.ref (ad (0))] : List Value).toArray below meth c H locs 0 0 (MQ below (kQ D 9 ad (mW ad cy) (kF none (recV v))) ([.ref (ad (0))] : List Value).toArray s 0 0 (wA 9 ad)) (F0 m 52 ls []) := by
      intro fu
      induction fu with
      | zero => intro k2 v'' hk2 hv2 hrl hfu; exact absurd hfu (Nat.not_lt_zero _)
      | succ fu ih52 =>
        intro k2 v'' hk2 hv2 hrl hfu H locs hP hS ls hl
        refine lv_iload_n hx hb dX5_record_52 rfl (lv_at hl 0 rfl) ?_
        refine lv_sipush (v := nI (390)) hx hb dX5_record_53 rfl ?_
        refine n_icmp_ge (tgt := 86) hx hb (by omega) (by omega) dX5_record_56 (by decide) (fun h_2 => ?_) (fun h_2 => ?_)
        · skip
          refine lv_aload_n hx hb dX5_record_86 rfl (lv_at hl 1 rfl) ?_
          refine lv_dup hx hb dX5_record_87 rfl ?_
          refine k_get (q0 := 0) (k := 4) (T := TX5) (Nf := 11) (ci := 5) (C := RX5) (v := .int (nI (vpm v''))) hx hb hw_X5 hown hK hP (by decide) mW_obj rfl (by decide) hf_44 rfl rfl dX5_record_88 ?_
          refine lv_iconst (v := nI (1)) hx hb dX5_record_91 rfl ?_
          refine n_iadd hx hb dX5_record_92 ?_
          refine k_put (q0 := 0) (k := 4) (T := TX5) (Nf := 11) (ci := 5) (C := RX5) (v := .int (nI ((vpm v'') + 1))) (Wd' := mW ad cy (ppm v'' ((vpm v'') + 1))) hx hb hw_X5 tyX5 tyX5_ok nmX5 hown hK hI hP hS (by decide) mW_obj rfl (by decide) hf_44 rfl rfl (ty := .int) (by decide +kernel) rfl rfl (Nat.le_of_ble_eq_true rfl) mW_up_pm dX5_record_93 (fun H locs hP hS => ?_)
          refine k_vret hx hb hr hlocks (ppm v'' ((vpm v'') + 1)) hP hS dX5_record_96 ?_
          exact ⟨rfl, by rw [hv2, show k2 = 390 by omega]; rfl⟩
        · skip
          refine lv_aload_n hx hb dX5_record_59 rfl (lv_at hl 1 rfl) ?_
          refine k_get (q0 := 0) (k := 1) (T := TX5) (Nf := 11) (ci := 5) (C := RX5) (v := .ref (ad (2))) hx hb hw_X5 hown hK hP (by decide) mW_obj rfl (by decide) hf_13 rfl rfl dX5_record_60 ?_
          refine lv_aload_n hx hb dX5_record_63 rfl (lv_at hl 1 rfl) ?_
          refine k_get (q0 := 0) (k := 4) (T := TX5) (Nf := 11) (ci := 5) (C := RX5) (v := .int (nI (vpm v''))) hx hb hw_X5 hown hK hP (by decide) mW_obj rfl (by decide) hf_44 rfl rfl dX5_record_64 ?_
          refine n_push (a := recN v) (by rw [hv2]; rfl) ?_
          refine lv_sipush (v := nI (390)) hx hb dX5_record_67 rfl ?_
          refine n_imul hx hb dX5_record_70 ?_
          refine lv_iload_n hx hb dX5_record_71 rfl (lv_at hl 0 rfl) ?_
          refine n_iadd hx hb dX5_record_72 ?_
          refine lv_aload_n hx hb dX5_record_73 rfl (lv_at hl 1 rfl) ?_
          refine k_get (q0 := 0) (k := 0) (T := TX5) (Nf := 11) (ci := 5) (C := RX5) (v := .ref (ad (1))) hx hb hw_X5 hown hK hP (by decide) mW_obj rfl (by decide) hf_7 rfl rfl dX5_record_74 ?_
          refine lv_iload_n hx hb dX5_record_77 rfl (lv_at hl 0 rfl) ?_
          refine k_iald (q0 := 1) (j := k2) hx hb hK hP (by decide) mW_z (by decide) (by omega) dX5_record_78 ?_
          refine n_same (a := vz v'' k2) rfl ?_
          refine n_push (a := vz v k2) (by rw [hv2]; rfl) ?_
          refine k_iast (q0 := 2) (j := ((recN v) * 390) + k2) (v := nI (vz v k2)) (Wd' := mW ad cy (ppa v'' (va_up (vpa v'') (((recN v) * 390) + k2) (vz v k2)))) hx hb hK hI hP hS (by decide) mW_pa (by decide) (by omega) mW_up_pa dX5_record_79 (fun H locs hP hS => ?_)
          refine lv_iinc (v := nI (k2 + 1)) (lv' := [(1, .int (nI (k2 + 1))), (0, .ref (ad (0)))]) hx hb dX5_record_80 hl (k := 0) rfl (nI_inc _) (by decide) rfl (fun ls hl => ?_)
          refine lv_goto (tgt := 52) hx hb dX5_record_83 (by decide) ?_
          exact ih52 (k2 + 1) (ppa v'' (va_up (vpa v'') (((recN v) * 390) + k2) (vz v k2))) (by omega) (by rw [hv2]; exact congrArg (fun f => ppm (ppa v f) (recN v)) (cpK_s _ _ _ _)) hrl (by omega) _ _ hP hS _ hl
    exact lp52 (_ + 1) (0) (v) (by omega) (by first | (rw [cpK_0, hrp, hrn, hv, show k = 1950 by omega]; exact congrArg (ppm _) (show vpm v - 1 = 5 by omega)) | (rw [cpK_0, hrp, hrn]; rfl)) (by omega) (Nat.lt_succ_self _) _ _ hP hS _ hl
  · skip
    have hrn : recN v = 5 := if_pos h_1
    have hrp : recP v = shK (vpa v) 1950 := if_pos h_1
    have hv6 : vpm v = 6 := h_1
    refine lv_iconst (v := nI (0)) hx hb dX5_record_9 rfl ?_
    refine lv_istore_n (lv' := [(1, .int (nI (0))), (0, .ref (ad (0)))]) hx hb dX5_record_10 rfl hl (by decide) rfl (fun ls hl => ?_)
    have lp11 : ∀ (fu : Nat) (k : Nat) (v' : kV), (k ≤ 1950) → (v' = ppa v (shK (vpa v) k)) → 1950 - k < fu → ∀ (H : Heap) (locs : List Loc), va_P D vwCl (wL 9 ad (mW ad cy (v'))) H → va_S (wA 9 ad) s.heap H locs → ∀ (ls : Array Slot), lv_has ls 2 [(1, .int (nI (k))), (0, .ref (ad (0)))] → W p l e ({ frames := 0, cells := 0, slots := 0, locals := 0 } : Room) s m ([.ref (ad (0))] : List Value).toArray below meth c H locs 0 0 (MQ below (kQ D 9 ad (mW ad cy) (kF none (recV v))) ([.ref (ad (0))] : List Value).toArray s 0 0 (wA 9 ad)) (F0 m 11 ls []) := by
      intro fu
      induction fu with
      | zero => intro k v' hk hv hfu; exact absurd hfu (Nat.not_lt_zero _)
      | succ fu ih11 =>
        intro k v' hk hv hfu H locs hP hS ls hl
        refine lv_iload_n hx hb dX5_record_11 rfl (lv_at hl 0 rfl) ?_
        refine lv_sipush (v := nI (1950)) hx hb dX5_record_12 rfl ?_
        refine n_icmp_ge (tgt := 40) hx hb (by omega) (by omega) dX5_record_15 (by decide) (fun h_3 => ?_) (fun h_3 => ?_)
        · skip
          refine lv_aload_n hx hb dX5_record_40 rfl (lv_at hl 1 rfl) ?_
          refine lv_dup hx hb dX5_record_41 rfl ?_
          refine k_get (q0 := 0) (k := 4) (T := TX5) (Nf := 11) (ci := 5) (C := RX5) (v := .int (nI (vpm v'))) hx hb hw_X5 hown hK hP (by decide) mW_obj rfl (by decide) hf_44 rfl rfl dX5_record_42 ?_
          refine lv_iconst (v := nI (1)) hx hb dX5_record_45 rfl ?_
          have hv7 : vpm v' = 6 := by rw [hv]; exact hv6
          refine n_isub hx hb (by omega) dX5_record_46 ?_
          refine k_put (q0 := 0) (k := 4) (T := TX5) (Nf := 11) (ci := 5) (C := RX5) (v := .int (nI ((vpm v') - 1))) (Wd' := mW ad cy (ppm v' ((vpm v') - 1))) hx hb hw_X5 tyX5 tyX5_ok nmX5 hown hK hI hP hS (by decide) mW_obj rfl (by decide) hf_44 rfl rfl (ty := .int) (by decide +kernel) rfl rfl (Nat.le_of_ble_eq_true rfl) mW_up_pm dX5_record_47 (fun H locs hP hS => ?_)
          refine lv_iconst (v := nI (0)) hx hb dX5_record_50 rfl ?_
          refine lv_istore_n (lv' := [(1, .int (nI (0))), (0, .ref (ad (0)))]) hx hb dX5_record_51 rfl hl (by decide) rfl (fun ls hl => ?_)
          have lp52 : ∀ (fu : Nat) (k2 : Nat) (v'' : kV), (k2 ≤ 390) → (v'' = ppm (ppa v (cpK (recP v) (vz v) (recN v * 390) k2)) (recN v)) → (recN v ≤ 5) → 390 - k2 < fu → ∀ (H : Heap) (locs : List Loc), va_P D vwCl (wL 9 ad (mW ad cy (v''))) H → va_S (wA 9 ad) s.heap H locs → ∀ (ls : Array Slot), lv_has ls 2 [(1, .int (nI (k2))), (0, .ref (ad (0)))] → W p l e ({ frames := 0, cells := 0, slots := 0, locals := 0 } : Room) s m ([.ref (ad (0))] : List Value).toArray below meth c H locs 0 0 (MQ below (kQ D 9 ad (mW ad cy) (kF none (recV v))) ([.ref (ad (0))] : List Value).toArray s 0 0 (wA 9 ad)) (F0 m 52 ls []) := by
            intro fu
            induction fu with
            | zero => intro k2 v'' hk2 hv2 hrl hfu; exact absurd hfu (Nat.not_lt_zero _)
            | succ fu ih52 =>
              intro k2 v'' hk2 hv2 hrl hfu H locs hP hS ls hl
              refine lv_iload_n hx hb dX5_record_52 rfl (lv_at hl 0 rfl) ?_
              refine lv_sipush (v := nI (390)) hx hb dX5_record_53 rfl ?_
              refine n_icmp_ge (tgt := 86) hx hb (by omega) (by omega) dX5_record_56 (by decide) (fun h_4 => ?_) (fun h_4 => ?_)
              · skip
                refine lv_aload_n hx hb dX5_record_86 rfl (lv_at hl 1 rfl) ?_
                refine lv_dup hx hb dX5_record_87 rfl ?_
                refine k_get (q0 := 0) (k := 4) (T := TX5) (Nf := 11) (ci := 5) (C := RX5) (v := .int (nI (vpm v''))) hx hb hw_X5 hown hK hP (by decide) mW_obj rfl (by decide) hf_44 rfl rfl dX5_record_88 ?_
                refine lv_iconst (v := nI (1)) hx hb dX5_record_91 rfl ?_
                refine n_iadd hx hb dX5_record_92 ?_
                refine k_put (q0 := 0) (k := 4) (T := TX5) (Nf := 11) (ci := 5) (C := RX5) (v := .int (nI ((vpm v'') + 1))) (Wd' := mW ad cy (ppm v'' ((vpm v'') + 1))) hx hb hw_X5 tyX5 tyX5_ok nmX5 hown hK hI hP hS (by decide) mW_obj rfl (by decide) hf_44 rfl rfl (ty := .int) (by decide +kernel) rfl rfl (Nat.le_of_ble_eq_true rfl) mW_up_pm dX5_record_93 (fun H locs hP hS => ?_)
                refine k_vret hx hb hr hlocks (ppm v'' ((vpm v'') + 1)) hP hS dX5_record_96 ?_
                exact ⟨rfl, by rw [hv2, show k2 = 390 by omega]; rfl⟩
              · skip
                refine lv_aload_n hx hb dX5_record_59 rfl (lv_at hl 1 rfl) ?_
                refine k_get (q0 := 0) (k := 1) (T := TX5) (Nf := 11) (ci := 5) (C := RX5) (v := .ref (ad (2))) hx hb hw_X5 hown hK hP (by decide) mW_obj rfl (by decide) hf_13 rfl rfl dX5_record_60 ?_
                refine lv_aload_n hx hb dX5_record_63 rfl (lv_at hl 1 rfl) ?_
                refine k_get (q0 := 0) (k := 4) (T := TX5) (Nf := 11) (ci := 5) (C := RX5) (v := .int (nI (vpm v''))) hx hb hw_X5 hown hK hP (by decide) mW_obj rfl (by decide) hf_44 rfl rfl dX5_record_64 ?_
                refine n_push (a := recN v) (by rw [hv2]; rfl) ?_
                refine lv_sipush (v := nI (390)) hx hb dX5_record_67 rfl ?_
                refine n_imul hx hb dX5_record_70 ?_
                refine lv_iload_n hx hb dX5_record_71 rfl (lv_at hl 0 rfl) ?_
                refine n_iadd hx hb dX5_record_72 ?_
                refine lv_aload_n hx hb dX5_record_73 rfl (lv_at hl 1 rfl) ?_
                refine k_get (q0 := 0) (k := 0) (T := TX5) (Nf := 11) (ci := 5) (C := RX5) (v := .ref (ad (1))) hx hb hw_X5 hown hK hP (by decide) mW_obj rfl (by decide) hf_7 rfl rfl dX5_record_74 ?_
                refine lv_iload_n hx hb dX5_record_77 rfl (lv_at hl 0 rfl) ?_
                refine k_iald (q0 := 1) (j := k2) hx hb hK hP (by decide) mW_z (by decide) (by omega) dX5_record_78 ?_
                refine n_same (a := vz v'' k2) rfl ?_
                refine n_push (a := vz v k2) (by rw [hv2]; rfl) ?_
                refine k_iast (q0 := 2) (j := ((recN v) * 390) + k2) (v := nI (vz v k2)) (Wd' := mW ad cy (ppa v'' (va_up (vpa v'') (((recN v) * 390) + k2) (vz v k2)))) hx hb hK hI hP hS (by decide) mW_pa (by decide) (by omega) mW_up_pa dX5_record_79 (fun H locs hP hS => ?_)
                refine lv_iinc (v := nI (k2 + 1)) (lv' := [(1, .int (nI (k2 + 1))), (0, .ref (ad (0)))]) hx hb dX5_record_80 hl (k := 0) rfl (nI_inc _) (by decide) rfl (fun ls hl => ?_)
                refine lv_goto (tgt := 52) hx hb dX5_record_83 (by decide) ?_
                exact ih52 (k2 + 1) (ppa v'' (va_up (vpa v'') (((recN v) * 390) + k2) (vz v k2))) (by omega) (by rw [hv2]; exact congrArg (fun f => ppm (ppa v f) (recN v)) (cpK_s _ _ _ _)) hrl (by omega) _ _ hP hS _ hl
          exact lp52 (_ + 1) (0) (ppm v' ((vpm v') - 1)) (by omega) (by first | (rw [cpK_0, hrp, hrn, hv, show k = 1950 by omega]; exact congrArg (ppm _) (show vpm v - 1 = 5 by omega)) | (rw [cpK_0, hrp, hrn]; rfl)) (by omega) (Nat.lt_succ_self _) _ _ hP hS _ hl
        · skip
          refine lv_aload_n hx hb dX5_record_18 rfl (lv_at hl 1 rfl) ?_
          refine k_get (q0 := 0) (k := 1) (T := TX5) (Nf := 11) (ci := 5) (C := RX5) (v := .ref (ad (2))) hx hb hw_X5 hown hK hP (by decide) mW_obj rfl (by decide) hf_13 rfl rfl dX5_record_19 ?_
          refine lv_iload_n hx hb dX5_record_22 rfl (lv_at hl 0 rfl) ?_
          refine lv_aload_n hx hb dX5_record_23 rfl (lv_at hl 1 rfl) ?_
          refine k_get (q0 := 0) (k := 1) (T := TX5) (Nf := 11) (ci := 5) (C := RX5) (v := .ref (ad (2))) hx hb hw_X5 hown hK hP (by decide) mW_obj rfl (by decide) hf_13 rfl rfl dX5_record_24 ?_
          refine lv_iload_n hx hb dX5_record_27 rfl (lv_at hl 0 rfl) ?_
          refine lv_sipush (v := nI (390)) hx hb dX5_record_28 rfl ?_
          refine n_iadd hx hb dX5_record_31 ?_
          refine k_iald (q0 := 2) (j := k + 390) hx hb hK hP (by decide) mW_pa (by decide) (by omega) dX5_record_32 ?_
          refine n_same (a := vpa v' (k + 390)) rfl ?_
          refine n_push (a := vpa v (k + 390)) (by rw [hv]; exact congrArg nI (shK_r _ _)) ?_
          refine k_iast (q0 := 2) (j := k) (v := nI (vpa v (k + 390))) (Wd' := mW ad cy (ppa v' (va_up (vpa v') k (vpa v (k + 390))))) hx hb hK hI hP hS (by decide) mW_pa (by decide) (by omega) mW_up_pa dX5_record_33 (fun H locs hP hS => ?_)
          refine lv_iinc (v := nI (k + 1)) (lv' := [(1, .int (nI (k + 1))), (0, .ref (ad (0)))]) hx hb dX5_record_34 hl (k := 0) rfl (nI_inc _) (by decide) rfl (fun ls hl => ?_)
          refine lv_goto (tgt := 11) hx hb dX5_record_37 (by decide) ?_
          exact ih11 (k + 1) (ppa v' (va_up (vpa v') k (vpa v (k + 390)))) (by omega) (by rw [hv]; exact congrArg (ppa v) (shK_s _ _)) (by omega) _ _ hP hS _ hl
    exact lp11 (_ + 1) (0) (v) (by omega) (by rw [shK_0]; rfl) (Nat.lt_succ_self _) _ _ hP hS _ hl
set_option maxHeartbeats 4000000 in
set_option maxRecDepth 100000 in
theorem c_X5_times (l : Launch) (D : va_G) (cy : Nat → ClassId) (ad : Nat → Nat) (hI : wI 9 ad) (v : kV) (a : Nat) (b : Nat) (ha : a < 257) (hb3 : b < 257) : kM l yX5_times wsX5_times ({ frames := 0, cells := 0, slots := 0, locals := 0 } : Room) D cy 9 ad (mW ad cy) (mW ad cy (v)) [.int (nI (a)), .int (nI (b))] (kF (some (.int (nI (a * b % 257)))) (v)) := by
  refine k_met cX5_times 2 (some .int) (by decide) rfl (Nat.le_of_ble_eq_true rfl) ?_
  intro p e s m below meth c ls hx hb hr hts hown hlocks hml hK hP hS hl
  have hl : lv_has ls 2 [(0, .int (nI (a))), (1, .int (nI (b)))] := hl
  have hown : s.vm.findClass RX5 = some m.cls := hown
  have hm := mul_lt_257 ha hb3
  refine lv_iload_n hx hb dX5_times_0 rfl (lv_at hl 0 rfl) ?_
  refine lv_iload_n hx hb dX5_times_1 rfl (lv_at hl 1 rfl) ?_
  refine n_imul hx hb dX5_times_2 ?_
  refine lv_sipush (v := nI (257)) hx hb dX5_times_3 rfl ?_
  refine n_irem hx hb (by omega) (by omega) (by omega) dX5_times_6  ?_
  refine k_iret hx hb hr hlocks (v) hP hS dX5_times_7 ?_
  exact ⟨rfl, rfl⟩
set_option maxHeartbeats 4000000 in
set_option maxRecDepth 100000 in
theorem c_X5_less (l : Launch) (D : va_G) (cy : Nat → ClassId) (ad : Nat → Nat) (hI : wI 9 ad) (v : kV) (a : Nat) (b : Nat) (ha : a < 257) (hb3 : b < 257) : kM l yX5_less wsX5_less ({ frames := 0, cells := 0, slots := 0, locals := 0 } : Room) D cy 9 ad (mW ad cy) (mW ad cy (v)) [.int (nI (a)), .int (nI (b))] (kF (some (.int (nI (lss a b)))) (v)) := by
  refine k_met cX5_less 2 (some .int) (by decide) rfl (Nat.le_of_ble_eq_true rfl) ?_
  intro p e s m below meth c ls hx hb hr hts hown hlocks hml hK hP hS hl
  have hl : lv_has ls 2 [(0, .int (nI (a))), (1, .int (nI (b)))] := hl
  have hown : s.vm.findClass RX5 = some m.cls := hown
  refine lv_iload_n hx hb dX5_less_0 rfl (lv_at hl 0 rfl) ?_
  refine lv_sipush (v := nI (257)) hx hb dX5_less_1 rfl ?_
  refine n_iadd hx hb dX5_less_4 ?_
  refine lv_iload_n hx hb dX5_less_5 rfl (lv_at hl 1 rfl) ?_
  refine n_isub hx hb (by omega) dX5_less_6 ?_
  refine lv_sipush (v := nI (257)) hx hb dX5_less_7 rfl ?_
  refine n_irem hx hb (by omega) (by omega) (by omega) dX5_less_10  ?_
  refine k_iret hx hb hr hlocks (v) hP hS dX5_less_11 ?_
  exact ⟨rfl, rfl⟩
set_option maxHeartbeats 4000000 in
set_option maxRecDepth 100000 in
theorem c_X5_raised (l : Launch) (D : va_G) (cy : Nat → ClassId) (ad : Nat → Nat) (hI : wI 9 ad) (v : kV) (a : Nat) (n : Nat) (ha : a < 257) (hn : n < 2 ^ 31) : kM l yX5_raised wsX5_raised ({ frames := 1, cells := 0, slots := 0, locals := 21 } : Room) D cy 9 ad (mW ad cy) (mW ad cy (v)) [.int (nI (a)), .int (nI (n))] (kF (some (.int (nI (pw a n)))) (v)) := by
  refine k_met cX5_raised 4 (some .int) (by decide) rfl (Nat.le_of_ble_eq_true rfl) ?_
  intro p e s m below meth c ls hx hb hr hts hown hlocks hml hK hP hS hl
  have hl : lv_has ls 4 [(0, .int (nI (a))), (1, .int (nI (n)))] := hl
  have hown : s.vm.findClass RX5 = some m.cls := hown
  refine lv_iconst (v := nI (1)) hx hb dX5_raised_0 rfl ?_
  refine lv_istore_n (lv' := [(2, .int (nI (1))), (0, .int (nI (a))), (1, .int (nI (n)))]) hx hb dX5_raised_1 rfl hl (by decide) rfl (fun ls hl => ?_)
  refine lv_iconst (v := nI (0)) hx hb dX5_raised_2 rfl ?_
  refine lv_istore_n (lv' := [(3, .int (nI (0))), (2, .int (nI (1))), (0, .int (nI (a))), (1, .int (nI (n)))]) hx hb dX5_raised_3 rfl hl (by decide) rfl (fun ls hl => ?_)
  have lp4 : ∀ (fu : Nat) (k : Nat), (k ≤ n) → n - k < fu → ∀ (H : Heap) (locs : List Loc), va_P D vwCl (wL 9 ad (mW ad cy (v))) H → va_S (wA 9 ad) s.heap H locs → ∀ (ls : Array Slot), lv_has ls 4 [(3, .int (nI (k))), (2, .int (nI (pw a k))), (0, .int (nI (a))), (1, .int (nI (n)))] → W p l e ({ frames := 1, cells := 0, slots := 0, locals := 21 } : Room) s m ([.int (nI (a)), .int (nI (n))] : List Value).toArray below meth c H locs 0 0 (MQ below (kQ D 9 ad (mW ad cy) (kF (some (.int (nI (pw a n)))) (v))) ([.int (nI (a)), .int (nI (n))] : List Value).toArray s 0 0 (wA 9 ad)) (F0 m 4 ls []) := by
    intro fu
    induction fu with
    | zero => intro k hk hfu; exact absurd hfu (Nat.not_lt_zero _)
    | succ fu ih4 =>
      intro k hk hfu H locs hP hS ls hl
      have hpk := pw_lt a k
      refine lv_iload_n hx hb dX5_raised_4 rfl (lv_at hl 0 rfl) ?_
      refine lv_iload_n hx hb dX5_raised_5 rfl (lv_at hl 3 rfl) ?_
      refine n_icmp_ge (tgt := 21) hx hb (by omega) (by omega) dX5_raised_6 (by decide) (fun h_1 => ?_) (fun h_1 => ?_)
      · skip
        refine lv_iload_n hx hb dX5_raised_21 rfl (lv_at hl 1 rfl) ?_
        refine k_iret hx hb hr hlocks (v) hP hS dX5_raised_22 ?_
        exact ⟨rN (by rw [show k = n by omega]), rfl⟩
      · skip
        refine lv_iload_n hx hb dX5_raised_9 rfl (lv_at hl 1 rfl) ?_
        refine lv_iload_n hx hb dX5_raised_10 rfl (lv_at hl 2 rfl) ?_
        refine k_callSr (rest := []) (nL := 4) ⟨hx, hb, hml, hown, hts⟩ (c_X5_times l D cy ad hI v (pw a k) a (by first | assumption | omega) (by first | assumption | omega)) (va_cwS 2 hts gX5_raised_X5_times rfl rfl rfl (by decide +kernel) ⟨Nat.le_of_ble_eq_true rfl, Nat.le_of_ble_eq_true rfl⟩) hK hP hS (fun _ h => h) rfl hl.1 rfl (Nat.le_of_ble_eq_true rfl) dX5_raised_11 ⟨Nat.zero_le _, Nat.zero_le _⟩ (fun H locs hP hS => ?_)
        have hP : va_P D vwCl (wL 9 ad (mW ad cy (v))) H := hP
        refine n_push (a := pw a (k + 1)) (by rw [pw_s]) ?_
        refine lv_istore_n (lv' := [(2, .int (nI (pw a (k + 1)))), (3, .int (nI (k))), (0, .int (nI (a))), (1, .int (nI (n)))]) hx hb dX5_raised_14 rfl hl (by decide) rfl (fun ls hl => ?_)
        refine lv_iinc (v := nI (k + 1)) (lv' := [(3, .int (nI (k + 1))), (2, .int (nI (pw a (k + 1)))), (0, .int (nI (a))), (1, .int (nI (n)))]) hx hb dX5_raised_15 hl (k := 1) rfl (nI_inc _) (by decide) rfl (fun ls hl => ?_)
        refine lv_goto (tgt := 4) hx hb dX5_raised_18 (by decide) ?_
        exact ih4 (k + 1) (by omega) (by omega) _ _ hP hS _ hl
  exact lp4 (_ + 1) (0) (by omega) (Nat.lt_succ_self _) _ _ hP hS _ hl
set_option maxHeartbeats 4000000 in
set_option maxRecDepth 100000 in
theorem c_X5_over (l : Launch) (D : va_G) (cy : Nat → ClassId) (ad : Nat → Nat) (hI : wI 9 ad) (v : kV) (a : Nat) (ha : a < 257) : kM l yX5_over wsX5_over ({ frames := 2, cells := 0, slots := 0, locals := 44 } : Room) D cy 9 ad (mW ad cy) (mW ad cy (v)) [.int (nI (a))] (kF (some (.int (nI (pw a 255)))) (v)) := by
  refine k_met cX5_over 1 (some .int) (by decide) rfl (Nat.le_of_ble_eq_true rfl) ?_
  intro p e s m below meth c ls hx hb hr hts hown hlocks hml hK hP hS hl
  have hl : lv_has ls 1 [(0, .int (nI (a)))] := hl
  have hown : s.vm.findClass RX5 = some m.cls := hown
  refine lv_iload_n hx hb dX5_over_0 rfl (lv_at hl 0 rfl) ?_
  refine lv_sipush (v := nI (255)) hx hb dX5_over_1 rfl ?_
  refine k_callSr (rest := []) (nL := 1) ⟨hx, hb, hml, hown, hts⟩ (c_X5_raised l D cy ad hI v a 255 (by first | assumption | omega) (by first | assumption | omega)) (va_cwS 2 hts gX5_over_X5_raised rfl rfl rfl (by decide +kernel) ⟨Nat.le_of_ble_eq_true rfl, Nat.le_of_ble_eq_true rfl⟩) hK hP hS (fun _ h => h) rfl hl.1 rfl (Nat.le_of_ble_eq_true rfl) dX5_over_4 ⟨Nat.zero_le _, Nat.zero_le _⟩ (fun H locs hP hS => ?_)
  have hP : va_P D vwCl (wL 9 ad (mW ad cy (v))) H := hP
  refine k_iret hx hb hr hlocks (v) hP hS dX5_over_7 ?_
  exact ⟨rfl, rfl⟩
set_option maxHeartbeats 4000000 in
set_option maxRecDepth 100000 in
theorem c_X5_blank (l : Launch) (D : va_G) (cy : Nat → ClassId) (ad : Nat → Nat) (hI : wI 9 ad) (v : kV) (n : Nat) : kM l yX5_blank wsX5_blank ({ frames := 0, cells := 0, slots := 0, locals := 0 } : Room) D cy 9 ad (mW ad cy) (mW ad cy (v)) [.ref (ad (0)), .int (nI (n))] (kF none (bla v n)) := by
  refine k_met cX5_blank 3 none (by decide) rfl (Nat.le_of_ble_eq_true rfl) ?_
  intro p e s m below meth c ls hx hb hr hts hown hlocks hml hK hP hS hl
  have hl : lv_has ls 3 [(0, .ref (ad (0))), (1, .int (nI (n)))] := hl
  have hown : s.vm.findClass RX5 = some m.cls := hown
  have hf_27 := hts (.fieldLink RX5 27 "TurnedRowsModel" "out" "[I") (by decide +kernel)
  have hf_62 := hts (.fieldLink RX5 62 "TurnedRowsModel" "length" "I") (by decide +kernel)
  have hw_X5 : ∀ qw ∈ wsX50, qw.before ([.ref (ad (0)), .int (nI (n))] : List Value).toArray s = true := fun qw h => hts qw ((by decide +kernel : ∀ qw ∈ wsX50, qw ∈ wsX5_blank) qw h)
  refine lv_aload_n hx hb dX5_blank_0 rfl (lv_at hl 0 rfl) ?_
  refine lv_iload_n hx hb dX5_blank_1 rfl (lv_at hl 1 rfl) ?_
  refine k_put (q0 := 0) (k := 8) (T := TX5) (Nf := 11) (ci := 5) (C := RX5) (v := .int (nI (n))) (Wd' := mW ad cy (pln v n)) hx hb hw_X5 tyX5 tyX5_ok nmX5 hown hK hI hP hS (by decide) mW_obj rfl (by decide) hf_62 rfl rfl (ty := .int) (by decide +kernel) rfl rfl (Nat.le_of_ble_eq_true rfl) mW_up_ln dX5_blank_2 (fun H locs hP hS => ?_)
  refine lv_iconst (v := nI (0)) hx hb dX5_blank_5 rfl ?_
  refine lv_istore_n (lv' := [(2, .int (nI (0))), (0, .ref (ad (0))), (1, .int (nI (n)))]) hx hb dX5_blank_6 rfl hl (by decide) rfl (fun ls hl => ?_)
  have lp7 : ∀ (fu : Nat) (k : Nat) (v' : kV), (k ≤ 64) → (v' = pou (pln v n) (zto (vou v) k)) → 64 - k < fu → ∀ (H : Heap) (locs : List Loc), va_P D vwCl (wL 9 ad (mW ad cy (v'))) H → va_S (wA 9 ad) s.heap H locs → ∀ (ls : Array Slot), lv_has ls 3 [(2, .int (nI (k))), (0, .ref (ad (0))), (1, .int (nI (n)))] → W p l e ({ frames := 0, cells := 0, slots := 0, locals := 0 } : Room) s m ([.ref (ad (0)), .int (nI (n))] : List Value).toArray below meth c H locs 0 0 (MQ below (kQ D 9 ad (mW ad cy) (kF none (bla v n))) ([.ref (ad (0)), .int (nI (n))] : List Value).toArray s 0 0 (wA 9 ad)) (F0 m 7 ls []) := by
    intro fu
    induction fu with
    | zero => intro k v' hk hv hfu; exact absurd hfu (Nat.not_lt_zero _)
    | succ fu ih7 =>
      intro k v' hk hv hfu H locs hP hS ls hl
      refine lv_iload_n hx hb dX5_blank_7 rfl (lv_at hl 0 rfl) ?_
      refine lv_bipush (v := nI (64)) hx hb dX5_blank_8 rfl ?_
      refine n_icmp_ge (tgt := 26) hx hb (by omega) (by omega) dX5_blank_10 (by decide) (fun h_1 => ?_) (fun h_1 => ?_)
      · skip
        have hP := mW_ext (w := bla v n) (by rw [hv]; exact fun _ _ => rfl) (by rw [hv]; exact fun _ _ => rfl) (by rw [hv]; exact fun _ _ => rfl) (by rw [hv]; exact fun _ _ => rfl) (by rw [hv]; rfl) (by rw [hv]; exact fun _ _ => rfl) (by rw [hv]; rfl) (by rw [hv]; exact fun j hj => if_pos (by omega)) (by rw [hv]; rfl) (by rw [hv]; exact fun _ _ => rfl) (by rw [hv]; exact fun _ _ => rfl) hP
        refine k_vret hx hb hr hlocks (bla v n) hP hS dX5_blank_26 ?_
        exact ⟨rfl, rfl⟩
      · skip
        refine lv_aload_n hx hb dX5_blank_13 rfl (lv_at hl 1 rfl) ?_
        refine k_get (q0 := 0) (k := 7) (T := TX5) (Nf := 11) (ci := 5) (C := RX5) (v := .ref (ad (6))) hx hb hw_X5 hown hK hP (by decide) mW_obj rfl (by decide) hf_27 rfl rfl dX5_blank_14 ?_
        refine lv_iload_n hx hb dX5_blank_17 rfl (lv_at hl 0 rfl) ?_
        refine lv_iconst (v := nI (0)) hx hb dX5_blank_18 rfl ?_
        refine k_iast (q0 := 6) (j := k) (v := nI (0)) (Wd' := mW ad cy (pou v' (va_up (vou v') k 0))) hx hb hK hI hP hS (by decide) mW_ou (by decide) (by omega) mW_up_ou dX5_blank_19 (fun H locs hP hS => ?_)
        refine lv_iinc (v := nI (k + 1)) (lv' := [(2, .int (nI (k + 1))), (0, .ref (ad (0))), (1, .int (nI (n)))]) hx hb dX5_blank_20 hl (k := 0) rfl (nI_inc _) (by decide) rfl (fun ls hl => ?_)
        refine lv_goto (tgt := 7) hx hb dX5_blank_23 (by decide) ?_
        exact ih7 (k + 1) (pou v' (va_up (vou v') k 0)) (by omega) (by rw [hv]; exact congrArg (pou (pln v n)) (zto_s _ _)) (by omega) _ _ hP hS _ hl
  exact lp7 (_ + 1) (0) (pln v n) (by omega) (by rw [zto_0]; rfl) (Nat.lt_succ_self _) _ _ hP hS _ hl
set_option maxHeartbeats 4000000 in
set_option maxRecDepth 100000 in
theorem c_X5_store (l : Launch) (D : va_G) (cy : Nat → ClassId) (ad : Nat → Nat) (hI : wI 9 ad) (v : kV) (r : Nat) (hr6 : r < 6) (hln : vln v < 2 ^ 31) : kM l yX5_store wsX5_store ({ frames := 0, cells := 0, slots := 0, locals := 0 } : Room) D cy 9 ad (mW ad cy) (mW ad cy (v)) [.ref (ad (0)), .int (nI (r))] (kF none (sto v r)) := by
  refine k_met cX5_store 3 none (by decide) rfl (Nat.le_of_ble_eq_true rfl) ?_
  intro p e s m below meth c ls hx hb hr hts hown hlocks hml hK hP hS hl
  have hl : lv_has ls 3 [(0, .ref (ad (0))), (1, .int (nI (r)))] := hl
  have hown : s.vm.findClass RX5 = some m.cls := hown
  have hf_7 := hts (.fieldLink RX5 7 "TurnedRowsModel" "z" "[I") (by decide +kernel)
  have hf_27 := hts (.fieldLink RX5 27 "TurnedRowsModel" "out" "[I") (by decide +kernel)
  have hf_62 := hts (.fieldLink RX5 62 "TurnedRowsModel" "length" "I") (by decide +kernel)
  have hw_X5 : ∀ qw ∈ wsX50, qw.before ([.ref (ad (0)), .int (nI (r))] : List Value).toArray s = true := fun qw h => hts qw ((by decide +kernel : ∀ qw ∈ wsX50, qw ∈ wsX5_store) qw h)
  refine lv_aload_n hx hb dX5_store_0 rfl (lv_at hl 0 rfl) ?_
  refine k_get (q0 := 0) (k := 0) (T := TX5) (Nf := 11) (ci := 5) (C := RX5) (v := .ref (ad (1))) hx hb hw_X5 hown hK hP (by decide) mW_obj rfl (by decide) hf_7 rfl rfl dX5_store_1 ?_
  refine lv_bipush (v := nI (65)) hx hb dX5_store_4 rfl ?_
  refine lv_iload_n hx hb dX5_store_6 rfl (lv_at hl 1 rfl) ?_
  refine n_imul hx hb dX5_store_7 ?_
  refine lv_aload_n hx hb dX5_store_8 rfl (lv_at hl 0 rfl) ?_
  refine k_get (q0 := 0) (k := 8) (T := TX5) (Nf := 11) (ci := 5) (C := RX5) (v := .int (nI (vln v))) hx hb hw_X5 hown hK hP (by decide) mW_obj rfl (by decide) hf_62 rfl rfl dX5_store_9 ?_
  refine k_iast (q0 := 1) (j := 65 * r) (v := nI (vln v)) (Wd' := mW ad cy (pz v (va_up (vz v) (65 * r) (vln v)))) hx hb hK hI hP hS (by decide) mW_z (by decide) (by omega) mW_up_z dX5_store_12 (fun H locs hP hS => ?_)
  refine lv_iconst (v := nI (0)) hx hb dX5_store_13 rfl ?_
  refine lv_istore_n (lv' := [(2, .int (nI (0))), (0, .ref (ad (0))), (1, .int (nI (r)))]) hx hb dX5_store_14 rfl hl (by decide) rfl (fun ls hl => ?_)
  have lp15 : ∀ (fu : Nat) (k : Nat) (v' : kV), (k ≤ 64) → (vln v < 2 ^ 31) → (v' = pz v (stK (vz v) r (vln v) (vou v) k)) → 64 - k < fu → ∀ (H : Heap) (locs : List Loc), va_P D vwCl (wL 9 ad (mW ad cy (v'))) H → va_S (wA 9 ad) s.heap H locs → ∀ (ls : Array Slot), lv_has ls 3 [(2, .int (nI (k))), (0, .ref (ad (0))), (1, .int (nI (r)))] → W p l e ({ frames := 0, cells := 0, slots := 0, locals := 0 } : Room) s m ([.ref (ad (0)), .int (nI (r))] : List Value).toArray below meth c H locs 0 0 (MQ below (kQ D 9 ad (mW ad cy) (kF none (sto v r))) ([.ref (ad (0)), .int (nI (r))] : List Value).toArray s 0 0 (wA 9 ad)) (F0 m 15 ls []) := by
    intro fu
    induction fu with
    | zero => intro k v' hk hln hv hfu; exact absurd hfu (Nat.not_lt_zero _)
    | succ fu ih15 =>
      intro k v' hk hln hv hfu H locs hP hS ls hl
      have hln2 : vln v' = vln v := by rw [hv]; rfl
      refine lv_iload_n hx hb dX5_store_15 rfl (lv_at hl 0 rfl) ?_
      refine lv_bipush (v := nI (64)) hx hb dX5_store_16 rfl ?_
      refine n_icmp_ge (tgt := 58) hx hb (by omega) (by omega) dX5_store_18 (by decide) (fun h_1 => ?_) (fun h_1 => ?_)
      · skip
        rw [hv, show k = 64 by omega] at hP
        refine k_vret hx hb hr hlocks (sto v r) hP hS dX5_store_58 ?_
        exact ⟨rfl, rfl⟩
      · skip
        refine lv_aload_n hx hb dX5_store_21 rfl (lv_at hl 1 rfl) ?_
        refine k_get (q0 := 0) (k := 0) (T := TX5) (Nf := 11) (ci := 5) (C := RX5) (v := .ref (ad (1))) hx hb hw_X5 hown hK hP (by decide) mW_obj rfl (by decide) hf_7 rfl rfl dX5_store_22 ?_
        refine lv_bipush (v := nI (65)) hx hb dX5_store_25 rfl ?_
        refine lv_iload_n hx hb dX5_store_27 rfl (lv_at hl 2 rfl) ?_
        refine n_imul hx hb dX5_store_28 ?_
        refine lv_iconst (v := nI (1)) hx hb dX5_store_29 rfl ?_
        refine n_iadd hx hb dX5_store_30 ?_
        refine lv_iload_n hx hb dX5_store_31 rfl (lv_at hl 0 rfl) ?_
        refine n_iadd hx hb dX5_store_32 ?_
        refine lv_iload_n hx hb dX5_store_33 rfl (lv_at hl 0 rfl) ?_
        refine lv_aload_n hx hb dX5_store_34 rfl (lv_at hl 1 rfl) ?_
        refine k_get (q0 := 0) (k := 8) (T := TX5) (Nf := 11) (ci := 5) (C := RX5) (v := .int (nI (vln v'))) hx hb hw_X5 hown hK hP (by decide) mW_obj rfl (by decide) hf_62 rfl rfl dX5_store_35 ?_
        refine n_push (a := vln v) (by rw [hln2]) ?_
        refine n_icmp_ge (tgt := 50) hx hb (by omega) (by omega) dX5_store_38 (by decide) (fun h_2 => ?_) (fun h_2 => ?_)
        · skip
          have hq : (0 : Nat) = if k < vln v then vou v k else 0 := (if_neg (by omega)).symm
          refine lv_iconst (v := nI (0)) hx hb dX5_store_50 rfl ?_
          refine k_iast (q0 := 1) (j := ((65 * r) + 1) + k) (v := nI (0)) (Wd' := mW ad cy (pz v' (va_up (vz v') (((65 * r) + 1) + k) 0))) hx hb hK hI hP hS (by decide) mW_z (by decide) (by omega) mW_up_z dX5_store_51 (fun H locs hP hS => ?_)
          refine lv_iinc (v := nI (k + 1)) (lv' := [(2, .int (nI (k + 1))), (0, .ref (ad (0))), (1, .int (nI (r)))]) hx hb dX5_store_52 hl (k := 0) rfl (nI_inc _) (by decide) rfl (fun ls hl => ?_)
          refine lv_goto (tgt := 15) hx hb dX5_store_55 (by decide) ?_
          exact ih15 (k + 1) (pz v' (va_up (vz v') (((65 * r) + 1) + k) 0)) (by omega) hln (by rw [hv]; exact congrArg (pz v) (stK_s hq)) (by omega) _ _ hP hS _ hl
        · skip
          have hq : vou v k = if k < vln v then vou v k else 0 := (if_pos (by omega)).symm
          refine lv_aload_n hx hb dX5_store_41 rfl (lv_at hl 1 rfl) ?_
          refine k_get (q0 := 0) (k := 7) (T := TX5) (Nf := 11) (ci := 5) (C := RX5) (v := .ref (ad (6))) hx hb hw_X5 hown hK hP (by decide) mW_obj rfl (by decide) hf_27 rfl rfl dX5_store_42 ?_
          refine lv_iload_n hx hb dX5_store_45 rfl (lv_at hl 0 rfl) ?_
          refine k_iald (q0 := 6) (j := k) hx hb hK hP (by decide) mW_ou (by decide) (by omega) dX5_store_46 ?_
          refine n_same (a := vou v' k) rfl ?_
          refine n_push (a := vou v k) (by rw [hv]; rfl) ?_
          refine lv_goto (tgt := 51) hx hb dX5_store_47 (by decide) ?_
          refine k_iast (q0 := 1) (j := ((65 * r) + 1) + k) (v := nI (vou v k)) (Wd' := mW ad cy (pz v' (va_up (vz v') (((65 * r) + 1) + k) (vou v k)))) hx hb hK hI hP hS (by decide) mW_z (by decide) (by omega) mW_up_z dX5_store_51 (fun H locs hP hS => ?_)
          refine lv_iinc (v := nI (k + 1)) (lv' := [(2, .int (nI (k + 1))), (0, .ref (ad (0))), (1, .int (nI (r)))]) hx hb dX5_store_52 hl (k := 0) rfl (nI_inc _) (by decide) rfl (fun ls hl => ?_)
          refine lv_goto (tgt := 15) hx hb dX5_store_55 (by decide) ?_
          exact ih15 (k + 1) (pz v' (va_up (vz v') (((65 * r) + 1) + k) (vou v k))) (by omega) hln (by rw [hv]; exact congrArg (pz v) (stK_s hq)) (by omega) _ _ hP hS _ hl
  exact lp15 (_ + 1) (0) (pz v (va_up (vz v) (65 * r) (vln v))) (by omega) hln (by rw [← stK_0]) (Nat.lt_succ_self _) _ _ hP hS _ hl
set_option maxHeartbeats 4000000 in
set_option maxRecDepth 100000 in
theorem c_X5_degreeOf (l : Launch) (D : va_G) (cy : Nat → ClassId) (ad : Nat → Nat) (hI : wI 9 ad) (v : kV) (R : Nat → kR) (r : Nat) (hM : mReg R v) (hr6 : r < 6) : kM l yX5_degreeOf wsX5_degreeOf ({ frames := 2, cells := 0, slots := 0, locals := 43 } : Room) D cy 9 ad (mW ad cy) (mW ad cy (v)) [.ref (ad (0)), .int (nI (r))] (kF (some (.int (dV (dg (R r).2 (R r).1)))) (v)) := by
  refine k_met cX5_degreeOf 4 (some .int) (by decide) rfl (Nat.le_of_ble_eq_true rfl) ?_
  intro p e s m below meth c ls hx hb hr hts hown hlocks hml hK hP hS hl
  have hl : lv_has ls 4 [(0, .ref (ad (0))), (1, .int (nI (r)))] := hl
  have hown : s.vm.findClass RX5 = some m.cls := hown
  have hO := hM.O hr6
  have hlr := hO.2.1
  refine lv_bipush (v := (-6 : Int32)) hx hb dX5_degreeOf_0 (by decide) ?_
  refine lv_istore_n (lv' := [(2, .int (-6)), (0, .ref (ad (0))), (1, .int (nI (r)))]) hx hb dX5_degreeOf_2 rfl hl (by decide) rfl (fun ls hl => ?_)
  refine lv_iconst (v := nI (0)) hx hb dX5_degreeOf_3 rfl ?_
  refine lv_istore_n (lv' := [(3, .int (nI (0))), (2, .int (-6)), (0, .ref (ad (0))), (1, .int (nI (r)))]) hx hb dX5_degreeOf_4 rfl hl (by decide) rfl (fun ls hl => ?_)
  have lp5 : ∀ (fu : Nat) (k : Nat) (t : Int32), (k ≤ (R r).1) → (t = dV (dg (R r).2 k)) → (R r).1 - k < fu → ∀ (H : Heap) (locs : List Loc), va_P D vwCl (wL 9 ad (mW ad cy (v))) H → va_S (wA 9 ad) s.heap H locs → ∀ (ls : Array Slot), lv_has ls 4 [(3, .int (nI (k))), (2, .int (t)), (0, .ref (ad (0))), (1, .int (nI (r)))] → W p l e ({ frames := 2, cells := 0, slots := 0, locals := 43 } : Room) s m ([.ref (ad (0)), .int (nI (r))] : List Value).toArray below meth c H locs 0 0 (MQ below (kQ D 9 ad (mW ad cy) (kF (some (.int (dV (dg (R r).2 (R r).1)))) (v))) ([.ref (ad (0)), .int (nI (r))] : List Value).toArray s 0 0 (wA 9 ad)) (F0 m 5 ls []) := by
    intro fu
    induction fu with
    | zero => intro k t hk ht hfu; exact absurd hfu (Nat.not_lt_zero _)
    | succ fu ih5 =>
      intro k t hk ht hfu H locs hP hS ls hl
      have hb9 := hO.2.2.1 k
      refine lv_iload_n hx hb dX5_degreeOf_5 rfl (lv_at hl 0 rfl) ?_
      refine lv_aload_n hx hb dX5_degreeOf_6 rfl (lv_at hl 2 rfl) ?_
      refine lv_iload_n hx hb dX5_degreeOf_7 rfl (lv_at hl 3 rfl) ?_
      refine k_callVr (rest := [.int (nI (k))]) (nL := 4) ⟨hx, hb, hml, hown, hts⟩ (c_X5_lengthOf l D cy ad hI v R r hM (by first | assumption | omega)) (cwV 1 hts gX5_degreeOf_X5_lengthOf rfl rfl rfl (by decide +kernel) ⟨Nat.le_of_ble_eq_true rfl, Nat.le_of_ble_eq_true rfl⟩) hK hP hS (fun _ h => h) (q0 := 0) (ci := 5) rfl (by decide) mW_obj rfl rfl rfl hl.1 rfl (Nat.le_of_ble_eq_true rfl) dX5_degreeOf_8 ⟨Nat.zero_le _, Nat.zero_le _⟩ (fun H locs hP hS => ?_)
      have hP : va_P D vwCl (wL 9 ad (mW ad cy (v))) H := hP
      refine n_icmp_ge (tgt := 35) hx hb (by omega) (by omega) dX5_degreeOf_11 (by decide) (fun h_1 => ?_) (fun h_1 => ?_)
      · skip
        refine lv_iload_n hx hb dX5_degreeOf_35 rfl (lv_at hl 1 rfl) ?_
        refine k_iret hx hb hr hlocks (v) hP hS dX5_degreeOf_36 ?_
        exact ⟨congrArg (fun q => some (Value.int q)) (by rw [ht, show k = (R r).1 by omega]), rfl⟩
      · skip
        refine lv_aload_n hx hb dX5_degreeOf_14 rfl (lv_at hl 2 rfl) ?_
        refine lv_iload_n hx hb dX5_degreeOf_15 rfl (lv_at hl 3 rfl) ?_
        refine lv_iload_n hx hb dX5_degreeOf_16 rfl (lv_at hl 0 rfl) ?_
        refine k_callVr (rest := []) (nL := 4) ⟨hx, hb, hml, hown, hts⟩ (c_X5_at l D cy ad hI v R r k hM (by first | assumption | omega) (by first | assumption | omega)) (cwV 2 hts gX5_degreeOf_X5_at rfl rfl rfl (by decide +kernel) ⟨Nat.le_of_ble_eq_true rfl, Nat.le_of_ble_eq_true rfl⟩) hK hP hS (fun _ h => h) (q0 := 0) (ci := 5) rfl (by decide) mW_obj rfl rfl rfl hl.1 rfl (Nat.le_of_ble_eq_true rfl) dX5_degreeOf_17 ⟨Nat.zero_le _, Nat.zero_le _⟩ (fun H locs hP hS => ?_)
        have hP : va_P D vwCl (wL 9 ad (mW ad cy (v))) H := hP
        refine n_ifne (tgt := 27) hx hb (by omega) dX5_degreeOf_20 (by decide) (fun h_2 => ?_) (fun h_2 => ?_)
        · skip
          refine lv_iload_n hx hb dX5_degreeOf_27 rfl (lv_at hl 0 rfl) ?_
          refine lv_istore_n (lv' := [(2, .int (nI (k))), (3, .int (nI (k))), (0, .ref (ad (0))), (1, .int (nI (r)))]) hx hb dX5_degreeOf_28 rfl hl (by decide) rfl (fun ls hl => ?_)
          refine lv_iinc (v := nI (k + 1)) (lv' := [(3, .int (nI (k + 1))), (2, .int (nI (k))), (0, .ref (ad (0))), (1, .int (nI (r)))]) hx hb dX5_degreeOf_29 hl (k := 1) rfl (nI_inc _) (by decide) rfl (fun ls hl => ?_)
          refine lv_goto (tgt := 5) hx hb dX5_degreeOf_32 (by decide) ?_
          exact ih5 (k + 1) (nI k) (by omega) (dg_step_n h_2) (by omega) _ _ hP hS _ hl
        · skip
          refine lv_iload_n hx hb dX5_degreeOf_23 rfl (lv_at hl 1 rfl) ?_
          refine lv_goto (tgt := 28) hx hb dX5_degreeOf_24 (by decide) ?_
          refine lv_istore_n (lv' := [(2, .int (t)), (3, .int (nI (k))), (0, .ref (ad (0))), (1, .int (nI (r)))]) hx hb dX5_degreeOf_28 rfl hl (by decide) rfl (fun ls hl => ?_)
          refine lv_iinc (v := nI (k + 1)) (lv' := [(3, .int (nI (k + 1))), (2, .int (t)), (0, .ref (ad (0))), (1, .int (nI (r)))]) hx hb dX5_degreeOf_29 hl (k := 1) rfl (nI_inc _) (by decide) rfl (fun ls hl => ?_)
          refine lv_goto (tgt := 5) hx hb dX5_degreeOf_32 (by decide) ?_
          exact ih5 (k + 1) (t) (by omega) (dg_step_z h_2 ht) (by omega) _ _ hP hS _ hl
  exact lp5 (_ + 1) (0) (-6) (by omega) rfl (Nat.lt_succ_self _) _ _ hP hS _ hl
set_option maxHeartbeats 4000000 in
set_option maxRecDepth 100000 in
theorem c_X5_degreeOut (l : Launch) (D : va_G) (cy : Nat → ClassId) (ad : Nat → Nat) (hI : wI 9 ad) (v : kV) (hl64 : vln v ≤ 64) (hob : ∀ k, vou v k < 257) : kM l yX5_degreeOut wsX5_degreeOut ({ frames := 0, cells := 0, slots := 0, locals := 0 } : Room) D cy 9 ad (mW ad cy) (mW ad cy (v)) [.ref (ad (0))] (kF (some (.int (dV (dg (vou v) (vln v))))) (v)) := by
  refine k_met cX5_degreeOut 3 (some .int) (by decide) rfl (Nat.le_of_ble_eq_true rfl) ?_
  intro p e s m below meth c ls hx hb hr hts hown hlocks hml hK hP hS hl
  have hl : lv_has ls 3 [(0, .ref (ad (0)))] := hl
  have hown : s.vm.findClass RX5 = some m.cls := hown
  have hf_27 := hts (.fieldLink RX5 27 "TurnedRowsModel" "out" "[I") (by decide +kernel)
  have hf_62 := hts (.fieldLink RX5 62 "TurnedRowsModel" "length" "I") (by decide +kernel)
  have hw_X5 : ∀ qw ∈ wsX50, qw.before ([.ref (ad (0))] : List Value).toArray s = true := fun qw h => hts qw ((by decide +kernel : ∀ qw ∈ wsX50, qw ∈ wsX5_degreeOut) qw h)
  refine lv_bipush (v := (-6 : Int32)) hx hb dX5_degreeOut_0 (by decide) ?_
  refine lv_istore_n (lv' := [(1, .int (-6)), (0, .ref (ad (0)))]) hx hb dX5_degreeOut_2 rfl hl (by decide) rfl (fun ls hl => ?_)
  refine lv_iconst (v := nI (0)) hx hb dX5_degreeOut_3 rfl ?_
  refine lv_istore_n (lv' := [(2, .int (nI (0))), (1, .int (-6)), (0, .ref (ad (0)))]) hx hb dX5_degreeOut_4 rfl hl (by decide) rfl (fun ls hl => ?_)
  have lp5 : ∀ (fu : Nat) (k : Nat) (t : Int32), (k ≤ vln v) → (t = dV (dg (vou v) k)) → vln v - k < fu → ∀ (H : Heap) (locs : List Loc), va_P D vwCl (wL 9 ad (mW ad cy (v))) H → va_S (wA 9 ad) s.heap H locs → ∀ (ls : Array Slot), lv_has ls 3 [(2, .int (nI (k))), (1, .int (t)), (0, .ref (ad (0)))] → W p l e ({ frames := 0, cells := 0, slots := 0, locals := 0 } : Room) s m ([.ref (ad (0))] : List Value).toArray below meth c H locs 0 0 (MQ below (kQ D 9 ad (mW ad cy) (kF (some (.int (dV (dg (vou v) (vln v))))) (v))) ([.ref (ad (0))] : List Value).toArray s 0 0 (wA 9 ad)) (F0 m 5 ls []) := by
    intro fu
    induction fu with
    | zero => intro k t hk ht hfu; exact absurd hfu (Nat.not_lt_zero _)
    | succ fu ih5 =>
      intro k t hk ht hfu H locs hP hS ls hl
      have hb9 := hob k
      refine lv_iload_n hx hb dX5_degreeOut_5 rfl (lv_at hl 0 rfl) ?_
      refine lv_aload_n hx hb dX5_degreeOut_6 rfl (lv_at hl 2 rfl) ?_
      refine k_get (q0 := 0) (k := 8) (T := TX5) (Nf := 11) (ci := 5) (C := RX5) (v := .int (nI (vln v))) hx hb hw_X5 hown hK hP (by decide) mW_obj rfl (by decide) hf_62 rfl rfl dX5_degreeOut_7 ?_
      refine n_icmp_ge (tgt := 34) hx hb (by omega) (by omega) dX5_degreeOut_10 (by decide) (fun h_1 => ?_) (fun h_1 => ?_)
      · skip
        refine lv_iload_n hx hb dX5_degreeOut_34 rfl (lv_at hl 1 rfl) ?_
        refine k_iret hx hb hr hlocks (v) hP hS dX5_degreeOut_35 ?_
        exact ⟨congrArg (fun q => some (Value.int q)) (by rw [ht, show k = vln v by omega]), rfl⟩
      · skip
        refine lv_aload_n hx hb dX5_degreeOut_13 rfl (lv_at hl 2 rfl) ?_
        refine k_get (q0 := 0) (k := 7) (T := TX5) (Nf := 11) (ci := 5) (C := RX5) (v := .ref (ad (6))) hx hb hw_X5 hown hK hP (by decide) mW_obj rfl (by decide) hf_27 rfl rfl dX5_degreeOut_14 ?_
        refine lv_iload_n hx hb dX5_degreeOut_17 rfl (lv_at hl 0 rfl) ?_
        refine k_iald (q0 := 6) (j := k) hx hb hK hP (by decide) mW_ou (by decide) (by omega) dX5_degreeOut_18 ?_
        refine n_same (a := vou v k) rfl ?_
        refine n_ifne (tgt := 26) hx hb (by omega) dX5_degreeOut_19 (by decide) (fun h_2 => ?_) (fun h_2 => ?_)
        · skip
          refine lv_iload_n hx hb dX5_degreeOut_26 rfl (lv_at hl 0 rfl) ?_
          refine lv_istore_n (lv' := [(1, .int (nI (k))), (2, .int (nI (k))), (0, .ref (ad (0)))]) hx hb dX5_degreeOut_27 rfl hl (by decide) rfl (fun ls hl => ?_)
          refine lv_iinc (v := nI (k + 1)) (lv' := [(2, .int (nI (k + 1))), (1, .int (nI (k))), (0, .ref (ad (0)))]) hx hb dX5_degreeOut_28 hl (k := 1) rfl (nI_inc _) (by decide) rfl (fun ls hl => ?_)
          refine lv_goto (tgt := 5) hx hb dX5_degreeOut_31 (by decide) ?_
          exact ih5 (k + 1) (nI k) (by omega) (dg_step_n h_2) (by omega) _ _ hP hS _ hl
        · skip
          refine lv_iload_n hx hb dX5_degreeOut_22 rfl (lv_at hl 1 rfl) ?_
          refine lv_goto (tgt := 27) hx hb dX5_degreeOut_23 (by decide) ?_
          refine lv_istore_n (lv' := [(1, .int (t)), (2, .int (nI (k))), (0, .ref (ad (0)))]) hx hb dX5_degreeOut_27 rfl hl (by decide) rfl (fun ls hl => ?_)
          refine lv_iinc (v := nI (k + 1)) (lv' := [(2, .int (nI (k + 1))), (1, .int (t)), (0, .ref (ad (0)))]) hx hb dX5_degreeOut_28 hl (k := 1) rfl (nI_inc _) (by decide) rfl (fun ls hl => ?_)
          refine lv_goto (tgt := 5) hx hb dX5_degreeOut_31 (by decide) ?_
          exact ih5 (k + 1) (t) (by omega) (dg_step_z h_2 ht) (by omega) _ _ hP hS _ hl
  exact lp5 (_ + 1) (0) (-6) (by omega) rfl (Nat.lt_succ_self _) _ _ hP hS _ hl
set_option maxHeartbeats 4000000 in
set_option maxRecDepth 100000 in
theorem c_X5_degreeIn_on (l : Launch) (D : va_G) (cy : Nat → ClassId) (ad : Nat → Nat) (hI : wI 9 ad) (v : kV) (hob : ∀ k, von v k < 257) : kM l yX5_degreeIn wsX5_degreeIn ({ frames := 0, cells := 0, slots := 0, locals := 0 } : Room) D cy 9 ad (mW ad cy) (mW ad cy (v)) [.ref (ad (7))] (kF (some (.int (dV (dg (von v) 64)))) (v)) := by
  refine k_met cX5_degreeIn 3 (some .int) (by decide) rfl (Nat.le_of_ble_eq_true rfl) ?_
  intro p e s m below meth c ls hx hb hr hts hown hlocks hml hK hP hS hl
  have hl : lv_has ls 3 [(0, .ref (ad (7)))] := hl
  have hown : s.vm.findClass RX5 = some m.cls := hown
  refine lv_bipush (v := (-6 : Int32)) hx hb dX5_degreeIn_0 (by decide) ?_
  refine lv_istore_n (lv' := [(1, .int (-6)), (0, .ref (ad (7)))]) hx hb dX5_degreeIn_2 rfl hl (by decide) rfl (fun ls hl => ?_)
  refine lv_iconst (v := nI (0)) hx hb dX5_degreeIn_3 rfl ?_
  refine lv_istore_n (lv' := [(2, .int (nI (0))), (1, .int (-6)), (0, .ref (ad (7)))]) hx hb dX5_degreeIn_4 rfl hl (by decide) rfl (fun ls hl => ?_)
  have lp5 : ∀ (fu : Nat) (k : Nat) (t : Int32), (k ≤ 64) → (t = dV (dg (von v) k)) → 64 - k < fu → ∀ (H : Heap) (locs : List Loc), va_P D vwCl (wL 9 ad (mW ad cy (v))) H → va_S (wA 9 ad) s.heap H locs → ∀ (ls : Array Slot), lv_has ls 3 [(2, .int (nI (k))), (1, .int (t)), (0, .ref (ad (7)))] → W p l e ({ frames := 0, cells := 0, slots := 0, locals := 0 } : Room) s m ([.ref (ad (7))] : List Value).toArray below meth c H locs 0 0 (MQ below (kQ D 9 ad (mW ad cy) (kF (some (.int (dV (dg (von v) 64)))) (v))) ([.ref (ad (7))] : List Value).toArray s 0 0 (wA 9 ad)) (F0 m 5 ls []) := by
    intro fu
    induction fu with
    | zero => intro k t hk ht hfu; exact absurd hfu (Nat.not_lt_zero _)
    | succ fu ih5 =>
      intro k t hk ht hfu H locs hP hS ls hl
      have hb9 := hob k
      refine lv_iload_n hx hb dX5_degreeIn_5 rfl (lv_at hl 0 rfl) ?_
      refine lv_bipush (v := nI (64)) hx hb dX5_degreeIn_6 rfl ?_
      refine n_icmp_ge (tgt := 29) hx hb (by omega) (by omega) dX5_degreeIn_8 (by decide) (fun h_1 => ?_) (fun h_1 => ?_)
      · skip
        refine lv_iload_n hx hb dX5_degreeIn_29 rfl (lv_at hl 1 rfl) ?_
        refine k_iret hx hb hr hlocks (v) hP hS dX5_degreeIn_30 ?_
        exact ⟨congrArg (fun q => some (Value.int q)) (by rw [ht, show k = 64 by omega]), rfl⟩
      · skip
        refine lv_aload_n hx hb dX5_degreeIn_11 rfl (lv_at hl 2 rfl) ?_
        refine lv_iload_n hx hb dX5_degreeIn_12 rfl (lv_at hl 0 rfl) ?_
        refine k_iald (q0 := 7) (j := k) hx hb hK hP (by decide) mW_on (by decide) (by omega) dX5_degreeIn_13 ?_
        refine n_same (a := von v k) rfl ?_
        refine n_ifne (tgt := 21) hx hb (by omega) dX5_degreeIn_14 (by decide) (fun h_2 => ?_) (fun h_2 => ?_)
        · skip
          refine lv_iload_n hx hb dX5_degreeIn_21 rfl (lv_at hl 0 rfl) ?_
          refine lv_istore_n (lv' := [(1, .int (nI (k))), (2, .int (nI (k))), (0, .ref (ad (7)))]) hx hb dX5_degreeIn_22 rfl hl (by decide) rfl (fun ls hl => ?_)
          refine lv_iinc (v := nI (k + 1)) (lv' := [(2, .int (nI (k + 1))), (1, .int (nI (k))), (0, .ref (ad (7)))]) hx hb dX5_degreeIn_23 hl (k := 1) rfl (nI_inc _) (by decide) rfl (fun ls hl => ?_)
          refine lv_goto (tgt := 5) hx hb dX5_degreeIn_26 (by decide) ?_
          exact ih5 (k + 1) (nI k) (by omega) (dg_step_n h_2) (by omega) _ _ hP hS _ hl
        · skip
          refine lv_iload_n hx hb dX5_degreeIn_17 rfl (lv_at hl 1 rfl) ?_
          refine lv_goto (tgt := 22) hx hb dX5_degreeIn_18 (by decide) ?_
          refine lv_istore_n (lv' := [(1, .int (t)), (2, .int (nI (k))), (0, .ref (ad (7)))]) hx hb dX5_degreeIn_22 rfl hl (by decide) rfl (fun ls hl => ?_)
          refine lv_iinc (v := nI (k + 1)) (lv' := [(2, .int (nI (k + 1))), (1, .int (t)), (0, .ref (ad (7)))]) hx hb dX5_degreeIn_23 hl (k := 1) rfl (nI_inc _) (by decide) rfl (fun ls hl => ?_)
          refine lv_goto (tgt := 5) hx hb dX5_degreeIn_26 (by decide) ?_
          exact ih5 (k + 1) (t) (by omega) (dg_step_z h_2 ht) (by omega) _ _ hP hS _ hl
  exact lp5 (_ + 1) (0) (-6) (by omega) rfl (Nat.lt_succ_self _) _ _ hP hS _ hl
set_option maxHeartbeats 4000000 in
set_option maxRecDepth 100000 in
theorem c_X5_degreeIn_tw (l : Launch) (D : va_G) (cy : Nat → ClassId) (ad : Nat → Nat) (hI : wI 9 ad) (v : kV) (hob : ∀ k, vtw v k < 257) : kM l yX5_degreeIn wsX5_degreeIn ({ frames := 0, cells := 0, slots := 0, locals := 0 } : Room) D cy 9 ad (mW ad cy) (mW ad cy (v)) [.ref (ad (8))] (kF (some (.int (dV (dg (vtw v) 64)))) (v)) := by
  refine k_met cX5_degreeIn 3 (some .int) (by decide) rfl (Nat.le_of_ble_eq_true rfl) ?_
  intro p e s m below meth c ls hx hb hr hts hown hlocks hml hK hP hS hl
  have hl : lv_has ls 3 [(0, .ref (ad (8)))] := hl
  have hown : s.vm.findClass RX5 = some m.cls := hown
  refine lv_bipush (v := (-6 : Int32)) hx hb dX5_degreeIn_0 (by decide) ?_
  refine lv_istore_n (lv' := [(1, .int (-6)), (0, .ref (ad (8)))]) hx hb dX5_degreeIn_2 rfl hl (by decide) rfl (fun ls hl => ?_)
  refine lv_iconst (v := nI (0)) hx hb dX5_degreeIn_3 rfl ?_
  refine lv_istore_n (lv' := [(2, .int (nI (0))), (1, .int (-6)), (0, .ref (ad (8)))]) hx hb dX5_degreeIn_4 rfl hl (by decide) rfl (fun ls hl => ?_)
  have lp5 : ∀ (fu : Nat) (k : Nat) (t : Int32), (k ≤ 64) → (t = dV (dg (vtw v) k)) → 64 - k < fu → ∀ (H : Heap) (locs : List Loc), va_P D vwCl (wL 9 ad (mW ad cy (v))) H → va_S (wA 9 ad) s.heap H locs → ∀ (ls : Array Slot), lv_has ls 3 [(2, .int (nI (k))), (1, .int (t)), (0, .ref (ad (8)))] → W p l e ({ frames := 0, cells := 0, slots := 0, locals := 0 } : Room) s m ([.ref (ad (8))] : List Value).toArray below meth c H locs 0 0 (MQ below (kQ D 9 ad (mW ad cy) (kF (some (.int (dV (dg (vtw v) 64)))) (v))) ([.ref (ad (8))] : List Value).toArray s 0 0 (wA 9 ad)) (F0 m 5 ls []) := by
    intro fu
    induction fu with
    | zero => intro k t hk ht hfu; exact absurd hfu (Nat.not_lt_zero _)
    | succ fu ih5 =>
      intro k t hk ht hfu H locs hP hS ls hl
      have hb9 := hob k
      refine lv_iload_n hx hb dX5_degreeIn_5 rfl (lv_at hl 0 rfl) ?_
      refine lv_bipush (v := nI (64)) hx hb dX5_degreeIn_6 rfl ?_
      refine n_icmp_ge (tgt := 29) hx hb (by omega) (by omega) dX5_degreeIn_8 (by decide) (fun h_1 => ?_) (fun h_1 => ?_)
      · skip
        refine lv_iload_n hx hb dX5_degreeIn_29 rfl (lv_at hl 1 rfl) ?_
        refine k_iret hx hb hr hlocks (v) hP hS dX5_degreeIn_30 ?_
        exact ⟨congrArg (fun q => some (Value.int q)) (by rw [ht, show k = 64 by omega]), rfl⟩
      · skip
        refine lv_aload_n hx hb dX5_degreeIn_11 rfl (lv_at hl 2 rfl) ?_
        refine lv_iload_n hx hb dX5_degreeIn_12 rfl (lv_at hl 0 rfl) ?_
        refine k_iald (q0 := 8) (j := k) hx hb hK hP (by decide) mW_tw (by decide) (by omega) dX5_degreeIn_13 ?_
        refine n_same (a := vtw v k) rfl ?_
        refine n_ifne (tgt := 21) hx hb (by omega) dX5_degreeIn_14 (by decide) (fun h_2 => ?_) (fun h_2 => ?_)
        · skip
          refine lv_iload_n hx hb dX5_degreeIn_21 rfl (lv_at hl 0 rfl) ?_
          refine lv_istore_n (lv' := [(1, .int (nI (k))), (2, .int (nI (k))), (0, .ref (ad (8)))]) hx hb dX5_degreeIn_22 rfl hl (by decide) rfl (fun ls hl => ?_)
          refine lv_iinc (v := nI (k + 1)) (lv' := [(2, .int (nI (k + 1))), (1, .int (nI (k))), (0, .ref (ad (8)))]) hx hb dX5_degreeIn_23 hl (k := 1) rfl (nI_inc _) (by decide) rfl (fun ls hl => ?_)
          refine lv_goto (tgt := 5) hx hb dX5_degreeIn_26 (by decide) ?_
          exact ih5 (k + 1) (nI k) (by omega) (dg_step_n h_2) (by omega) _ _ hP hS _ hl
        · skip
          refine lv_iload_n hx hb dX5_degreeIn_17 rfl (lv_at hl 1 rfl) ?_
          refine lv_goto (tgt := 22) hx hb dX5_degreeIn_18 (by decide) ?_
          refine lv_istore_n (lv' := [(1, .int (t)), (2, .int (nI (k))), (0, .ref (ad (8)))]) hx hb dX5_degreeIn_22 rfl hl (by decide) rfl (fun ls hl => ?_)
          refine lv_iinc (v := nI (k + 1)) (lv' := [(2, .int (nI (k + 1))), (1, .int (t)), (0, .ref (ad (8)))]) hx hb dX5_degreeIn_23 hl (k := 1) rfl (nI_inc _) (by decide) rfl (fun ls hl => ?_)
          refine lv_goto (tgt := 5) hx hb dX5_degreeIn_26 (by decide) ?_
          exact ih5 (k + 1) (t) (by omega) (dg_step_z h_2 ht) (by omega) _ _ hP hS _ hl
  exact lp5 (_ + 1) (0) (-6) (by omega) rfl (Nat.lt_succ_self _) _ _ hP hS _ hl
set_option maxHeartbeats 4000000 in
set_option maxRecDepth 100000 in
theorem c_X5_lengths (l : Launch) (D : va_G) (cy : Nat → ClassId) (ad : Nat → Nat) (hI : wI 9 ad) (v : kV) (R : Nat → kR) (hM : mReg R v) : kM l yX5_lengths wsX5_lengths ({ frames := 1, cells := 0, slots := 0, locals := 21 } : Room) D cy 9 ad (mW ad cy) (mW ad cy (v)) [.ref (ad (0))] (kF (some (.int (nI (ln6 R 0)))) (v)) := by
  refine k_met cX5_lengths 3 (some .int) (by decide) rfl (Nat.le_of_ble_eq_true rfl) ?_
  intro p e s m below meth c ls hx hb hr hts hown hlocks hml hK hP hS hl
  have hl : lv_has ls 3 [(0, .ref (ad (0)))] := hl
  have hown : s.vm.findClass RX5 = some m.cls := hown
  refine lv_iconst (v := nI (0)) hx hb dX5_lengths_0 rfl ?_
  refine lv_istore_n (lv' := [(1, .int (nI (0))), (0, .ref (ad (0)))]) hx hb dX5_lengths_1 rfl hl (by decide) rfl (fun ls hl => ?_)
  refine lv_iconst (v := nI (0)) hx hb dX5_lengths_2 rfl ?_
  refine lv_istore_n (lv' := [(2, .int (nI (0))), (1, .int (nI (0))), (0, .ref (ad (0)))]) hx hb dX5_lengths_3 rfl hl (by decide) rfl (fun ls hl => ?_)
  have lp4 : ∀ (fu : Nat) (k : Nat) (t : Nat), (k ≤ 6) → (t = sm (fun j => (R (6 * 0 + j)).1) k) → (t ≤ 64 * k) → 6 - k < fu → ∀ (H : Heap) (locs : List Loc), va_P D vwCl (wL 9 ad (mW ad cy (v))) H → va_S (wA 9 ad) s.heap H locs → ∀ (ls : Array Slot), lv_has ls 3 [(2, .int (nI (k))), (1, .int (nI (t))), (0, .ref (ad (0)))] → W p l e ({ frames := 1, cells := 0, slots := 0, locals := 21 } : Room) s m ([.ref (ad (0))] : List Value).toArray below meth c H locs 0 0 (MQ below (kQ D 9 ad (mW ad cy) (kF (some (.int (nI (ln6 R 0)))) (v))) ([.ref (ad (0))] : List Value).toArray s 0 0 (wA 9 ad)) (F0 m 4 ls []) := by
    intro fu
    induction fu with
    | zero => intro k t hk ht htl hfu; exact absurd hfu (Nat.not_lt_zero _)
    | succ fu ih4 =>
      intro k t hk ht htl hfu H locs hP hS ls hl
      refine lv_iload_n hx hb dX5_lengths_4 rfl (lv_at hl 0 rfl) ?_
      refine lv_bipush (v := nI (6)) hx hb dX5_lengths_5 rfl ?_
      refine n_icmp_ge (tgt := 24) hx hb (by omega) (by omega) dX5_lengths_7 (by decide) (fun h_1 => ?_) (fun h_1 => ?_)
      · skip
        refine lv_iload_n hx hb dX5_lengths_24 rfl (lv_at hl 1 rfl) ?_
        refine k_iret hx hb hr hlocks (v) hP hS dX5_lengths_25 ?_
        exact ⟨rN (by rw [ht, show k = 6 by omega]; rfl), rfl⟩
      · skip
        refine lv_iload_n hx hb dX5_lengths_10 rfl (lv_at hl 1 rfl) ?_
        refine lv_aload_n hx hb dX5_lengths_11 rfl (lv_at hl 2 rfl) ?_
        refine lv_iload_n hx hb dX5_lengths_12 rfl (lv_at hl 0 rfl) ?_
        refine k_callVr (rest := [.int (nI (t))]) (nL := 3) ⟨hx, hb, hml, hown, hts⟩ (c_X5_lengthOf l D cy ad hI v R k hM (by first | assumption | omega)) (cwV 1 hts gX5_lengths_X5_lengthOf rfl rfl rfl (by decide +kernel) ⟨Nat.le_of_ble_eq_true rfl, Nat.le_of_ble_eq_true rfl⟩) hK hP hS (fun _ h => h) (q0 := 0) (ci := 5) rfl (by decide) mW_obj rfl rfl rfl hl.1 rfl (Nat.le_of_ble_eq_true rfl) dX5_lengths_13 ⟨Nat.zero_le _, Nat.zero_le _⟩ (fun H locs hP hS => ?_)
        have hP : va_P D vwCl (wL 9 ad (mW ad cy (v))) H := hP
        refine n_iadd hx hb dX5_lengths_16 ?_
        refine lv_istore_n (lv' := [(1, .int (nI (t + ((R k).1)))), (2, .int (nI (k))), (0, .ref (ad (0)))]) hx hb dX5_lengths_17 rfl hl (by decide) rfl (fun ls hl => ?_)
        refine lv_iinc (v := nI (k + 1)) (lv' := [(2, .int (nI (k + 1))), (1, .int (nI (t + ((R k).1)))), (0, .ref (ad (0)))]) hx hb dX5_lengths_18 hl (k := 1) rfl (nI_inc _) (by decide) rfl (fun ls hl => ?_)
        refine lv_goto (tgt := 4) hx hb dX5_lengths_21 (by decide) ?_
        exact ih4 (k + 1) (t + (R k).1) (by omega) (by rw [ht, show (R k).1 = (R (6 * 0 + k)).1 by rw [show 6 * 0 + k = k by omega]]; rfl) (by have := (hM.O h_1).2.1; omega) (by omega) _ _ hP hS _ hl
  exact lp4 (_ + 1) (0) (0) (by omega) rfl (by omega) (Nat.lt_succ_self _) _ _ hP hS _ hl
set_option maxHeartbeats 4000000 in
set_option maxRecDepth 100000 in
theorem c_X5_isSize (l : Launch) (D : va_G) (cy : Nat → ClassId) (ad : Nat → Nat) (hI : wI 9 ad) (v : kV) (r : Int32) : kM l yX5_isSize wsX5_isSize ({ frames := 0, cells := 0, slots := 0, locals := 0 } : Room) D cy 9 ad (mW ad cy) (mW ad cy (v)) [.int (r)] (kF (some (.int (kB (isZ r)))) (v)) := by
  refine k_met cX5_isSize 1 (some .boolean) (by decide) rfl (Nat.le_of_ble_eq_true rfl) ?_
  intro p e s m below meth c ls hx hb hr hts hown hlocks hml hK hP hS hl
  have hl : lv_has ls 1 [(0, .int (r))] := hl
  have hown : s.vm.findClass RX5 = some m.cls := hown
  refine lv_iload_n hx hb dX5_isSize_0 rfl (lv_at hl 0 rfl) ?_
  refine lv_iconst (v := nI (1)) hx hb dX5_isSize_1 rfl ?_
  refine lv_icmp_eq (tgt := 39) hx hb dX5_isSize_2 (by decide) (fun h_1 => ?_) (fun h_1 => ?_)
  · skip
    refine lv_iconst (v := nI (1)) hx hb dX5_isSize_39 rfl ?_
    refine lv_goto (tgt := 44) hx hb dX5_isSize_40 (by decide) ?_
    refine k_zret hx hb hr hlocks (by first | rfl | exact nar_kB _ | decide) (v) hP hS dX5_isSize_44 ?_
    exact ⟨by rw [isZ_t h_1 (by decide)]; rfl, rfl⟩
  · skip
    refine lv_iload_n hx hb dX5_isSize_5 rfl (lv_at hl 0 rfl) ?_
    refine lv_iconst (v := nI (2)) hx hb dX5_isSize_6 rfl ?_
    refine lv_icmp_eq (tgt := 39) hx hb dX5_isSize_7 (by decide) (fun h_2 => ?_) (fun h_2 => ?_)
    · skip
      refine lv_iconst (v := nI (1)) hx hb dX5_isSize_39 rfl ?_
      refine lv_goto (tgt := 44) hx hb dX5_isSize_40 (by decide) ?_
      refine k_zret hx hb hr hlocks (by first | rfl | exact nar_kB _ | decide) (v) hP hS dX5_isSize_44 ?_
      exact ⟨by rw [isZ_t h_2 (by decide)]; rfl, rfl⟩
    · skip
      refine lv_iload_n hx hb dX5_isSize_10 rfl (lv_at hl 0 rfl) ?_
      refine lv_iconst (v := nI (4)) hx hb dX5_isSize_11 rfl ?_
      refine lv_icmp_eq (tgt := 39) hx hb dX5_isSize_12 (by decide) (fun h_3 => ?_) (fun h_3 => ?_)
      · skip
        refine lv_iconst (v := nI (1)) hx hb dX5_isSize_39 rfl ?_
        refine lv_goto (tgt := 44) hx hb dX5_isSize_40 (by decide) ?_
        refine k_zret hx hb hr hlocks (by first | rfl | exact nar_kB _ | decide) (v) hP hS dX5_isSize_44 ?_
        exact ⟨by rw [isZ_t h_3 (by decide)]; rfl, rfl⟩
      · skip
        refine lv_iload_n hx hb dX5_isSize_15 rfl (lv_at hl 0 rfl) ?_
        refine lv_bipush (v := nI (8)) hx hb dX5_isSize_16 rfl ?_
        refine lv_icmp_eq (tgt := 39) hx hb dX5_isSize_18 (by decide) (fun h_4 => ?_) (fun h_4 => ?_)
        · skip
          refine lv_iconst (v := nI (1)) hx hb dX5_isSize_39 rfl ?_
          refine lv_goto (tgt := 44) hx hb dX5_isSize_40 (by decide) ?_
          refine k_zret hx hb hr hlocks (by first | rfl | exact nar_kB _ | decide) (v) hP hS dX5_isSize_44 ?_
          exact ⟨by rw [isZ_t h_4 (by decide)]; rfl, rfl⟩
        · skip
          refine lv_iload_n hx hb dX5_isSize_21 rfl (lv_at hl 0 rfl) ?_
          refine lv_bipush (v := nI (16)) hx hb dX5_isSize_22 rfl ?_
          refine lv_icmp_eq (tgt := 39) hx hb dX5_isSize_24 (by decide) (fun h_5 => ?_) (fun h_5 => ?_)
          · skip
            refine lv_iconst (v := nI (1)) hx hb dX5_isSize_39 rfl ?_
            refine lv_goto (tgt := 44) hx hb dX5_isSize_40 (by decide) ?_
            refine k_zret hx hb hr hlocks (by first | rfl | exact nar_kB _ | decide) (v) hP hS dX5_isSize_44 ?_
            exact ⟨by rw [isZ_t h_5 (by decide)]; rfl, rfl⟩
          · skip
            refine lv_iload_n hx hb dX5_isSize_27 rfl (lv_at hl 0 rfl) ?_
            refine lv_bipush (v := nI (32)) hx hb dX5_isSize_28 rfl ?_
            refine lv_icmp_eq (tgt := 39) hx hb dX5_isSize_30 (by decide) (fun h_6 => ?_) (fun h_6 => ?_)
            · skip
              refine lv_iconst (v := nI (1)) hx hb dX5_isSize_39 rfl ?_
              refine lv_goto (tgt := 44) hx hb dX5_isSize_40 (by decide) ?_
              refine k_zret hx hb hr hlocks (by first | rfl | exact nar_kB _ | decide) (v) hP hS dX5_isSize_44 ?_
              exact ⟨by rw [isZ_t h_6 (by decide)]; rfl, rfl⟩
            · skip
              refine lv_iload_n hx hb dX5_isSize_33 rfl (lv_at hl 0 rfl) ?_
              refine lv_bipush (v := nI (64)) hx hb dX5_isSize_34 rfl ?_
              refine lv_icmp_ne (tgt := 43) hx hb dX5_isSize_36 (by decide) (fun h_7 => ?_) (fun h_7 => ?_)
              · skip
                refine lv_iconst (v := nI (0)) hx hb dX5_isSize_43 rfl ?_
                refine k_zret hx hb hr hlocks (by first | rfl | exact nar_kB _ | decide) (v) hP hS dX5_isSize_44 ?_
                exact ⟨by rw [show isZ r = false from by unfold isZ; rw [decide_eq_false (show ¬ r = 1 from h_1), decide_eq_false (show ¬ r = 2 from h_2), decide_eq_false (show ¬ r = 4 from h_3), decide_eq_false (show ¬ r = 8 from h_4), decide_eq_false (show ¬ r = 16 from h_5), decide_eq_false (show ¬ r = 32 from h_6), decide_eq_false (show ¬ r = 64 from h_7)]; rfl]; rfl, rfl⟩
              · skip
                refine lv_iconst (v := nI (1)) hx hb dX5_isSize_39 rfl ?_
                refine lv_goto (tgt := 44) hx hb dX5_isSize_40 (by decide) ?_
                refine k_zret hx hb hr hlocks (by first | rfl | exact nar_kB _ | decide) (v) hP hS dX5_isSize_44 ?_
                exact ⟨by rw [isZ_t h_7 (by decide)]; rfl, rfl⟩
set_option maxHeartbeats 4000000 in
set_option maxRecDepth 100000 in
theorem c_X5_pointOf (l : Launch) (D : va_G) (cy : Nat → ClassId) (ad : Nat → Nat) (hI : wI 9 ad) (v : kV) (k : Nat) (hk : 1 ≤ k ∧ k ≤ 64) : kM l yX5_pointOf wsX5_pointOf ({ frames := 2, cells := 0, slots := 0, locals := 44 } : Room) D cy 9 ad (mW ad cy) (mW ad cy (v)) [.int (nI (k))] (kF (some (.int (nI (tpt k)))) (v)) := by
  refine k_met cX5_pointOf 1 (some .int) (by decide) rfl (Nat.le_of_ble_eq_true rfl) ?_
  intro p e s m below meth c ls hx hb hr hts hown hlocks hml hK hP hS hl
  have hl : lv_has ls 1 [(0, .int (nI (k)))] := hl
  have hown : s.vm.findClass RX5 = some m.cls := hown
  refine lv_iconst (v := nI (3)) hx hb dX5_pointOf_0 rfl ?_
  refine lv_sipush (v := nI (256)) hx hb dX5_pointOf_1 rfl ?_
  refine lv_iload_n hx hb dX5_pointOf_4 rfl (lv_at hl 0 rfl) ?_
  refine n_idiv hx hb (by omega) (by omega) (by omega) dX5_pointOf_5 ?_
  refine k_callSr (rest := []) (nL := 1) ⟨hx, hb, hml, hown, hts⟩ (c_X5_raised l D cy ad hI v 3 (256 / k) (by first | assumption | omega) (Nat.lt_of_le_of_lt (Nat.div_le_self _ _) (by decide))) (va_cwS 2 hts gX5_pointOf_X5_raised rfl rfl rfl (by decide +kernel) ⟨Nat.le_of_ble_eq_true rfl, Nat.le_of_ble_eq_true rfl⟩) hK hP hS (fun _ h => h) rfl hl.1 rfl (Nat.le_of_ble_eq_true rfl) dX5_pointOf_6 ⟨Nat.zero_le _, Nat.zero_le _⟩ (fun H locs hP hS => ?_)
  have hP : va_P D vwCl (wL 9 ad (mW ad cy (v))) H := hP
  refine k_iret hx hb hr hlocks (v) hP hS dX5_pointOf_9 ?_
  exact ⟨rfl, rfl⟩
set_option maxHeartbeats 4000000 in
set_option maxRecDepth 100000 in
theorem c_X5_valueAt (l : Launch) (D : va_G) (cy : Nat → ClassId) (ad : Nat → Nat) (hI : wI 9 ad) (v : kV) (R : Nat → kR) (r : Nat) (z : Nat) (hM : mReg R v) (hr6 : r < 6) (hz : z < 257) : kM l yX5_valueAt wsX5_valueAt ({ frames := 2, cells := 0, slots := 0, locals := 43 } : Room) D cy 9 ad (mW ad cy) (mW ad cy (v)) [.ref (ad (0)), .int (nI (r)), .int (nI (z))] (kF (some (.int (nI (vx (R r) z)))) (v)) := by
  refine k_met cX5_valueAt 5 (some .int) (by decide) rfl (Nat.le_of_ble_eq_true rfl) ?_
  intro p e s m below meth c ls hx hb hr hts hown hlocks hml hK hP hS hl
  have hl : lv_has ls 5 [(0, .ref (ad (0))), (1, .int (nI (r))), (2, .int (nI (z)))] := hl
  have hown : s.vm.findClass RX5 = some m.cls := hown
  have hO := hM.O hr6
  have hlr := hO.2.1
  refine lv_iconst (v := nI (0)) hx hb dX5_valueAt_0 rfl ?_
  refine lv_istore_n (lv' := [(3, .int (nI (0))), (0, .ref (ad (0))), (1, .int (nI (r))), (2, .int (nI (z)))]) hx hb dX5_valueAt_1 rfl hl (by decide) rfl (fun ls hl => ?_)
  refine lv_aload_n hx hb dX5_valueAt_2 rfl (lv_at hl 1 rfl) ?_
  refine lv_iload_n hx hb dX5_valueAt_3 rfl (lv_at hl 2 rfl) ?_
  refine k_callVr (rest := []) (nL := 5) ⟨hx, hb, hml, hown, hts⟩ (c_X5_lengthOf l D cy ad hI v R r hM (by first | assumption | omega)) (cwV 1 hts gX5_valueAt_X5_lengthOf rfl rfl rfl (by decide +kernel) ⟨Nat.le_of_ble_eq_true rfl, Nat.le_of_ble_eq_true rfl⟩) hK hP hS (fun _ h => h) (q0 := 0) (ci := 5) rfl (by decide) mW_obj rfl rfl rfl hl.1 rfl (Nat.le_of_ble_eq_true rfl) dX5_valueAt_4 ⟨Nat.zero_le _, Nat.zero_le _⟩ (fun H locs hP hS => ?_)
  have hP : va_P D vwCl (wL 9 ad (mW ad cy (v))) H := hP
  refine lv_iconst (v := nI (1)) hx hb dX5_valueAt_7 rfl ?_
  refine lv_isub hx hb dX5_valueAt_8 ?_
  refine lv_istore (lv' := [(4, .int (nI ((R r).1) - 1)), (3, .int (nI (0))), (0, .ref (ad (0))), (1, .int (nI (r))), (2, .int (nI (z)))]) hx hb dX5_valueAt_9 hl (by decide) rfl (fun ls hl => ?_)
  have lp11 : ∀ (fu : Nat) (k : Nat) (t : Nat), (k ≤ (R r).1) → (t < 257) → (hn (R r).2 z k t = vx (R r) z) → k < fu → ∀ (H : Heap) (locs : List Loc), va_P D vwCl (wL 9 ad (mW ad cy (v))) H → va_S (wA 9 ad) s.heap H locs → ∀ (ls : Array Slot), lv_has ls 5 [(4, .int (nI (k) - 1)), (3, .int (nI (t))), (0, .ref (ad (0))), (1, .int (nI (r))), (2, .int (nI (z)))] → W p l e ({ frames := 2, cells := 0, slots := 0, locals := 43 } : Room) s m ([.ref (ad (0)), .int (nI (r)), .int (nI (z))] : List Value).toArray below meth c H locs 0 0 (MQ below (kQ D 9 ad (mW ad cy) (kF (some (.int (nI (vx (R r) z)))) (v))) ([.ref (ad (0)), .int (nI (r)), .int (nI (z))] : List Value).toArray s 0 0 (wA 9 ad)) (F0 m 11 ls []) := by
    intro fu
    induction fu with
    | zero => intro k t hk ht he hfu; exact absurd hfu (Nat.not_lt_zero _)
    | succ fu ih11 =>
      intro k t hk ht he hfu H locs hP hS ls hl
      refine lv_iload hx hb dX5_valueAt_11 (lv_at hl 0 rfl) ?_
      refine n_down (n := k) (tgt := 38) hx hb (by omega) dX5_valueAt_13 (by decide) (fun h_1 => ?_) (fun h_1 => ?_)
      · skip
        refine lv_iload_n hx hb dX5_valueAt_38 rfl (lv_at hl 1 rfl) ?_
        refine k_iret hx hb hr hlocks (v) hP hS dX5_valueAt_39 ?_
        exact ⟨rN (by rw [← he, h_1]; rfl), rfl⟩
      · skip
        obtain ⟨j, rfl⟩ : ∃ j, k = j + 1 := ⟨k - 1, by omega⟩
        rw [nI_pred] at hl
        refine lv_iload_n hx hb dX5_valueAt_16 rfl (lv_at hl 1 rfl) ?_
        refine lv_iload_n hx hb dX5_valueAt_17 rfl (lv_at hl 4 rfl) ?_
        refine n_imul hx hb dX5_valueAt_18 ?_
        refine lv_aload_n hx hb dX5_valueAt_19 rfl (lv_at hl 2 rfl) ?_
        refine lv_iload_n hx hb dX5_valueAt_20 rfl (lv_at hl 3 rfl) ?_
        refine lv_iload hx hb dX5_valueAt_21 (lv_at hl 0 rfl) ?_
        refine k_callVr (rest := [.int (nI (t * z))]) (nL := 5) ⟨hx, hb, hml, hown, hts⟩ (c_X5_at l D cy ad hI v R r j hM (by first | assumption | omega) (by first | assumption | omega)) (cwV 2 hts gX5_valueAt_X5_at rfl rfl rfl (by decide +kernel) ⟨Nat.le_of_ble_eq_true rfl, Nat.le_of_ble_eq_true rfl⟩) hK hP hS (fun _ h => h) (q0 := 0) (ci := 5) rfl (by decide) mW_obj rfl rfl rfl hl.1 rfl (Nat.le_of_ble_eq_true rfl) dX5_valueAt_23 ⟨Nat.zero_le _, Nat.zero_le _⟩ (fun H locs hP hS => ?_)
        have hP : va_P D vwCl (wL 9 ad (mW ad cy (v))) H := hP
        refine n_iadd hx hb dX5_valueAt_26 ?_
        refine lv_sipush (v := nI (257)) hx hb dX5_valueAt_27 rfl ?_
        have hbj := hO.2.2.1 j
        have hm := mul_lt_257 ht hz
        refine n_irem hx hb (by omega) (by omega) (by omega) dX5_valueAt_30  ?_
        refine lv_istore_n (lv' := [(3, .int (nI (((t * z) + ((R r).2 j)) % 257))), (4, .int (nI (j))), (0, .ref (ad (0))), (1, .int (nI (r))), (2, .int (nI (z)))]) hx hb dX5_valueAt_31 rfl hl (by decide) rfl (fun ls hl => ?_)
        refine lv_iinc (v := nI (j) - 1) (lv' := [(4, .int (nI (j) - 1)), (3, .int (nI (((t * z) + ((R r).2 j)) % 257))), (0, .ref (ad (0))), (1, .int (nI (r))), (2, .int (nI (z)))]) hx hb dX5_valueAt_32 hl (k := 1) rfl (nI_dec' _) (by decide) rfl (fun ls hl => ?_)
        refine lv_goto (tgt := 11) hx hb dX5_valueAt_35 (by decide) ?_
        exact ih11 (j) ((t * z + (R r).2 j) % 257) (by omega) (Nat.mod_lt _ (by decide)) he (by omega) _ _ hP hS _ hl
  exact lp11 (_ + 1) ((R r).1) (0) (Nat.le_refl _) (by decide) rfl (Nat.lt_succ_self _) _ _ hP hS _ hl
set_option maxHeartbeats 4000000 in
set_option maxRecDepth 100000 in
theorem c_X5_notNought (l : Launch) (D : va_G) (cy : Nat → ClassId) (ad : Nat → Nat) (hI : wI 9 ad) (v : kV) (R : Nat → kR) (r : Nat) (hM : mReg R v) (hr6 : r < 6) : kM l yX5_notNought wsX5_notNought ({ frames := 2, cells := 0, slots := 0, locals := 43 } : Room) D cy 9 ad (mW ad cy) (mW ad cy (v)) [.ref (ad (0)), .int (nI (r))] (kF (some (.int (nI (cn (R r).2 (R r).1)))) (v)) := by
  refine k_met cX5_notNought 4 (some .int) (by decide) rfl (Nat.le_of_ble_eq_true rfl) ?_
  intro p e s m below meth c ls hx hb hr hts hown hlocks hml hK hP hS hl
  have hl : lv_has ls 4 [(0, .ref (ad (0))), (1, .int (nI (r)))] := hl
  have hown : s.vm.findClass RX5 = some m.cls := hown
  have hO := hM.O hr6
  have hlr := hO.2.1
  refine lv_iconst (v := nI (0)) hx hb dX5_notNought_0 rfl ?_
  refine lv_istore_n (lv' := [(2, .int (nI (0))), (0, .ref (ad (0))), (1, .int (nI (r)))]) hx hb dX5_notNought_1 rfl hl (by decide) rfl (fun ls hl => ?_)
  refine lv_iconst (v := nI (0)) hx hb dX5_notNought_2 rfl ?_
  refine lv_istore_n (lv' := [(3, .int (nI (0))), (2, .int (nI (0))), (0, .ref (ad (0))), (1, .int (nI (r)))]) hx hb dX5_notNought_3 rfl hl (by decide) rfl (fun ls hl => ?_)
  have lp4 : ∀ (fu : Nat) (k : Nat) (t : Nat), (k ≤ (R r).1) → (t = cn (R r).2 k) → (R r).1 - k < fu → ∀ (H : Heap) (locs : List Loc), va_P D vwCl (wL 9 ad (mW ad cy (v))) H → va_S (wA 9 ad) s.heap H locs → ∀ (ls : Array Slot), lv_has ls 4 [(3, .int (nI (k))), (2, .int (nI (t))), (0, .ref (ad (0))), (1, .int (nI (r)))] → W p l e ({ frames := 2, cells := 0, slots := 0, locals := 43 } : Room) s m ([.ref (ad (0)), .int (nI (r))] : List Value).toArray below meth c H locs 0 0 (MQ below (kQ D 9 ad (mW ad cy) (kF (some (.int (nI (cn (R r).2 (R r).1)))) (v))) ([.ref (ad (0)), .int (nI (r))] : List Value).toArray s 0 0 (wA 9 ad)) (F0 m 4 ls []) := by
    intro fu
    induction fu with
    | zero => intro k t hk he hfu; exact absurd hfu (Nat.not_lt_zero _)
    | succ fu ih4 =>
      intro k t hk he hfu H locs hP hS ls hl
      have hb9 := hO.2.2.1 k
      refine lv_iload_n hx hb dX5_notNought_4 rfl (lv_at hl 0 rfl) ?_
      refine lv_aload_n hx hb dX5_notNought_5 rfl (lv_at hl 2 rfl) ?_
      refine lv_iload_n hx hb dX5_notNought_6 rfl (lv_at hl 3 rfl) ?_
      refine k_callVr (rest := [.int (nI (k))]) (nL := 4) ⟨hx, hb, hml, hown, hts⟩ (c_X5_lengthOf l D cy ad hI v R r hM (by first | assumption | omega)) (cwV 1 hts gX5_notNought_X5_lengthOf rfl rfl rfl (by decide +kernel) ⟨Nat.le_of_ble_eq_true rfl, Nat.le_of_ble_eq_true rfl⟩) hK hP hS (fun _ h => h) (q0 := 0) (ci := 5) rfl (by decide) mW_obj rfl rfl rfl hl.1 rfl (Nat.le_of_ble_eq_true rfl) dX5_notNought_7 ⟨Nat.zero_le _, Nat.zero_le _⟩ (fun H locs hP hS => ?_)
      have hP : va_P D vwCl (wL 9 ad (mW ad cy (v))) H := hP
      refine n_icmp_ge (tgt := 36) hx hb (by omega) (by omega) dX5_notNought_10 (by decide) (fun h_1 => ?_) (fun h_1 => ?_)
      · skip
        refine lv_iload_n hx hb dX5_notNought_36 rfl (lv_at hl 1 rfl) ?_
        refine k_iret hx hb hr hlocks (v) hP hS dX5_notNought_37 ?_
        exact ⟨rN (by rw [he, show k = (R r).1 by omega]), rfl⟩
      · skip
        refine lv_iload_n hx hb dX5_notNought_13 rfl (lv_at hl 1 rfl) ?_
        refine lv_aload_n hx hb dX5_notNought_14 rfl (lv_at hl 2 rfl) ?_
        refine lv_iload_n hx hb dX5_notNought_15 rfl (lv_at hl 3 rfl) ?_
        refine lv_iload_n hx hb dX5_notNought_16 rfl (lv_at hl 0 rfl) ?_
        refine k_callVr (rest := [.int (nI (t))]) (nL := 4) ⟨hx, hb, hml, hown, hts⟩ (c_X5_at l D cy ad hI v R r k hM (by first | assumption | omega) (by first | assumption | omega)) (cwV 2 hts gX5_notNought_X5_at rfl rfl rfl (by decide +kernel) ⟨Nat.le_of_ble_eq_true rfl, Nat.le_of_ble_eq_true rfl⟩) hK hP hS (fun _ h => h) (q0 := 0) (ci := 5) rfl (by decide) mW_obj rfl rfl rfl hl.1 rfl (Nat.le_of_ble_eq_true rfl) dX5_notNought_17 ⟨Nat.zero_le _, Nat.zero_le _⟩ (fun H locs hP hS => ?_)
        have hP : va_P D vwCl (wL 9 ad (mW ad cy (v))) H := hP
        refine n_ifne (tgt := 27) hx hb (by omega) dX5_notNought_20 (by decide) (fun h_2 => ?_) (fun h_2 => ?_)
        · skip
          refine lv_iconst (v := nI (1)) hx hb dX5_notNought_27 rfl ?_
          refine n_iadd hx hb dX5_notNought_28 ?_
          refine lv_istore_n (lv' := [(2, .int (nI (t + 1))), (3, .int (nI (k))), (0, .ref (ad (0))), (1, .int (nI (r)))]) hx hb dX5_notNought_29 rfl hl (by decide) rfl (fun ls hl => ?_)
          refine lv_iinc (v := nI (k + 1)) (lv' := [(3, .int (nI (k + 1))), (2, .int (nI (t + 1))), (0, .ref (ad (0))), (1, .int (nI (r)))]) hx hb dX5_notNought_30 hl (k := 1) rfl (nI_inc _) (by decide) rfl (fun ls hl => ?_)
          refine lv_goto (tgt := 4) hx hb dX5_notNought_33 (by decide) ?_
          exact ih4 (k + 1) (t + 1) (by omega) (by rw [cn_nz _ h_2, he]) (by omega) _ _ hP hS _ hl
        · skip
          refine lv_iconst (v := nI (0)) hx hb dX5_notNought_23 rfl ?_
          refine lv_goto (tgt := 28) hx hb dX5_notNought_24 (by decide) ?_
          refine n_iadd hx hb dX5_notNought_28 ?_
          refine lv_istore_n (lv' := [(2, .int (nI (t + 0))), (3, .int (nI (k))), (0, .ref (ad (0))), (1, .int (nI (r)))]) hx hb dX5_notNought_29 rfl hl (by decide) rfl (fun ls hl => ?_)
          refine lv_iinc (v := nI (k + 1)) (lv' := [(3, .int (nI (k + 1))), (2, .int (nI (t + 0))), (0, .ref (ad (0))), (1, .int (nI (r)))]) hx hb dX5_notNought_30 hl (k := 1) rfl (nI_inc _) (by decide) rfl (fun ls hl => ?_)
          refine lv_goto (tgt := 4) hx hb dX5_notNought_33 (by decide) ?_
          exact ih4 (k + 1) (t + 0) (by omega) (by rw [cn_zero _ h_2]; exact he) (by omega) _ _ hP hS _ hl
  exact lp4 (_ + 1) (0) (0) (Nat.zero_le _) rfl (Nat.lt_succ_self _) _ _ hP hS _ hl
set_option maxHeartbeats 4000000 in
set_option maxRecDepth 100000 in
theorem c_X5_sumOf (l : Launch) (D : va_G) (cy : Nat → ClassId) (ad : Nat → Nat) (hI : wI 9 ad) (v : kV) (R : Nat → kR) (r : Nat) (hM : mReg R v) (hr6 : r < 6) : kM l yX5_sumOf wsX5_sumOf ({ frames := 2, cells := 0, slots := 0, locals := 43 } : Room) D cy 9 ad (mW ad cy) (mW ad cy (v)) [.ref (ad (0)), .int (nI (r))] (kF (some (.int (nI (sm (R r).2 (R r).1)))) (v)) := by
  refine k_met cX5_sumOf 4 (some .int) (by decide) rfl (Nat.le_of_ble_eq_true rfl) ?_
  intro p e s m below meth c ls hx hb hr hts hown hlocks hml hK hP hS hl
  have hl : lv_has ls 4 [(0, .ref (ad (0))), (1, .int (nI (r)))] := hl
  have hown : s.vm.findClass RX5 = some m.cls := hown
  have hO := hM.O hr6
  have hlr := hO.2.1
  refine lv_iconst (v := nI (0)) hx hb dX5_sumOf_0 rfl ?_
  refine lv_istore_n (lv' := [(2, .int (nI (0))), (0, .ref (ad (0))), (1, .int (nI (r)))]) hx hb dX5_sumOf_1 rfl hl (by decide) rfl (fun ls hl => ?_)
  refine lv_iconst (v := nI (0)) hx hb dX5_sumOf_2 rfl ?_
  refine lv_istore_n (lv' := [(3, .int (nI (0))), (2, .int (nI (0))), (0, .ref (ad (0))), (1, .int (nI (r)))]) hx hb dX5_sumOf_3 rfl hl (by decide) rfl (fun ls hl => ?_)
  have lp4 : ∀ (fu : Nat) (k : Nat) (t : Nat), (k ≤ (R r).1) → (t = sm (R r).2 k) → (R r).1 - k < fu → ∀ (H : Heap) (locs : List Loc), va_P D vwCl (wL 9 ad (mW ad cy (v))) H → va_S (wA 9 ad) s.heap H locs → ∀ (ls : Array Slot), lv_has ls 4 [(3, .int (nI (k))), (2, .int (nI (t))), (0, .ref (ad (0))), (1, .int (nI (r)))] → W p l e ({ frames := 2, cells := 0, slots := 0, locals := 43 } : Room) s m ([.ref (ad (0)), .int (nI (r))] : List Value).toArray below meth c H locs 0 0 (MQ below (kQ D 9 ad (mW ad cy) (kF (some (.int (nI (sm (R r).2 (R r).1)))) (v))) ([.ref (ad (0)), .int (nI (r))] : List Value).toArray s 0 0 (wA 9 ad)) (F0 m 4 ls []) := by
    intro fu
    induction fu with
    | zero => intro k t hk he hfu; exact absurd hfu (Nat.not_lt_zero _)
    | succ fu ih4 =>
      intro k t hk he hfu H locs hP hS ls hl
      refine lv_iload_n hx hb dX5_sumOf_4 rfl (lv_at hl 0 rfl) ?_
      refine lv_aload_n hx hb dX5_sumOf_5 rfl (lv_at hl 2 rfl) ?_
      refine lv_iload_n hx hb dX5_sumOf_6 rfl (lv_at hl 3 rfl) ?_
      refine k_callVr (rest := [.int (nI (k))]) (nL := 4) ⟨hx, hb, hml, hown, hts⟩ (c_X5_lengthOf l D cy ad hI v R r hM (by first | assumption | omega)) (cwV 1 hts gX5_sumOf_X5_lengthOf rfl rfl rfl (by decide +kernel) ⟨Nat.le_of_ble_eq_true rfl, Nat.le_of_ble_eq_true rfl⟩) hK hP hS (fun _ h => h) (q0 := 0) (ci := 5) rfl (by decide) mW_obj rfl rfl rfl hl.1 rfl (Nat.le_of_ble_eq_true rfl) dX5_sumOf_7 ⟨Nat.zero_le _, Nat.zero_le _⟩ (fun H locs hP hS => ?_)
      have hP : va_P D vwCl (wL 9 ad (mW ad cy (v))) H := hP
      refine n_icmp_ge (tgt := 28) hx hb (by omega) (by omega) dX5_sumOf_10 (by decide) (fun h_1 => ?_) (fun h_1 => ?_)
      · skip
        refine lv_iload_n hx hb dX5_sumOf_28 rfl (lv_at hl 1 rfl) ?_
        refine k_iret hx hb hr hlocks (v) hP hS dX5_sumOf_29 ?_
        exact ⟨rN (by rw [he, show k = (R r).1 by omega]), rfl⟩
      · skip
        refine lv_iload_n hx hb dX5_sumOf_13 rfl (lv_at hl 1 rfl) ?_
        refine lv_aload_n hx hb dX5_sumOf_14 rfl (lv_at hl 2 rfl) ?_
        refine lv_iload_n hx hb dX5_sumOf_15 rfl (lv_at hl 3 rfl) ?_
        refine lv_iload_n hx hb dX5_sumOf_16 rfl (lv_at hl 0 rfl) ?_
        refine k_callVr (rest := [.int (nI (t))]) (nL := 4) ⟨hx, hb, hml, hown, hts⟩ (c_X5_at l D cy ad hI v R r k hM (by first | assumption | omega) (by first | assumption | omega)) (cwV 2 hts gX5_sumOf_X5_at rfl rfl rfl (by decide +kernel) ⟨Nat.le_of_ble_eq_true rfl, Nat.le_of_ble_eq_true rfl⟩) hK hP hS (fun _ h => h) (q0 := 0) (ci := 5) rfl (by decide) mW_obj rfl rfl rfl hl.1 rfl (Nat.le_of_ble_eq_true rfl) dX5_sumOf_17 ⟨Nat.zero_le _, Nat.zero_le _⟩ (fun H locs hP hS => ?_)
        have hP : va_P D vwCl (wL 9 ad (mW ad cy (v))) H := hP
        refine n_iadd hx hb dX5_sumOf_20 ?_
        refine lv_istore_n (lv' := [(2, .int (nI (t + ((R r).2 k)))), (3, .int (nI (k))), (0, .ref (ad (0))), (1, .int (nI (r)))]) hx hb dX5_sumOf_21 rfl hl (by decide) rfl (fun ls hl => ?_)
        refine lv_iinc (v := nI (k + 1)) (lv' := [(3, .int (nI (k + 1))), (2, .int (nI (t + ((R r).2 k)))), (0, .ref (ad (0))), (1, .int (nI (r)))]) hx hb dX5_sumOf_22 hl (k := 1) rfl (nI_inc _) (by decide) rfl (fun ls hl => ?_)
        refine lv_goto (tgt := 4) hx hb dX5_sumOf_25 (by decide) ?_
        exact ih4 (k + 1) (t + (R r).2 k) (by omega) (by rw [he]; rfl) (by omega) _ _ hP hS _ hl
  exact lp4 (_ + 1) (0) (0) (Nat.zero_le _) rfl (Nat.lt_succ_self _) _ _ hP hS _ hl
