set_option maxHeartbeats 4000000 in
set_option maxRecDepth 100000 in
theorem c_X5_power (l : Launch) (D : va_G) (cy : Nat → ClassId) (ad : Nat → Nat) (hI : wI 9 ad) (v : kV) (S : kSt) (ra : Int32) (rn : Int32) (rc : Int32) (hSI : kInv S) (hR : mRep S v) : kM l yX5_power wsX5_power ({ frames := 3, cells := 0, slots := 0, locals := 67 } : Room) D cy 9 ad (mW ad cy) (mW ad cy (v)) [.ref (ad (0)), .int (ra), .int (rn), .int (rc)] (fun o u => o = some (.int (op_power S ra rn rc).1) ∧ mRep (op_power S ra rn rc).2 u) := by
  refine k_met cX5_power 5 (some .int) (by decide) rfl (Nat.le_of_ble_eq_true rfl) ?_
  intro p e s m below meth c ls hx hb hr hts hown hlocks hml hK hP hS hl
  have hl : lv_has ls 5 [(0, .ref (ad (0))), (1, .int (ra)), (2, .int (rn)), (3, .int (rc))] := hl
  have hown : s.vm.findClass RX5 = some m.cls := hown
  have hf_27 := hts (.fieldLink RX5 27 "TurnedRowsModel" "out" "[I") (by decide +kernel)
  have hf_62 := hts (.fieldLink RX5 62 "TurnedRowsModel" "length" "I") (by decide +kernel)
  have hw_X5 : ∀ qw ∈ wsX50, qw.before ([.ref (ad (0)), .int (ra), .int (rn), .int (rc)] : List Value).toArray s = true := fun qw h => hts qw ((by decide +kernel : ∀ qw ∈ wsX50, qw ∈ wsX5_power) qw h)
  have hM : mReg S.1 v := hR.reg hSI
  have hrow : ∀ j, j < 6 → rO (S.1 j) := hSI.1
  have hpm6 : vpm v ≤ 6 := by rw [hR.2.1.1]; exact hR.2.1.2
  have hplS : vty v = S.2.2.2.2.2.1 := hR.2.2.2.2.1
  have hty80 : vty v ≤ 80 := by rw [hplS]; exact hSI.2.2.2.2.2.1
  have hpdS : ∀ j, j < S.2.2.2.2.2.1 → vpd v j = S.2.2.2.2.2.2 j := hR.2.2.2.2.2.1
  have hpd : ∀ j, j < vty v → vpd v j < 127 := fun j hj => by rw [hpdS j (by omega)]; have := (hSI.2.2.2.2.2.2 j (by omega)).2; omega
  refine lv_iload_n hx hb dX5_power_0 rfl (lv_at hl 1 rfl) ?_
  refine k_callSr (rest := []) (nL := 5) ⟨hx, hb, hml, hown, hts⟩ (c_X5_isRegister l D cy ad hI v ra) (va_cwS 1 hts gX5_power_X5_isRegister rfl rfl rfl (by decide +kernel) ⟨Nat.le_of_ble_eq_true rfl, Nat.le_of_ble_eq_true rfl⟩) hK hP hS (fun _ h => h) rfl hl.1 rfl (Nat.le_of_ble_eq_true rfl) dX5_power_1 ⟨Nat.zero_le _, Nat.zero_le _⟩ (fun H locs hP hS => ?_)
  have hP : va_P D vwCl (wL 9 ad (mW ad cy (v))) H := hP
  refine b_ifeq (tgt := 14) hx hb dX5_power_4 (by decide) (fun h_1 => ?_) (fun h_1 => ?_)
  · skip
    have hjra : ¬ isR ra := of_decide_eq_false h_1
    refine lv_iconst (v := (-1 : Int32)) hx hb dX5_power_14 (by decide) ?_
    refine k_iret hx hb hr hlocks (v) hP hS dX5_power_15 ?_
    rw [show op_power S ra rn rc = (-1, S) from if_pos (by first | exact Or.inl hjra | exact Or.inr (hjrc))]
    exact ⟨rfl, hR⟩
  · skip
    obtain ⟨jra, hjra, ejra⟩ := (kreg_cases ra).resolve_left (fun q => q (of_decide_eq_true h_1))
    rw [ejra] at hl
    refine lv_iload_n hx hb dX5_power_7 rfl (lv_at hl 3 rfl) ?_
    refine k_callSr (rest := []) (nL := 5) ⟨hx, hb, hml, hown, hts⟩ (c_X5_isRegister l D cy ad hI v rc) (va_cwS 1 hts gX5_power_X5_isRegister rfl rfl rfl (by decide +kernel) ⟨Nat.le_of_ble_eq_true rfl, Nat.le_of_ble_eq_true rfl⟩) hK hP hS (fun _ h => h) rfl hl.1 rfl (Nat.le_of_ble_eq_true rfl) dX5_power_8 ⟨Nat.zero_le _, Nat.zero_le _⟩ (fun H locs hP hS => ?_)
    have hP : va_P D vwCl (wL 9 ad (mW ad cy (v))) H := hP
    refine b_ifne (tgt := 16) hx hb dX5_power_11 (by decide) (fun h_2 => ?_) (fun h_2 => ?_)
    · skip
      obtain ⟨jrc, hjrc, ejrc⟩ := (kreg_cases rc).resolve_left (fun q => q (of_decide_eq_true h_2))
      rw [ejrc] at hl
      refine lv_iload_n hx hb dX5_power_16 rfl (lv_at hl 2 rfl) ?_
      refine lv_iconst (v := nI (0)) hx hb dX5_power_17 rfl ?_
      refine lv_bipush (v := nI (9)) hx hb dX5_power_18 rfl ?_
      refine k_callSr (rest := []) (nL := 5) ⟨hx, hb, hml, hown, hts⟩ (c_X5_in l D cy ad hI v rn (nI (0)) (nI (9))) (va_cwS 3 hts gX5_power_X5_in rfl rfl rfl (by decide +kernel) ⟨Nat.le_of_ble_eq_true rfl, Nat.le_of_ble_eq_true rfl⟩) hK hP hS (fun _ h => h) rfl hl.1 rfl (Nat.le_of_ble_eq_true rfl) dX5_power_20 ⟨Nat.zero_le _, Nat.zero_le _⟩ (fun H locs hP hS => ?_)
      have hP : va_P D vwCl (wL 9 ad (mW ad cy (v))) H := hP
      refine b_ifne (tgt := 29) hx hb dX5_power_23 (by decide) (fun h_3 => ?_) (fun h_3 => ?_)
      · skip
        obtain ⟨kn, hkn, ekn⟩ := (le_cases rn 9 (by decide)).resolve_left (fun q => q (of_decide_eq_true h_3))
        rw [ekn] at hl
        refine lv_iload_n hx hb dX5_power_29 rfl (lv_at hl 2 rfl) ?_
        refine lv_aload_n hx hb dX5_power_30 rfl (lv_at hl 0 rfl) ?_
        refine lv_iload_n hx hb dX5_power_31 rfl (lv_at hl 1 rfl) ?_
        have hoa := hrow jra hjra
        have hla := hoa.2.1
        have hla1 := hoa.1
        refine k_callVr (rest := [.int (nI (kn))]) (nL := 5) ⟨hx, hb, hml, hown, hts⟩ (c_X5_lengthOf l D cy ad hI v S.1 jra hM (by first | assumption | omega)) (cwV 1 hts gX5_power_X5_lengthOf rfl rfl rfl (by decide +kernel) ⟨Nat.le_of_ble_eq_true rfl, Nat.le_of_ble_eq_true rfl⟩) hK hP hS (fun _ h => h) (q0 := 0) (ci := 5) rfl (by decide) mW_obj rfl rfl rfl hl.1 rfl (Nat.le_of_ble_eq_true rfl) dX5_power_32 ⟨Nat.zero_le _, Nat.zero_le _⟩ (fun H locs hP hS => ?_)
        have hP : va_P D vwCl (wL 9 ad (mW ad cy (v))) H := hP
        refine lv_iconst (v := nI (1)) hx hb dX5_power_35 rfl ?_
        refine n_isub hx hb hla1 dX5_power_36 ?_
        refine n_imul hx hb dX5_power_37 ?_
        have hm := Nat.mul_le_mul hkn (show (S.1 jra).1 - 1 ≤ 63 by omega)
        refine lv_iconst (v := nI (1)) hx hb dX5_power_38 rfl ?_
        refine n_iadd hx hb dX5_power_39 ?_
        refine lv_bipush (v := nI (64)) hx hb dX5_power_40 rfl ?_
        refine n_icmp_le (tgt := 48) hx hb (by omega) (by omega) dX5_power_42 (by decide) (fun h_4 => ?_) (fun h_4 => ?_)
        · skip
          refine lv_aload_n hx hb dX5_power_48 rfl (lv_at hl 0 rfl) ?_
          refine k_callVv (rest := []) (nL := 5) ⟨hx, hb, hml, hown, hts⟩ (c_X5_record l D cy ad hI v (by first | assumption | omega)) (cwV 0 hts gX5_power_X5_record rfl rfl rfl (by decide +kernel) ⟨Nat.le_of_ble_eq_true rfl, Nat.le_of_ble_eq_true rfl⟩) hK hP hS (fun _ h => h) (q0 := 0) (ci := 5) rfl (by decide) mW_obj rfl rfl rfl hl.1 rfl (Nat.le_of_ble_eq_true rfl) dX5_power_49 ⟨Nat.zero_le _, Nat.zero_le _⟩ (fun H locs hP hS => ?_)
          have hP : va_P D vwCl (wL 9 ad (mW ad cy (recV v))) H := hP
          refine lv_aload_n hx hb dX5_power_52 rfl (lv_at hl 0 rfl) ?_
          refine lv_iconst (v := nI (1)) hx hb dX5_power_53 rfl ?_
          refine k_callVv (rest := []) (nL := 5) ⟨hx, hb, hml, hown, hts⟩ (c_X5_blank l D cy ad hI (recV v) 1) (cwV 1 hts gX5_power_X5_blank rfl rfl rfl (by decide +kernel) ⟨Nat.le_of_ble_eq_true rfl, Nat.le_of_ble_eq_true rfl⟩) hK hP hS (fun _ h => h) (q0 := 0) (ci := 5) rfl (by decide) mW_obj rfl rfl rfl hl.1 rfl (Nat.le_of_ble_eq_true rfl) dX5_power_54 ⟨Nat.zero_le _, Nat.zero_le _⟩ (fun H locs hP hS => ?_)
          have hP : va_P D vwCl (wL 9 ad (mW ad cy (bla (recV v) 1))) H := hP
          refine lv_aload_n hx hb dX5_power_57 rfl (lv_at hl 0 rfl) ?_
          refine k_get (q0 := 0) (k := 7) (T := TX5) (Nf := 11) (ci := 5) (C := RX5) (v := .ref (ad (6))) hx hb hw_X5 hown hK hP (by decide) mW_obj rfl (by decide) hf_27 rfl rfl dX5_power_58 ?_
          refine lv_iconst (v := nI (0)) hx hb dX5_power_61 rfl ?_
          refine lv_iconst (v := nI (1)) hx hb dX5_power_62 rfl ?_
          refine k_iast (q0 := 6) (j := 0) (v := nI (1)) (Wd' := mW ad cy (pou (bla (recV v) 1) (va_up (vou (bla (recV v) 1)) 0 1))) hx hb hK hI hP hS (by decide) mW_ou (by decide) (by omega) mW_up_ou dX5_power_63 (fun H locs hP hS => ?_)
          refine lv_iconst (v := nI (0)) hx hb dX5_power_64 rfl ?_
          refine lv_istore (lv' := [(4, .int (nI (0))), (0, .ref (ad (0))), (1, .int (nI (jra))), (2, .int (nI (kn))), (3, .int (nI (jrc)))]) hx hb dX5_power_65 hl (by decide) rfl (fun ls hl => ?_)
          have lp67 : ∀ (fu : Nat) (k : Nat) (v' : kV), (k ≤ kn) → (vln v' = (powR (S.1 jra) k).1) → (vou v' = (powR (S.1 jra) k).2) → (mRep (recS S) v') → kn - k < fu → ∀ (H : Heap) (locs : List Loc), va_P D vwCl (wL 9 ad (mW ad cy (v'))) H → va_S (wA 9 ad) s.heap H locs → ∀ (ls : Array Slot), lv_has ls 5 [(4, .int (nI (k))), (0, .ref (ad (0))), (1, .int (nI (jra))), (2, .int (nI (kn))), (3, .int (nI (jrc)))] → W p l e ({ frames := 3, cells := 0, slots := 0, locals := 67 } : Room) s m ([.ref (ad (0)), .int (ra), .int (rn), .int (rc)] : List Value).toArray below meth c H locs 0 0 (MQ below (kQ D 9 ad (mW ad cy) (fun o u => o = some (.int (op_power S ra rn rc).1) ∧ mRep (op_power S ra rn rc).2 u)) ([.ref (ad (0)), .int (ra), .int (rn), .int (rc)] : List Value).toArray s 0 0 (wA 9 ad)) (F0 m 67 ls []) := by
            intro fu
            induction fu with
            | zero => intro k v' hk h1 h2 hR2 hfu; exact absurd hfu (Nat.not_lt_zero _)
            | succ fu ih67 =>
              intro k v' hk h1 h2 hR2 hfu H locs hP hS ls hl
              have hpl1 := powR_len hla1 k
              have hkm := Nat.mul_le_mul_right ((S.1 jra).1 - 1) hk
              refine lv_iload hx hb dX5_power_67 (lv_at hl 0 rfl) ?_
              refine lv_iload_n hx hb dX5_power_69 rfl (lv_at hl 3 rfl) ?_
              refine n_icmp_ge (tgt := 84) hx hb (by omega) (by omega) dX5_power_70 (by decide) (fun h_5 => ?_) (fun h_5 => ?_)
              · skip
                refine lv_aload_n hx hb dX5_power_84 rfl (lv_at hl 1 rfl) ?_
                refine lv_iload_n hx hb dX5_power_85 rfl (lv_at hl 4 rfl) ?_
                refine k_callVv (rest := []) (nL := 5) ⟨hx, hb, hml, hown, hts⟩ (c_X5_store l D cy ad hI v' jrc (by first | assumption | omega) (by rw [h1, hpl1]; omega)) (cwV 1 hts gX5_power_X5_store rfl rfl rfl (by decide +kernel) ⟨Nat.le_of_ble_eq_true rfl, Nat.le_of_ble_eq_true rfl⟩) hK hP hS (fun _ h => h) (q0 := 0) (ci := 5) rfl (by decide) mW_obj rfl rfl rfl hl.1 rfl (Nat.le_of_ble_eq_true rfl) dX5_power_86 ⟨Nat.zero_le _, Nat.zero_le _⟩ (fun H locs hP hS => ?_)
                have hP : va_P D vwCl (wL 9 ad (mW ad cy (sto v' jrc))) H := hP
                refine lv_aload_n hx hb dX5_power_89 rfl (lv_at hl 1 rfl) ?_
                refine k_get (q0 := 0) (k := 8) (T := TX5) (Nf := 11) (ci := 5) (C := RX5) (v := .int (nI (vln (sto v' jrc)))) hx hb hw_X5 hown hK hP (by decide) mW_obj rfl (by decide) hf_62 rfl rfl dX5_power_90 ?_
                have hke : k = kn := by omega
                rw [hke] at h1 h2 hpl1
                refine k_iret hx hb hr hlocks (sto v' jrc) hP hS dX5_power_93 ?_
                rw [ejra, ejrc, ekn, op_power_x hjra hjrc, if_neg (fun q => q (kin0_nI hkn (by decide))), rgN_nI (by omega), if_neg (by omega)]
                exact ⟨rN (h1.trans hpl1), mRep.chg (v := v) hR2 hjrc h1 (fun k hk => by rw [h2]; exact out_z (powR_O hla1 kn (by omega)).2.2.2 k)⟩
              · skip
                refine lv_aload_n hx hb dX5_power_73 rfl (lv_at hl 1 rfl) ?_
                refine lv_iload_n hx hb dX5_power_74 rfl (lv_at hl 2 rfl) ?_
                have hkm2 := Nat.mul_le_mul_right ((S.1 jra).1 - 1) (show k + 1 ≤ kn by omega)
                rw [Nat.add_mul, Nat.one_mul] at hkm2
                refine k_callVv (rest := []) (nL := 5) ⟨hx, hb, hml, hown, hts⟩ (c_X5_multiplyOut l D cy ad hI v' S.1 jra (fun r hr => ⟨(hR2.1 r hr).1, hSI.1 r hr, (hR2.1 r hr).2⟩) (by first | assumption | omega) (by rw [h1, hpl1]; omega) (by rw [h1, hpl1]; omega) (by rw [h2]; exact (powR_O hla1 k (by omega)).2.2.1)) (cwV 1 hts gX5_power_X5_multiplyOut rfl rfl rfl (by decide +kernel) ⟨Nat.le_of_ble_eq_true rfl, Nat.le_of_ble_eq_true rfl⟩) hK hP hS (fun _ h => h) (q0 := 0) (ci := 5) rfl (by decide) mW_obj rfl rfl rfl hl.1 rfl (Nat.le_of_ble_eq_true rfl) dX5_power_75 ⟨Nat.zero_le _, Nat.zero_le _⟩ (fun H locs hP hS => ?_)
                have hP : va_P D vwCl (wL 9 ad (mW ad cy (mlo v' (S.1 jra)))) H := hP
                refine lv_iinc (v := nI (k + 1)) (lv' := [(4, .int (nI (k + 1))), (0, .ref (ad (0))), (1, .int (nI (jra))), (2, .int (nI (kn))), (3, .int (nI (jrc)))]) hx hb dX5_power_78 hl (k := 0) rfl (nI_inc _) (by decide) rfl (fun ls hl => ?_)
                refine lv_goto (tgt := 67) hx hb dX5_power_81 (by decide) ?_
                exact ih67 (k + 1) (mlo v' (S.1 jra)) (by omega) (by show vln v' + (S.1 jra).1 - 1 = (powR (S.1 jra) k).1 + (S.1 jra).1 - 1; rw [h1]) (by show mulO (vou v') (S.1 jra).2 (S.1 jra).1 (vln v' + (S.1 jra).1 - 1) (vln v') = mulO (powR (S.1 jra) k).2 (S.1 jra).2 (S.1 jra).1 ((powR (S.1 jra) k).1 + (S.1 jra).1 - 1) (powR (S.1 jra) k).1; rw [h1, h2]) (mRep_eq hR2 rfl rfl rfl rfl rfl rfl rfl) (by omega) _ _ hP hS _ hl
          exact lp67 (_ + 1) (0) (pou (bla (recV v) 1) (va_up (vou (bla (recV v) 1)) 0 1)) (Nat.zero_le _) rfl rfl (hR.rec_eq rfl rfl rfl rfl rfl rfl rfl) (Nat.lt_succ_self _) _ _ hP hS _ hl
        · skip
          refine lv_bipush (v := (-4 : Int32)) hx hb dX5_power_45 (by decide) ?_
          refine k_iret hx hb hr hlocks (v) hP hS dX5_power_47 ?_
          rw [ejra, ejrc, ekn, op_power_x hjra hjrc, if_neg (fun q => q (kin0_nI hkn (by decide))), rgN_nI (by omega), if_pos (by omega)]
          exact ⟨rfl, hR⟩
      · skip
        have hnkn : ¬ (0 ≤ rn ∧ rn ≤ 9) := of_decide_eq_false h_3
        refine lv_bipush (v := (-2 : Int32)) hx hb dX5_power_26 (by decide) ?_
        refine k_iret hx hb hr hlocks (v) hP hS dX5_power_28 ?_
        rw [ejra, ejrc, op_power_x hjra hjrc, if_pos hnkn]
        exact ⟨rfl, hR⟩
    · skip
      have hjrc : ¬ isR rc := of_decide_eq_false h_2
      refine lv_iconst (v := (-1 : Int32)) hx hb dX5_power_14 (by decide) ?_
      refine k_iret hx hb hr hlocks (v) hP hS dX5_power_15 ?_
      rw [show op_power S ra rn rc = (-1, S) from if_pos (by first | exact Or.inl hjra | exact Or.inr (hjrc))]
      exact ⟨rfl, hR⟩
set_option maxHeartbeats 4000000 in
set_option maxRecDepth 100000 in
theorem c_X5_turn (l : Launch) (D : va_G) (cy : Nat → ClassId) (ad : Nat → Nat) (hI : wI 9 ad) (v : kV) (S : kSt) (ra : Int32) (rn : Int32) (rc : Int32) (hSI : kInv S) (hR : mRep S v) : kM l yX5_turn wsX5_turn ({ frames := 3, cells := 0, slots := 0, locals := 67 } : Room) D cy 9 ad (mW ad cy) (mW ad cy (v)) [.ref (ad (0)), .int (ra), .int (rn), .int (rc)] (fun o u => o = some (.int (op_turn S ra rn rc).1) ∧ mRep (op_turn S ra rn rc).2 u) := by
  refine k_met cX5_turn 6 (some .int) (by decide) rfl (Nat.le_of_ble_eq_true rfl) ?_
  intro p e s m below meth c ls hx hb hr hts hown hlocks hml hK hP hS hl
  have hl : lv_has ls 6 [(0, .ref (ad (0))), (1, .int (ra)), (2, .int (rn)), (3, .int (rc))] := hl
  have hown : s.vm.findClass RX5 = some m.cls := hown
  have hf_27 := hts (.fieldLink RX5 27 "TurnedRowsModel" "out" "[I") (by decide +kernel)
  have hw_X5 : ∀ qw ∈ wsX50, qw.before ([.ref (ad (0)), .int (ra), .int (rn), .int (rc)] : List Value).toArray s = true := fun qw h => hts qw ((by decide +kernel : ∀ qw ∈ wsX50, qw ∈ wsX5_turn) qw h)
  have hM : mReg S.1 v := hR.reg hSI
  have hrow : ∀ j, j < 6 → rO (S.1 j) := hSI.1
  have hpm6 : vpm v ≤ 6 := by rw [hR.2.1.1]; exact hR.2.1.2
  have hplS : vty v = S.2.2.2.2.2.1 := hR.2.2.2.2.1
  have hty80 : vty v ≤ 80 := by rw [hplS]; exact hSI.2.2.2.2.2.1
  have hpdS : ∀ j, j < S.2.2.2.2.2.1 → vpd v j = S.2.2.2.2.2.2 j := hR.2.2.2.2.2.1
  have hpd : ∀ j, j < vty v → vpd v j < 127 := fun j hj => by rw [hpdS j (by omega)]; have := (hSI.2.2.2.2.2.2 j (by omega)).2; omega
  refine lv_iload_n hx hb dX5_turn_0 rfl (lv_at hl 1 rfl) ?_
  refine k_callSr (rest := []) (nL := 6) ⟨hx, hb, hml, hown, hts⟩ (c_X5_isRegister l D cy ad hI v ra) (va_cwS 1 hts gX5_turn_X5_isRegister rfl rfl rfl (by decide +kernel) ⟨Nat.le_of_ble_eq_true rfl, Nat.le_of_ble_eq_true rfl⟩) hK hP hS (fun _ h => h) rfl hl.1 rfl (Nat.le_of_ble_eq_true rfl) dX5_turn_1 ⟨Nat.zero_le _, Nat.zero_le _⟩ (fun H locs hP hS => ?_)
  have hP : va_P D vwCl (wL 9 ad (mW ad cy (v))) H := hP
  refine b_ifeq (tgt := 14) hx hb dX5_turn_4 (by decide) (fun h_1 => ?_) (fun h_1 => ?_)
  · skip
    have hjra : ¬ isR ra := of_decide_eq_false h_1
    refine lv_iconst (v := (-1 : Int32)) hx hb dX5_turn_14 (by decide) ?_
    refine k_iret hx hb hr hlocks (v) hP hS dX5_turn_15 ?_
    rw [show op_turn S ra rn rc = (-1, S) from if_pos (by first | exact Or.inl hjra | exact Or.inr (hjrc))]
    exact ⟨rfl, hR⟩
  · skip
    obtain ⟨jra, hjra, ejra⟩ := (kreg_cases ra).resolve_left (fun q => q (of_decide_eq_true h_1))
    rw [ejra] at hl
    refine lv_iload_n hx hb dX5_turn_7 rfl (lv_at hl 3 rfl) ?_
    refine k_callSr (rest := []) (nL := 6) ⟨hx, hb, hml, hown, hts⟩ (c_X5_isRegister l D cy ad hI v rc) (va_cwS 1 hts gX5_turn_X5_isRegister rfl rfl rfl (by decide +kernel) ⟨Nat.le_of_ble_eq_true rfl, Nat.le_of_ble_eq_true rfl⟩) hK hP hS (fun _ h => h) rfl hl.1 rfl (Nat.le_of_ble_eq_true rfl) dX5_turn_8 ⟨Nat.zero_le _, Nat.zero_le _⟩ (fun H locs hP hS => ?_)
    have hP : va_P D vwCl (wL 9 ad (mW ad cy (v))) H := hP
    refine b_ifne (tgt := 16) hx hb dX5_turn_11 (by decide) (fun h_2 => ?_) (fun h_2 => ?_)
    · skip
      obtain ⟨jrc, hjrc, ejrc⟩ := (kreg_cases rc).resolve_left (fun q => q (of_decide_eq_true h_2))
      rw [ejrc] at hl
      refine lv_iload_n hx hb dX5_turn_16 rfl (lv_at hl 2 rfl) ?_
      refine k_callSr (rest := []) (nL := 6) ⟨hx, hb, hml, hown, hts⟩ (c_X5_isSize l D cy ad hI v rn) (va_cwS 1 hts gX5_turn_X5_isSize rfl rfl rfl (by decide +kernel) ⟨Nat.le_of_ble_eq_true rfl, Nat.le_of_ble_eq_true rfl⟩) hK hP hS (fun _ h => h) rfl hl.1 rfl (Nat.le_of_ble_eq_true rfl) dX5_turn_17 ⟨Nat.zero_le _, Nat.zero_le _⟩ (fun H locs hP hS => ?_)
      have hP : va_P D vwCl (wL 9 ad (mW ad cy (v))) H := hP
      refine b_ifne (tgt := 26) hx hb dX5_turn_20 (by decide) (fun h_3 => ?_) (fun h_3 => ?_)
      · skip
        have hz : isZ rn = true := h_3
        obtain ⟨kn, hkn1, hkn, ekn⟩ := isZ_cases hz
        rw [ekn] at hl
        have hptl := tpt_lt kn
        refine lv_aload_n hx hb dX5_turn_26 rfl (lv_at hl 0 rfl) ?_
        refine lv_iload_n hx hb dX5_turn_27 rfl (lv_at hl 1 rfl) ?_
        have hoa := hrow jra hjra
        have hla := hoa.2.1
        have hla1 := hoa.1
        refine k_callVr (rest := []) (nL := 6) ⟨hx, hb, hml, hown, hts⟩ (c_X5_lengthOf l D cy ad hI v S.1 jra hM (by first | assumption | omega)) (cwV 1 hts gX5_turn_X5_lengthOf rfl rfl rfl (by decide +kernel) ⟨Nat.le_of_ble_eq_true rfl, Nat.le_of_ble_eq_true rfl⟩) hK hP hS (fun _ h => h) (q0 := 0) (ci := 5) rfl (by decide) mW_obj rfl rfl rfl hl.1 rfl (Nat.le_of_ble_eq_true rfl) dX5_turn_28 ⟨Nat.zero_le _, Nat.zero_le _⟩ (fun H locs hP hS => ?_)
        have hP : va_P D vwCl (wL 9 ad (mW ad cy (v))) H := hP
        refine lv_iload_n hx hb dX5_turn_31 rfl (lv_at hl 2 rfl) ?_
        refine n_icmp_le (tgt := 38) hx hb (by omega) (by omega) dX5_turn_32 (by decide) (fun h_4 => ?_) (fun h_4 => ?_)
        · skip
          refine lv_aload_n hx hb dX5_turn_38 rfl (lv_at hl 0 rfl) ?_
          refine k_callVv (rest := []) (nL := 6) ⟨hx, hb, hml, hown, hts⟩ (c_X5_record l D cy ad hI v (by first | assumption | omega)) (cwV 0 hts gX5_turn_X5_record rfl rfl rfl (by decide +kernel) ⟨Nat.le_of_ble_eq_true rfl, Nat.le_of_ble_eq_true rfl⟩) hK hP hS (fun _ h => h) (q0 := 0) (ci := 5) rfl (by decide) mW_obj rfl rfl rfl hl.1 rfl (Nat.le_of_ble_eq_true rfl) dX5_turn_39 ⟨Nat.zero_le _, Nat.zero_le _⟩ (fun H locs hP hS => ?_)
          have hP : va_P D vwCl (wL 9 ad (mW ad cy (recV v))) H := hP
          refine lv_aload_n hx hb dX5_turn_42 rfl (lv_at hl 0 rfl) ?_
          refine lv_iload_n hx hb dX5_turn_43 rfl (lv_at hl 2 rfl) ?_
          refine k_callVv (rest := []) (nL := 6) ⟨hx, hb, hml, hown, hts⟩ (c_X5_blank l D cy ad hI (recV v) kn) (cwV 1 hts gX5_turn_X5_blank rfl rfl rfl (by decide +kernel) ⟨Nat.le_of_ble_eq_true rfl, Nat.le_of_ble_eq_true rfl⟩) hK hP hS (fun _ h => h) (q0 := 0) (ci := 5) rfl (by decide) mW_obj rfl rfl rfl hl.1 rfl (Nat.le_of_ble_eq_true rfl) dX5_turn_44 ⟨Nat.zero_le _, Nat.zero_le _⟩ (fun H locs hP hS => ?_)
          have hP : va_P D vwCl (wL 9 ad (mW ad cy (bla (recV v) kn))) H := hP
          refine lv_iconst (v := nI (0)) hx hb dX5_turn_47 rfl ?_
          refine lv_istore (lv' := [(4, .int (nI (0))), (0, .ref (ad (0))), (1, .int (nI (jra))), (2, .int (nI (kn))), (3, .int (nI (jrc)))]) hx hb dX5_turn_48 hl (by decide) rfl (fun ls hl => ?_)
          refine lv_iconst (v := nI (0)) hx hb dX5_turn_50 rfl ?_
          refine lv_istore (lv' := [(5, .int (nI (0))), (4, .int (nI (0))), (0, .ref (ad (0))), (1, .int (nI (jra))), (2, .int (nI (kn))), (3, .int (nI (jrc)))]) hx hb dX5_turn_51 hl (by decide) rfl (fun ls hl => ?_)
          have lp53 : ∀ (fu : Nat) (k : Nat) (t : Nat) (v' : kV), (k ≤ kn) → (t = cq (tur (S.1 jra) (tpt kn) kn) k) → (v' = pou (bla (recV v) kn) (tur (S.1 jra) (tpt kn) k)) → kn - k < fu → ∀ (H : Heap) (locs : List Loc), va_P D vwCl (wL 9 ad (mW ad cy (v'))) H → va_S (wA 9 ad) s.heap H locs → ∀ (ls : Array Slot), lv_has ls 6 [(5, .int (nI (k))), (4, .int (nI (t))), (0, .ref (ad (0))), (1, .int (nI (jra))), (2, .int (nI (kn))), (3, .int (nI (jrc)))] → W p l e ({ frames := 3, cells := 0, slots := 0, locals := 67 } : Room) s m ([.ref (ad (0)), .int (ra), .int (rn), .int (rc)] : List Value).toArray below meth c H locs 0 0 (MQ below (kQ D 9 ad (mW ad cy) (fun o u => o = some (.int (op_turn S ra rn rc).1) ∧ mRep (op_turn S ra rn rc).2 u)) ([.ref (ad (0)), .int (ra), .int (rn), .int (rc)] : List Value).toArray s 0 0 (wA 9 ad)) (F0 m 53 ls []) := by
            intro fu
            induction fu with
            | zero => intro k t v' hk ht hv hfu; exact absurd hfu (Nat.not_lt_zero _)
            | succ fu ih53 =>
              intro k t v' hk ht hv hfu H locs hP hS ls hl
              have hM3 : mReg S.1 v' := by rw [hv]; exact hM
              refine lv_iload hx hb dX5_turn_53 (lv_at hl 0 rfl) ?_
              refine lv_iload_n hx hb dX5_turn_55 rfl (lv_at hl 4 rfl) ?_
              refine n_icmp_ge (tgt := 106) hx hb (by omega) (by omega) dX5_turn_56 (by decide) (fun h_5 => ?_) (fun h_5 => ?_)
              · skip
                refine lv_aload_n hx hb dX5_turn_106 rfl (lv_at hl 2 rfl) ?_
                refine lv_iload_n hx hb dX5_turn_107 rfl (lv_at hl 5 rfl) ?_
                refine k_callVv (rest := []) (nL := 6) ⟨hx, hb, hml, hown, hts⟩ (c_X5_store l D cy ad hI v' jrc (by first | assumption | omega) (by rw [hv, vln_o]; omega)) (cwV 1 hts gX5_turn_X5_store rfl rfl rfl (by decide +kernel) ⟨Nat.le_of_ble_eq_true rfl, Nat.le_of_ble_eq_true rfl⟩) hK hP hS (fun _ h => h) (q0 := 0) (ci := 5) rfl (by decide) mW_obj rfl rfl rfl hl.1 rfl (Nat.le_of_ble_eq_true rfl) dX5_turn_108 ⟨Nat.zero_le _, Nat.zero_le _⟩ (fun H locs hP hS => ?_)
                have hP : va_P D vwCl (wL 9 ad (mW ad cy (sto v' jrc))) H := hP
                refine lv_iload hx hb dX5_turn_111 (lv_at hl 1 rfl) ?_
                have hke : k = kn := by omega
                rw [hke] at hv ht
                refine k_iret hx hb hr hlocks (sto v' jrc) hP hS dX5_turn_113 ?_
                rw [ejra, ejrc, op_turn_x hjra hjrc, if_neg (by rw [hz]; decide), ekn, rgN_nI (by omega), if_neg (by omega)]
                exact ⟨rN ht, outM hR hv hjrc rfl rfl (fun _ z => tur_z z)⟩
              · skip
                refine lv_aload_n hx hb dX5_turn_59 rfl (lv_at hl 2 rfl) ?_
                refine k_get (q0 := 0) (k := 7) (T := TX5) (Nf := 11) (ci := 5) (C := RX5) (v := .ref (ad (6))) hx hb hw_X5 hown hK hP (by decide) mW_obj rfl (by decide) hf_27 rfl rfl dX5_turn_60 ?_
                refine lv_iload hx hb dX5_turn_63 (lv_at hl 0 rfl) ?_
                refine lv_aload_n hx hb dX5_turn_65 rfl (lv_at hl 2 rfl) ?_
                refine lv_iload_n hx hb dX5_turn_66 rfl (lv_at hl 3 rfl) ?_
                refine lv_iload_n hx hb dX5_turn_67 rfl (lv_at hl 4 rfl) ?_
                refine k_callSr (rest := [.int (nI (jra)), .ref (ad (0)), .int (nI (k)), .ref (ad (6))]) (nL := 6) ⟨hx, hb, hml, hown, hts⟩ (c_X5_pointOf l D cy ad hI v' kn ⟨hkn1, hkn⟩) (va_cwS 1 hts gX5_turn_X5_pointOf rfl rfl rfl (by decide +kernel) ⟨Nat.le_of_ble_eq_true rfl, Nat.le_of_ble_eq_true rfl⟩) hK hP hS (fun _ h => h) rfl hl.1 rfl (Nat.le_of_ble_eq_true rfl) dX5_turn_68 ⟨Nat.zero_le _, Nat.zero_le _⟩ (fun H locs hP hS => ?_)
                have hP : va_P D vwCl (wL 9 ad (mW ad cy (v'))) H := hP
                refine lv_iload hx hb dX5_turn_71 (lv_at hl 0 rfl) ?_
                refine k_callSr (rest := [.int (nI (jra)), .ref (ad (0)), .int (nI (k)), .ref (ad (6))]) (nL := 6) ⟨hx, hb, hml, hown, hts⟩ (c_X5_raised l D cy ad hI v' (tpt kn) k (by first | assumption | omega) (by first | assumption | omega)) (va_cwS 2 hts gX5_turn_X5_raised rfl rfl rfl (by decide +kernel) ⟨Nat.le_of_ble_eq_true rfl, Nat.le_of_ble_eq_true rfl⟩) hK hP hS (fun _ h => h) rfl hl.1 rfl (Nat.le_of_ble_eq_true rfl) dX5_turn_73 ⟨Nat.zero_le _, Nat.zero_le _⟩ (fun H locs hP hS => ?_)
                have hP : va_P D vwCl (wL 9 ad (mW ad cy (v'))) H := hP
                refine k_callVr (rest := [.int (nI (k)), .ref (ad (6))]) (nL := 6) ⟨hx, hb, hml, hown, hts⟩ (c_X5_valueAt l D cy ad hI v' S.1 jra (pw (tpt kn) k) hM3 (by first | assumption | omega) (pw_lt _ _)) (cwV 2 hts gX5_turn_X5_valueAt rfl rfl rfl (by decide +kernel) ⟨Nat.le_of_ble_eq_true rfl, Nat.le_of_ble_eq_true rfl⟩) hK hP hS (fun _ h => h) (q0 := 0) (ci := 5) rfl (by decide) mW_obj rfl rfl rfl hl.1 rfl (Nat.le_of_ble_eq_true rfl) dX5_turn_76 ⟨Nat.zero_le _, Nat.zero_le _⟩ (fun H locs hP hS => ?_)
                have hP : va_P D vwCl (wL 9 ad (mW ad cy (v'))) H := hP
                refine k_iast (q0 := 6) (j := k) (v := nI (vx (S.1 jra) (pw (tpt kn) k))) (Wd' := mW ad cy (pou v' (va_up (vou v') k (vx (S.1 jra) (pw (tpt kn) k))))) hx hb hK hI hP hS (by decide) mW_ou (by decide) (by omega) mW_up_ou dX5_turn_79 (fun H locs hP hS => ?_)
                refine lv_iload hx hb dX5_turn_80 (lv_at hl 1 rfl) ?_
                refine lv_aload_n hx hb dX5_turn_82 rfl (lv_at hl 2 rfl) ?_
                refine k_get (q0 := 0) (k := 7) (T := TX5) (Nf := 11) (ci := 5) (C := RX5) (v := .ref (ad (6))) hx hb hw_X5 hown hK hP (by decide) mW_obj rfl (by decide) hf_27 rfl rfl dX5_turn_83 ?_
                refine lv_iload hx hb dX5_turn_86 (lv_at hl 0 rfl) ?_
                refine k_iald (q0 := 6) (j := k) hx hb hK hP (by decide) mW_ou (by decide) (by omega) dX5_turn_88 ?_
                refine n_same (a := vou (pou v' (va_up (vou v') k (vx (S.1 jra) (pw (tpt kn) k)))) k) rfl ?_
                refine n_push (a := vx (S.1 jra) (pw (tpt kn) k)) (congrArg nI (va_up_self _ _ _)) ?_
                have hvl := vx_lt (S.1 jra) (pw (tpt kn) k)
                refine n_ifne (tgt := 96) hx hb (by omega) dX5_turn_89 (by decide) (fun h_6 => ?_) (fun h_6 => ?_)
                · skip
                  have hq := h_6
                  refine lv_iconst (v := nI (0)) hx hb dX5_turn_96 rfl ?_
                  refine n_iadd hx hb dX5_turn_97 ?_
                  refine lv_istore (lv' := [(4, .int (nI (t + 0))), (5, .int (nI (k))), (0, .ref (ad (0))), (1, .int (nI (jra))), (2, .int (nI (kn))), (3, .int (nI (jrc)))]) hx hb dX5_turn_98 hl (by decide) rfl (fun ls hl => ?_)
                  refine lv_iinc (v := nI (k + 1)) (lv' := [(5, .int (nI (k + 1))), (4, .int (nI (t + 0))), (0, .ref (ad (0))), (1, .int (nI (jra))), (2, .int (nI (kn))), (3, .int (nI (jrc)))]) hx hb dX5_turn_100 hl (k := 1) rfl (nI_inc _) (by decide) rfl (fun ls hl => ?_)
                  refine lv_goto (tgt := 53) hx hb dX5_turn_103 (by decide) ?_
                  exact ih53 (k + 1) (t + 0) (pou v' (va_up (vou v') k (vx (S.1 jra) (pw (tpt kn) k)))) (by omega) (by rw [cq_nz (tur (S.1 jra) (tpt kn) kn) (n := k) (by rw [tur_k (by omega)]; exact hq)]; exact ht) (by rw [hv]; exact pou_o (tur_s _ _ _)) (by omega) _ _ hP hS _ hl
                · skip
                  have hq := h_6
                  refine lv_iconst (v := nI (1)) hx hb dX5_turn_92 rfl ?_
                  refine lv_goto (tgt := 97) hx hb dX5_turn_93 (by decide) ?_
                  refine n_iadd hx hb dX5_turn_97 ?_
                  refine lv_istore (lv' := [(4, .int (nI (t + 1))), (5, .int (nI (k))), (0, .ref (ad (0))), (1, .int (nI (jra))), (2, .int (nI (kn))), (3, .int (nI (jrc)))]) hx hb dX5_turn_98 hl (by decide) rfl (fun ls hl => ?_)
                  refine lv_iinc (v := nI (k + 1)) (lv' := [(5, .int (nI (k + 1))), (4, .int (nI (t + 1))), (0, .ref (ad (0))), (1, .int (nI (jra))), (2, .int (nI (kn))), (3, .int (nI (jrc)))]) hx hb dX5_turn_100 hl (k := 1) rfl (nI_inc _) (by decide) rfl (fun ls hl => ?_)
                  refine lv_goto (tgt := 53) hx hb dX5_turn_103 (by decide) ?_
                  exact ih53 (k + 1) (t + 1) (pou v' (va_up (vou v') k (vx (S.1 jra) (pw (tpt kn) k)))) (by omega) (by rw [cq_zero (tur (S.1 jra) (tpt kn) kn) (n := k) (by rw [tur_k (by omega)]; exact hq), ht]) (by rw [hv]; exact pou_o (tur_s _ _ _)) (by omega) _ _ hP hS _ hl
          exact lp53 (_ + 1) (0) (0) (bla (recV v) kn) (Nat.zero_le _) rfl (bla_o (tur_0 _ _)) (Nat.lt_succ_self _) _ _ hP hS _ hl
        · skip
          refine lv_bipush (v := (-5 : Int32)) hx hb dX5_turn_35 (by decide) ?_
          refine k_iret hx hb hr hlocks (v) hP hS dX5_turn_37 ?_
          rw [ejra, ejrc, op_turn_x hjra hjrc, if_neg (by rw [hz]; decide), ekn, rgN_nI (by omega), if_pos (by omega)]
          exact ⟨rfl, hR⟩
      · skip
        have hz : isZ rn = false := h_3
        refine lv_bipush (v := (-2 : Int32)) hx hb dX5_turn_23 (by decide) ?_
        refine k_iret hx hb hr hlocks (v) hP hS dX5_turn_25 ?_
        rw [ejra, ejrc, op_turn_x hjra hjrc, if_pos hz]
        exact ⟨rfl, hR⟩
    · skip
      have hjrc : ¬ isR rc := of_decide_eq_false h_2
      refine lv_iconst (v := (-1 : Int32)) hx hb dX5_turn_14 (by decide) ?_
      refine k_iret hx hb hr hlocks (v) hP hS dX5_turn_15 ?_
      rw [show op_turn S ra rn rc = (-1, S) from if_pos (by first | exact Or.inl hjra | exact Or.inr (hjrc))]
      exact ⟨rfl, hR⟩
set_option maxHeartbeats 4000000 in
set_option maxRecDepth 100000 in
theorem c_X5_turnBack (l : Launch) (D : va_G) (cy : Nat → ClassId) (ad : Nat → Nat) (hI : wI 9 ad) (v : kV) (S : kSt) (ra : Int32) (rc : Int32) (hSI : kInv S) (hR : mRep S v) : kM l yX5_turnBack wsX5_turnBack ({ frames := 3, cells := 0, slots := 0, locals := 67 } : Room) D cy 9 ad (mW ad cy) (mW ad cy (v)) [.ref (ad (0)), .int (ra), .int (rc)] (fun o u => o = some (.int (op_turnBack S ra rc).1) ∧ mRep (op_turnBack S ra rc).2 u) := by
  refine k_met cX5_turnBack 6 (some .int) (by decide) rfl (Nat.le_of_ble_eq_true rfl) ?_
  intro p e s m below meth c ls hx hb hr hts hown hlocks hml hK hP hS hl
  have hl : lv_has ls 6 [(0, .ref (ad (0))), (1, .int (ra)), (2, .int (rc))] := hl
  have hown : s.vm.findClass RX5 = some m.cls := hown
  have hf_27 := hts (.fieldLink RX5 27 "TurnedRowsModel" "out" "[I") (by decide +kernel)
  have hw_X5 : ∀ qw ∈ wsX50, qw.before ([.ref (ad (0)), .int (ra), .int (rc)] : List Value).toArray s = true := fun qw h => hts qw ((by decide +kernel : ∀ qw ∈ wsX50, qw ∈ wsX5_turnBack) qw h)
  have hM : mReg S.1 v := hR.reg hSI
  have hrow : ∀ j, j < 6 → rO (S.1 j) := hSI.1
  have hpm6 : vpm v ≤ 6 := by rw [hR.2.1.1]; exact hR.2.1.2
  have hplS : vty v = S.2.2.2.2.2.1 := hR.2.2.2.2.1
  have hty80 : vty v ≤ 80 := by rw [hplS]; exact hSI.2.2.2.2.2.1
  have hpdS : ∀ j, j < S.2.2.2.2.2.1 → vpd v j = S.2.2.2.2.2.2 j := hR.2.2.2.2.2.1
  have hpd : ∀ j, j < vty v → vpd v j < 127 := fun j hj => by rw [hpdS j (by omega)]; have := (hSI.2.2.2.2.2.2 j (by omega)).2; omega
  refine lv_iload_n hx hb dX5_turnBack_0 rfl (lv_at hl 1 rfl) ?_
  refine k_callSr (rest := []) (nL := 6) ⟨hx, hb, hml, hown, hts⟩ (c_X5_isRegister l D cy ad hI v ra) (va_cwS 1 hts gX5_turnBack_X5_isRegister rfl rfl rfl (by decide +kernel) ⟨Nat.le_of_ble_eq_true rfl, Nat.le_of_ble_eq_true rfl⟩) hK hP hS (fun _ h => h) rfl hl.1 rfl (Nat.le_of_ble_eq_true rfl) dX5_turnBack_1 ⟨Nat.zero_le _, Nat.zero_le _⟩ (fun H locs hP hS => ?_)
  have hP : va_P D vwCl (wL 9 ad (mW ad cy (v))) H := hP
  refine b_ifeq (tgt := 14) hx hb dX5_turnBack_4 (by decide) (fun h_1 => ?_) (fun h_1 => ?_)
  · skip
    have hjra : ¬ isR ra := of_decide_eq_false h_1
    refine lv_iconst (v := (-1 : Int32)) hx hb dX5_turnBack_14 (by decide) ?_
    refine k_iret hx hb hr hlocks (v) hP hS dX5_turnBack_15 ?_
    rw [show op_turnBack S ra rc = (-1, S) from if_pos (by first | exact Or.inl hjra | exact Or.inr (hjrc))]
    exact ⟨rfl, hR⟩
  · skip
    obtain ⟨jra, hjra, ejra⟩ := (kreg_cases ra).resolve_left (fun q => q (of_decide_eq_true h_1))
    rw [ejra] at hl
    refine lv_iload_n hx hb dX5_turnBack_7 rfl (lv_at hl 2 rfl) ?_
    refine k_callSr (rest := []) (nL := 6) ⟨hx, hb, hml, hown, hts⟩ (c_X5_isRegister l D cy ad hI v rc) (va_cwS 1 hts gX5_turnBack_X5_isRegister rfl rfl rfl (by decide +kernel) ⟨Nat.le_of_ble_eq_true rfl, Nat.le_of_ble_eq_true rfl⟩) hK hP hS (fun _ h => h) rfl hl.1 rfl (Nat.le_of_ble_eq_true rfl) dX5_turnBack_8 ⟨Nat.zero_le _, Nat.zero_le _⟩ (fun H locs hP hS => ?_)
    have hP : va_P D vwCl (wL 9 ad (mW ad cy (v))) H := hP
    refine b_ifne (tgt := 16) hx hb dX5_turnBack_11 (by decide) (fun h_2 => ?_) (fun h_2 => ?_)
    · skip
      obtain ⟨jrc, hjrc, ejrc⟩ := (kreg_cases rc).resolve_left (fun q => q (of_decide_eq_true h_2))
      rw [ejrc] at hl
      refine lv_aload_n hx hb dX5_turnBack_16 rfl (lv_at hl 0 rfl) ?_
      refine lv_iload_n hx hb dX5_turnBack_17 rfl (lv_at hl 1 rfl) ?_
      have hoa := hrow jra hjra
      have hla := hoa.2.1
      have hla1 := hoa.1
      refine k_callVr (rest := []) (nL := 6) ⟨hx, hb, hml, hown, hts⟩ (c_X5_lengthOf l D cy ad hI v S.1 jra hM (by first | assumption | omega)) (cwV 1 hts gX5_turnBack_X5_lengthOf rfl rfl rfl (by decide +kernel) ⟨Nat.le_of_ble_eq_true rfl, Nat.le_of_ble_eq_true rfl⟩) hK hP hS (fun _ h => h) (q0 := 0) (ci := 5) rfl (by decide) mW_obj rfl rfl rfl hl.1 rfl (Nat.le_of_ble_eq_true rfl) dX5_turnBack_18 ⟨Nat.zero_le _, Nat.zero_le _⟩ (fun H locs hP hS => ?_)
      have hP : va_P D vwCl (wL 9 ad (mW ad cy (v))) H := hP
      refine lv_istore_n (lv' := [(3, .int (nI ((S.1 jra).1))), (0, .ref (ad (0))), (1, .int (nI (jra))), (2, .int (nI (jrc)))]) hx hb dX5_turnBack_21 rfl hl (by decide) rfl (fun ls hl => ?_)
      refine lv_iload_n hx hb dX5_turnBack_22 rfl (lv_at hl 0 rfl) ?_
      refine k_callSr (rest := []) (nL := 6) ⟨hx, hb, hml, hown, hts⟩ (c_X5_isSize l D cy ad hI v (nI ((S.1 jra).1))) (va_cwS 1 hts gX5_turnBack_X5_isSize rfl rfl rfl (by decide +kernel) ⟨Nat.le_of_ble_eq_true rfl, Nat.le_of_ble_eq_true rfl⟩) hK hP hS (fun _ h => h) rfl hl.1 rfl (Nat.le_of_ble_eq_true rfl) dX5_turnBack_23 ⟨Nat.zero_le _, Nat.zero_le _⟩ (fun H locs hP hS => ?_)
      have hP : va_P D vwCl (wL 9 ad (mW ad cy (v))) H := hP
      refine b_ifne (tgt := 32) hx hb dX5_turnBack_26 (by decide) (fun h_3 => ?_) (fun h_3 => ?_)
      · skip
        have hz : isZ (nI (S.1 jra).1) = true := h_3
        refine lv_aload_n hx hb dX5_turnBack_32 rfl (lv_at hl 1 rfl) ?_
        refine k_callVv (rest := []) (nL := 6) ⟨hx, hb, hml, hown, hts⟩ (c_X5_record l D cy ad hI v (by first | assumption | omega)) (cwV 0 hts gX5_turnBack_X5_record rfl rfl rfl (by decide +kernel) ⟨Nat.le_of_ble_eq_true rfl, Nat.le_of_ble_eq_true rfl⟩) hK hP hS (fun _ h => h) (q0 := 0) (ci := 5) rfl (by decide) mW_obj rfl rfl rfl hl.1 rfl (Nat.le_of_ble_eq_true rfl) dX5_turnBack_33 ⟨Nat.zero_le _, Nat.zero_le _⟩ (fun H locs hP hS => ?_)
        have hP : va_P D vwCl (wL 9 ad (mW ad cy (recV v))) H := hP
        refine lv_aload_n hx hb dX5_turnBack_36 rfl (lv_at hl 1 rfl) ?_
        refine lv_iload_n hx hb dX5_turnBack_37 rfl (lv_at hl 0 rfl) ?_
        refine k_callVv (rest := []) (nL := 6) ⟨hx, hb, hml, hown, hts⟩ (c_X5_blank l D cy ad hI (recV v) ((S.1 jra).1)) (cwV 1 hts gX5_turnBack_X5_blank rfl rfl rfl (by decide +kernel) ⟨Nat.le_of_ble_eq_true rfl, Nat.le_of_ble_eq_true rfl⟩) hK hP hS (fun _ h => h) (q0 := 0) (ci := 5) rfl (by decide) mW_obj rfl rfl rfl hl.1 rfl (Nat.le_of_ble_eq_true rfl) dX5_turnBack_38 ⟨Nat.zero_le _, Nat.zero_le _⟩ (fun H locs hP hS => ?_)
        have hP : va_P D vwCl (wL 9 ad (mW ad cy (bla (recV v) ((S.1 jra).1)))) H := hP
        refine lv_iload_n hx hb dX5_turnBack_41 rfl (lv_at hl 0 rfl) ?_
        refine k_callSr (rest := []) (nL := 6) ⟨hx, hb, hml, hown, hts⟩ (c_X5_pointOf l D cy ad hI (bla (recV v) ((S.1 jra).1)) ((S.1 jra).1) ⟨hla1, hla⟩) (va_cwS 1 hts gX5_turnBack_X5_pointOf rfl rfl rfl (by decide +kernel) ⟨Nat.le_of_ble_eq_true rfl, Nat.le_of_ble_eq_true rfl⟩) hK hP hS (fun _ h => h) rfl hl.1 rfl (Nat.le_of_ble_eq_true rfl) dX5_turnBack_42 ⟨Nat.zero_le _, Nat.zero_le _⟩ (fun H locs hP hS => ?_)
        have hP : va_P D vwCl (wL 9 ad (mW ad cy (bla (recV v) ((S.1 jra).1)))) H := hP
        refine k_callSr (rest := []) (nL := 6) ⟨hx, hb, hml, hown, hts⟩ (c_X5_over l D cy ad hI (bla (recV v) ((S.1 jra).1)) (tpt ((S.1 jra).1)) (tpt_lt _)) (va_cwS 1 hts gX5_turnBack_X5_over rfl rfl rfl (by decide +kernel) ⟨Nat.le_of_ble_eq_true rfl, Nat.le_of_ble_eq_true rfl⟩) hK hP hS (fun _ h => h) rfl hl.1 rfl (Nat.le_of_ble_eq_true rfl) dX5_turnBack_45 ⟨Nat.zero_le _, Nat.zero_le _⟩ (fun H locs hP hS => ?_)
        have hP : va_P D vwCl (wL 9 ad (mW ad cy (bla (recV v) ((S.1 jra).1)))) H := hP
        refine lv_istore (lv' := [(4, .int (nI (pw (tpt ((S.1 jra).1)) 255))), (3, .int (nI ((S.1 jra).1))), (0, .ref (ad (0))), (1, .int (nI (jra))), (2, .int (nI (jrc)))]) hx hb dX5_turnBack_48 hl (by decide) rfl (fun ls hl => ?_)
        refine lv_iconst (v := nI (0)) hx hb dX5_turnBack_50 rfl ?_
        refine lv_istore (lv' := [(5, .int (nI (0))), (4, .int (nI (pw (tpt ((S.1 jra).1)) 255))), (3, .int (nI ((S.1 jra).1))), (0, .ref (ad (0))), (1, .int (nI (jra))), (2, .int (nI (jrc)))]) hx hb dX5_turnBack_51 hl (by decide) rfl (fun ls hl => ?_)
        have lp53 : ∀ (fu : Nat) (k : Nat) (v' : kV), (k ≤ (S.1 jra).1) → (v' = pou (bla (recV v) (S.1 jra).1) (trb (S.1 jra) (pw (tpt (S.1 jra).1) 255) (pw (S.1 jra).1 255) k)) → (S.1 jra).1 - k < fu → ∀ (H : Heap) (locs : List Loc), va_P D vwCl (wL 9 ad (mW ad cy (v'))) H → va_S (wA 9 ad) s.heap H locs → ∀ (ls : Array Slot), lv_has ls 6 [(5, .int (nI (k))), (0, .ref (ad (0))), (1, .int (nI (jra))), (2, .int (nI (jrc))), (3, .int (nI ((S.1 jra).1))), (4, .int (nI (pw (tpt (S.1 jra).1) 255)))] → W p l e ({ frames := 3, cells := 0, slots := 0, locals := 67 } : Room) s m ([.ref (ad (0)), .int (ra), .int (rc)] : List Value).toArray below meth c H locs 0 0 (MQ below (kQ D 9 ad (mW ad cy) (fun o u => o = some (.int (op_turnBack S ra rc).1) ∧ mRep (op_turnBack S ra rc).2 u)) ([.ref (ad (0)), .int (ra), .int (rc)] : List Value).toArray s 0 0 (wA 9 ad)) (F0 m 53 ls []) := by
          intro fu
          induction fu with
          | zero => intro k v' hk hv hfu; exact absurd hfu (Nat.not_lt_zero _)
          | succ fu ih53 =>
            intro k v' hk hv hfu H locs hP hS ls hl
            have hM3 : mReg S.1 v' := by rw [hv]; exact hM
            refine lv_iload hx hb dX5_turnBack_53 (lv_at hl 0 rfl) ?_
            refine lv_iload_n hx hb dX5_turnBack_55 rfl (lv_at hl 4 rfl) ?_
            refine n_icmp_ge (tgt := 91) hx hb (by omega) (by omega) dX5_turnBack_56 (by decide) (fun h_4 => ?_) (fun h_4 => ?_)
            · skip
              refine lv_aload_n hx hb dX5_turnBack_91 rfl (lv_at hl 1 rfl) ?_
              refine lv_iload_n hx hb dX5_turnBack_92 rfl (lv_at hl 3 rfl) ?_
              refine k_callVv (rest := []) (nL := 6) ⟨hx, hb, hml, hown, hts⟩ (c_X5_store l D cy ad hI v' jrc (by first | assumption | omega) (by rw [hv, vln_o]; omega)) (cwV 1 hts gX5_turnBack_X5_store rfl rfl rfl (by decide +kernel) ⟨Nat.le_of_ble_eq_true rfl, Nat.le_of_ble_eq_true rfl⟩) hK hP hS (fun _ h => h) (q0 := 0) (ci := 5) rfl (by decide) mW_obj rfl rfl rfl hl.1 rfl (Nat.le_of_ble_eq_true rfl) dX5_turnBack_93 ⟨Nat.zero_le _, Nat.zero_le _⟩ (fun H locs hP hS => ?_)
              have hP : va_P D vwCl (wL 9 ad (mW ad cy (sto v' jrc))) H := hP
              refine lv_aload_n hx hb dX5_turnBack_96 rfl (lv_at hl 1 rfl) ?_
              refine k_callVr (rest := []) (nL := 6) ⟨hx, hb, hml, hown, hts⟩ (c_X5_degreeOut l D cy ad hI (sto v' jrc) (by rw [hv]; exact hla) (by rw [hv]; exact fun k => trb_lt k)) (cwV 0 hts gX5_turnBack_X5_degreeOut rfl rfl rfl (by decide +kernel) ⟨Nat.le_of_ble_eq_true rfl, Nat.le_of_ble_eq_true rfl⟩) hK hP hS (fun _ h => h) (q0 := 0) (ci := 5) rfl (by decide) mW_obj rfl rfl rfl hl.1 rfl (Nat.le_of_ble_eq_true rfl) dX5_turnBack_97 ⟨Nat.zero_le _, Nat.zero_le _⟩ (fun H locs hP hS => ?_)
              have hP : va_P D vwCl (wL 9 ad (mW ad cy (sto v' jrc))) H := hP
              have hke : k = (S.1 jra).1 := by omega
              rw [hke] at hv
              refine k_iret hx hb hr hlocks (sto v' jrc) hP hS dX5_turnBack_100 ?_
              rw [ejra, ejrc, op_turnBack_x hjra hjrc, if_neg (by rw [hz]; decide)]
              exact ⟨by rw [hv]; show some (Value.int (dV (dg (trb (S.1 jra) (pw (tpt (S.1 jra).1) 255) (pw (S.1 jra).1 255) (S.1 jra).1) (S.1 jra).1))) = _; rw [trb_e]; rfl, outM hR hv hjrc rfl (trb_e _ _ _ _) (fun _ z => trb_z z)⟩
            · skip
              refine lv_aload_n hx hb dX5_turnBack_59 rfl (lv_at hl 1 rfl) ?_
              refine k_get (q0 := 0) (k := 7) (T := TX5) (Nf := 11) (ci := 5) (C := RX5) (v := .ref (ad (6))) hx hb hw_X5 hown hK hP (by decide) mW_obj rfl (by decide) hf_27 rfl rfl dX5_turnBack_60 ?_
              refine lv_iload hx hb dX5_turnBack_63 (lv_at hl 0 rfl) ?_
              refine lv_aload_n hx hb dX5_turnBack_65 rfl (lv_at hl 1 rfl) ?_
              refine lv_iload_n hx hb dX5_turnBack_66 rfl (lv_at hl 2 rfl) ?_
              refine lv_iload hx hb dX5_turnBack_67 (lv_at hl 5 rfl) ?_
              refine lv_iload hx hb dX5_turnBack_69 (lv_at hl 0 rfl) ?_
              refine k_callSr (rest := [.int (nI (jra)), .ref (ad (0)), .int (nI (k)), .ref (ad (6))]) (nL := 6) ⟨hx, hb, hml, hown, hts⟩ (c_X5_raised l D cy ad hI v' (pw (tpt (S.1 jra).1) 255) k (pw_lt _ _) (by first | assumption | omega)) (va_cwS 2 hts gX5_turnBack_X5_raised rfl rfl rfl (by decide +kernel) ⟨Nat.le_of_ble_eq_true rfl, Nat.le_of_ble_eq_true rfl⟩) hK hP hS (fun _ h => h) rfl hl.1 rfl (Nat.le_of_ble_eq_true rfl) dX5_turnBack_71 ⟨Nat.zero_le _, Nat.zero_le _⟩ (fun H locs hP hS => ?_)
              have hP : va_P D vwCl (wL 9 ad (mW ad cy (v'))) H := hP
              refine k_callVr (rest := [.int (nI (k)), .ref (ad (6))]) (nL := 6) ⟨hx, hb, hml, hown, hts⟩ (c_X5_valueAt l D cy ad hI v' S.1 jra (pw (pw (tpt (S.1 jra).1) 255) k) hM3 (by first | assumption | omega) (pw_lt _ _)) (cwV 2 hts gX5_turnBack_X5_valueAt rfl rfl rfl (by decide +kernel) ⟨Nat.le_of_ble_eq_true rfl, Nat.le_of_ble_eq_true rfl⟩) hK hP hS (fun _ h => h) (q0 := 0) (ci := 5) rfl (by decide) mW_obj rfl rfl rfl hl.1 rfl (Nat.le_of_ble_eq_true rfl) dX5_turnBack_74 ⟨Nat.zero_le _, Nat.zero_le _⟩ (fun H locs hP hS => ?_)
              have hP : va_P D vwCl (wL 9 ad (mW ad cy (v'))) H := hP
              refine lv_iload_n hx hb dX5_turnBack_77 rfl (lv_at hl 4 rfl) ?_
              refine k_callSr (rest := [.int (nI (vx (S.1 jra) (pw (pw (tpt (S.1 jra).1) 255) k))), .int (nI (k)), .ref (ad (6))]) (nL := 6) ⟨hx, hb, hml, hown, hts⟩ (c_X5_over l D cy ad hI v' ((S.1 jra).1) (by first | assumption | omega)) (va_cwS 1 hts gX5_turnBack_X5_over rfl rfl rfl (by decide +kernel) ⟨Nat.le_of_ble_eq_true rfl, Nat.le_of_ble_eq_true rfl⟩) hK hP hS (fun _ h => h) rfl hl.1 rfl (Nat.le_of_ble_eq_true rfl) dX5_turnBack_78 ⟨Nat.zero_le _, Nat.zero_le _⟩ (fun H locs hP hS => ?_)
              have hP : va_P D vwCl (wL 9 ad (mW ad cy (v'))) H := hP
              refine k_callSr (rest := [.int (nI (k)), .ref (ad (6))]) (nL := 6) ⟨hx, hb, hml, hown, hts⟩ (c_X5_times l D cy ad hI v' (vx (S.1 jra) (pw (pw (tpt (S.1 jra).1) 255) k)) (pw ((S.1 jra).1) 255) (vx_lt _ _) (pw_lt _ _)) (va_cwS 2 hts gX5_turnBack_X5_times rfl rfl rfl (by decide +kernel) ⟨Nat.le_of_ble_eq_true rfl, Nat.le_of_ble_eq_true rfl⟩) hK hP hS (fun _ h => h) rfl hl.1 rfl (Nat.le_of_ble_eq_true rfl) dX5_turnBack_81 ⟨Nat.zero_le _, Nat.zero_le _⟩ (fun H locs hP hS => ?_)
              have hP : va_P D vwCl (wL 9 ad (mW ad cy (v'))) H := hP
              refine k_iast (q0 := 6) (j := k) (v := nI ((vx (S.1 jra) (pw (pw (tpt (S.1 jra).1) 255) k)) * (pw ((S.1 jra).1) 255) % 257)) (Wd' := mW ad cy (pou v' (va_up (vou v') k ((vx (S.1 jra) (pw (pw (tpt (S.1 jra).1) 255) k)) * (pw ((S.1 jra).1) 255) % 257)))) hx hb hK hI hP hS (by decide) mW_ou (by decide) (by omega) mW_up_ou dX5_turnBack_84 (fun H locs hP hS => ?_)
              refine lv_iinc (v := nI (k + 1)) (lv' := [(5, .int (nI (k + 1))), (0, .ref (ad (0))), (1, .int (nI (jra))), (2, .int (nI (jrc))), (3, .int (nI ((S.1 jra).1))), (4, .int (nI (pw (tpt (S.1 jra).1) 255)))]) hx hb dX5_turnBack_85 hl (k := 0) rfl (nI_inc _) (by decide) rfl (fun ls hl => ?_)
              refine lv_goto (tgt := 53) hx hb dX5_turnBack_88 (by decide) ?_
              exact ih53 (k + 1) (pou v' (va_up (vou v') k ((vx (S.1 jra) (pw (pw (tpt (S.1 jra).1) 255) k)) * (pw ((S.1 jra).1) 255) % 257))) (by omega) (by rw [hv]; exact pou_o (trb_s _ _ _ _)) (by omega) _ _ hP hS _ hl
        exact lp53 (_ + 1) (0) (bla (recV v) ((S.1 jra).1)) (Nat.zero_le _) (bla_o (trb_0 _ _ _)) (Nat.lt_succ_self _) _ _ hP hS _ (lv_sub hl [0, 3, 4, 5, 2, 1] rfl)
      · skip
        have hz : isZ (nI (S.1 jra).1) = false := h_3
        refine lv_bipush (v := (-5 : Int32)) hx hb dX5_turnBack_29 (by decide) ?_
        refine k_iret hx hb hr hlocks (v) hP hS dX5_turnBack_31 ?_
        rw [ejra, ejrc, op_turnBack_x hjra hjrc, if_pos hz]
        exact ⟨rfl, hR⟩
    · skip
      have hjrc : ¬ isR rc := of_decide_eq_false h_2
      refine lv_iconst (v := (-1 : Int32)) hx hb dX5_turnBack_14 (by decide) ?_
      refine k_iret hx hb hr hlocks (v) hP hS dX5_turnBack_15 ?_
      rw [show op_turnBack S ra rc = (-1, S) from if_pos (by first | exact Or.inl hjra | exact Or.inr (hjrc))]
      exact ⟨rfl, hR⟩
