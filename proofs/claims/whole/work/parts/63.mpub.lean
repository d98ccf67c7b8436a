set_option maxHeartbeats 4000000 in
set_option maxRecDepth 100000 in
theorem c_X5_divide (l : Launch) (D : va_G) (cy : Nat → ClassId) (ad : Nat → Nat) (hI : wI 9 ad) (v : kV) (S : kSt) (ra : Int32) (rb : Int32) (rc : Int32) (rd : Int32) (hSI : kInv S) (hR : mRep S v) : kM l yX5_divide wsX5_divide ({ frames := 4, cells := 0, slots := 0, locals := 90 } : Room) D cy 9 ad (mW ad cy) (mW ad cy (v)) [.ref (ad (0)), .int (ra), .int (rb), .int (rc), .int (rd)] (fun o u => o = some (.int (op_divide S ra rb rc rd).1) ∧ mRep (op_divide S ra rb rc rd).2 u) := by
  refine k_met cX5_divide 8 (some .int) (by decide) rfl (Nat.le_of_ble_eq_true rfl) ?_
  intro p e s m below meth c ls hx hb hr hts hown hlocks hml hK hP hS hl
  have hl : lv_has ls 8 [(0, .ref (ad (0))), (1, .int (ra)), (2, .int (rb)), (3, .int (rc)), (4, .int (rd))] := hl
  have hown : s.vm.findClass RX5 = some m.cls := hown
  have hf_27 := hts (.fieldLink RX5 27 "TurnedRowsModel" "out" "[I") (by decide +kernel)
  have hf_30 := hts (.fieldLink RX5 30 "TurnedRowsModel" "one" "[I") (by decide +kernel)
  have hf_33 := hts (.fieldLink RX5 33 "TurnedRowsModel" "two" "[I") (by decide +kernel)
  have hw_X5 : ∀ qw ∈ wsX50, qw.before ([.ref (ad (0)), .int (ra), .int (rb), .int (rc), .int (rd)] : List Value).toArray s = true := fun qw h => hts qw ((by decide +kernel : ∀ qw ∈ wsX50, qw ∈ wsX5_divide) qw h)
  have hM : mReg S.1 v := hR.reg hSI
  have hrow : ∀ j, j < 6 → rO (S.1 j) := hSI.1
  have hpm6 : vpm v ≤ 6 := by rw [hR.2.1.1]; exact hR.2.1.2
  have hplS : vty v = S.2.2.2.2.2.1 := hR.2.2.2.2.1
  have hty80 : vty v ≤ 80 := by rw [hplS]; exact hSI.2.2.2.2.2.1
  have hpdS : ∀ j, j < S.2.2.2.2.2.1 → vpd v j = S.2.2.2.2.2.2 j := hR.2.2.2.2.2.1
  have hpd : ∀ j, j < vty v → vpd v j < 127 := fun j hj => by rw [hpdS j (by omega)]; have := (hSI.2.2.2.2.2.2 j (by omega)).2; omega
  refine lv_iload_n hx hb dX5_divide_0 rfl (lv_at hl 1 rfl) ?_
  refine k_callSr (rest := []) (nL := 8) ⟨hx, hb, hml, hown, hts⟩ (c_X5_isRegister l D cy ad hI v ra) (va_cwS 1 hts gX5_divide_X5_isRegister rfl rfl rfl (by decide +kernel) ⟨Nat.le_of_ble_eq_true rfl, Nat.le_of_ble_eq_true rfl⟩) hK hP hS (fun _ h => h) rfl hl.1 rfl (Nat.le_of_ble_eq_true rfl) dX5_divide_1 ⟨Nat.zero_le _, Nat.zero_le _⟩ (fun H locs hP hS => ?_)
  have hP : va_P D vwCl (wL 9 ad (mW ad cy (v))) H := hP
  refine b_ifeq (tgt := 29) hx hb dX5_divide_4 (by decide) (fun h_1 => ?_) (fun h_1 => ?_)
  · skip
    have hjra : ¬ isR ra := of_decide_eq_false h_1
    refine lv_iconst (v := (-1 : Int32)) hx hb dX5_divide_29 (by decide) ?_
    refine k_iret hx hb hr hlocks (v) hP hS dX5_divide_30 ?_
    rw [show op_divide S ra rb rc rd = (-1, S) from if_pos (by first | exact Or.inl hjra | exact Or.inr (Or.inl hjrb) | exact Or.inr (Or.inr (Or.inl hjrc)) | exact Or.inr (Or.inr (Or.inr (hjrd))))]
    exact ⟨rfl, hR⟩
  · skip
    obtain ⟨jra, hjra, ejra⟩ := (kreg_cases ra).resolve_left (fun q => q (of_decide_eq_true h_1))
    rw [ejra] at hl
    refine lv_iload_n hx hb dX5_divide_7 rfl (lv_at hl 2 rfl) ?_
    refine k_callSr (rest := []) (nL := 8) ⟨hx, hb, hml, hown, hts⟩ (c_X5_isRegister l D cy ad hI v rb) (va_cwS 1 hts gX5_divide_X5_isRegister rfl rfl rfl (by decide +kernel) ⟨Nat.le_of_ble_eq_true rfl, Nat.le_of_ble_eq_true rfl⟩) hK hP hS (fun _ h => h) rfl hl.1 rfl (Nat.le_of_ble_eq_true rfl) dX5_divide_8 ⟨Nat.zero_le _, Nat.zero_le _⟩ (fun H locs hP hS => ?_)
    have hP : va_P D vwCl (wL 9 ad (mW ad cy (v))) H := hP
    refine b_ifeq (tgt := 29) hx hb dX5_divide_11 (by decide) (fun h_2 => ?_) (fun h_2 => ?_)
    · skip
      have hjrb : ¬ isR rb := of_decide_eq_false h_2
      refine lv_iconst (v := (-1 : Int32)) hx hb dX5_divide_29 (by decide) ?_
      refine k_iret hx hb hr hlocks (v) hP hS dX5_divide_30 ?_
      rw [show op_divide S ra rb rc rd = (-1, S) from if_pos (by first | exact Or.inl hjra | exact Or.inr (Or.inl hjrb) | exact Or.inr (Or.inr (Or.inl hjrc)) | exact Or.inr (Or.inr (Or.inr (hjrd))))]
      exact ⟨rfl, hR⟩
    · skip
      obtain ⟨jrb, hjrb, ejrb⟩ := (kreg_cases rb).resolve_left (fun q => q (of_decide_eq_true h_2))
      rw [ejrb] at hl
      refine lv_iload_n hx hb dX5_divide_14 rfl (lv_at hl 3 rfl) ?_
      refine k_callSr (rest := []) (nL := 8) ⟨hx, hb, hml, hown, hts⟩ (c_X5_isRegister l D cy ad hI v rc) (va_cwS 1 hts gX5_divide_X5_isRegister rfl rfl rfl (by decide +kernel) ⟨Nat.le_of_ble_eq_true rfl, Nat.le_of_ble_eq_true rfl⟩) hK hP hS (fun _ h => h) rfl hl.1 rfl (Nat.le_of_ble_eq_true rfl) dX5_divide_15 ⟨Nat.zero_le _, Nat.zero_le _⟩ (fun H locs hP hS => ?_)
      have hP : va_P D vwCl (wL 9 ad (mW ad cy (v))) H := hP
      refine b_ifeq (tgt := 29) hx hb dX5_divide_18 (by decide) (fun h_3 => ?_) (fun h_3 => ?_)
      · skip
        have hjrc : ¬ isR rc := of_decide_eq_false h_3
        refine lv_iconst (v := (-1 : Int32)) hx hb dX5_divide_29 (by decide) ?_
        refine k_iret hx hb hr hlocks (v) hP hS dX5_divide_30 ?_
        rw [show op_divide S ra rb rc rd = (-1, S) from if_pos (by first | exact Or.inl hjra | exact Or.inr (Or.inl hjrb) | exact Or.inr (Or.inr (Or.inl hjrc)) | exact Or.inr (Or.inr (Or.inr (hjrd))))]
        exact ⟨rfl, hR⟩
      · skip
        obtain ⟨jrc, hjrc, ejrc⟩ := (kreg_cases rc).resolve_left (fun q => q (of_decide_eq_true h_3))
        rw [ejrc] at hl
        refine lv_iload hx hb dX5_divide_21 (lv_at hl 4 rfl) ?_
        refine k_callSr (rest := []) (nL := 8) ⟨hx, hb, hml, hown, hts⟩ (c_X5_isRegister l D cy ad hI v rd) (va_cwS 1 hts gX5_divide_X5_isRegister rfl rfl rfl (by decide +kernel) ⟨Nat.le_of_ble_eq_true rfl, Nat.le_of_ble_eq_true rfl⟩) hK hP hS (fun _ h => h) rfl hl.1 rfl (Nat.le_of_ble_eq_true rfl) dX5_divide_23 ⟨Nat.zero_le _, Nat.zero_le _⟩ (fun H locs hP hS => ?_)
        have hP : va_P D vwCl (wL 9 ad (mW ad cy (v))) H := hP
        refine b_ifne (tgt := 31) hx hb dX5_divide_26 (by decide) (fun h_4 => ?_) (fun h_4 => ?_)
        · skip
          obtain ⟨jrd, hjrd, ejrd⟩ := (kreg_cases rd).resolve_left (fun q => q (of_decide_eq_true h_4))
          rw [ejrd] at hl
          refine lv_iload_n hx hb dX5_divide_31 rfl (lv_at hl 3 rfl) ?_
          refine lv_iload hx hb dX5_divide_32 (lv_at hl 4 rfl) ?_
          refine n_icmp_ne (tgt := 40) hx hb (by omega) (by omega) dX5_divide_34 (by decide) (fun h_5 => ?_) (fun h_5 => ?_)
          · skip
            have hcd : jrc ≠ jrd := h_5
            refine lv_aload_n hx hb dX5_divide_40 rfl (lv_at hl 0 rfl) ?_
            refine lv_iload_n hx hb dX5_divide_41 rfl (lv_at hl 1 rfl) ?_
            have hoa := hrow jra hjra
            have hob := hrow jrb hjrb
            have hla := hoa.2.1
            have hlb := hob.2.1
            have hda := dg_le (S.1 jra).2 (S.1 jra).1
            have hdb := dg_le (S.1 jrb).2 (S.1 jrb).1
            obtain ⟨dD, eD⟩ : ∃ z, z = dg (S.1 jra).2 (S.1 jra).1 := ⟨_, rfl⟩
            have hD64 : dD ≤ 64 := by omega
            refine k_callVr (rest := []) (nL := 8) ⟨hx, hb, hml, hown, hts⟩ (c_X5_degreeOf l D cy ad hI v S.1 jra hM (by first | assumption | omega)) (cwV 1 hts gX5_divide_X5_degreeOf rfl rfl rfl (by decide +kernel) ⟨Nat.le_of_ble_eq_true rfl, Nat.le_of_ble_eq_true rfl⟩) hK hP hS (fun _ h => h) (q0 := 0) (ci := 5) rfl (by decide) mW_obj rfl rfl rfl hl.1 rfl (Nat.le_of_ble_eq_true rfl) dX5_divide_42 ⟨Nat.zero_le _, Nat.zero_le _⟩ (fun H locs hP hS => ?_)
            have hP : va_P D vwCl (wL 9 ad (mW ad cy (v))) H := hP
            refine i_push (b := dV dD) (by rw [eD]) ?_
            refine lv_istore (lv' := [(5, .int (dV dD)), (0, .ref (ad (0))), (1, .int (nI (jra))), (2, .int (nI (jrb))), (3, .int (nI (jrc))), (4, .int (nI (jrd)))]) hx hb dX5_divide_45 hl (by decide) rfl (fun ls hl => ?_)
            refine lv_aload_n hx hb dX5_divide_47 rfl (lv_at hl 1 rfl) ?_
            refine lv_iload_n hx hb dX5_divide_48 rfl (lv_at hl 3 rfl) ?_
            refine k_callVr (rest := []) (nL := 8) ⟨hx, hb, hml, hown, hts⟩ (c_X5_degreeOf l D cy ad hI v S.1 jrb hM (by first | assumption | omega)) (cwV 1 hts gX5_divide_X5_degreeOf rfl rfl rfl (by decide +kernel) ⟨Nat.le_of_ble_eq_true rfl, Nat.le_of_ble_eq_true rfl⟩) hK hP hS (fun _ h => h) (q0 := 0) (ci := 5) rfl (by decide) mW_obj rfl rfl rfl hl.1 rfl (Nat.le_of_ble_eq_true rfl) dX5_divide_49 ⟨Nat.zero_le _, Nat.zero_le _⟩ (fun H locs hP hS => ?_)
            have hP : va_P D vwCl (wL 9 ad (mW ad cy (v))) H := hP
            refine lv_istore (lv' := [(6, .int (dV (dg (S.1 jrb).2 (S.1 jrb).1))), (5, .int (dV dD)), (0, .ref (ad (0))), (1, .int (nI (jra))), (2, .int (nI (jrb))), (3, .int (nI (jrc))), (4, .int (nI (jrd)))]) hx hb dX5_divide_52 hl (by decide) rfl (fun ls hl => ?_)
            refine lv_iload hx hb dX5_divide_54 (lv_at hl 0 rfl) ?_
            refine lv_bipush (v := (-6 : Int32)) hx hb dX5_divide_56 (by decide) ?_
            refine lv_icmp_ne (tgt := 64) hx hb dX5_divide_58 (by decide) (fun h_6 => ?_) (fun h_6 => ?_)
            · skip
              have hz : rD (S.1 jrb) ≠ 0 := fun z => h_6 ((dV_none (D := dg (S.1 jrb).2 (S.1 jrb).1) (by omega)).mpr z)
              obtain ⟨d, hd⟩ : ∃ d, dg (S.1 jrb).2 (S.1 jrb).1 = d + 1 := ⟨rD (S.1 jrb) - 1, by unfold rD at hz ⊢; omega⟩
              have hd64 : d < 64 := by omega
              obtain ⟨qR, rR, eqR, erR, hOq, hOr, hq1, hr1, hqe, hre⟩ := div_pack hoa hob eD hd
              rw [hd, dV_s] at hl
              refine lv_aload_n hx hb dX5_divide_64 rfl (lv_at hl 2 rfl) ?_
              refine k_callVv (rest := []) (nL := 8) ⟨hx, hb, hml, hown, hts⟩ (c_X5_record l D cy ad hI v (by first | assumption | omega)) (cwV 0 hts gX5_divide_X5_record rfl rfl rfl (by decide +kernel) ⟨Nat.le_of_ble_eq_true rfl, Nat.le_of_ble_eq_true rfl⟩) hK hP hS (fun _ h => h) (q0 := 0) (ci := 5) rfl (by decide) mW_obj rfl rfl rfl hl.1 rfl (Nat.le_of_ble_eq_true rfl) dX5_divide_65 ⟨Nat.zero_le _, Nat.zero_le _⟩ (fun H locs hP hS => ?_)
              have hP : va_P D vwCl (wL 9 ad (mW ad cy (recV v))) H := hP
              obtain ⟨w0, hRw, hMw, ew0⟩ : ∃ z, mRep (recS S) z ∧ mReg S.1 z ∧ z = recV v := ⟨_, mRep_rec hR, hM, rfl⟩
              rw [← ew0] at hP
              refine lv_iconst (v := nI (0)) hx hb dX5_divide_68 rfl ?_
              refine lv_istore (lv' := [(7, .int (nI (0))), (6, .int (nI (d))), (5, .int (dV dD)), (0, .ref (ad (0))), (1, .int (nI (jra))), (2, .int (nI (jrb))), (3, .int (nI (jrc))), (4, .int (nI (jrd)))]) hx hb dX5_divide_69 hl (by decide) rfl (fun ls hl => ?_)
              have lp71 : ∀ (fu : Nat) (k : Nat) (v' : kV), (k ≤ 64) → (v' = ptw (pon w0 (cp1 (S.1 jra).2 (von w0) k)) (cp1 (S.1 jrb).2 (vtw w0) k)) → 64 - k < fu → ∀ (H : Heap) (locs : List Loc), va_P D vwCl (wL 9 ad (mW ad cy (v'))) H → va_S (wA 9 ad) s.heap H locs → ∀ (ls : Array Slot), lv_has ls 8 [(7, .int (nI (k))), (6, .int (nI (d))), (5, .int (dV dD)), (0, .ref (ad (0))), (1, .int (nI (jra))), (2, .int (nI (jrb))), (3, .int (nI (jrc))), (4, .int (nI (jrd)))] → W p l e ({ frames := 4, cells := 0, slots := 0, locals := 90 } : Room) s m ([.ref (ad (0)), .int (ra), .int (rb), .int (rc), .int (rd)] : List Value).toArray below meth c H locs 0 0 (MQ below (kQ D 9 ad (mW ad cy) (fun o u => o = some (.int (op_divide S ra rb rc rd).1) ∧ mRep (op_divide S ra rb rc rd).2 u)) ([.ref (ad (0)), .int (ra), .int (rb), .int (rc), .int (rd)] : List Value).toArray s 0 0 (wA 9 ad)) (F0 m 71 ls []) := by
                intro fu
                induction fu with
                | zero => intro k v' hk hv hfu; exact absurd hfu (Nat.not_lt_zero _)
                | succ fu ih71 =>
                  intro k v' hk hv hfu H locs hP hS ls hl
                  have hM3 : mReg S.1 v' := cpl_M hMw hv
                  refine lv_iload hx hb dX5_divide_71 (lv_at hl 0 rfl) ?_
                  refine lv_bipush (v := nI (64)) hx hb dX5_divide_73 rfl ?_
                  refine n_icmp_ge (tgt := 112) hx hb (by omega) (by omega) dX5_divide_75 (by decide) (fun h_7 => ?_) (fun h_7 => ?_)
                  · skip
                    have hk64 : k = 64 := by omega
                    rw [hk64] at hv
                    obtain ⟨v3, hon3, htw3, hR3, hP⟩ := cpl_e hRw hv hP
                    refine lv_aload_n hx hb dX5_divide_112 rfl (lv_at hl 3 rfl) ?_
                    refine lv_iload hx hb dX5_divide_113 (lv_at hl 2 rfl) ?_
                    refine lv_iload hx hb dX5_divide_115 (lv_at hl 1 rfl) ?_
                    refine lv_icmp_ge (tgt := 124) hx hb dX5_divide_117 (by decide) (fun h_8 => ?_) (fun h_8 => ?_)
                    · skip
                      have hdl1 := (dvl_ge hD64 hd64 h_8).1
                      refine lv_iload hx hb dX5_divide_124 (lv_at hl 2 rfl) ?_
                      refine lv_iload hx hb dX5_divide_126 (lv_at hl 1 rfl) ?_
                      refine lv_isub hx hb dX5_divide_128 ?_
                      refine i_push (b := dvl dD d) rfl ?_
                      refine lv_iconst (v := nI (1)) hx hb dX5_divide_129 rfl ?_
                      refine lv_iadd hx hb dX5_divide_130 ?_
                      refine n_push (a := max (dD - d) 1) hdl1 ?_
                      refine k_callVv (rest := []) (nL := 8) ⟨hx, hb, hml, hown, hts⟩ (c_X5_blank l D cy ad hI v3 (max (dD - d) 1)) (cwV 1 hts gX5_divide_X5_blank rfl rfl rfl (by decide +kernel) ⟨Nat.le_of_ble_eq_true rfl, Nat.le_of_ble_eq_true rfl⟩) hK hP hS (fun _ h => h) (q0 := 0) (ci := 5) rfl (by decide) mW_obj rfl rfl rfl hl.1 rfl (Nat.le_of_ble_eq_true rfl) dX5_divide_131 ⟨Nat.zero_le _, Nat.zero_le _⟩ (fun H locs hP hS => ?_)
                      have hP : va_P D vwCl (wL 9 ad (mW ad cy (bla v3 (max (dD - d) 1)))) H := hP
                      refine lv_aload_n hx hb dX5_divide_134 rfl (lv_at hl 3 rfl) ?_
                      refine lv_iload hx hb dX5_divide_135 (lv_at hl 2 rfl) ?_
                      refine lv_iload hx hb dX5_divide_137 (lv_at hl 1 rfl) ?_
                      refine k_callVv (rest := []) (nL := 8) ⟨hx, hb, hml, hown, hts⟩ (c_X5_divideRows l D cy ad hI (bla v3 (max (dD - d) 1)) dD d (by first | assumption | omega) (by first | assumption | omega) (bla_on hon3 hoa.2.2.1) (bla_tw htw3 hob.2.2.1)) (cwV 2 hts gX5_divide_X5_divideRows rfl rfl rfl (by decide +kernel) ⟨Nat.le_of_ble_eq_true rfl, Nat.le_of_ble_eq_true rfl⟩) hK hP hS (fun _ h => h) (q0 := 0) (ci := 5) rfl (by decide) mW_obj rfl rfl rfl hl.1 rfl (Nat.le_of_ble_eq_true rfl) dX5_divide_139 ⟨Nat.zero_le _, Nat.zero_le _⟩ (fun H locs hP hS => ?_)
                      have hP : va_P D vwCl (wL 9 ad (mW ad cy (dvm (bla v3 (max (dD - d) 1)) dD d))) H := hP
                      obtain ⟨w4, ew4, hwq, hwr, hwn, hR4⟩ := dvm_pack (n := max (dD - d) 1) (D := dD) (d := d) hon3 htw3 hR3
                      rw [← ew4] at hP
                      rw [← hqe] at hwq
                      refine lv_aload_n hx hb dX5_divide_142 rfl (lv_at hl 3 rfl) ?_
                      refine lv_iload_n hx hb dX5_divide_143 rfl (lv_at hl 6 rfl) ?_
                      refine k_callVv (rest := []) (nL := 8) ⟨hx, hb, hml, hown, hts⟩ (c_X5_store l D cy ad hI w4 jrc (by first | assumption | omega) (by rw [hwn]; omega)) (cwV 1 hts gX5_divide_X5_store rfl rfl rfl (by decide +kernel) ⟨Nat.le_of_ble_eq_true rfl, Nat.le_of_ble_eq_true rfl⟩) hK hP hS (fun _ h => h) (q0 := 0) (ci := 5) rfl (by decide) mW_obj rfl rfl rfl hl.1 rfl (Nat.le_of_ble_eq_true rfl) dX5_divide_144 ⟨Nat.zero_le _, Nat.zero_le _⟩ (fun H locs hP hS => ?_)
                      have hP : va_P D vwCl (wL 9 ad (mW ad cy (sto w4 jrc))) H := hP
                      refine lv_aload_n hx hb dX5_divide_147 rfl (lv_at hl 3 rfl) ?_
                      refine lv_iload hx hb dX5_divide_148 (lv_at hl 1 rfl) ?_
                      refine n_ifne (tgt := 157) hx hb (by omega) dX5_divide_150 (by decide) (fun h_9 => ?_) (fun h_9 => ?_)
                      · skip
                        have hd0 : d ≠ 0 := h_9
                        refine lv_iload hx hb dX5_divide_157 (lv_at hl 1 rfl) ?_
                        refine n_push (a := max d 1) (congrArg nI (by omega)) ?_
                        refine k_callVv (rest := []) (nL := 8) ⟨hx, hb, hml, hown, hts⟩ (c_X5_blank l D cy ad hI (sto w4 jrc) (max d 1)) (cwV 1 hts gX5_divide_X5_blank rfl rfl rfl (by decide +kernel) ⟨Nat.le_of_ble_eq_true rfl, Nat.le_of_ble_eq_true rfl⟩) hK hP hS (fun _ h => h) (q0 := 0) (ci := 5) rfl (by decide) mW_obj rfl rfl rfl hl.1 rfl (Nat.le_of_ble_eq_true rfl) dX5_divide_159 ⟨Nat.zero_le _, Nat.zero_le _⟩ (fun H locs hP hS => ?_)
                        have hP : va_P D vwCl (wL 9 ad (mW ad cy (bla (sto w4 jrc) (max d 1)))) H := hP
                        refine lv_iconst (v := nI (0)) hx hb dX5_divide_162 rfl ?_
                        refine lv_istore (lv' := [(7, .int (nI (0))), (6, .int (nI (d))), (5, .int (dV dD)), (0, .ref (ad (0))), (1, .int (nI (jra))), (2, .int (nI (jrb))), (3, .int (nI (jrc))), (4, .int (nI (jrd)))]) hx hb dX5_divide_163 hl (by decide) rfl (fun ls hl => ?_)
                        have lp165 : ∀ (fu : Nat) (k : Nat) (v2 : kV), (k ≤ d) → (v2 = pou (bla (sto w4 jrc) (max d 1)) (cp1 (von w4) (fun _ => 0) k)) → d - k < fu → ∀ (H : Heap) (locs : List Loc), va_P D vwCl (wL 9 ad (mW ad cy (v2))) H → va_S (wA 9 ad) s.heap H locs → ∀ (ls : Array Slot), lv_has ls 8 [(7, .int (nI (k))), (6, .int (nI (d))), (0, .ref (ad (0))), (4, .int (nI (jrd)))] → W p l e ({ frames := 4, cells := 0, slots := 0, locals := 90 } : Room) s m ([.ref (ad (0)), .int (ra), .int (rb), .int (rc), .int (rd)] : List Value).toArray below meth c H locs 0 0 (MQ below (kQ D 9 ad (mW ad cy) (fun o u => o = some (.int (op_divide S ra rb rc rd).1) ∧ mRep (op_divide S ra rb rc rd).2 u)) ([.ref (ad (0)), .int (ra), .int (rb), .int (rc), .int (rd)] : List Value).toArray s 0 0 (wA 9 ad)) (F0 m 165 ls []) := by
                          intro fu
                          induction fu with
                          | zero => intro k v2 hk hv2 hfu; exact absurd hfu (Nat.not_lt_zero _)
                          | succ fu ih165 =>
                            intro k v2 hk hv2 hfu H locs hP hS ls hl
                            refine lv_iload hx hb dX5_divide_165 (lv_at hl 0 rfl) ?_
                            refine lv_iload hx hb dX5_divide_167 (lv_at hl 1 rfl) ?_
                            refine n_icmp_ge (tgt := 192) hx hb (by omega) (by omega) dX5_divide_169 (by decide) (fun h_10 => ?_) (fun h_10 => ?_)
                            · skip
                              have hkd : k = d := by omega
                              rw [hkd, hwr, hre] at hv2
                              refine lv_aload_n hx hb dX5_divide_192 rfl (lv_at hl 2 rfl) ?_
                              refine lv_iload hx hb dX5_divide_193 (lv_at hl 3 rfl) ?_
                              refine k_callVv (rest := []) (nL := 8) ⟨hx, hb, hml, hown, hts⟩ (c_X5_store l D cy ad hI v2 jrd (by first | assumption | omega) (by rw [hv2, vln_o]; omega)) (cwV 1 hts gX5_divide_X5_store rfl rfl rfl (by decide +kernel) ⟨Nat.le_of_ble_eq_true rfl, Nat.le_of_ble_eq_true rfl⟩) hK hP hS (fun _ h => h) (q0 := 0) (ci := 5) rfl (by decide) mW_obj rfl rfl rfl hl.1 rfl (Nat.le_of_ble_eq_true rfl) dX5_divide_195 ⟨Nat.zero_le _, Nat.zero_le _⟩ (fun H locs hP hS => ?_)
                              have hP : va_P D vwCl (wL 9 ad (mW ad cy (sto v2 jrd))) H := hP
                              refine lv_aload_n hx hb dX5_divide_198 rfl (lv_at hl 2 rfl) ?_
                              refine k_callVr (rest := []) (nL := 8) ⟨hx, hb, hml, hown, hts⟩ (c_X5_degreeOut l D cy ad hI (sto v2 jrd) (by rw [sto_ln, hv2, vln_o]; omega) (by rw [sto_ou, hv2, vou_o]; exact hOr.2.2.1)) (cwV 0 hts gX5_divide_X5_degreeOut rfl rfl rfl (by decide +kernel) ⟨Nat.le_of_ble_eq_true rfl, Nat.le_of_ble_eq_true rfl⟩) hK hP hS (fun _ h => h) (q0 := 0) (ci := 5) rfl (by decide) mW_obj rfl rfl rfl hl.1 rfl (Nat.le_of_ble_eq_true rfl) dX5_divide_199 ⟨Nat.zero_le _, Nat.zero_le _⟩ (fun H locs hP hS => ?_)
                              have hP : va_P D vwCl (wL 9 ad (mW ad cy (sto v2 jrd))) H := hP
                              refine k_iret hx hb hr hlocks (sto v2 jrd) hP hS dX5_divide_202 ?_
                              rw [ejra, ejrb, ejrc, ejrd, op_divide_x hjra hjrb hjrc hjrd, if_neg (fun q => hcd (m_inj (by omega) (by omega) q)), if_neg hz, ← eqR, ← erR]
                              have hA1 : mRep (chgS S jrc qR) (sto w4 jrc) := mRep.chg (v := v) hR4 hjrc (by rw [hwn, hq1]) (fun k hk => by rw [hwq]; exact out_z hOq.2.2.2 k)
                              have hA2 := mRep_ow (n := max d 1) (f := rR.2) hA1
                              rw [← hv2] at hA2
                              exact ⟨by rw [sto_ou, sto_ln, hv2, vou_o, vln_o, ← hr1]; rfl, mRep_sto hA2 hjrd (by rw [hv2, hr1, vln_o]) (fun k hk => by rw [hv2, vou_o]; exact out_z hOr.2.2.2 k)⟩
                            · skip
                              refine lv_aload_n hx hb dX5_divide_172 rfl (lv_at hl 2 rfl) ?_
                              refine k_get (q0 := 0) (k := 7) (T := TX5) (Nf := 11) (ci := 5) (C := RX5) (v := .ref (ad (6))) hx hb hw_X5 hown hK hP (by decide) mW_obj rfl (by decide) hf_27 rfl rfl dX5_divide_173 ?_
                              refine lv_iload hx hb dX5_divide_176 (lv_at hl 0 rfl) ?_
                              refine lv_aload_n hx hb dX5_divide_178 rfl (lv_at hl 2 rfl) ?_
                              refine k_get (q0 := 0) (k := 9) (T := TX5) (Nf := 11) (ci := 5) (C := RX5) (v := .ref (ad (7))) hx hb hw_X5 hown hK hP (by decide) mW_obj rfl (by decide) hf_30 rfl rfl dX5_divide_179 ?_
                              refine lv_iload hx hb dX5_divide_182 (lv_at hl 0 rfl) ?_
                              refine k_iald (q0 := 7) (j := k) hx hb hK hP (by decide) mW_on (by decide) (by omega) dX5_divide_184 ?_
                              refine n_same (a := von v2 k) rfl ?_
                              refine n_push (a := von w4 k) (by rw [hv2]; rfl) ?_
                              refine k_iast (q0 := 6) (j := k) (v := nI (von w4 k)) (Wd' := mW ad cy (pou v2 (va_up (vou v2) k (von w4 k)))) hx hb hK hI hP hS (by decide) mW_ou (by decide) (by omega) mW_up_ou dX5_divide_185 (fun H locs hP hS => ?_)
                              refine lv_iinc (v := nI (k + 1)) (lv' := [(7, .int (nI (k + 1))), (6, .int (nI (d))), (0, .ref (ad (0))), (4, .int (nI (jrd)))]) hx hb dX5_divide_186 hl (k := 0) rfl (nI_inc _) (by decide) rfl (fun ls hl => ?_)
                              refine lv_goto (tgt := 165) hx hb dX5_divide_189 (by decide) ?_
                              exact ih165 (k + 1) (pou v2 (va_up (vou v2) k (von w4 k))) (by omega) (by rw [hv2]; exact pou_o (cp1_s _ _ _)) (by omega) _ _ hP hS _ hl
                        exact lp165 (_ + 1) (0) (bla (sto w4 jrc) (max d 1)) (Nat.zero_le _) (bla_o (cp1_0 _ _)) (Nat.lt_succ_self _) _ _ hP hS _ (lv_sub hl [0, 1, 3, 7] rfl)
                      · skip
                        have hd0 : d = 0 := h_9
                        refine lv_iconst (v := nI (1)) hx hb dX5_divide_153 rfl ?_
                        refine n_push (a := max d 1) (congrArg nI (by omega)) ?_
                        refine lv_goto (tgt := 159) hx hb dX5_divide_154 (by decide) ?_
                        refine k_callVv (rest := []) (nL := 8) ⟨hx, hb, hml, hown, hts⟩ (c_X5_blank l D cy ad hI (sto w4 jrc) (max d 1)) (cwV 1 hts gX5_divide_X5_blank rfl rfl rfl (by decide +kernel) ⟨Nat.le_of_ble_eq_true rfl, Nat.le_of_ble_eq_true rfl⟩) hK hP hS (fun _ h => h) (q0 := 0) (ci := 5) rfl (by decide) mW_obj rfl rfl rfl hl.1 rfl (Nat.le_of_ble_eq_true rfl) dX5_divide_159 ⟨Nat.zero_le _, Nat.zero_le _⟩ (fun H locs hP hS => ?_)
                        have hP : va_P D vwCl (wL 9 ad (mW ad cy (bla (sto w4 jrc) (max d 1)))) H := hP
                        refine lv_iconst (v := nI (0)) hx hb dX5_divide_162 rfl ?_
                        refine lv_istore (lv' := [(7, .int (nI (0))), (6, .int (nI (d))), (5, .int (dV dD)), (0, .ref (ad (0))), (1, .int (nI (jra))), (2, .int (nI (jrb))), (3, .int (nI (jrc))), (4, .int (nI (jrd)))]) hx hb dX5_divide_163 hl (by decide) rfl (fun ls hl => ?_)
                        have lp165 : ∀ (fu : Nat) (k : Nat) (v2 : kV), (k ≤ d) → (v2 = pou (bla (sto w4 jrc) (max d 1)) (cp1 (von w4) (fun _ => 0) k)) → d - k < fu → ∀ (H : Heap) (locs : List Loc), va_P D vwCl (wL 9 ad (mW ad cy (v2))) H → va_S (wA 9 ad) s.heap H locs → ∀ (ls : Array Slot), lv_has ls 8 [(7, .int (nI (k))), (6, .int (nI (d))), (0, .ref (ad (0))), (4, .int (nI (jrd)))] → W p l e ({ frames := 4, cells := 0, slots := 0, locals := 90 } : Room) s m ([.ref (ad (0)), .int (ra), .int (rb), .int (rc), .int (rd)] : List Value).toArray below meth c H locs 0 0 (MQ below (kQ D 9 ad (mW ad cy) (fun o u => o = some (.int (op_divide S ra rb rc rd).1) ∧ mRep (op_divide S ra rb rc rd).2 u)) ([.ref (ad (0)), .int (ra), .int (rb), .int (rc), .int (rd)] : List Value).toArray s 0 0 (wA 9 ad)) (F0 m 165 ls []) := by
                          intro fu
                          induction fu with
                          | zero => intro k v2 hk hv2 hfu; exact absurd hfu (Nat.not_lt_zero _)
                          | succ fu ih165 =>
                            intro k v2 hk hv2 hfu H locs hP hS ls hl
                            refine lv_iload hx hb dX5_divide_165 (lv_at hl 0 rfl) ?_
                            refine lv_iload hx hb dX5_divide_167 (lv_at hl 1 rfl) ?_
                            refine n_icmp_ge (tgt := 192) hx hb (by omega) (by omega) dX5_divide_169 (by decide) (fun h_11 => ?_) (fun h_11 => ?_)
                            · skip
                              have hkd : k = d := by omega
                              rw [hkd, hwr, hre] at hv2
                              refine lv_aload_n hx hb dX5_divide_192 rfl (lv_at hl 2 rfl) ?_
                              refine lv_iload hx hb dX5_divide_193 (lv_at hl 3 rfl) ?_
                              refine k_callVv (rest := []) (nL := 8) ⟨hx, hb, hml, hown, hts⟩ (c_X5_store l D cy ad hI v2 jrd (by first | assumption | omega) (by rw [hv2, vln_o]; omega)) (cwV 1 hts gX5_divide_X5_store rfl rfl rfl (by decide +kernel) ⟨Nat.le_of_ble_eq_true rfl, Nat.le_of_ble_eq_true rfl⟩) hK hP hS (fun _ h => h) (q0 := 0) (ci := 5) rfl (by decide) mW_obj rfl rfl rfl hl.1 rfl (Nat.le_of_ble_eq_true rfl) dX5_divide_195 ⟨Nat.zero_le _, Nat.zero_le _⟩ (fun H locs hP hS => ?_)
                              have hP : va_P D vwCl (wL 9 ad (mW ad cy (sto v2 jrd))) H := hP
                              refine lv_aload_n hx hb dX5_divide_198 rfl (lv_at hl 2 rfl) ?_
                              refine k_callVr (rest := []) (nL := 8) ⟨hx, hb, hml, hown, hts⟩ (c_X5_degreeOut l D cy ad hI (sto v2 jrd) (by rw [sto_ln, hv2, vln_o]; omega) (by rw [sto_ou, hv2, vou_o]; exact hOr.2.2.1)) (cwV 0 hts gX5_divide_X5_degreeOut rfl rfl rfl (by decide +kernel) ⟨Nat.le_of_ble_eq_true rfl, Nat.le_of_ble_eq_true rfl⟩) hK hP hS (fun _ h => h) (q0 := 0) (ci := 5) rfl (by decide) mW_obj rfl rfl rfl hl.1 rfl (Nat.le_of_ble_eq_true rfl) dX5_divide_199 ⟨Nat.zero_le _, Nat.zero_le _⟩ (fun H locs hP hS => ?_)
                              have hP : va_P D vwCl (wL 9 ad (mW ad cy (sto v2 jrd))) H := hP
                              refine k_iret hx hb hr hlocks (sto v2 jrd) hP hS dX5_divide_202 ?_
                              rw [ejra, ejrb, ejrc, ejrd, op_divide_x hjra hjrb hjrc hjrd, if_neg (fun q => hcd (m_inj (by omega) (by omega) q)), if_neg hz, ← eqR, ← erR]
                              have hA1 : mRep (chgS S jrc qR) (sto w4 jrc) := mRep.chg (v := v) hR4 hjrc (by rw [hwn, hq1]) (fun k hk => by rw [hwq]; exact out_z hOq.2.2.2 k)
                              have hA2 := mRep_ow (n := max d 1) (f := rR.2) hA1
                              rw [← hv2] at hA2
                              exact ⟨by rw [sto_ou, sto_ln, hv2, vou_o, vln_o, ← hr1]; rfl, mRep_sto hA2 hjrd (by rw [hv2, hr1, vln_o]) (fun k hk => by rw [hv2, vou_o]; exact out_z hOr.2.2.2 k)⟩
                            · skip
                              refine lv_aload_n hx hb dX5_divide_172 rfl (lv_at hl 2 rfl) ?_
                              refine k_get (q0 := 0) (k := 7) (T := TX5) (Nf := 11) (ci := 5) (C := RX5) (v := .ref (ad (6))) hx hb hw_X5 hown hK hP (by decide) mW_obj rfl (by decide) hf_27 rfl rfl dX5_divide_173 ?_
                              refine lv_iload hx hb dX5_divide_176 (lv_at hl 0 rfl) ?_
                              refine lv_aload_n hx hb dX5_divide_178 rfl (lv_at hl 2 rfl) ?_
                              refine k_get (q0 := 0) (k := 9) (T := TX5) (Nf := 11) (ci := 5) (C := RX5) (v := .ref (ad (7))) hx hb hw_X5 hown hK hP (by decide) mW_obj rfl (by decide) hf_30 rfl rfl dX5_divide_179 ?_
                              refine lv_iload hx hb dX5_divide_182 (lv_at hl 0 rfl) ?_
                              refine k_iald (q0 := 7) (j := k) hx hb hK hP (by decide) mW_on (by decide) (by omega) dX5_divide_184 ?_
                              refine n_same (a := von v2 k) rfl ?_
                              refine n_push (a := von w4 k) (by rw [hv2]; rfl) ?_
                              refine k_iast (q0 := 6) (j := k) (v := nI (von w4 k)) (Wd' := mW ad cy (pou v2 (va_up (vou v2) k (von w4 k)))) hx hb hK hI hP hS (by decide) mW_ou (by decide) (by omega) mW_up_ou dX5_divide_185 (fun H locs hP hS => ?_)
                              refine lv_iinc (v := nI (k + 1)) (lv' := [(7, .int (nI (k + 1))), (6, .int (nI (d))), (0, .ref (ad (0))), (4, .int (nI (jrd)))]) hx hb dX5_divide_186 hl (k := 0) rfl (nI_inc _) (by decide) rfl (fun ls hl => ?_)
                              refine lv_goto (tgt := 165) hx hb dX5_divide_189 (by decide) ?_
                              exact ih165 (k + 1) (pou v2 (va_up (vou v2) k (von w4 k))) (by omega) (by rw [hv2]; exact pou_o (cp1_s _ _ _)) (by omega) _ _ hP hS _ hl
                        exact lp165 (_ + 1) (0) (bla (sto w4 jrc) (max d 1)) (Nat.zero_le _) (bla_o (cp1_0 _ _)) (Nat.lt_succ_self _) _ _ hP hS _ (lv_sub hl [0, 1, 3, 7] rfl)
                    · skip
                      have hdl1 := dvl_lo hD64 hd64 h_8
                      refine lv_iconst (v := nI (1)) hx hb dX5_divide_120 rfl ?_
                      refine n_push (a := max (dD - d) 1) (congrArg nI hdl1) ?_
                      refine lv_goto (tgt := 131) hx hb dX5_divide_121 (by decide) ?_
                      refine k_callVv (rest := []) (nL := 8) ⟨hx, hb, hml, hown, hts⟩ (c_X5_blank l D cy ad hI v3 (max (dD - d) 1)) (cwV 1 hts gX5_divide_X5_blank rfl rfl rfl (by decide +kernel) ⟨Nat.le_of_ble_eq_true rfl, Nat.le_of_ble_eq_true rfl⟩) hK hP hS (fun _ h => h) (q0 := 0) (ci := 5) rfl (by decide) mW_obj rfl rfl rfl hl.1 rfl (Nat.le_of_ble_eq_true rfl) dX5_divide_131 ⟨Nat.zero_le _, Nat.zero_le _⟩ (fun H locs hP hS => ?_)
                      have hP : va_P D vwCl (wL 9 ad (mW ad cy (bla v3 (max (dD - d) 1)))) H := hP
                      refine lv_aload_n hx hb dX5_divide_134 rfl (lv_at hl 3 rfl) ?_
                      refine lv_iload hx hb dX5_divide_135 (lv_at hl 2 rfl) ?_
                      refine lv_iload hx hb dX5_divide_137 (lv_at hl 1 rfl) ?_
                      refine k_callVv (rest := []) (nL := 8) ⟨hx, hb, hml, hown, hts⟩ (c_X5_divideRows l D cy ad hI (bla v3 (max (dD - d) 1)) dD d (by first | assumption | omega) (by first | assumption | omega) (bla_on hon3 hoa.2.2.1) (bla_tw htw3 hob.2.2.1)) (cwV 2 hts gX5_divide_X5_divideRows rfl rfl rfl (by decide +kernel) ⟨Nat.le_of_ble_eq_true rfl, Nat.le_of_ble_eq_true rfl⟩) hK hP hS (fun _ h => h) (q0 := 0) (ci := 5) rfl (by decide) mW_obj rfl rfl rfl hl.1 rfl (Nat.le_of_ble_eq_true rfl) dX5_divide_139 ⟨Nat.zero_le _, Nat.zero_le _⟩ (fun H locs hP hS => ?_)
                      have hP : va_P D vwCl (wL 9 ad (mW ad cy (dvm (bla v3 (max (dD - d) 1)) dD d))) H := hP
                      obtain ⟨w4, ew4, hwq, hwr, hwn, hR4⟩ := dvm_pack (n := max (dD - d) 1) (D := dD) (d := d) hon3 htw3 hR3
                      rw [← ew4] at hP
                      rw [← hqe] at hwq
                      refine lv_aload_n hx hb dX5_divide_142 rfl (lv_at hl 3 rfl) ?_
                      refine lv_iload_n hx hb dX5_divide_143 rfl (lv_at hl 6 rfl) ?_
                      refine k_callVv (rest := []) (nL := 8) ⟨hx, hb, hml, hown, hts⟩ (c_X5_store l D cy ad hI w4 jrc (by first | assumption | omega) (by rw [hwn]; omega)) (cwV 1 hts gX5_divide_X5_store rfl rfl rfl (by decide +kernel) ⟨Nat.le_of_ble_eq_true rfl, Nat.le_of_ble_eq_true rfl⟩) hK hP hS (fun _ h => h) (q0 := 0) (ci := 5) rfl (by decide) mW_obj rfl rfl rfl hl.1 rfl (Nat.le_of_ble_eq_true rfl) dX5_divide_144 ⟨Nat.zero_le _, Nat.zero_le _⟩ (fun H locs hP hS => ?_)
                      have hP : va_P D vwCl (wL 9 ad (mW ad cy (sto w4 jrc))) H := hP
                      refine lv_aload_n hx hb dX5_divide_147 rfl (lv_at hl 3 rfl) ?_
                      refine lv_iload hx hb dX5_divide_148 (lv_at hl 1 rfl) ?_
                      refine n_ifne (tgt := 157) hx hb (by omega) dX5_divide_150 (by decide) (fun h_12 => ?_) (fun h_12 => ?_)
                      · skip
                        have hd0 : d ≠ 0 := h_12
                        refine lv_iload hx hb dX5_divide_157 (lv_at hl 1 rfl) ?_
                        refine n_push (a := max d 1) (congrArg nI (by omega)) ?_
                        refine k_callVv (rest := []) (nL := 8) ⟨hx, hb, hml, hown, hts⟩ (c_X5_blank l D cy ad hI (sto w4 jrc) (max d 1)) (cwV 1 hts gX5_divide_X5_blank rfl rfl rfl (by decide +kernel) ⟨Nat.le_of_ble_eq_true rfl, Nat.le_of_ble_eq_true rfl⟩) hK hP hS (fun _ h => h) (q0 := 0) (ci := 5) rfl (by decide) mW_obj rfl rfl rfl hl.1 rfl (Nat.le_of_ble_eq_true rfl) dX5_divide_159 ⟨Nat.zero_le _, Nat.zero_le _⟩ (fun H locs hP hS => ?_)
                        have hP : va_P D vwCl (wL 9 ad (mW ad cy (bla (sto w4 jrc) (max d 1)))) H := hP
                        refine lv_iconst (v := nI (0)) hx hb dX5_divide_162 rfl ?_
                        refine lv_istore (lv' := [(7, .int (nI (0))), (6, .int (nI (d))), (5, .int (dV dD)), (0, .ref (ad (0))), (1, .int (nI (jra))), (2, .int (nI (jrb))), (3, .int (nI (jrc))), (4, .int (nI (jrd)))]) hx hb dX5_divide_163 hl (by decide) rfl (fun ls hl => ?_)
                        have lp165 : ∀ (fu : Nat) (k : Nat) (v2 : kV), (k ≤ d) → (v2 = pou (bla (sto w4 jrc) (max d 1)) (cp1 (von w4) (fun _ => 0) k)) → d - k < fu → ∀ (H : Heap) (locs : List Loc), va_P D vwCl (wL 9 ad (mW ad cy (v2))) H → va_S (wA 9 ad) s.heap H locs → ∀ (ls : Array Slot), lv_has ls 8 [(7, .int (nI (k))), (6, .int (nI (d))), (0, .ref (ad (0))), (4, .int (nI (jrd)))] → W p l e ({ frames := 4, cells := 0, slots := 0, locals := 90 } : Room) s m ([.ref (ad (0)), .int (ra), .int (rb), .int (rc), .int (rd)] : List Value).toArray below meth c H locs 0 0 (MQ below (kQ D 9 ad (mW ad cy) (fun o u => o = some (.int (op_divide S ra rb rc rd).1) ∧ mRep (op_divide S ra rb rc rd).2 u)) ([.ref (ad (0)), .int (ra), .int (rb), .int (rc), .int (rd)] : List Value).toArray s 0 0 (wA 9 ad)) (F0 m 165 ls []) := by
                          intro fu
                          induction fu with
                          | zero => intro k v2 hk hv2 hfu; exact absurd hfu (Nat.not_lt_zero _)
                          | succ fu ih165 =>
                            intro k v2 hk hv2 hfu H locs hP hS ls hl
                            refine lv_iload hx hb dX5_divide_165 (lv_at hl 0 rfl) ?_
                            refine lv_iload hx hb dX5_divide_167 (lv_at hl 1 rfl) ?_
                            refine n_icmp_ge (tgt := 192) hx hb (by omega) (by omega) dX5_divide_169 (by decide) (fun h_13 => ?_) (fun h_13 => ?_)
                            · skip
                              have hkd : k = d := by omega
                              rw [hkd, hwr, hre] at hv2
                              refine lv_aload_n hx hb dX5_divide_192 rfl (lv_at hl 2 rfl) ?_
                              refine lv_iload hx hb dX5_divide_193 (lv_at hl 3 rfl) ?_
                              refine k_callVv (rest := []) (nL := 8) ⟨hx, hb, hml, hown, hts⟩ (c_X5_store l D cy ad hI v2 jrd (by first | assumption | omega) (by rw [hv2, vln_o]; omega)) (cwV 1 hts gX5_divide_X5_store rfl rfl rfl (by decide +kernel) ⟨Nat.le_of_ble_eq_true rfl, Nat.le_of_ble_eq_true rfl⟩) hK hP hS (fun _ h => h) (q0 := 0) (ci := 5) rfl (by decide) mW_obj rfl rfl rfl hl.1 rfl (Nat.le_of_ble_eq_true rfl) dX5_divide_195 ⟨Nat.zero_le _, Nat.zero_le _⟩ (fun H locs hP hS => ?_)
                              have hP : va_P D vwCl (wL 9 ad (mW ad cy (sto v2 jrd))) H := hP
                              refine lv_aload_n hx hb dX5_divide_198 rfl (lv_at hl 2 rfl) ?_
                              refine k_callVr (rest := []) (nL := 8) ⟨hx, hb, hml, hown, hts⟩ (c_X5_degreeOut l D cy ad hI (sto v2 jrd) (by rw [sto_ln, hv2, vln_o]; omega) (by rw [sto_ou, hv2, vou_o]; exact hOr.2.2.1)) (cwV 0 hts gX5_divide_X5_degreeOut rfl rfl rfl (by decide +kernel) ⟨Nat.le_of_ble_eq_true rfl, Nat.le_of_ble_eq_true rfl⟩) hK hP hS (fun _ h => h) (q0 := 0) (ci := 5) rfl (by decide) mW_obj rfl rfl rfl hl.1 rfl (Nat.le_of_ble_eq_true rfl) dX5_divide_199 ⟨Nat.zero_le _, Nat.zero_le _⟩ (fun H locs hP hS => ?_)
                              have hP : va_P D vwCl (wL 9 ad (mW ad cy (sto v2 jrd))) H := hP
                              refine k_iret hx hb hr hlocks (sto v2 jrd) hP hS dX5_divide_202 ?_
                              rw [ejra, ejrb, ejrc, ejrd, op_divide_x hjra hjrb hjrc hjrd, if_neg (fun q => hcd (m_inj (by omega) (by omega) q)), if_neg hz, ← eqR, ← erR]
                              have hA1 : mRep (chgS S jrc qR) (sto w4 jrc) := mRep.chg (v := v) hR4 hjrc (by rw [hwn, hq1]) (fun k hk => by rw [hwq]; exact out_z hOq.2.2.2 k)
                              have hA2 := mRep_ow (n := max d 1) (f := rR.2) hA1
                              rw [← hv2] at hA2
                              exact ⟨by rw [sto_ou, sto_ln, hv2, vou_o, vln_o, ← hr1]; rfl, mRep_sto hA2 hjrd (by rw [hv2, hr1, vln_o]) (fun k hk => by rw [hv2, vou_o]; exact out_z hOr.2.2.2 k)⟩
                            · skip
                              refine lv_aload_n hx hb dX5_divide_172 rfl (lv_at hl 2 rfl) ?_
                              refine k_get (q0 := 0) (k := 7) (T := TX5) (Nf := 11) (ci := 5) (C := RX5) (v := .ref (ad (6))) hx hb hw_X5 hown hK hP (by decide) mW_obj rfl (by decide) hf_27 rfl rfl dX5_divide_173 ?_
                              refine lv_iload hx hb dX5_divide_176 (lv_at hl 0 rfl) ?_
                              refine lv_aload_n hx hb dX5_divide_178 rfl (lv_at hl 2 rfl) ?_
                              refine k_get (q0 := 0) (k := 9) (T := TX5) (Nf := 11) (ci := 5) (C := RX5) (v := .ref (ad (7))) hx hb hw_X5 hown hK hP (by decide) mW_obj rfl (by decide) hf_30 rfl rfl dX5_divide_179 ?_
                              refine lv_iload hx hb dX5_divide_182 (lv_at hl 0 rfl) ?_
                              refine k_iald (q0 := 7) (j := k) hx hb hK hP (by decide) mW_on (by decide) (by omega) dX5_divide_184 ?_
                              refine n_same (a := von v2 k) rfl ?_
                              refine n_push (a := von w4 k) (by rw [hv2]; rfl) ?_
                              refine k_iast (q0 := 6) (j := k) (v := nI (von w4 k)) (Wd' := mW ad cy (pou v2 (va_up (vou v2) k (von w4 k)))) hx hb hK hI hP hS (by decide) mW_ou (by decide) (by omega) mW_up_ou dX5_divide_185 (fun H locs hP hS => ?_)
                              refine lv_iinc (v := nI (k + 1)) (lv' := [(7, .int (nI (k + 1))), (6, .int (nI (d))), (0, .ref (ad (0))), (4, .int (nI (jrd)))]) hx hb dX5_divide_186 hl (k := 0) rfl (nI_inc _) (by decide) rfl (fun ls hl => ?_)
                              refine lv_goto (tgt := 165) hx hb dX5_divide_189 (by decide) ?_
                              exact ih165 (k + 1) (pou v2 (va_up (vou v2) k (von w4 k))) (by omega) (by rw [hv2]; exact pou_o (cp1_s _ _ _)) (by omega) _ _ hP hS _ hl
                        exact lp165 (_ + 1) (0) (bla (sto w4 jrc) (max d 1)) (Nat.zero_le _) (bla_o (cp1_0 _ _)) (Nat.lt_succ_self _) _ _ hP hS _ (lv_sub hl [0, 1, 3, 7] rfl)
                      · skip
                        have hd0 : d = 0 := h_12
                        refine lv_iconst (v := nI (1)) hx hb dX5_divide_153 rfl ?_
                        refine n_push (a := max d 1) (congrArg nI (by omega)) ?_
                        refine lv_goto (tgt := 159) hx hb dX5_divide_154 (by decide) ?_
                        refine k_callVv (rest := []) (nL := 8) ⟨hx, hb, hml, hown, hts⟩ (c_X5_blank l D cy ad hI (sto w4 jrc) (max d 1)) (cwV 1 hts gX5_divide_X5_blank rfl rfl rfl (by decide +kernel) ⟨Nat.le_of_ble_eq_true rfl, Nat.le_of_ble_eq_true rfl⟩) hK hP hS (fun _ h => h) (q0 := 0) (ci := 5) rfl (by decide) mW_obj rfl rfl rfl hl.1 rfl (Nat.le_of_ble_eq_true rfl) dX5_divide_159 ⟨Nat.zero_le _, Nat.zero_le _⟩ (fun H locs hP hS => ?_)
                        have hP : va_P D vwCl (wL 9 ad (mW ad cy (bla (sto w4 jrc) (max d 1)))) H := hP
                        refine lv_iconst (v := nI (0)) hx hb dX5_divide_162 rfl ?_
                        refine lv_istore (lv' := [(7, .int (nI (0))), (6, .int (nI (d))), (5, .int (dV dD)), (0, .ref (ad (0))), (1, .int (nI (jra))), (2, .int (nI (jrb))), (3, .int (nI (jrc))), (4, .int (nI (jrd)))]) hx hb dX5_divide_163 hl (by decide) rfl (fun ls hl => ?_)
                        have lp165 : ∀ (fu : Nat) (k : Nat) (v2 : kV), (k ≤ d) → (v2 = pou (bla (sto w4 jrc) (max d 1)) (cp1 (von w4) (fun _ => 0) k)) → d - k < fu → ∀ (H : Heap) (locs : List Loc), va_P D vwCl (wL 9 ad (mW ad cy (v2))) H → va_S (wA 9 ad) s.heap H locs → ∀ (ls : Array Slot), lv_has ls 8 [(7, .int (nI (k))), (6, .int (nI (d))), (0, .ref (ad (0))), (4, .int (nI (jrd)))] → W p l e ({ frames := 4, cells := 0, slots := 0, locals := 90 } : Room) s m ([.ref (ad (0)), .int (ra), .int (rb), .int (rc), .int (rd)] : List Value).toArray below meth c H locs 0 0 (MQ below (kQ D 9 ad (mW ad cy) (fun o u => o = some (.int (op_divide S ra rb rc rd).1) ∧ mRep (op_divide S ra rb rc rd).2 u)) ([.ref (ad (0)), .int (ra), .int (rb), .int (rc), .int (rd)] : List Value).toArray s 0 0 (wA 9 ad)) (F0 m 165 ls []) := by
                          intro fu
                          induction fu with
                          | zero => intro k v2 hk hv2 hfu; exact absurd hfu (Nat.not_lt_zero _)
                          | succ fu ih165 =>
                            intro k v2 hk hv2 hfu H locs hP hS ls hl
                            refine lv_iload hx hb dX5_divide_165 (lv_at hl 0 rfl) ?_
                            refine lv_iload hx hb dX5_divide_167 (lv_at hl 1 rfl) ?_
                            refine n_icmp_ge (tgt := 192) hx hb (by omega) (by omega) dX5_divide_169 (by decide) (fun h_14 => ?_) (fun h_14 => ?_)
                            · skip
                              have hkd : k = d := by omega
                              rw [hkd, hwr, hre] at hv2
                              refine lv_aload_n hx hb dX5_divide_192 rfl (lv_at hl 2 rfl) ?_
                              refine lv_iload hx hb dX5_divide_193 (lv_at hl 3 rfl) ?_
                              refine k_callVv (rest := []) (nL := 8) ⟨hx, hb, hml, hown, hts⟩ (c_X5_store l D cy ad hI v2 jrd (by first | assumption | omega) (by rw [hv2, vln_o]; omega)) (cwV 1 hts gX5_divide_X5_store rfl rfl rfl (by decide +kernel) ⟨Nat.le_of_ble_eq_true rfl, Nat.le_of_ble_eq_true rfl⟩) hK hP hS (fun _ h => h) (q0 := 0) (ci := 5) rfl (by decide) mW_obj rfl rfl rfl hl.1 rfl (Nat.le_of_ble_eq_true rfl) dX5_divide_195 ⟨Nat.zero_le _, Nat.zero_le _⟩ (fun H locs hP hS => ?_)
                              have hP : va_P D vwCl (wL 9 ad (mW ad cy (sto v2 jrd))) H := hP
                              refine lv_aload_n hx hb dX5_divide_198 rfl (lv_at hl 2 rfl) ?_
                              refine k_callVr (rest := []) (nL := 8) ⟨hx, hb, hml, hown, hts⟩ (c_X5_degreeOut l D cy ad hI (sto v2 jrd) (by rw [sto_ln, hv2, vln_o]; omega) (by rw [sto_ou, hv2, vou_o]; exact hOr.2.2.1)) (cwV 0 hts gX5_divide_X5_degreeOut rfl rfl rfl (by decide +kernel) ⟨Nat.le_of_ble_eq_true rfl, Nat.le_of_ble_eq_true rfl⟩) hK hP hS (fun _ h => h) (q0 := 0) (ci := 5) rfl (by decide) mW_obj rfl rfl rfl hl.1 rfl (Nat.le_of_ble_eq_true rfl) dX5_divide_199 ⟨Nat.zero_le _, Nat.zero_le _⟩ (fun H locs hP hS => ?_)
                              have hP : va_P D vwCl (wL 9 ad (mW ad cy (sto v2 jrd))) H := hP
                              refine k_iret hx hb hr hlocks (sto v2 jrd) hP hS dX5_divide_202 ?_
                              rw [ejra, ejrb, ejrc, ejrd, op_divide_x hjra hjrb hjrc hjrd, if_neg (fun q => hcd (m_inj (by omega) (by omega) q)), if_neg hz, ← eqR, ← erR]
                              have hA1 : mRep (chgS S jrc qR) (sto w4 jrc) := mRep.chg (v := v) hR4 hjrc (by rw [hwn, hq1]) (fun k hk => by rw [hwq]; exact out_z hOq.2.2.2 k)
                              have hA2 := mRep_ow (n := max d 1) (f := rR.2) hA1
                              rw [← hv2] at hA2
                              exact ⟨by rw [sto_ou, sto_ln, hv2, vou_o, vln_o, ← hr1]; rfl, mRep_sto hA2 hjrd (by rw [hv2, hr1, vln_o]) (fun k hk => by rw [hv2, vou_o]; exact out_z hOr.2.2.2 k)⟩
                            · skip
                              refine lv_aload_n hx hb dX5_divide_172 rfl (lv_at hl 2 rfl) ?_
                              refine k_get (q0 := 0) (k := 7) (T := TX5) (Nf := 11) (ci := 5) (C := RX5) (v := .ref (ad (6))) hx hb hw_X5 hown hK hP (by decide) mW_obj rfl (by decide) hf_27 rfl rfl dX5_divide_173 ?_
                              refine lv_iload hx hb dX5_divide_176 (lv_at hl 0 rfl) ?_
                              refine lv_aload_n hx hb dX5_divide_178 rfl (lv_at hl 2 rfl) ?_
                              refine k_get (q0 := 0) (k := 9) (T := TX5) (Nf := 11) (ci := 5) (C := RX5) (v := .ref (ad (7))) hx hb hw_X5 hown hK hP (by decide) mW_obj rfl (by decide) hf_30 rfl rfl dX5_divide_179 ?_
                              refine lv_iload hx hb dX5_divide_182 (lv_at hl 0 rfl) ?_
                              refine k_iald (q0 := 7) (j := k) hx hb hK hP (by decide) mW_on (by decide) (by omega) dX5_divide_184 ?_
                              refine n_same (a := von v2 k) rfl ?_
                              refine n_push (a := von w4 k) (by rw [hv2]; rfl) ?_
                              refine k_iast (q0 := 6) (j := k) (v := nI (von w4 k)) (Wd' := mW ad cy (pou v2 (va_up (vou v2) k (von w4 k)))) hx hb hK hI hP hS (by decide) mW_ou (by decide) (by omega) mW_up_ou dX5_divide_185 (fun H locs hP hS => ?_)
                              refine lv_iinc (v := nI (k + 1)) (lv' := [(7, .int (nI (k + 1))), (6, .int (nI (d))), (0, .ref (ad (0))), (4, .int (nI (jrd)))]) hx hb dX5_divide_186 hl (k := 0) rfl (nI_inc _) (by decide) rfl (fun ls hl => ?_)
                              refine lv_goto (tgt := 165) hx hb dX5_divide_189 (by decide) ?_
                              exact ih165 (k + 1) (pou v2 (va_up (vou v2) k (von w4 k))) (by omega) (by rw [hv2]; exact pou_o (cp1_s _ _ _)) (by omega) _ _ hP hS _ hl
                        exact lp165 (_ + 1) (0) (bla (sto w4 jrc) (max d 1)) (Nat.zero_le _) (bla_o (cp1_0 _ _)) (Nat.lt_succ_self _) _ _ hP hS _ (lv_sub hl [0, 1, 3, 7] rfl)
                  · skip
                    refine lv_aload_n hx hb dX5_divide_78 rfl (lv_at hl 3 rfl) ?_
                    refine k_get (q0 := 0) (k := 9) (T := TX5) (Nf := 11) (ci := 5) (C := RX5) (v := .ref (ad (7))) hx hb hw_X5 hown hK hP (by decide) mW_obj rfl (by decide) hf_30 rfl rfl dX5_divide_79 ?_
                    refine lv_iload hx hb dX5_divide_82 (lv_at hl 0 rfl) ?_
                    refine lv_aload_n hx hb dX5_divide_84 rfl (lv_at hl 3 rfl) ?_
                    refine lv_iload_n hx hb dX5_divide_85 rfl (lv_at hl 4 rfl) ?_
                    refine lv_iload hx hb dX5_divide_86 (lv_at hl 0 rfl) ?_
                    refine k_callVr (rest := [.int (nI (k)), .ref (ad (7))]) (nL := 8) ⟨hx, hb, hml, hown, hts⟩ (c_X5_at l D cy ad hI v' S.1 jra k hM3 (by first | assumption | omega) (by first | assumption | omega)) (cwV 2 hts gX5_divide_X5_at rfl rfl rfl (by decide +kernel) ⟨Nat.le_of_ble_eq_true rfl, Nat.le_of_ble_eq_true rfl⟩) hK hP hS (fun _ h => h) (q0 := 0) (ci := 5) rfl (by decide) mW_obj rfl rfl rfl hl.1 rfl (Nat.le_of_ble_eq_true rfl) dX5_divide_88 ⟨Nat.zero_le _, Nat.zero_le _⟩ (fun H locs hP hS => ?_)
                    have hP : va_P D vwCl (wL 9 ad (mW ad cy (v'))) H := hP
                    refine k_iast (q0 := 7) (j := k) (v := nI ((S.1 jra).2 k)) (Wd' := mW ad cy (pon v' (va_up (von v') k ((S.1 jra).2 k)))) hx hb hK hI hP hS (by decide) mW_on (by decide) (by omega) mW_up_on dX5_divide_91 (fun H locs hP hS => ?_)
                    refine lv_aload_n hx hb dX5_divide_92 rfl (lv_at hl 3 rfl) ?_
                    refine k_get (q0 := 0) (k := 10) (T := TX5) (Nf := 11) (ci := 5) (C := RX5) (v := .ref (ad (8))) hx hb hw_X5 hown hK hP (by decide) mW_obj rfl (by decide) hf_33 rfl rfl dX5_divide_93 ?_
                    refine lv_iload hx hb dX5_divide_96 (lv_at hl 0 rfl) ?_
                    refine lv_aload_n hx hb dX5_divide_98 rfl (lv_at hl 3 rfl) ?_
                    refine lv_iload_n hx hb dX5_divide_99 rfl (lv_at hl 5 rfl) ?_
                    refine lv_iload hx hb dX5_divide_100 (lv_at hl 0 rfl) ?_
                    refine k_callVr (rest := [.int (nI (k)), .ref (ad (8))]) (nL := 8) ⟨hx, hb, hml, hown, hts⟩ (c_X5_at l D cy ad hI (pon v' (va_up (von v') k ((S.1 jra).2 k))) S.1 jrb k hM3 (by first | assumption | omega) (by first | assumption | omega)) (cwV 2 hts gX5_divide_X5_at rfl rfl rfl (by decide +kernel) ⟨Nat.le_of_ble_eq_true rfl, Nat.le_of_ble_eq_true rfl⟩) hK hP hS (fun _ h => h) (q0 := 0) (ci := 5) rfl (by decide) mW_obj rfl rfl rfl hl.1 rfl (Nat.le_of_ble_eq_true rfl) dX5_divide_102 ⟨Nat.zero_le _, Nat.zero_le _⟩ (fun H locs hP hS => ?_)
                    have hP : va_P D vwCl (wL 9 ad (mW ad cy (pon v' (va_up (von v') k ((S.1 jra).2 k))))) H := hP
                    refine k_iast (q0 := 8) (j := k) (v := nI ((S.1 jrb).2 k)) (Wd' := mW ad cy (ptw (pon v' (va_up (von v') k ((S.1 jra).2 k))) (va_up (vtw (pon v' (va_up (von v') k ((S.1 jra).2 k)))) k ((S.1 jrb).2 k)))) hx hb hK hI hP hS (by decide) mW_tw (by decide) (by omega) mW_up_tw dX5_divide_105 (fun H locs hP hS => ?_)
                    refine lv_iinc (v := nI (k + 1)) (lv' := [(7, .int (nI (k + 1))), (6, .int (nI (d))), (5, .int (dV dD)), (0, .ref (ad (0))), (1, .int (nI (jra))), (2, .int (nI (jrb))), (3, .int (nI (jrc))), (4, .int (nI (jrd)))]) hx hb dX5_divide_106 hl (k := 0) rfl (nI_inc _) (by decide) rfl (fun ls hl => ?_)
                    refine lv_goto (tgt := 71) hx hb dX5_divide_109 (by decide) ?_
                    exact ih71 (k + 1) (ptw (pon v' (va_up (von v') k ((S.1 jra).2 k))) (va_up (vtw (pon v' (va_up (von v') k ((S.1 jra).2 k)))) k ((S.1 jrb).2 k))) (by omega) (cpl_s hv) (by omega) _ _ hP hS _ hl
              exact lp71 (_ + 1) (0) (w0) (by omega) (cpl_0 _ _ _) (Nat.lt_succ_self _) _ _ hP hS _ hl
            · skip
              have hz : rD (S.1 jrb) = 0 := (dV_none (D := dg (S.1 jrb).2 (S.1 jrb).1) (by omega)).mp h_6
              refine lv_bipush (v := (-5 : Int32)) hx hb dX5_divide_61 (by decide) ?_
              refine k_iret hx hb hr hlocks (v) hP hS dX5_divide_63 ?_
              rw [ejra, ejrb, ejrc, ejrd, op_divide_x hjra hjrb hjrc hjrd, if_neg (fun q => hcd (m_inj (by omega) (by omega) q)), if_pos hz]
              exact ⟨rfl, hR⟩
          · skip
            have hcd : jrc = jrd := by omega
            refine lv_bipush (v := (-2 : Int32)) hx hb dX5_divide_37 (by decide) ?_
            refine k_iret hx hb hr hlocks (v) hP hS dX5_divide_39 ?_
            rw [ejra, ejrb, ejrc, ejrd, op_divide_x hjra hjrb hjrc hjrd, if_pos (congrArg nI hcd)]
            exact ⟨rfl, hR⟩
        · skip
          have hjrd : ¬ isR rd := of_decide_eq_false h_4
          refine lv_iconst (v := (-1 : Int32)) hx hb dX5_divide_29 (by decide) ?_
          refine k_iret hx hb hr hlocks (v) hP hS dX5_divide_30 ?_
          rw [show op_divide S ra rb rc rd = (-1, S) from if_pos (by first | exact Or.inl hjra | exact Or.inr (Or.inl hjrb) | exact Or.inr (Or.inr (Or.inl hjrc)) | exact Or.inr (Or.inr (Or.inr (hjrd))))]
          exact ⟨rfl, hR⟩
