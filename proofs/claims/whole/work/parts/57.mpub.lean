set_option maxHeartbeats 4000000 in
set_option maxRecDepth 100000 in
theorem c_X5_inverse (l : Launch) (D : va_G) (cy : Nat → ClassId) (ad : Nat → Nat) (hI : wI 9 ad) (v : kV) (S : kSt) (ra : Int32) (rn : Int32) (rc : Int32) (hSI : kInv S) (hR : mRep S v) : kM l yX5_inverse wsX5_inverse ({ frames := 3, cells := 0, slots := 0, locals := 64 } : Room) D cy 9 ad (mW ad cy) (mW ad cy (v)) [.ref (ad (0)), .int (ra), .int (rn), .int (rc)] (fun o u => o = some (.int (op_inverse S ra rn rc).1) ∧ mRep (op_inverse S ra rn rc).2 u) := by
  refine k_met cX5_inverse 8 (some .int) (by decide) rfl (Nat.le_of_ble_eq_true rfl) ?_
  intro p e s m below meth c ls hx hb hr hts hown hlocks hml hK hP hS hl
  have hl : lv_has ls 8 [(0, .ref (ad (0))), (1, .int (ra)), (2, .int (rn)), (3, .int (rc))] := hl
  have hown : s.vm.findClass RX5 = some m.cls := hown
  have hf_27 := hts (.fieldLink RX5 27 "TurnedRowsModel" "out" "[I") (by decide +kernel)
  have hw_X5 : ∀ qw ∈ wsX50, qw.before ([.ref (ad (0)), .int (ra), .int (rn), .int (rc)] : List Value).toArray s = true := fun qw h => hts qw ((by decide +kernel : ∀ qw ∈ wsX50, qw ∈ wsX5_inverse) qw h)
  have hM : mReg S.1 v := hR.reg hSI
  have hrow : ∀ j, j < 6 → rO (S.1 j) := hSI.1
  have hpm6 : vpm v ≤ 6 := by rw [hR.2.1.1]; exact hR.2.1.2
  have hplS : vty v = S.2.2.2.2.2.1 := hR.2.2.2.2.1
  have hty80 : vty v ≤ 80 := by rw [hplS]; exact hSI.2.2.2.2.2.1
  have hpdS : ∀ j, j < S.2.2.2.2.2.1 → vpd v j = S.2.2.2.2.2.2 j := hR.2.2.2.2.2.1
  have hpd : ∀ j, j < vty v → vpd v j < 127 := fun j hj => by rw [hpdS j (by omega)]; have := (hSI.2.2.2.2.2.2 j (by omega)).2; omega
  refine lv_iload_n hx hb dX5_inverse_0 rfl (lv_at hl 1 rfl) ?_
  refine k_callSr (rest := []) (nL := 8) ⟨hx, hb, hml, hown, hts⟩ (c_X5_isRegister l D cy ad hI v ra) (va_cwS 1 hts gX5_inverse_X5_isRegister rfl rfl rfl (by decide +kernel) ⟨Nat.le_of_ble_eq_true rfl, Nat.le_of_ble_eq_true rfl⟩) hK hP hS (fun _ h => h) rfl hl.1 rfl (Nat.le_of_ble_eq_true rfl) dX5_inverse_1 ⟨Nat.zero_le _, Nat.zero_le _⟩ (fun H locs hP hS => ?_)
  have hP : va_P D vwCl (wL 9 ad (mW ad cy (v))) H := hP
  refine b_ifeq (tgt := 14) hx hb dX5_inverse_4 (by decide) (fun h_1 => ?_) (fun h_1 => ?_)
  · skip
    have hjra : ¬ isR ra := of_decide_eq_false h_1
    refine lv_iconst (v := (-1 : Int32)) hx hb dX5_inverse_14 (by decide) ?_
    refine k_iret hx hb hr hlocks (v) hP hS dX5_inverse_15 ?_
    rw [show op_inverse S ra rn rc = (-1, S) from if_pos (by first | exact Or.inl hjra | exact Or.inr (hjrc))]
    exact ⟨rfl, hR⟩
  · skip
    obtain ⟨jra, hjra, ejra⟩ := (kreg_cases ra).resolve_left (fun q => q (of_decide_eq_true h_1))
    rw [ejra] at hl
    refine lv_iload_n hx hb dX5_inverse_7 rfl (lv_at hl 3 rfl) ?_
    refine k_callSr (rest := []) (nL := 8) ⟨hx, hb, hml, hown, hts⟩ (c_X5_isRegister l D cy ad hI v rc) (va_cwS 1 hts gX5_inverse_X5_isRegister rfl rfl rfl (by decide +kernel) ⟨Nat.le_of_ble_eq_true rfl, Nat.le_of_ble_eq_true rfl⟩) hK hP hS (fun _ h => h) rfl hl.1 rfl (Nat.le_of_ble_eq_true rfl) dX5_inverse_8 ⟨Nat.zero_le _, Nat.zero_le _⟩ (fun H locs hP hS => ?_)
    have hP : va_P D vwCl (wL 9 ad (mW ad cy (v))) H := hP
    refine b_ifne (tgt := 16) hx hb dX5_inverse_11 (by decide) (fun h_2 => ?_) (fun h_2 => ?_)
    · skip
      obtain ⟨jrc, hjrc, ejrc⟩ := (kreg_cases rc).resolve_left (fun q => q (of_decide_eq_true h_2))
      rw [ejrc] at hl
      refine lv_iload_n hx hb dX5_inverse_16 rfl (lv_at hl 2 rfl) ?_
      refine lv_iconst (v := nI (1)) hx hb dX5_inverse_17 rfl ?_
      refine lv_bipush (v := nI (64)) hx hb dX5_inverse_18 rfl ?_
      refine k_callSr (rest := []) (nL := 8) ⟨hx, hb, hml, hown, hts⟩ (c_X5_in l D cy ad hI v rn (nI (1)) (nI (64))) (va_cwS 3 hts gX5_inverse_X5_in rfl rfl rfl (by decide +kernel) ⟨Nat.le_of_ble_eq_true rfl, Nat.le_of_ble_eq_true rfl⟩) hK hP hS (fun _ h => h) rfl hl.1 rfl (Nat.le_of_ble_eq_true rfl) dX5_inverse_20 ⟨Nat.zero_le _, Nat.zero_le _⟩ (fun H locs hP hS => ?_)
      have hP : va_P D vwCl (wL 9 ad (mW ad cy (v))) H := hP
      refine b_ifne (tgt := 29) hx hb dX5_inverse_23 (by decide) (fun h_3 => ?_) (fun h_3 => ?_)
      · skip
        obtain ⟨kn, hkn1, hkn, ekn⟩ := (le1_cases rn 64 (by decide)).resolve_left (fun q => q (show (1 : Int32) ≤ rn ∧ rn ≤ nI 64 from of_decide_eq_true h_3))
        rw [ekn] at hl
        refine lv_aload_n hx hb dX5_inverse_29 rfl (lv_at hl 0 rfl) ?_
        refine lv_iload_n hx hb dX5_inverse_30 rfl (lv_at hl 1 rfl) ?_
        refine lv_iconst (v := nI (0)) hx hb dX5_inverse_31 rfl ?_
        have hoa := hrow jra hjra
        have hla := hoa.2.1
        have hla1 := hoa.1
        have hf0 := hoa.2.2.1 0
        have hw5 := pw_lt ((S.1 jra).2 0) 255
        refine k_callVr (rest := []) (nL := 8) ⟨hx, hb, hml, hown, hts⟩ (c_X5_at l D cy ad hI v S.1 jra 0 hM (by first | assumption | omega) (by first | assumption | omega)) (cwV 2 hts gX5_inverse_X5_at rfl rfl rfl (by decide +kernel) ⟨Nat.le_of_ble_eq_true rfl, Nat.le_of_ble_eq_true rfl⟩) hK hP hS (fun _ h => h) (q0 := 0) (ci := 5) rfl (by decide) mW_obj rfl rfl rfl hl.1 rfl (Nat.le_of_ble_eq_true rfl) dX5_inverse_32 ⟨Nat.zero_le _, Nat.zero_le _⟩ (fun H locs hP hS => ?_)
        have hP : va_P D vwCl (wL 9 ad (mW ad cy (v))) H := hP
        refine n_ifne (tgt := 41) hx hb (by omega) dX5_inverse_35 (by decide) (fun h_4 => ?_) (fun h_4 => ?_)
        · skip
          have hnz := h_4
          refine lv_aload_n hx hb dX5_inverse_41 rfl (lv_at hl 0 rfl) ?_
          refine k_callVv (rest := []) (nL := 8) ⟨hx, hb, hml, hown, hts⟩ (c_X5_record l D cy ad hI v (by first | assumption | omega)) (cwV 0 hts gX5_inverse_X5_record rfl rfl rfl (by decide +kernel) ⟨Nat.le_of_ble_eq_true rfl, Nat.le_of_ble_eq_true rfl⟩) hK hP hS (fun _ h => h) (q0 := 0) (ci := 5) rfl (by decide) mW_obj rfl rfl rfl hl.1 rfl (Nat.le_of_ble_eq_true rfl) dX5_inverse_42 ⟨Nat.zero_le _, Nat.zero_le _⟩ (fun H locs hP hS => ?_)
          have hP : va_P D vwCl (wL 9 ad (mW ad cy (recV v))) H := hP
          refine lv_aload_n hx hb dX5_inverse_45 rfl (lv_at hl 0 rfl) ?_
          refine lv_iload_n hx hb dX5_inverse_46 rfl (lv_at hl 2 rfl) ?_
          refine k_callVv (rest := []) (nL := 8) ⟨hx, hb, hml, hown, hts⟩ (c_X5_blank l D cy ad hI (recV v) kn) (cwV 1 hts gX5_inverse_X5_blank rfl rfl rfl (by decide +kernel) ⟨Nat.le_of_ble_eq_true rfl, Nat.le_of_ble_eq_true rfl⟩) hK hP hS (fun _ h => h) (q0 := 0) (ci := 5) rfl (by decide) mW_obj rfl rfl rfl hl.1 rfl (Nat.le_of_ble_eq_true rfl) dX5_inverse_47 ⟨Nat.zero_le _, Nat.zero_le _⟩ (fun H locs hP hS => ?_)
          have hP : va_P D vwCl (wL 9 ad (mW ad cy (bla (recV v) kn))) H := hP
          refine lv_aload_n hx hb dX5_inverse_50 rfl (lv_at hl 0 rfl) ?_
          refine lv_iload_n hx hb dX5_inverse_51 rfl (lv_at hl 1 rfl) ?_
          refine lv_iconst (v := nI (0)) hx hb dX5_inverse_52 rfl ?_
          refine k_callVr (rest := []) (nL := 8) ⟨hx, hb, hml, hown, hts⟩ (c_X5_at l D cy ad hI (bla (recV v) kn) S.1 jra 0 hM (by first | assumption | omega) (by first | assumption | omega)) (cwV 2 hts gX5_inverse_X5_at rfl rfl rfl (by decide +kernel) ⟨Nat.le_of_ble_eq_true rfl, Nat.le_of_ble_eq_true rfl⟩) hK hP hS (fun _ h => h) (q0 := 0) (ci := 5) rfl (by decide) mW_obj rfl rfl rfl hl.1 rfl (Nat.le_of_ble_eq_true rfl) dX5_inverse_53 ⟨Nat.zero_le _, Nat.zero_le _⟩ (fun H locs hP hS => ?_)
          have hP : va_P D vwCl (wL 9 ad (mW ad cy (bla (recV v) kn))) H := hP
          refine k_callSr (rest := []) (nL := 8) ⟨hx, hb, hml, hown, hts⟩ (c_X5_over l D cy ad hI (bla (recV v) kn) ((S.1 jra).2 0) (by first | assumption | omega)) (va_cwS 1 hts gX5_inverse_X5_over rfl rfl rfl (by decide +kernel) ⟨Nat.le_of_ble_eq_true rfl, Nat.le_of_ble_eq_true rfl⟩) hK hP hS (fun _ h => h) rfl hl.1 rfl (Nat.le_of_ble_eq_true rfl) dX5_inverse_56 ⟨Nat.zero_le _, Nat.zero_le _⟩ (fun H locs hP hS => ?_)
          have hP : va_P D vwCl (wL 9 ad (mW ad cy (bla (recV v) kn))) H := hP
          refine lv_istore (lv' := [(4, .int (nI (pw ((S.1 jra).2 0) 255))), (0, .ref (ad (0))), (1, .int (nI (jra))), (2, .int (nI (kn))), (3, .int (nI (jrc)))]) hx hb dX5_inverse_59 hl (by decide) rfl (fun ls hl => ?_)
          refine lv_iconst (v := nI (0)) hx hb dX5_inverse_61 rfl ?_
          refine lv_istore (lv' := [(5, .int (nI (0))), (4, .int (nI (pw ((S.1 jra).2 0) 255))), (0, .ref (ad (0))), (1, .int (nI (jra))), (2, .int (nI (kn))), (3, .int (nI (jrc)))]) hx hb dX5_inverse_62 hl (by decide) rfl (fun ls hl => ?_)
          have lp64 : ∀ (fu : Nat) (i : Nat) (v' : kV), (i ≤ kn) → (v' = pou (bla (recV v) kn) (inv (S.1 jra).2 (pw ((S.1 jra).2 0) 255) i)) → kn - i < fu → ∀ (H : Heap) (locs : List Loc), va_P D vwCl (wL 9 ad (mW ad cy (v'))) H → va_S (wA 9 ad) s.heap H locs → ∀ (ls : Array Slot), lv_has ls 8 [(5, .int (nI (i))), (4, .int (nI (pw ((S.1 jra).2 0) 255))), (0, .ref (ad (0))), (1, .int (nI (jra))), (2, .int (nI (kn))), (3, .int (nI (jrc)))] → W p l e ({ frames := 3, cells := 0, slots := 0, locals := 64 } : Room) s m ([.ref (ad (0)), .int (ra), .int (rn), .int (rc)] : List Value).toArray below meth c H locs 0 0 (MQ below (kQ D 9 ad (mW ad cy) (fun o u => o = some (.int (op_inverse S ra rn rc).1) ∧ mRep (op_inverse S ra rn rc).2 u)) ([.ref (ad (0)), .int (ra), .int (rn), .int (rc)] : List Value).toArray s 0 0 (wA 9 ad)) (F0 m 64 ls []) := by
            intro fu
            induction fu with
            | zero => intro i v' hi hv hfu; exact absurd hfu (Nat.not_lt_zero _)
            | succ fu ih64 =>
              intro i v' hi hv hfu H locs hP hS ls hl
              have hM3 : mReg S.1 v' := by rw [hv]; exact hM
              refine lv_iload hx hb dX5_inverse_64 (lv_at hl 0 rfl) ?_
              refine lv_iload_n hx hb dX5_inverse_66 rfl (lv_at hl 4 rfl) ?_
              refine n_icmp_ge (tgt := 149) hx hb (by omega) (by omega) dX5_inverse_67 (by decide) (fun h_5 => ?_) (fun h_5 => ?_)
              · skip
                refine lv_aload_n hx hb dX5_inverse_149 rfl (lv_at hl 2 rfl) ?_
                refine lv_iload_n hx hb dX5_inverse_150 rfl (lv_at hl 5 rfl) ?_
                refine k_callVv (rest := []) (nL := 8) ⟨hx, hb, hml, hown, hts⟩ (c_X5_store l D cy ad hI v' jrc (by first | assumption | omega) (by rw [hv, vln_o]; omega)) (cwV 1 hts gX5_inverse_X5_store rfl rfl rfl (by decide +kernel) ⟨Nat.le_of_ble_eq_true rfl, Nat.le_of_ble_eq_true rfl⟩) hK hP hS (fun _ h => h) (q0 := 0) (ci := 5) rfl (by decide) mW_obj rfl rfl rfl hl.1 rfl (Nat.le_of_ble_eq_true rfl) dX5_inverse_151 ⟨Nat.zero_le _, Nat.zero_le _⟩ (fun H locs hP hS => ?_)
                have hP : va_P D vwCl (wL 9 ad (mW ad cy (sto v' jrc))) H := hP
                refine lv_aload_n hx hb dX5_inverse_154 rfl (lv_at hl 2 rfl) ?_
                refine k_callVr (rest := []) (nL := 8) ⟨hx, hb, hml, hown, hts⟩ (c_X5_degreeOut l D cy ad hI (sto v' jrc) (by rw [hv]; exact hkn) (by rw [hv]; exact fun k => inv_lt hw5 _ k)) (cwV 0 hts gX5_inverse_X5_degreeOut rfl rfl rfl (by decide +kernel) ⟨Nat.le_of_ble_eq_true rfl, Nat.le_of_ble_eq_true rfl⟩) hK hP hS (fun _ h => h) (q0 := 0) (ci := 5) rfl (by decide) mW_obj rfl rfl rfl hl.1 rfl (Nat.le_of_ble_eq_true rfl) dX5_inverse_155 ⟨Nat.zero_le _, Nat.zero_le _⟩ (fun H locs hP hS => ?_)
                have hP : va_P D vwCl (wL 9 ad (mW ad cy (sto v' jrc))) H := hP
                have hie : i = kn := by omega
                rw [hie] at hv
                refine k_iret hx hb hr hlocks (sto v' jrc) hP hS dX5_inverse_158 ?_
                rw [ejra, ejrc, ekn, op_inverse_x hjra hjrc, if_neg (fun q => q (kin1_nI hkn1 hkn (by decide))), if_neg hnz, rgN_nI (by omega)]
                exact ⟨by rw [hv]; rfl, outM hR hv hjrc rfl rfl (fun _ z => inv_zero _ _ z)⟩
              · skip
                refine lv_iconst (v := nI (0)) hx hb dX5_inverse_70 rfl ?_
                refine lv_istore (lv' := [(6, .int (nI (0))), (5, .int (nI (i))), (4, .int (nI (pw ((S.1 jra).2 0) 255))), (0, .ref (ad (0))), (1, .int (nI (jra))), (2, .int (nI (kn))), (3, .int (nI (jrc)))]) hx hb dX5_inverse_71 hl (by decide) rfl (fun ls hl => ?_)
                refine lv_iconst (v := nI (1)) hx hb dX5_inverse_73 rfl ?_
                refine lv_istore (lv' := [(7, .int (nI (1))), (6, .int (nI (0))), (5, .int (nI (i))), (4, .int (nI (pw ((S.1 jra).2 0) 255))), (0, .ref (ad (0))), (1, .int (nI (jra))), (2, .int (nI (kn))), (3, .int (nI (jrc)))]) hx hb dX5_inverse_74 hl (by decide) rfl (fun ls hl => ?_)
                have lp76 : ∀ (fu : Nat) (j : Nat) (s9 : Nat), (j ≤ i) → (s9 = conv (S.1 jra).2 (inv (S.1 jra).2 (pw ((S.1 jra).2 0) 255) i) i j) → i - j < fu → ∀ (H : Heap) (locs : List Loc), va_P D vwCl (wL 9 ad (mW ad cy (v'))) H → va_S (wA 9 ad) s.heap H locs → ∀ (ls : Array Slot), lv_has ls 8 [(7, .int (nI (j + 1))), (6, .int (nI (s9))), (5, .int (nI (i))), (4, .int (nI (pw ((S.1 jra).2 0) 255))), (0, .ref (ad (0))), (1, .int (nI (jra))), (2, .int (nI (kn))), (3, .int (nI (jrc)))] → W p l e ({ frames := 3, cells := 0, slots := 0, locals := 64 } : Room) s m ([.ref (ad (0)), .int (ra), .int (rn), .int (rc)] : List Value).toArray below meth c H locs 0 0 (MQ below (kQ D 9 ad (mW ad cy) (fun o u => o = some (.int (op_inverse S ra rn rc).1) ∧ mRep (op_inverse S ra rn rc).2 u)) ([.ref (ad (0)), .int (ra), .int (rn), .int (rc)] : List Value).toArray s 0 0 (wA 9 ad)) (F0 m 76 ls []) := by
                  intro fu
                  induction fu with
                  | zero => intro j s9 hj hs9 hfu; exact absurd hfu (Nat.not_lt_zero _)
                  | succ fu ih76 =>
                    intro j s9 hj hs9 hfu H locs hP hS ls hl
                    have hcl := conv_le (k := i) hoa.2.2.1 (inv_lt (f := (S.1 jra).2) hw5 i) j
                    rw [← hs9] at hcl
                    refine lv_iload hx hb dX5_inverse_76 (lv_at hl 0 rfl) ?_
                    refine lv_iload hx hb dX5_inverse_78 (lv_at hl 2 rfl) ?_
                    refine n_icmp_gt (tgt := 112) hx hb (by omega) (by omega) dX5_inverse_80 (by decide) (fun h_6 => ?_) (fun h_6 => ?_)
                    · skip
                      refine lv_aload_n hx hb dX5_inverse_112 rfl (lv_at hl 4 rfl) ?_
                      refine k_get (q0 := 0) (k := 7) (T := TX5) (Nf := 11) (ci := 5) (C := RX5) (v := .ref (ad (6))) hx hb hw_X5 hown hK hP (by decide) mW_obj rfl (by decide) hf_27 rfl rfl dX5_inverse_113 ?_
                      refine lv_iload hx hb dX5_inverse_116 (lv_at hl 2 rfl) ?_
                      refine lv_iload hx hb dX5_inverse_118 (lv_at hl 2 rfl) ?_
                      refine n_ifne (tgt := 127) hx hb (by omega) dX5_inverse_120 (by decide) (fun h_7 => ?_) (fun h_7 => ?_)
                      · skip
                        have hi0 := h_7
                        refine lv_iconst (v := nI (0)) hx hb dX5_inverse_127 rfl ?_
                        refine lv_iload hx hb dX5_inverse_128 (lv_at hl 1 rfl) ?_
                        refine lv_sipush (v := nI (257)) hx hb dX5_inverse_130 rfl ?_
                        refine n_irem hx hb (by omega) (by omega) (by omega) dX5_inverse_133  ?_
                        refine k_callSr (rest := [.int (nI (i)), .ref (ad (6))]) (nL := 8) ⟨hx, hb, hml, hown, hts⟩ (c_X5_less l D cy ad hI v' 0 (s9 % 257) (by first | assumption | omega) (by first | assumption | omega)) (va_cwS 2 hts gX5_inverse_X5_less rfl rfl rfl (by decide +kernel) ⟨Nat.le_of_ble_eq_true rfl, Nat.le_of_ble_eq_true rfl⟩) hK hP hS (fun _ h => h) rfl hl.1 rfl (Nat.le_of_ble_eq_true rfl) dX5_inverse_134 ⟨Nat.zero_le _, Nat.zero_le _⟩ (fun H locs hP hS => ?_)
                        have hP : va_P D vwCl (wL 9 ad (mW ad cy (v'))) H := hP
                        refine lv_iload hx hb dX5_inverse_137 (lv_at hl 3 rfl) ?_
                        refine k_callSr (rest := [.int (nI (i)), .ref (ad (6))]) (nL := 8) ⟨hx, hb, hml, hown, hts⟩ (c_X5_times l D cy ad hI v' (lss 0 (s9 % 257)) (pw ((S.1 jra).2 0) 255) (lss_lt _ _) hw5) (va_cwS 2 hts gX5_inverse_X5_times rfl rfl rfl (by decide +kernel) ⟨Nat.le_of_ble_eq_true rfl, Nat.le_of_ble_eq_true rfl⟩) hK hP hS (fun _ h => h) rfl hl.1 rfl (Nat.le_of_ble_eq_true rfl) dX5_inverse_139 ⟨Nat.zero_le _, Nat.zero_le _⟩ (fun H locs hP hS => ?_)
                        have hP : va_P D vwCl (wL 9 ad (mW ad cy (v'))) H := hP
                        refine n_push (a := ngm (s9 % 257) (pw ((S.1 jra).2 0) 255)) (congrArg nI (lss_ngm (Nat.mod_lt _ (by decide)) hw5)) ?_
                        refine k_iast (q0 := 6) (j := i) (v := nI (ngm (s9 % 257) (pw ((S.1 jra).2 0) 255))) (Wd' := mW ad cy (pou v' (va_up (vou v') i (ngm (s9 % 257) (pw ((S.1 jra).2 0) 255))))) hx hb hK hI hP hS (by decide) mW_ou (by decide) (by omega) mW_up_ou dX5_inverse_142 (fun H locs hP hS => ?_)
                        refine lv_iinc (v := nI (i + 1)) (lv' := [(5, .int (nI (i + 1))), (7, .int (nI (j + 1))), (6, .int (nI (s9))), (4, .int (nI (pw ((S.1 jra).2 0) 255))), (0, .ref (ad (0))), (1, .int (nI (jra))), (2, .int (nI (kn))), (3, .int (nI (jrc)))]) hx hb dX5_inverse_143 hl (k := 2) rfl (nI_inc _) (by decide) rfl (fun ls hl => ?_)
                        refine lv_goto (tgt := 64) hx hb dX5_inverse_146 (by decide) ?_
                        exact ih64 (i + 1) (pou v' (va_up (vou v') i (ngm (s9 % 257) (pw ((S.1 jra).2 0) 255)))) (by omega) (by rw [hv]; exact pou_o (inv_n hi0 (by rw [hs9, show j = i by omega]))) (by omega) _ _ hP hS _ (lv_sub hl [0, 3, 4, 5, 6, 7] rfl)
                      · skip
                        have hi0 := h_7
                        have hs0 : s9 = 0 := by rw [hs9, show j = 0 by omega]; rfl
                        refine lv_iconst (v := nI (1)) hx hb dX5_inverse_123 rfl ?_
                        refine lv_goto (tgt := 128) hx hb dX5_inverse_124 (by decide) ?_
                        refine lv_iload hx hb dX5_inverse_128 (lv_at hl 1 rfl) ?_
                        refine lv_sipush (v := nI (257)) hx hb dX5_inverse_130 rfl ?_
                        refine n_irem hx hb (by omega) (by omega) (by omega) dX5_inverse_133  ?_
                        refine k_callSr (rest := [.int (nI (i)), .ref (ad (6))]) (nL := 8) ⟨hx, hb, hml, hown, hts⟩ (c_X5_less l D cy ad hI v' 1 (s9 % 257) (by first | assumption | omega) (by first | assumption | omega)) (va_cwS 2 hts gX5_inverse_X5_less rfl rfl rfl (by decide +kernel) ⟨Nat.le_of_ble_eq_true rfl, Nat.le_of_ble_eq_true rfl⟩) hK hP hS (fun _ h => h) rfl hl.1 rfl (Nat.le_of_ble_eq_true rfl) dX5_inverse_134 ⟨Nat.zero_le _, Nat.zero_le _⟩ (fun H locs hP hS => ?_)
                        have hP : va_P D vwCl (wL 9 ad (mW ad cy (v'))) H := hP
                        refine lv_iload hx hb dX5_inverse_137 (lv_at hl 3 rfl) ?_
                        refine k_callSr (rest := [.int (nI (i)), .ref (ad (6))]) (nL := 8) ⟨hx, hb, hml, hown, hts⟩ (c_X5_times l D cy ad hI v' (lss 1 (s9 % 257)) (pw ((S.1 jra).2 0) 255) (lss_lt _ _) hw5) (va_cwS 2 hts gX5_inverse_X5_times rfl rfl rfl (by decide +kernel) ⟨Nat.le_of_ble_eq_true rfl, Nat.le_of_ble_eq_true rfl⟩) hK hP hS (fun _ h => h) rfl hl.1 rfl (Nat.le_of_ble_eq_true rfl) dX5_inverse_139 ⟨Nat.zero_le _, Nat.zero_le _⟩ (fun H locs hP hS => ?_)
                        have hP : va_P D vwCl (wL 9 ad (mW ad cy (v'))) H := hP
                        refine n_push (a := pw ((S.1 jra).2 0) 255) (congrArg nI (by rw [hs0]; exact lss_one hw5)) ?_
                        refine k_iast (q0 := 6) (j := i) (v := nI (pw ((S.1 jra).2 0) 255)) (Wd' := mW ad cy (pou v' (va_up (vou v') i (pw ((S.1 jra).2 0) 255)))) hx hb hK hI hP hS (by decide) mW_ou (by decide) (by omega) mW_up_ou dX5_inverse_142 (fun H locs hP hS => ?_)
                        refine lv_iinc (v := nI (i + 1)) (lv' := [(5, .int (nI (i + 1))), (7, .int (nI (j + 1))), (6, .int (nI (s9))), (4, .int (nI (pw ((S.1 jra).2 0) 255))), (0, .ref (ad (0))), (1, .int (nI (jra))), (2, .int (nI (kn))), (3, .int (nI (jrc)))]) hx hb dX5_inverse_143 hl (k := 2) rfl (nI_inc _) (by decide) rfl (fun ls hl => ?_)
                        refine lv_goto (tgt := 64) hx hb dX5_inverse_146 (by decide) ?_
                        exact ih64 (i + 1) (pou v' (va_up (vou v') i (pw ((S.1 jra).2 0) 255))) (by omega) (by rw [hv]; exact pou_o (inv_o hi0)) (by omega) _ _ hP hS _ (lv_sub hl [0, 3, 4, 5, 6, 7] rfl)
                    · skip
                      refine lv_iload hx hb dX5_inverse_83 (lv_at hl 1 rfl) ?_
                      refine lv_aload_n hx hb dX5_inverse_85 rfl (lv_at hl 4 rfl) ?_
                      refine lv_iload_n hx hb dX5_inverse_86 rfl (lv_at hl 5 rfl) ?_
                      refine lv_iload hx hb dX5_inverse_87 (lv_at hl 0 rfl) ?_
                      refine k_callVr (rest := [.int (nI (s9))]) (nL := 8) ⟨hx, hb, hml, hown, hts⟩ (c_X5_at l D cy ad hI v' S.1 jra (j + 1) hM3 (by first | assumption | omega) (by first | assumption | omega)) (cwV 2 hts gX5_inverse_X5_at rfl rfl rfl (by decide +kernel) ⟨Nat.le_of_ble_eq_true rfl, Nat.le_of_ble_eq_true rfl⟩) hK hP hS (fun _ h => h) (q0 := 0) (ci := 5) rfl (by decide) mW_obj rfl rfl rfl hl.1 rfl (Nat.le_of_ble_eq_true rfl) dX5_inverse_89 ⟨Nat.zero_le _, Nat.zero_le _⟩ (fun H locs hP hS => ?_)
                      have hP : va_P D vwCl (wL 9 ad (mW ad cy (v'))) H := hP
                      refine lv_aload_n hx hb dX5_inverse_92 rfl (lv_at hl 4 rfl) ?_
                      refine k_get (q0 := 0) (k := 7) (T := TX5) (Nf := 11) (ci := 5) (C := RX5) (v := .ref (ad (6))) hx hb hw_X5 hown hK hP (by decide) mW_obj rfl (by decide) hf_27 rfl rfl dX5_inverse_93 ?_
                      refine lv_iload hx hb dX5_inverse_96 (lv_at hl 2 rfl) ?_
                      refine lv_iload hx hb dX5_inverse_98 (lv_at hl 0 rfl) ?_
                      refine n_isub hx hb (by omega) dX5_inverse_100 ?_
                      refine k_iald (q0 := 6) (j := i - (j + 1)) hx hb hK hP (by decide) mW_ou (by decide) (by omega) dX5_inverse_101 ?_
                      refine n_same (a := vou v' (i - (j + 1))) rfl ?_
                      refine n_push (a := (inv (S.1 jra).2 (pw ((S.1 jra).2 0) 255) i) (i - (j + 1))) (by rw [hv]; rfl) ?_
                      refine n_imul hx hb dX5_inverse_102 ?_
                      refine n_iadd hx hb dX5_inverse_103 ?_
                      refine lv_istore (lv' := [(6, .int (nI (s9 + (((S.1 jra).2 (j + 1)) * ((inv (S.1 jra).2 (pw ((S.1 jra).2 0) 255) i) (i - (j + 1))))))), (7, .int (nI (j + 1))), (5, .int (nI (i))), (4, .int (nI (pw ((S.1 jra).2 0) 255))), (0, .ref (ad (0))), (1, .int (nI (jra))), (2, .int (nI (kn))), (3, .int (nI (jrc)))]) hx hb dX5_inverse_104 hl (by decide) rfl (fun ls hl => ?_)
                      refine lv_iinc (v := nI (j + 1 + 1)) (lv' := [(7, .int (nI (j + 1 + 1))), (6, .int (nI (s9 + (((S.1 jra).2 (j + 1)) * ((inv (S.1 jra).2 (pw ((S.1 jra).2 0) 255) i) (i - (j + 1))))))), (5, .int (nI (i))), (4, .int (nI (pw ((S.1 jra).2 0) 255))), (0, .ref (ad (0))), (1, .int (nI (jra))), (2, .int (nI (kn))), (3, .int (nI (jrc)))]) hx hb dX5_inverse_106 hl (k := 1) rfl (nI_inc _) (by decide) rfl (fun ls hl => ?_)
                      refine lv_goto (tgt := 76) hx hb dX5_inverse_109 (by decide) ?_
                      exact ih76 (j + 1) (s9 + (S.1 jra).2 (j + 1) * (inv (S.1 jra).2 (pw ((S.1 jra).2 0) 255) i) (i - (j + 1))) (by omega) (by rw [hs9]; rfl) (by omega) _ _ hP hS _ hl
                exact lp76 (_ + 1) (0) (0) (Nat.zero_le _) rfl (Nat.lt_succ_self _) _ _ hP hS _ hl
          exact lp64 (_ + 1) (0) (bla (recV v) kn) (Nat.zero_le _) (bla_o rfl) (Nat.lt_succ_self _) _ _ hP hS _ hl
        · skip
          have hz0 := h_4
          refine lv_bipush (v := (-5 : Int32)) hx hb dX5_inverse_38 (by decide) ?_
          refine k_iret hx hb hr hlocks (v) hP hS dX5_inverse_40 ?_
          rw [ejra, ejrc, ekn, op_inverse_x hjra hjrc, if_neg (fun q => q (kin1_nI hkn1 hkn (by decide))), if_pos hz0]
          exact ⟨rfl, hR⟩
      · skip
        have hnkn : ¬ (1 ≤ rn ∧ rn ≤ 64) := of_decide_eq_false h_3
        refine lv_bipush (v := (-2 : Int32)) hx hb dX5_inverse_26 (by decide) ?_
        refine k_iret hx hb hr hlocks (v) hP hS dX5_inverse_28 ?_
        rw [ejra, ejrc, op_inverse_x hjra hjrc, if_pos hnkn]
        exact ⟨rfl, hR⟩
    · skip
      have hjrc : ¬ isR rc := of_decide_eq_false h_2
      refine lv_iconst (v := (-1 : Int32)) hx hb dX5_inverse_14 (by decide) ?_
      refine k_iret hx hb hr hlocks (v) hP hS dX5_inverse_15 ?_
      rw [show op_inverse S ra rn rc = (-1, S) from if_pos (by first | exact Or.inl hjra | exact Or.inr (hjrc))]
      exact ⟨rfl, hR⟩
