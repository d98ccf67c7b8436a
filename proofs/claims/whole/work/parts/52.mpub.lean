set_option maxHeartbeats 4000000 in
set_option maxRecDepth 100000 in
theorem c_X5_add (l : Launch) (D : va_G) (cy : Nat → ClassId) (ad : Nat → Nat) (hI : wI 9 ad) (v : kV) (S : kSt) (ra : Int32) (rb : Int32) (rt : Int32) (rc : Int32) (hSI : kInv S) (hR : mRep S v) : kM l yX5_add wsX5_add ({ frames := 2, cells := 0, slots := 0, locals := 43 } : Room) D cy 9 ad (mW ad cy) (mW ad cy (v)) [.ref (ad (0)), .int (ra), .int (rb), .int (rt), .int (rc)] (fun o u => o = some (.int (op_add S ra rb rt rc).1) ∧ mRep (op_add S ra rb rt rc).2 u) := by
  refine k_met cX5_add 6 (some .int) (by decide) rfl (Nat.le_of_ble_eq_true rfl) ?_
  intro p e s m below meth c ls hx hb hr hts hown hlocks hml hK hP hS hl
  have hl : lv_has ls 6 [(0, .ref (ad (0))), (1, .int (ra)), (2, .int (rb)), (3, .int (rt)), (4, .int (rc))] := hl
  have hown : s.vm.findClass RX5 = some m.cls := hown
  have hf_27 := hts (.fieldLink RX5 27 "TurnedRowsModel" "out" "[I") (by decide +kernel)
  have hf_62 := hts (.fieldLink RX5 62 "TurnedRowsModel" "length" "I") (by decide +kernel)
  have hw_X5 : ∀ qw ∈ wsX50, qw.before ([.ref (ad (0)), .int (ra), .int (rb), .int (rt), .int (rc)] : List Value).toArray s = true := fun qw h => hts qw ((by decide +kernel : ∀ qw ∈ wsX50, qw ∈ wsX5_add) qw h)
  have hM : mReg S.1 v := hR.reg hSI
  have hrow : ∀ j, j < 6 → rO (S.1 j) := hSI.1
  have hpm6 : vpm v ≤ 6 := by rw [hR.2.1.1]; exact hR.2.1.2
  have hplS : vty v = S.2.2.2.2.2.1 := hR.2.2.2.2.1
  have hty80 : vty v ≤ 80 := by rw [hplS]; exact hSI.2.2.2.2.2.1
  have hpdS : ∀ j, j < S.2.2.2.2.2.1 → vpd v j = S.2.2.2.2.2.2 j := hR.2.2.2.2.2.1
  have hpd : ∀ j, j < vty v → vpd v j < 127 := fun j hj => by rw [hpdS j (by omega)]; have := (hSI.2.2.2.2.2.2 j (by omega)).2; omega
  refine lv_iload_n hx hb dX5_add_0 rfl (lv_at hl 1 rfl) ?_
  refine k_callSr (rest := []) (nL := 6) ⟨hx, hb, hml, hown, hts⟩ (c_X5_isRegister l D cy ad hI v ra) (va_cwS 1 hts gX5_add_X5_isRegister rfl rfl rfl (by decide +kernel) ⟨Nat.le_of_ble_eq_true rfl, Nat.le_of_ble_eq_true rfl⟩) hK hP hS (fun _ h => h) rfl hl.1 rfl (Nat.le_of_ble_eq_true rfl) dX5_add_1 ⟨Nat.zero_le _, Nat.zero_le _⟩ (fun H locs hP hS => ?_)
  have hP : va_P D vwCl (wL 9 ad (mW ad cy (v))) H := hP
  refine b_ifeq (tgt := 22) hx hb dX5_add_4 (by decide) (fun h_1 => ?_) (fun h_1 => ?_)
  · skip
    have hjra : ¬ isR ra := of_decide_eq_false h_1
    refine lv_iconst (v := (-1 : Int32)) hx hb dX5_add_22 (by decide) ?_
    refine k_iret hx hb hr hlocks (v) hP hS dX5_add_23 ?_
    rw [show op_add S ra rb rt rc = (-1, S) from if_pos (by first | exact Or.inl hjra | exact Or.inr (Or.inl hjrb) | exact Or.inr (Or.inr (hjrc)))]
    exact ⟨rfl, hR⟩
  · skip
    obtain ⟨jra, hjra, ejra⟩ := (kreg_cases ra).resolve_left (fun q => q (of_decide_eq_true h_1))
    rw [ejra] at hl
    refine lv_iload_n hx hb dX5_add_7 rfl (lv_at hl 2 rfl) ?_
    refine k_callSr (rest := []) (nL := 6) ⟨hx, hb, hml, hown, hts⟩ (c_X5_isRegister l D cy ad hI v rb) (va_cwS 1 hts gX5_add_X5_isRegister rfl rfl rfl (by decide +kernel) ⟨Nat.le_of_ble_eq_true rfl, Nat.le_of_ble_eq_true rfl⟩) hK hP hS (fun _ h => h) rfl hl.1 rfl (Nat.le_of_ble_eq_true rfl) dX5_add_8 ⟨Nat.zero_le _, Nat.zero_le _⟩ (fun H locs hP hS => ?_)
    have hP : va_P D vwCl (wL 9 ad (mW ad cy (v))) H := hP
    refine b_ifeq (tgt := 22) hx hb dX5_add_11 (by decide) (fun h_2 => ?_) (fun h_2 => ?_)
    · skip
      have hjrb : ¬ isR rb := of_decide_eq_false h_2
      refine lv_iconst (v := (-1 : Int32)) hx hb dX5_add_22 (by decide) ?_
      refine k_iret hx hb hr hlocks (v) hP hS dX5_add_23 ?_
      rw [show op_add S ra rb rt rc = (-1, S) from if_pos (by first | exact Or.inl hjra | exact Or.inr (Or.inl hjrb) | exact Or.inr (Or.inr (hjrc)))]
      exact ⟨rfl, hR⟩
    · skip
      obtain ⟨jrb, hjrb, ejrb⟩ := (kreg_cases rb).resolve_left (fun q => q (of_decide_eq_true h_2))
      rw [ejrb] at hl
      refine lv_iload hx hb dX5_add_14 (lv_at hl 4 rfl) ?_
      refine k_callSr (rest := []) (nL := 6) ⟨hx, hb, hml, hown, hts⟩ (c_X5_isRegister l D cy ad hI v rc) (va_cwS 1 hts gX5_add_X5_isRegister rfl rfl rfl (by decide +kernel) ⟨Nat.le_of_ble_eq_true rfl, Nat.le_of_ble_eq_true rfl⟩) hK hP hS (fun _ h => h) rfl hl.1 rfl (Nat.le_of_ble_eq_true rfl) dX5_add_16 ⟨Nat.zero_le _, Nat.zero_le _⟩ (fun H locs hP hS => ?_)
      have hP : va_P D vwCl (wL 9 ad (mW ad cy (v))) H := hP
      refine b_ifne (tgt := 24) hx hb dX5_add_19 (by decide) (fun h_3 => ?_) (fun h_3 => ?_)
      · skip
        obtain ⟨jrc, hjrc, ejrc⟩ := (kreg_cases rc).resolve_left (fun q => q (of_decide_eq_true h_3))
        rw [ejrc] at hl
        refine lv_iload_n hx hb dX5_add_24 rfl (lv_at hl 3 rfl) ?_
        refine k_callSr (rest := []) (nL := 6) ⟨hx, hb, hml, hown, hts⟩ (c_X5_isNumber l D cy ad hI v rt) (va_cwS 1 hts gX5_add_X5_isNumber rfl rfl rfl (by decide +kernel) ⟨Nat.le_of_ble_eq_true rfl, Nat.le_of_ble_eq_true rfl⟩) hK hP hS (fun _ h => h) rfl hl.1 rfl (Nat.le_of_ble_eq_true rfl) dX5_add_25 ⟨Nat.zero_le _, Nat.zero_le _⟩ (fun H locs hP hS => ?_)
        have hP : va_P D vwCl (wL 9 ad (mW ad cy (v))) H := hP
        refine b_ifne (tgt := 34) hx hb dX5_add_28 (by decide) (fun h_4 => ?_) (fun h_4 => ?_)
        · skip
          obtain ⟨krt, hkrt, ekrt⟩ : ∃ k : Nat, k < 257 ∧ rt = nI k := (kin_cases rt 257 (by decide)).resolve_left (fun q => q (of_decide_eq_true h_4))
          rw [ekrt] at hl
          refine lv_aload_n hx hb dX5_add_34 rfl (lv_at hl 0 rfl) ?_
          refine k_callVv (rest := []) (nL := 6) ⟨hx, hb, hml, hown, hts⟩ (c_X5_record l D cy ad hI v (by first | assumption | omega)) (cwV 0 hts gX5_add_X5_record rfl rfl rfl (by decide +kernel) ⟨Nat.le_of_ble_eq_true rfl, Nat.le_of_ble_eq_true rfl⟩) hK hP hS (fun _ h => h) (q0 := 0) (ci := 5) rfl (by decide) mW_obj rfl rfl rfl hl.1 rfl (Nat.le_of_ble_eq_true rfl) dX5_add_35 ⟨Nat.zero_le _, Nat.zero_le _⟩ (fun H locs hP hS => ?_)
          have hP : va_P D vwCl (wL 9 ad (mW ad cy (recV v))) H := hP
          have hoa := hrow jra hjra
          have hob := hrow jrb hjrb
          have hla := hoa.2.1
          have hla1 := hoa.1
          have hlb := hob.2.1
          have hlb1 := hob.1
          have hpb : plc (S.1 jra).1 (S.1 jrb).1 ≤ 65 := by unfold plc; omega
          have hfa := hoa.2.2.1
          have hfb := hob.2.2.1
          refine lv_aload_n hx hb dX5_add_38 rfl (lv_at hl 0 rfl) ?_
          refine lv_aload_n hx hb dX5_add_39 rfl (lv_at hl 0 rfl) ?_
          refine lv_iload_n hx hb dX5_add_40 rfl (lv_at hl 1 rfl) ?_
          refine k_callVr (rest := [.ref (ad (0))]) (nL := 6) ⟨hx, hb, hml, hown, hts⟩ (c_X5_lengthOf l D cy ad hI (recV v) S.1 jra hM (by first | assumption | omega)) (cwV 1 hts gX5_add_X5_lengthOf rfl rfl rfl (by decide +kernel) ⟨Nat.le_of_ble_eq_true rfl, Nat.le_of_ble_eq_true rfl⟩) hK hP hS (fun _ h => h) (q0 := 0) (ci := 5) rfl (by decide) mW_obj rfl rfl rfl hl.1 rfl (Nat.le_of_ble_eq_true rfl) dX5_add_41 ⟨Nat.zero_le _, Nat.zero_le _⟩ (fun H locs hP hS => ?_)
          have hP : va_P D vwCl (wL 9 ad (mW ad cy (recV v))) H := hP
          refine lv_aload_n hx hb dX5_add_44 rfl (lv_at hl 0 rfl) ?_
          refine lv_iload_n hx hb dX5_add_45 rfl (lv_at hl 2 rfl) ?_
          refine k_callVr (rest := [.int (nI ((S.1 jra).1)), .ref (ad (0))]) (nL := 6) ⟨hx, hb, hml, hown, hts⟩ (c_X5_lengthOf l D cy ad hI (recV v) S.1 jrb hM (by first | assumption | omega)) (cwV 1 hts gX5_add_X5_lengthOf rfl rfl rfl (by decide +kernel) ⟨Nat.le_of_ble_eq_true rfl, Nat.le_of_ble_eq_true rfl⟩) hK hP hS (fun _ h => h) (q0 := 0) (ci := 5) rfl (by decide) mW_obj rfl rfl rfl hl.1 rfl (Nat.le_of_ble_eq_true rfl) dX5_add_46 ⟨Nat.zero_le _, Nat.zero_le _⟩ (fun H locs hP hS => ?_)
          have hP : va_P D vwCl (wL 9 ad (mW ad cy (recV v))) H := hP
          refine n_icmp_le (tgt := 60) hx hb (by omega) (by omega) dX5_add_49 (by decide) (fun h_5 => ?_) (fun h_5 => ?_)
          · skip
            refine lv_aload_n hx hb dX5_add_60 rfl (lv_at hl 0 rfl) ?_
            refine lv_iload_n hx hb dX5_add_61 rfl (lv_at hl 2 rfl) ?_
            refine k_callVr (rest := [.ref (ad (0))]) (nL := 6) ⟨hx, hb, hml, hown, hts⟩ (c_X5_lengthOf l D cy ad hI (recV v) S.1 jrb hM (by first | assumption | omega)) (cwV 1 hts gX5_add_X5_lengthOf rfl rfl rfl (by decide +kernel) ⟨Nat.le_of_ble_eq_true rfl, Nat.le_of_ble_eq_true rfl⟩) hK hP hS (fun _ h => h) (q0 := 0) (ci := 5) rfl (by decide) mW_obj rfl rfl rfl hl.1 rfl (Nat.le_of_ble_eq_true rfl) dX5_add_62 ⟨Nat.zero_le _, Nat.zero_le _⟩ (fun H locs hP hS => ?_)
            have hP : va_P D vwCl (wL 9 ad (mW ad cy (recV v))) H := hP
            refine n_push (a := max (S.1 jra).1 (S.1 jrb).1) (congrArg nI (by omega)) ?_
            refine k_callVv (rest := []) (nL := 6) ⟨hx, hb, hml, hown, hts⟩ (c_X5_blank l D cy ad hI (recV v) (max (S.1 jra).1 (S.1 jrb).1)) (cwV 1 hts gX5_add_X5_blank rfl rfl rfl (by decide +kernel) ⟨Nat.le_of_ble_eq_true rfl, Nat.le_of_ble_eq_true rfl⟩) hK hP hS (fun _ h => h) (q0 := 0) (ci := 5) rfl (by decide) mW_obj rfl rfl rfl hl.1 rfl (Nat.le_of_ble_eq_true rfl) dX5_add_65 ⟨Nat.zero_le _, Nat.zero_le _⟩ (fun H locs hP hS => ?_)
            have hP : va_P D vwCl (wL 9 ad (mW ad cy (bla (recV v) (max (S.1 jra).1 (S.1 jrb).1)))) H := hP
            refine lv_iconst (v := nI (0)) hx hb dX5_add_68 rfl ?_
            refine lv_istore (lv' := [(5, .int (nI (0))), (0, .ref (ad (0))), (1, .int (nI (jra))), (2, .int (nI (jrb))), (3, .int (nI (krt))), (4, .int (nI (jrc)))]) hx hb dX5_add_69 hl (by decide) rfl (fun ls hl => ?_)
            have lp71 : ∀ (fu : Nat) (k : Nat) (v' : kV), (k ≤ max (S.1 jra).1 (S.1 jrb).1) → (v' = pou (bla (recV v) (max (S.1 jra).1 (S.1 jrb).1)) (adF (S.1 jra) (S.1 jrb) krt k)) → max (S.1 jra).1 (S.1 jrb).1 - k < fu → ∀ (H : Heap) (locs : List Loc), va_P D vwCl (wL 9 ad (mW ad cy (v'))) H → va_S (wA 9 ad) s.heap H locs → ∀ (ls : Array Slot), lv_has ls 6 [(5, .int (nI (k))), (0, .ref (ad (0))), (1, .int (nI (jra))), (2, .int (nI (jrb))), (3, .int (nI (krt))), (4, .int (nI (jrc)))] → W p l e ({ frames := 2, cells := 0, slots := 0, locals := 43 } : Room) s m ([.ref (ad (0)), .int (ra), .int (rb), .int (rt), .int (rc)] : List Value).toArray below meth c H locs 0 0 (MQ below (kQ D 9 ad (mW ad cy) (fun o u => o = some (.int (op_add S ra rb rt rc).1) ∧ mRep (op_add S ra rb rt rc).2 u)) ([.ref (ad (0)), .int (ra), .int (rb), .int (rt), .int (rc)] : List Value).toArray s 0 0 (wA 9 ad)) (F0 m 71 ls []) := by
              intro fu
              induction fu with
              | zero => intro k v' hk hv hfu; exact absurd hfu (Nat.not_lt_zero _)
              | succ fu ih71 =>
                intro k v' hk hv hfu H locs hP hS ls hl
                have hM3 : mReg S.1 v' := by rw [hv]; exact hM
                have hfak := hfa k
                have hfbk := hfb k
                refine lv_iload hx hb dX5_add_71 (lv_at hl 0 rfl) ?_
                refine lv_aload_n hx hb dX5_add_73 rfl (lv_at hl 1 rfl) ?_
                refine k_get (q0 := 0) (k := 8) (T := TX5) (Nf := 11) (ci := 5) (C := RX5) (v := .int (nI (vln v'))) hx hb hw_X5 hown hK hP (by decide) mW_obj rfl (by decide) hf_62 rfl rfl dX5_add_74 ?_
                refine n_push (a := max (S.1 jra).1 (S.1 jrb).1) (by rw [hv, vln_o]) ?_
                refine n_icmp_ge (tgt := 116) hx hb (by omega) (by omega) dX5_add_77 (by decide) (fun h_6 => ?_) (fun h_6 => ?_)
                · skip
                  refine lv_aload_n hx hb dX5_add_116 rfl (lv_at hl 1 rfl) ?_
                  refine lv_iload hx hb dX5_add_117 (lv_at hl 5 rfl) ?_
                  refine k_callVv (rest := []) (nL := 6) ⟨hx, hb, hml, hown, hts⟩ (c_X5_store l D cy ad hI v' jrc (by first | assumption | omega) (by rw [hv, vln_o]; exact Nat.lt_of_le_of_lt (Nat.max_le.mpr ⟨hla, hlb⟩) (by decide))) (cwV 1 hts gX5_add_X5_store rfl rfl rfl (by decide +kernel) ⟨Nat.le_of_ble_eq_true rfl, Nat.le_of_ble_eq_true rfl⟩) hK hP hS (fun _ h => h) (q0 := 0) (ci := 5) rfl (by decide) mW_obj rfl rfl rfl hl.1 rfl (Nat.le_of_ble_eq_true rfl) dX5_add_119 ⟨Nat.zero_le _, Nat.zero_le _⟩ (fun H locs hP hS => ?_)
                  have hP : va_P D vwCl (wL 9 ad (mW ad cy (sto v' jrc))) H := hP
                  refine lv_aload_n hx hb dX5_add_122 rfl (lv_at hl 1 rfl) ?_
                  refine k_get (q0 := 0) (k := 8) (T := TX5) (Nf := 11) (ci := 5) (C := RX5) (v := .int (nI (vln (sto v' jrc)))) hx hb hw_X5 hown hK hP (by decide) mW_obj rfl (by decide) hf_62 rfl rfl dX5_add_123 ?_
                  refine n_push (a := max (S.1 jra).1 (S.1 jrb).1) (by rw [hv]; rfl) ?_
                  have hke : k = max (S.1 jra).1 (S.1 jrb).1 := by omega
                  rw [hke] at hv
                  refine k_iret hx hb hr hlocks (sto v' jrc) hP hS dX5_add_126 ?_
                  rw [ejra, ejrb, ejrc, ekrt, op_add_x hjra hjrb hjrc, if_neg (fun q => q (isN_nI hkrt)), rgN_nI (by omega)]
                  exact ⟨rfl, outM hR hv hjrc rfl rfl (fun _ z => adF_z z)⟩
                · skip
                  refine lv_aload_n hx hb dX5_add_80 rfl (lv_at hl 1 rfl) ?_
                  refine k_get (q0 := 0) (k := 7) (T := TX5) (Nf := 11) (ci := 5) (C := RX5) (v := .ref (ad (6))) hx hb hw_X5 hown hK hP (by decide) mW_obj rfl (by decide) hf_27 rfl rfl dX5_add_81 ?_
                  refine lv_iload hx hb dX5_add_84 (lv_at hl 0 rfl) ?_
                  refine lv_aload_n hx hb dX5_add_86 rfl (lv_at hl 1 rfl) ?_
                  refine lv_iload_n hx hb dX5_add_87 rfl (lv_at hl 2 rfl) ?_
                  refine lv_iload hx hb dX5_add_88 (lv_at hl 0 rfl) ?_
                  refine k_callVr (rest := [.int (nI (k)), .ref (ad (6))]) (nL := 6) ⟨hx, hb, hml, hown, hts⟩ (c_X5_at l D cy ad hI v' S.1 jra k hM3 (by first | assumption | omega) (by first | assumption | omega)) (cwV 2 hts gX5_add_X5_at rfl rfl rfl (by decide +kernel) ⟨Nat.le_of_ble_eq_true rfl, Nat.le_of_ble_eq_true rfl⟩) hK hP hS (fun _ h => h) (q0 := 0) (ci := 5) rfl (by decide) mW_obj rfl rfl rfl hl.1 rfl (Nat.le_of_ble_eq_true rfl) dX5_add_90 ⟨Nat.zero_le _, Nat.zero_le _⟩ (fun H locs hP hS => ?_)
                  have hP : va_P D vwCl (wL 9 ad (mW ad cy (v'))) H := hP
                  refine lv_iload_n hx hb dX5_add_93 rfl (lv_at hl 4 rfl) ?_
                  refine lv_aload_n hx hb dX5_add_94 rfl (lv_at hl 1 rfl) ?_
                  refine lv_iload_n hx hb dX5_add_95 rfl (lv_at hl 3 rfl) ?_
                  refine lv_iload hx hb dX5_add_96 (lv_at hl 0 rfl) ?_
                  refine k_callVr (rest := [.int (nI (krt)), .int (nI ((S.1 jra).2 k)), .int (nI (k)), .ref (ad (6))]) (nL := 6) ⟨hx, hb, hml, hown, hts⟩ (c_X5_at l D cy ad hI v' S.1 jrb k hM3 (by first | assumption | omega) (by first | assumption | omega)) (cwV 2 hts gX5_add_X5_at rfl rfl rfl (by decide +kernel) ⟨Nat.le_of_ble_eq_true rfl, Nat.le_of_ble_eq_true rfl⟩) hK hP hS (fun _ h => h) (q0 := 0) (ci := 5) rfl (by decide) mW_obj rfl rfl rfl hl.1 rfl (Nat.le_of_ble_eq_true rfl) dX5_add_98 ⟨Nat.zero_le _, Nat.zero_le _⟩ (fun H locs hP hS => ?_)
                  have hP : va_P D vwCl (wL 9 ad (mW ad cy (v'))) H := hP
                  refine k_callSr (rest := [.int (nI ((S.1 jra).2 k)), .int (nI (k)), .ref (ad (6))]) (nL := 6) ⟨hx, hb, hml, hown, hts⟩ (c_X5_times l D cy ad hI v' krt ((S.1 jrb).2 k) (by first | assumption | omega) (by first | assumption | omega)) (va_cwS 2 hts gX5_add_X5_times rfl rfl rfl (by decide +kernel) ⟨Nat.le_of_ble_eq_true rfl, Nat.le_of_ble_eq_true rfl⟩) hK hP hS (fun _ h => h) rfl hl.1 rfl (Nat.le_of_ble_eq_true rfl) dX5_add_101 ⟨Nat.zero_le _, Nat.zero_le _⟩ (fun H locs hP hS => ?_)
                  have hP : va_P D vwCl (wL 9 ad (mW ad cy (v'))) H := hP
                  refine n_iadd hx hb dX5_add_104 ?_
                  refine lv_sipush (v := nI (257)) hx hb dX5_add_105 rfl ?_
                  refine n_irem hx hb (by omega) (by omega) (by omega) dX5_add_108  ?_
                  refine n_push (a := ((S.1 jra).2 k + krt * (S.1 jrb).2 k) % 257) (congrArg nI (by omega)) ?_
                  refine k_iast (q0 := 6) (j := k) (v := nI (((S.1 jra).2 k + krt * (S.1 jrb).2 k) % 257)) (Wd' := mW ad cy (pou v' (va_up (vou v') k (((S.1 jra).2 k + krt * (S.1 jrb).2 k) % 257)))) hx hb hK hI hP hS (by decide) mW_ou (by decide) (by omega) mW_up_ou dX5_add_109 (fun H locs hP hS => ?_)
                  refine lv_iinc (v := nI (k + 1)) (lv' := [(5, .int (nI (k + 1))), (0, .ref (ad (0))), (1, .int (nI (jra))), (2, .int (nI (jrb))), (3, .int (nI (krt))), (4, .int (nI (jrc)))]) hx hb dX5_add_110 hl (k := 0) rfl (nI_inc _) (by decide) rfl (fun ls hl => ?_)
                  refine lv_goto (tgt := 71) hx hb dX5_add_113 (by decide) ?_
                  exact ih71 (k + 1) (pou v' (va_up (vou v') k (((S.1 jra).2 k + krt * (S.1 jrb).2 k) % 257))) (by omega) (by rw [hv]; exact pou_o (adF_s (S.1 jra) (S.1 jrb) krt k)) (by omega) _ _ hP hS _ hl
            exact lp71 (_ + 1) (0) (bla (recV v) (max (S.1 jra).1 (S.1 jrb).1)) (by omega) (bla_o (adF_0 _ _ _)) (Nat.lt_succ_self _) _ _ hP hS _ hl
          · skip
            refine lv_aload_n hx hb dX5_add_52 rfl (lv_at hl 0 rfl) ?_
            refine lv_iload_n hx hb dX5_add_53 rfl (lv_at hl 1 rfl) ?_
            refine k_callVr (rest := [.ref (ad (0))]) (nL := 6) ⟨hx, hb, hml, hown, hts⟩ (c_X5_lengthOf l D cy ad hI (recV v) S.1 jra hM (by first | assumption | omega)) (cwV 1 hts gX5_add_X5_lengthOf rfl rfl rfl (by decide +kernel) ⟨Nat.le_of_ble_eq_true rfl, Nat.le_of_ble_eq_true rfl⟩) hK hP hS (fun _ h => h) (q0 := 0) (ci := 5) rfl (by decide) mW_obj rfl rfl rfl hl.1 rfl (Nat.le_of_ble_eq_true rfl) dX5_add_54 ⟨Nat.zero_le _, Nat.zero_le _⟩ (fun H locs hP hS => ?_)
            have hP : va_P D vwCl (wL 9 ad (mW ad cy (recV v))) H := hP
            refine n_push (a := max (S.1 jra).1 (S.1 jrb).1) (congrArg nI (by omega)) ?_
            refine lv_goto (tgt := 65) hx hb dX5_add_57 (by decide) ?_
            refine k_callVv (rest := []) (nL := 6) ⟨hx, hb, hml, hown, hts⟩ (c_X5_blank l D cy ad hI (recV v) (max (S.1 jra).1 (S.1 jrb).1)) (cwV 1 hts gX5_add_X5_blank rfl rfl rfl (by decide +kernel) ⟨Nat.le_of_ble_eq_true rfl, Nat.le_of_ble_eq_true rfl⟩) hK hP hS (fun _ h => h) (q0 := 0) (ci := 5) rfl (by decide) mW_obj rfl rfl rfl hl.1 rfl (Nat.le_of_ble_eq_true rfl) dX5_add_65 ⟨Nat.zero_le _, Nat.zero_le _⟩ (fun H locs hP hS => ?_)
            have hP : va_P D vwCl (wL 9 ad (mW ad cy (bla (recV v) (max (S.1 jra).1 (S.1 jrb).1)))) H := hP
            refine lv_iconst (v := nI (0)) hx hb dX5_add_68 rfl ?_
            refine lv_istore (lv' := [(5, .int (nI (0))), (0, .ref (ad (0))), (1, .int (nI (jra))), (2, .int (nI (jrb))), (3, .int (nI (krt))), (4, .int (nI (jrc)))]) hx hb dX5_add_69 hl (by decide) rfl (fun ls hl => ?_)
            have lp71 : ∀ (fu : Nat) (k : Nat) (v' : kV), (k ≤ max (S.1 jra).1 (S.1 jrb).1) → (v' = pou (bla (recV v) (max (S.1 jra).1 (S.1 jrb).1)) (adF (S.1 jra) (S.1 jrb) krt k)) → max (S.1 jra).1 (S.1 jrb).1 - k < fu → ∀ (H : Heap) (locs : List Loc), va_P D vwCl (wL 9 ad (mW ad cy (v'))) H → va_S (wA 9 ad) s.heap H locs → ∀ (ls : Array Slot), lv_has ls 6 [(5, .int (nI (k))), (0, .ref (ad (0))), (1, .int (nI (jra))), (2, .int (nI (jrb))), (3, .int (nI (krt))), (4, .int (nI (jrc)))] → W p l e ({ frames := 2, cells := 0, slots := 0, locals := 43 } : Room) s m ([.ref (ad (0)), .int (ra), .int (rb), .int (rt), .int (rc)] : List Value).toArray below meth c H locs 0 0 (MQ below (kQ D 9 ad (mW ad cy) (fun o u => o = some (.int (op_add S ra rb rt rc).1) ∧ mRep (op_add S ra rb rt rc).2 u)) ([.ref (ad (0)), .int (ra), .int (rb), .int (rt), .int (rc)] : List Value).toArray s 0 0 (wA 9 ad)) (F0 m 71 ls []) := by
              intro fu
              induction fu with
              | zero => intro k v' hk hv hfu; exact absurd hfu (Nat.not_lt_zero _)
              | succ fu ih71 =>
                intro k v' hk hv hfu H locs hP hS ls hl
                have hM3 : mReg S.1 v' := by rw [hv]; exact hM
                have hfak := hfa k
                have hfbk := hfb k
                refine lv_iload hx hb dX5_add_71 (lv_at hl 0 rfl) ?_
                refine lv_aload_n hx hb dX5_add_73 rfl (lv_at hl 1 rfl) ?_
                refine k_get (q0 := 0) (k := 8) (T := TX5) (Nf := 11) (ci := 5) (C := RX5) (v := .int (nI (vln v'))) hx hb hw_X5 hown hK hP (by decide) mW_obj rfl (by decide) hf_62 rfl rfl dX5_add_74 ?_
                refine n_push (a := max (S.1 jra).1 (S.1 jrb).1) (by rw [hv, vln_o]) ?_
                refine n_icmp_ge (tgt := 116) hx hb (by omega) (by omega) dX5_add_77 (by decide) (fun h_7 => ?_) (fun h_7 => ?_)
                · skip
                  refine lv_aload_n hx hb dX5_add_116 rfl (lv_at hl 1 rfl) ?_
                  refine lv_iload hx hb dX5_add_117 (lv_at hl 5 rfl) ?_
                  refine k_callVv (rest := []) (nL := 6) ⟨hx, hb, hml, hown, hts⟩ (c_X5_store l D cy ad hI v' jrc (by first | assumption | omega) (by rw [hv, vln_o]; exact Nat.lt_of_le_of_lt (Nat.max_le.mpr ⟨hla, hlb⟩) (by decide))) (cwV 1 hts gX5_add_X5_store rfl rfl rfl (by decide +kernel) ⟨Nat.le_of_ble_eq_true rfl, Nat.le_of_ble_eq_true rfl⟩) hK hP hS (fun _ h => h) (q0 := 0) (ci := 5) rfl (by decide) mW_obj rfl rfl rfl hl.1 rfl (Nat.le_of_ble_eq_true rfl) dX5_add_119 ⟨Nat.zero_le _, Nat.zero_le _⟩ (fun H locs hP hS => ?_)
                  have hP : va_P D vwCl (wL 9 ad (mW ad cy (sto v' jrc))) H := hP
                  refine lv_aload_n hx hb dX5_add_122 rfl (lv_at hl 1 rfl) ?_
                  refine k_get (q0 := 0) (k := 8) (T := TX5) (Nf := 11) (ci := 5) (C := RX5) (v := .int (nI (vln (sto v' jrc)))) hx hb hw_X5 hown hK hP (by decide) mW_obj rfl (by decide) hf_62 rfl rfl dX5_add_123 ?_
                  refine n_push (a := max (S.1 jra).1 (S.1 jrb).1) (by rw [hv]; rfl) ?_
                  have hke : k = max (S.1 jra).1 (S.1 jrb).1 := by omega
                  rw [hke] at hv
                  refine k_iret hx hb hr hlocks (sto v' jrc) hP hS dX5_add_126 ?_
                  rw [ejra, ejrb, ejrc, ekrt, op_add_x hjra hjrb hjrc, if_neg (fun q => q (isN_nI hkrt)), rgN_nI (by omega)]
                  exact ⟨rfl, outM hR hv hjrc rfl rfl (fun _ z => adF_z z)⟩
                · skip
                  refine lv_aload_n hx hb dX5_add_80 rfl (lv_at hl 1 rfl) ?_
                  refine k_get (q0 := 0) (k := 7) (T := TX5) (Nf := 11) (ci := 5) (C := RX5) (v := .ref (ad (6))) hx hb hw_X5 hown hK hP (by decide) mW_obj rfl (by decide) hf_27 rfl rfl dX5_add_81 ?_
                  refine lv_iload hx hb dX5_add_84 (lv_at hl 0 rfl) ?_
                  refine lv_aload_n hx hb dX5_add_86 rfl (lv_at hl 1 rfl) ?_
                  refine lv_iload_n hx hb dX5_add_87 rfl (lv_at hl 2 rfl) ?_
                  refine lv_iload hx hb dX5_add_88 (lv_at hl 0 rfl) ?_
                  refine k_callVr (rest := [.int (nI (k)), .ref (ad (6))]) (nL := 6) ⟨hx, hb, hml, hown, hts⟩ (c_X5_at l D cy ad hI v' S.1 jra k hM3 (by first | assumption | omega) (by first | assumption | omega)) (cwV 2 hts gX5_add_X5_at rfl rfl rfl (by decide +kernel) ⟨Nat.le_of_ble_eq_true rfl, Nat.le_of_ble_eq_true rfl⟩) hK hP hS (fun _ h => h) (q0 := 0) (ci := 5) rfl (by decide) mW_obj rfl rfl rfl hl.1 rfl (Nat.le_of_ble_eq_true rfl) dX5_add_90 ⟨Nat.zero_le _, Nat.zero_le _⟩ (fun H locs hP hS => ?_)
                  have hP : va_P D vwCl (wL 9 ad (mW ad cy (v'))) H := hP
                  refine lv_iload_n hx hb dX5_add_93 rfl (lv_at hl 4 rfl) ?_
                  refine lv_aload_n hx hb dX5_add_94 rfl (lv_at hl 1 rfl) ?_
                  refine lv_iload_n hx hb dX5_add_95 rfl (lv_at hl 3 rfl) ?_
                  refine lv_iload hx hb dX5_add_96 (lv_at hl 0 rfl) ?_
                  refine k_callVr (rest := [.int (nI (krt)), .int (nI ((S.1 jra).2 k)), .int (nI (k)), .ref (ad (6))]) (nL := 6) ⟨hx, hb, hml, hown, hts⟩ (c_X5_at l D cy ad hI v' S.1 jrb k hM3 (by first | assumption | omega) (by first | assumption | omega)) (cwV 2 hts gX5_add_X5_at rfl rfl rfl (by decide +kernel) ⟨Nat.le_of_ble_eq_true rfl, Nat.le_of_ble_eq_true rfl⟩) hK hP hS (fun _ h => h) (q0 := 0) (ci := 5) rfl (by decide) mW_obj rfl rfl rfl hl.1 rfl (Nat.le_of_ble_eq_true rfl) dX5_add_98 ⟨Nat.zero_le _, Nat.zero_le _⟩ (fun H locs hP hS => ?_)
                  have hP : va_P D vwCl (wL 9 ad (mW ad cy (v'))) H := hP
                  refine k_callSr (rest := [.int (nI ((S.1 jra).2 k)), .int (nI (k)), .ref (ad (6))]) (nL := 6) ⟨hx, hb, hml, hown, hts⟩ (c_X5_times l D cy ad hI v' krt ((S.1 jrb).2 k) (by first | assumption | omega) (by first | assumption | omega)) (va_cwS 2 hts gX5_add_X5_times rfl rfl rfl (by decide +kernel) ⟨Nat.le_of_ble_eq_true rfl, Nat.le_of_ble_eq_true rfl⟩) hK hP hS (fun _ h => h) rfl hl.1 rfl (Nat.le_of_ble_eq_true rfl) dX5_add_101 ⟨Nat.zero_le _, Nat.zero_le _⟩ (fun H locs hP hS => ?_)
                  have hP : va_P D vwCl (wL 9 ad (mW ad cy (v'))) H := hP
                  refine n_iadd hx hb dX5_add_104 ?_
                  refine lv_sipush (v := nI (257)) hx hb dX5_add_105 rfl ?_
                  refine n_irem hx hb (by omega) (by omega) (by omega) dX5_add_108  ?_
                  refine n_push (a := ((S.1 jra).2 k + krt * (S.1 jrb).2 k) % 257) (congrArg nI (by omega)) ?_
                  refine k_iast (q0 := 6) (j := k) (v := nI (((S.1 jra).2 k + krt * (S.1 jrb).2 k) % 257)) (Wd' := mW ad cy (pou v' (va_up (vou v') k (((S.1 jra).2 k + krt * (S.1 jrb).2 k) % 257)))) hx hb hK hI hP hS (by decide) mW_ou (by decide) (by omega) mW_up_ou dX5_add_109 (fun H locs hP hS => ?_)
                  refine lv_iinc (v := nI (k + 1)) (lv' := [(5, .int (nI (k + 1))), (0, .ref (ad (0))), (1, .int (nI (jra))), (2, .int (nI (jrb))), (3, .int (nI (krt))), (4, .int (nI (jrc)))]) hx hb dX5_add_110 hl (k := 0) rfl (nI_inc _) (by decide) rfl (fun ls hl => ?_)
                  refine lv_goto (tgt := 71) hx hb dX5_add_113 (by decide) ?_
                  exact ih71 (k + 1) (pou v' (va_up (vou v') k (((S.1 jra).2 k + krt * (S.1 jrb).2 k) % 257))) (by omega) (by rw [hv]; exact pou_o (adF_s (S.1 jra) (S.1 jrb) krt k)) (by omega) _ _ hP hS _ hl
            exact lp71 (_ + 1) (0) (bla (recV v) (max (S.1 jra).1 (S.1 jrb).1)) (by omega) (bla_o (adF_0 _ _ _)) (Nat.lt_succ_self _) _ _ hP hS _ hl
        · skip
          have hnrt : ¬ isN rt := of_decide_eq_false h_4
          refine lv_bipush (v := (-2 : Int32)) hx hb dX5_add_31 (by decide) ?_
          refine k_iret hx hb hr hlocks (v) hP hS dX5_add_33 ?_
          rw [ejra, ejrb, ejrc, op_add_x hjra hjrb hjrc, if_pos hnrt]
          exact ⟨rfl, hR⟩
      · skip
        have hjrc : ¬ isR rc := of_decide_eq_false h_3
        refine lv_iconst (v := (-1 : Int32)) hx hb dX5_add_22 (by decide) ?_
        refine k_iret hx hb hr hlocks (v) hP hS dX5_add_23 ?_
        rw [show op_add S ra rb rt rc = (-1, S) from if_pos (by first | exact Or.inl hjra | exact Or.inr (Or.inl hjrb) | exact Or.inr (Or.inr (hjrc)))]
        exact ⟨rfl, hR⟩
