set_option maxHeartbeats 4000000 in
set_option maxRecDepth 100000 in
theorem c_X5_product (l : Launch) (D : va_G) (cy : Nat → ClassId) (ad : Nat → Nat) (hI : wI 9 ad) (v : kV) (S : kSt) (ra : Int32) (rb : Int32) (rc : Int32) (hSI : kInv S) (hR : mRep S v) : kM l yX5_product wsX5_product ({ frames := 2, cells := 0, slots := 0, locals := 43 } : Room) D cy 9 ad (mW ad cy) (mW ad cy (v)) [.ref (ad (0)), .int (ra), .int (rb), .int (rc)] (fun o u => o = some (.int (op_product S ra rb rc).1) ∧ mRep (op_product S ra rb rc).2 u) := by
  refine k_met cX5_product 7 (some .int) (by decide) rfl (Nat.le_of_ble_eq_true rfl) ?_
  intro p e s m below meth c ls hx hb hr hts hown hlocks hml hK hP hS hl
  have hl : lv_has ls 7 [(0, .ref (ad (0))), (1, .int (ra)), (2, .int (rb)), (3, .int (rc))] := hl
  have hown : s.vm.findClass RX5 = some m.cls := hown
  have hf_27 := hts (.fieldLink RX5 27 "TurnedRowsModel" "out" "[I") (by decide +kernel)
  have hw_X5 : ∀ qw ∈ wsX50, qw.before ([.ref (ad (0)), .int (ra), .int (rb), .int (rc)] : List Value).toArray s = true := fun qw h => hts qw ((by decide +kernel : ∀ qw ∈ wsX50, qw ∈ wsX5_product) qw h)
  have hM : mReg S.1 v := hR.reg hSI
  have hrow : ∀ j, j < 6 → rO (S.1 j) := hSI.1
  have hpm6 : vpm v ≤ 6 := by rw [hR.2.1.1]; exact hR.2.1.2
  have hplS : vty v = S.2.2.2.2.2.1 := hR.2.2.2.2.1
  have hty80 : vty v ≤ 80 := by rw [hplS]; exact hSI.2.2.2.2.2.1
  have hpdS : ∀ j, j < S.2.2.2.2.2.1 → vpd v j = S.2.2.2.2.2.2 j := hR.2.2.2.2.2.1
  have hpd : ∀ j, j < vty v → vpd v j < 127 := fun j hj => by rw [hpdS j (by omega)]; have := (hSI.2.2.2.2.2.2 j (by omega)).2; omega
  refine lv_iload_n hx hb dX5_product_0 rfl (lv_at hl 1 rfl) ?_
  refine k_callSr (rest := []) (nL := 7) ⟨hx, hb, hml, hown, hts⟩ (c_X5_isRegister l D cy ad hI v ra) (va_cwS 1 hts gX5_product_X5_isRegister rfl rfl rfl (by decide +kernel) ⟨Nat.le_of_ble_eq_true rfl, Nat.le_of_ble_eq_true rfl⟩) hK hP hS (fun _ h => h) rfl hl.1 rfl (Nat.le_of_ble_eq_true rfl) dX5_product_1 ⟨Nat.zero_le _, Nat.zero_le _⟩ (fun H locs hP hS => ?_)
  have hP : va_P D vwCl (wL 9 ad (mW ad cy (v))) H := hP
  refine b_ifeq (tgt := 21) hx hb dX5_product_4 (by decide) (fun h_1 => ?_) (fun h_1 => ?_)
  · skip
    have hjra : ¬ isR ra := of_decide_eq_false h_1
    refine lv_iconst (v := (-1 : Int32)) hx hb dX5_product_21 (by decide) ?_
    refine k_iret hx hb hr hlocks (v) hP hS dX5_product_22 ?_
    rw [show op_product S ra rb rc = (-1, S) from if_pos (by first | exact Or.inl hjra | exact Or.inr (Or.inl hjrb) | exact Or.inr (Or.inr (hjrc)))]
    exact ⟨rfl, hR⟩
  · skip
    obtain ⟨jra, hjra, ejra⟩ := (kreg_cases ra).resolve_left (fun q => q (of_decide_eq_true h_1))
    rw [ejra] at hl
    refine lv_iload_n hx hb dX5_product_7 rfl (lv_at hl 2 rfl) ?_
    refine k_callSr (rest := []) (nL := 7) ⟨hx, hb, hml, hown, hts⟩ (c_X5_isRegister l D cy ad hI v rb) (va_cwS 1 hts gX5_product_X5_isRegister rfl rfl rfl (by decide +kernel) ⟨Nat.le_of_ble_eq_true rfl, Nat.le_of_ble_eq_true rfl⟩) hK hP hS (fun _ h => h) rfl hl.1 rfl (Nat.le_of_ble_eq_true rfl) dX5_product_8 ⟨Nat.zero_le _, Nat.zero_le _⟩ (fun H locs hP hS => ?_)
    have hP : va_P D vwCl (wL 9 ad (mW ad cy (v))) H := hP
    refine b_ifeq (tgt := 21) hx hb dX5_product_11 (by decide) (fun h_2 => ?_) (fun h_2 => ?_)
    · skip
      have hjrb : ¬ isR rb := of_decide_eq_false h_2
      refine lv_iconst (v := (-1 : Int32)) hx hb dX5_product_21 (by decide) ?_
      refine k_iret hx hb hr hlocks (v) hP hS dX5_product_22 ?_
      rw [show op_product S ra rb rc = (-1, S) from if_pos (by first | exact Or.inl hjra | exact Or.inr (Or.inl hjrb) | exact Or.inr (Or.inr (hjrc)))]
      exact ⟨rfl, hR⟩
    · skip
      obtain ⟨jrb, hjrb, ejrb⟩ := (kreg_cases rb).resolve_left (fun q => q (of_decide_eq_true h_2))
      rw [ejrb] at hl
      refine lv_iload_n hx hb dX5_product_14 rfl (lv_at hl 3 rfl) ?_
      refine k_callSr (rest := []) (nL := 7) ⟨hx, hb, hml, hown, hts⟩ (c_X5_isRegister l D cy ad hI v rc) (va_cwS 1 hts gX5_product_X5_isRegister rfl rfl rfl (by decide +kernel) ⟨Nat.le_of_ble_eq_true rfl, Nat.le_of_ble_eq_true rfl⟩) hK hP hS (fun _ h => h) rfl hl.1 rfl (Nat.le_of_ble_eq_true rfl) dX5_product_15 ⟨Nat.zero_le _, Nat.zero_le _⟩ (fun H locs hP hS => ?_)
      have hP : va_P D vwCl (wL 9 ad (mW ad cy (v))) H := hP
      refine b_ifne (tgt := 23) hx hb dX5_product_18 (by decide) (fun h_3 => ?_) (fun h_3 => ?_)
      · skip
        obtain ⟨jrc, hjrc, ejrc⟩ := (kreg_cases rc).resolve_left (fun q => q (of_decide_eq_true h_3))
        rw [ejrc] at hl
        refine lv_aload_n hx hb dX5_product_23 rfl (lv_at hl 0 rfl) ?_
        refine lv_iload_n hx hb dX5_product_24 rfl (lv_at hl 1 rfl) ?_
        have hoa := hrow jra hjra
        have hob := hrow jrb hjrb
        have hla := hoa.2.1
        have hla1 := hoa.1
        have hlb := hob.2.1
        have hlb1 := hob.1
        have hpb : plc (S.1 jra).1 (S.1 jrb).1 ≤ 65 := by unfold plc; omega
        refine k_callVr (rest := []) (nL := 7) ⟨hx, hb, hml, hown, hts⟩ (c_X5_lengthOf l D cy ad hI v S.1 jra hM (by first | assumption | omega)) (cwV 1 hts gX5_product_X5_lengthOf rfl rfl rfl (by decide +kernel) ⟨Nat.le_of_ble_eq_true rfl, Nat.le_of_ble_eq_true rfl⟩) hK hP hS (fun _ h => h) (q0 := 0) (ci := 5) rfl (by decide) mW_obj rfl rfl rfl hl.1 rfl (Nat.le_of_ble_eq_true rfl) dX5_product_25 ⟨Nat.zero_le _, Nat.zero_le _⟩ (fun H locs hP hS => ?_)
        have hP : va_P D vwCl (wL 9 ad (mW ad cy (v))) H := hP
        refine lv_aload_n hx hb dX5_product_28 rfl (lv_at hl 0 rfl) ?_
        refine lv_iload_n hx hb dX5_product_29 rfl (lv_at hl 2 rfl) ?_
        refine k_callVr (rest := [.int (nI ((S.1 jra).1))]) (nL := 7) ⟨hx, hb, hml, hown, hts⟩ (c_X5_lengthOf l D cy ad hI v S.1 jrb hM (by first | assumption | omega)) (cwV 1 hts gX5_product_X5_lengthOf rfl rfl rfl (by decide +kernel) ⟨Nat.le_of_ble_eq_true rfl, Nat.le_of_ble_eq_true rfl⟩) hK hP hS (fun _ h => h) (q0 := 0) (ci := 5) rfl (by decide) mW_obj rfl rfl rfl hl.1 rfl (Nat.le_of_ble_eq_true rfl) dX5_product_30 ⟨Nat.zero_le _, Nat.zero_le _⟩ (fun H locs hP hS => ?_)
        have hP : va_P D vwCl (wL 9 ad (mW ad cy (v))) H := hP
        refine n_iadd hx hb dX5_product_33 ?_
        refine lv_iconst (v := nI (1)) hx hb dX5_product_34 rfl ?_
        refine n_isub hx hb (by omega) dX5_product_35 ?_
        refine n_push (a := (S.1 jra).1 + (S.1 jrb).1 - 1) rfl ?_
        refine lv_istore (lv' := [(4, .int (nI ((S.1 jra).1 + (S.1 jrb).1 - 1))), (0, .ref (ad (0))), (1, .int (nI (jra))), (2, .int (nI (jrb))), (3, .int (nI (jrc)))]) hx hb dX5_product_36 hl (by decide) rfl (fun ls hl => ?_)
        refine lv_iload hx hb dX5_product_38 (lv_at hl 0 rfl) ?_
        refine lv_bipush (v := nI (64)) hx hb dX5_product_40 rfl ?_
        refine n_icmp_le (tgt := 48) hx hb (by omega) (by omega) dX5_product_42 (by decide) (fun h_4 => ?_) (fun h_4 => ?_)
        · skip
          refine lv_aload_n hx hb dX5_product_48 rfl (lv_at hl 1 rfl) ?_
          refine k_callVv (rest := []) (nL := 7) ⟨hx, hb, hml, hown, hts⟩ (c_X5_record l D cy ad hI v (by first | assumption | omega)) (cwV 0 hts gX5_product_X5_record rfl rfl rfl (by decide +kernel) ⟨Nat.le_of_ble_eq_true rfl, Nat.le_of_ble_eq_true rfl⟩) hK hP hS (fun _ h => h) (q0 := 0) (ci := 5) rfl (by decide) mW_obj rfl rfl rfl hl.1 rfl (Nat.le_of_ble_eq_true rfl) dX5_product_49 ⟨Nat.zero_le _, Nat.zero_le _⟩ (fun H locs hP hS => ?_)
          have hP : va_P D vwCl (wL 9 ad (mW ad cy (recV v))) H := hP
          refine lv_aload_n hx hb dX5_product_52 rfl (lv_at hl 1 rfl) ?_
          refine lv_iload hx hb dX5_product_53 (lv_at hl 0 rfl) ?_
          refine k_callVv (rest := []) (nL := 7) ⟨hx, hb, hml, hown, hts⟩ (c_X5_blank l D cy ad hI (recV v) ((S.1 jra).1 + (S.1 jrb).1 - 1)) (cwV 1 hts gX5_product_X5_blank rfl rfl rfl (by decide +kernel) ⟨Nat.le_of_ble_eq_true rfl, Nat.le_of_ble_eq_true rfl⟩) hK hP hS (fun _ h => h) (q0 := 0) (ci := 5) rfl (by decide) mW_obj rfl rfl rfl hl.1 rfl (Nat.le_of_ble_eq_true rfl) dX5_product_55 ⟨Nat.zero_le _, Nat.zero_le _⟩ (fun H locs hP hS => ?_)
          have hP : va_P D vwCl (wL 9 ad (mW ad cy (bla (recV v) ((S.1 jra).1 + (S.1 jrb).1 - 1)))) H := hP
          refine lv_iconst (v := nI (0)) hx hb dX5_product_58 rfl ?_
          refine lv_istore (lv' := [(5, .int (nI (0))), (4, .int (nI ((S.1 jra).1 + (S.1 jrb).1 - 1))), (0, .ref (ad (0))), (1, .int (nI (jra))), (2, .int (nI (jrb))), (3, .int (nI (jrc)))]) hx hb dX5_product_59 hl (by decide) rfl (fun ls hl => ?_)
          have lp61 : ∀ (fu : Nat) (i : Nat) (v2 : kV), (i ≤ (S.1 jra).1) → ((S.1 jra).1 + (S.1 jrb).1 - 1 ≤ 64) → (v2 = pou (bla (recV v) ((S.1 jra).1 + (S.1 jrb).1 - 1)) (mulO (S.1 jra).2 (S.1 jrb).2 (S.1 jrb).1 ((S.1 jra).1 + (S.1 jrb).1 - 1) i)) → (S.1 jra).1 - i < fu → ∀ (H : Heap) (locs : List Loc), va_P D vwCl (wL 9 ad (mW ad cy (v2))) H → va_S (wA 9 ad) s.heap H locs → ∀ (ls : Array Slot), lv_has ls 7 [(5, .int (nI (i))), (0, .ref (ad (0))), (1, .int (nI (jra))), (2, .int (nI (jrb))), (3, .int (nI (jrc))), (4, .int (nI ((S.1 jra).1 + (S.1 jrb).1 - 1)))] → W p l e ({ frames := 2, cells := 0, slots := 0, locals := 43 } : Room) s m ([.ref (ad (0)), .int (ra), .int (rb), .int (rc)] : List Value).toArray below meth c H locs 0 0 (MQ below (kQ D 9 ad (mW ad cy) (fun o u => o = some (.int (op_product S ra rb rc).1) ∧ mRep (op_product S ra rb rc).2 u)) ([.ref (ad (0)), .int (ra), .int (rb), .int (rc)] : List Value).toArray s 0 0 (wA 9 ad)) (F0 m 61 ls []) := by
            intro fu
            induction fu with
            | zero => intro i v2 hi hs64 hv2 hfu; exact absurd hfu (Nat.not_lt_zero _)
            | succ fu ih61 =>
              intro i v2 hi hs64 hv2 hfu H locs hP hS ls hl
              have hM2 : mReg S.1 v2 := by rw [hv2]; exact hM
              refine lv_iload hx hb dX5_product_61 (lv_at hl 0 rfl) ?_
              refine lv_aload_n hx hb dX5_product_63 rfl (lv_at hl 1 rfl) ?_
              refine lv_iload_n hx hb dX5_product_64 rfl (lv_at hl 2 rfl) ?_
              refine k_callVr (rest := [.int (nI (i))]) (nL := 7) ⟨hx, hb, hml, hown, hts⟩ (c_X5_lengthOf l D cy ad hI v2 S.1 jra hM2 (by first | assumption | omega)) (cwV 1 hts gX5_product_X5_lengthOf rfl rfl rfl (by decide +kernel) ⟨Nat.le_of_ble_eq_true rfl, Nat.le_of_ble_eq_true rfl⟩) hK hP hS (fun _ h => h) (q0 := 0) (ci := 5) rfl (by decide) mW_obj rfl rfl rfl hl.1 rfl (Nat.le_of_ble_eq_true rfl) dX5_product_65 ⟨Nat.zero_le _, Nat.zero_le _⟩ (fun H locs hP hS => ?_)
              have hP : va_P D vwCl (wL 9 ad (mW ad cy (v2))) H := hP
              refine n_icmp_ge (tgt := 136) hx hb (by omega) (by omega) dX5_product_68 (by decide) (fun h_5 => ?_) (fun h_5 => ?_)
              · skip
                refine lv_aload_n hx hb dX5_product_136 rfl (lv_at hl 1 rfl) ?_
                refine lv_iload_n hx hb dX5_product_137 rfl (lv_at hl 4 rfl) ?_
                refine k_callVv (rest := []) (nL := 7) ⟨hx, hb, hml, hown, hts⟩ (c_X5_store l D cy ad hI v2 jrc (by first | assumption | omega) (by rw [hv2, vln_o]; omega)) (cwV 1 hts gX5_product_X5_store rfl rfl rfl (by decide +kernel) ⟨Nat.le_of_ble_eq_true rfl, Nat.le_of_ble_eq_true rfl⟩) hK hP hS (fun _ h => h) (q0 := 0) (ci := 5) rfl (by decide) mW_obj rfl rfl rfl hl.1 rfl (Nat.le_of_ble_eq_true rfl) dX5_product_138 ⟨Nat.zero_le _, Nat.zero_le _⟩ (fun H locs hP hS => ?_)
                have hP : va_P D vwCl (wL 9 ad (mW ad cy (sto v2 jrc))) H := hP
                refine lv_iload hx hb dX5_product_141 (lv_at hl 5 rfl) ?_
                have hie : i = (S.1 jra).1 := by omega
                rw [hie] at hv2
                refine k_iret hx hb hr hlocks (sto v2 jrc) hP hS dX5_product_143 ?_
                rw [ejra, ejrb, ejrc, op_product_x hjra hjrb hjrc, if_neg (by omega)]
                exact ⟨rfl, outM hR hv2 hjrc rfl rfl (fun _ z => mulO_zero (by omega) _ _ z)⟩
              · skip
                refine lv_iconst (v := nI (0)) hx hb dX5_product_71 rfl ?_
                refine lv_istore (lv' := [(6, .int (nI (0))), (5, .int (nI (i))), (0, .ref (ad (0))), (1, .int (nI (jra))), (2, .int (nI (jrb))), (3, .int (nI (jrc))), (4, .int (nI ((S.1 jra).1 + (S.1 jrb).1 - 1)))]) hx hb dX5_product_72 hl (by decide) rfl (fun ls hl => ?_)
                have lp74 : ∀ (fu : Nat) (j : Nat) (v3 : kV), (j ≤ (S.1 jrb).1) → (v3 = pou (bla (recV v) ((S.1 jra).1 + (S.1 jrb).1 - 1)) (mulI ((S.1 jra).2 i) (S.1 jrb).2 ((S.1 jra).1 + (S.1 jrb).1 - 1) i (mulO (S.1 jra).2 (S.1 jrb).2 (S.1 jrb).1 ((S.1 jra).1 + (S.1 jrb).1 - 1) i) j)) → (S.1 jrb).1 - j < fu → ∀ (H : Heap) (locs : List Loc), va_P D vwCl (wL 9 ad (mW ad cy (v3))) H → va_S (wA 9 ad) s.heap H locs → ∀ (ls : Array Slot), lv_has ls 7 [(6, .int (nI (j))), (5, .int (nI (i))), (0, .ref (ad (0))), (1, .int (nI (jra))), (2, .int (nI (jrb))), (3, .int (nI (jrc))), (4, .int (nI ((S.1 jra).1 + (S.1 jrb).1 - 1)))] → W p l e ({ frames := 2, cells := 0, slots := 0, locals := 43 } : Room) s m ([.ref (ad (0)), .int (ra), .int (rb), .int (rc)] : List Value).toArray below meth c H locs 0 0 (MQ below (kQ D 9 ad (mW ad cy) (fun o u => o = some (.int (op_product S ra rb rc).1) ∧ mRep (op_product S ra rb rc).2 u)) ([.ref (ad (0)), .int (ra), .int (rb), .int (rc)] : List Value).toArray s 0 0 (wA 9 ad)) (F0 m 74 ls []) := by
                  intro fu
                  induction fu with
                  | zero => intro j v3 hj hv3 hfu; exact absurd hfu (Nat.not_lt_zero _)
                  | succ fu ih74 =>
                    intro j v3 hj hv3 hfu H locs hP hS ls hl
                    have hlt9 : i + j < (S.1 jra).1 + (S.1 jrb).1 - 1 ∨ (S.1 jrb).1 ≤ j := by omega
                    have hM3 : mReg S.1 v3 := by rw [hv3]; exact hM
                    have hm := mul_lt_257 (hoa.2.2.1 i) (hob.2.2.1 j)
                    have hg := mulI_lt (c := (S.1 jra).2 i) (f := (S.1 jrb).2) (s := (S.1 jra).1 + (S.1 jrb).1 - 1) (i := i) (mulO_lt (f1 := (S.1 jra).2) (f2 := (S.1 jrb).2) (l2 := (S.1 jrb).1) (s := (S.1 jra).1 + (S.1 jrb).1 - 1) i) j (i + j)
                    refine lv_iload hx hb dX5_product_74 (lv_at hl 0 rfl) ?_
                    refine lv_aload_n hx hb dX5_product_76 rfl (lv_at hl 2 rfl) ?_
                    refine lv_iload_n hx hb dX5_product_77 rfl (lv_at hl 4 rfl) ?_
                    refine k_callVr (rest := [.int (nI (j))]) (nL := 7) ⟨hx, hb, hml, hown, hts⟩ (c_X5_lengthOf l D cy ad hI v3 S.1 jrb hM3 (by first | assumption | omega)) (cwV 1 hts gX5_product_X5_lengthOf rfl rfl rfl (by decide +kernel) ⟨Nat.le_of_ble_eq_true rfl, Nat.le_of_ble_eq_true rfl⟩) hK hP hS (fun _ h => h) (q0 := 0) (ci := 5) rfl (by decide) mW_obj rfl rfl rfl hl.1 rfl (Nat.le_of_ble_eq_true rfl) dX5_product_78 ⟨Nat.zero_le _, Nat.zero_le _⟩ (fun H locs hP hS => ?_)
                    have hP : va_P D vwCl (wL 9 ad (mW ad cy (v3))) H := hP
                    refine n_icmp_ge (tgt := 130) hx hb (by omega) (by omega) dX5_product_81 (by decide) (fun h_6 => ?_) (fun h_6 => ?_)
                    · skip
                      refine lv_iinc (v := nI (i + 1)) (lv' := [(5, .int (nI (i + 1))), (6, .int (nI (j))), (0, .ref (ad (0))), (1, .int (nI (jra))), (2, .int (nI (jrb))), (3, .int (nI (jrc))), (4, .int (nI ((S.1 jra).1 + (S.1 jrb).1 - 1)))]) hx hb dX5_product_130 hl (k := 1) rfl (nI_inc _) (by decide) rfl (fun ls hl => ?_)
                      refine lv_goto (tgt := 61) hx hb dX5_product_133 (by decide) ?_
                      exact ih61 (i + 1) (v3) (by omega) hs64 (by rw [hv3, show j = (S.1 jrb).1 by omega]; rfl) (by omega) _ _ hP hS _ (lv_sub hl [0, 2, 3, 4, 5, 6] rfl)
                    · skip
                      have hij : (i + j) % ((S.1 jra).1 + (S.1 jrb).1 - 1) = i + j := Nat.mod_eq_of_lt (by omega)
                      refine lv_aload_n hx hb dX5_product_84 rfl (lv_at hl 2 rfl) ?_
                      refine k_get (q0 := 0) (k := 7) (T := TX5) (Nf := 11) (ci := 5) (C := RX5) (v := .ref (ad (6))) hx hb hw_X5 hown hK hP (by decide) mW_obj rfl (by decide) hf_27 rfl rfl dX5_product_85 ?_
                      refine lv_iload hx hb dX5_product_88 (lv_at hl 1 rfl) ?_
                      refine lv_iload hx hb dX5_product_90 (lv_at hl 0 rfl) ?_
                      refine n_iadd hx hb dX5_product_92 ?_
                      refine lv_aload_n hx hb dX5_product_93 rfl (lv_at hl 2 rfl) ?_
                      refine k_get (q0 := 0) (k := 7) (T := TX5) (Nf := 11) (ci := 5) (C := RX5) (v := .ref (ad (6))) hx hb hw_X5 hown hK hP (by decide) mW_obj rfl (by decide) hf_27 rfl rfl dX5_product_94 ?_
                      refine lv_iload hx hb dX5_product_97 (lv_at hl 1 rfl) ?_
                      refine lv_iload hx hb dX5_product_99 (lv_at hl 0 rfl) ?_
                      refine n_iadd hx hb dX5_product_101 ?_
                      refine k_iald (q0 := 6) (j := i + j) hx hb hK hP (by decide) mW_ou (by decide) (by omega) dX5_product_102 ?_
                      refine n_same (a := vou v3 (i + j)) rfl ?_
                      refine n_push (a := (mulI ((S.1 jra).2 i) (S.1 jrb).2 ((S.1 jra).1 + (S.1 jrb).1 - 1) i (mulO (S.1 jra).2 (S.1 jrb).2 (S.1 jrb).1 ((S.1 jra).1 + (S.1 jrb).1 - 1) i) j) (i + j)) (by rw [hv3]; rfl) ?_
                      refine lv_aload_n hx hb dX5_product_103 rfl (lv_at hl 2 rfl) ?_
                      refine lv_iload_n hx hb dX5_product_104 rfl (lv_at hl 3 rfl) ?_
                      refine lv_iload hx hb dX5_product_105 (lv_at hl 1 rfl) ?_
                      refine k_callVr (rest := [.int (nI ((mulI ((S.1 jra).2 i) (S.1 jrb).2 ((S.1 jra).1 + (S.1 jrb).1 - 1) i (mulO (S.1 jra).2 (S.1 jrb).2 (S.1 jrb).1 ((S.1 jra).1 + (S.1 jrb).1 - 1) i) j) (i + j))), .int (nI (i + j)), .ref (ad (6))]) (nL := 7) ⟨hx, hb, hml, hown, hts⟩ (c_X5_at l D cy ad hI v3 S.1 jra i hM3 (by first | assumption | omega) (by first | assumption | omega)) (cwV 2 hts gX5_product_X5_at rfl rfl rfl (by decide +kernel) ⟨Nat.le_of_ble_eq_true rfl, Nat.le_of_ble_eq_true rfl⟩) hK hP hS (fun _ h => h) (q0 := 0) (ci := 5) rfl (by decide) mW_obj rfl rfl rfl hl.1 rfl (Nat.le_of_ble_eq_true rfl) dX5_product_107 ⟨Nat.zero_le _, Nat.zero_le _⟩ (fun H locs hP hS => ?_)
                      have hP : va_P D vwCl (wL 9 ad (mW ad cy (v3))) H := hP
                      refine lv_aload_n hx hb dX5_product_110 rfl (lv_at hl 2 rfl) ?_
                      refine lv_iload_n hx hb dX5_product_111 rfl (lv_at hl 4 rfl) ?_
                      refine lv_iload hx hb dX5_product_112 (lv_at hl 0 rfl) ?_
                      refine k_callVr (rest := [.int (nI ((S.1 jra).2 i)), .int (nI ((mulI ((S.1 jra).2 i) (S.1 jrb).2 ((S.1 jra).1 + (S.1 jrb).1 - 1) i (mulO (S.1 jra).2 (S.1 jrb).2 (S.1 jrb).1 ((S.1 jra).1 + (S.1 jrb).1 - 1) i) j) (i + j))), .int (nI (i + j)), .ref (ad (6))]) (nL := 7) ⟨hx, hb, hml, hown, hts⟩ (c_X5_at l D cy ad hI v3 S.1 jrb j hM3 (by first | assumption | omega) (by first | assumption | omega)) (cwV 2 hts gX5_product_X5_at rfl rfl rfl (by decide +kernel) ⟨Nat.le_of_ble_eq_true rfl, Nat.le_of_ble_eq_true rfl⟩) hK hP hS (fun _ h => h) (q0 := 0) (ci := 5) rfl (by decide) mW_obj rfl rfl rfl hl.1 rfl (Nat.le_of_ble_eq_true rfl) dX5_product_114 ⟨Nat.zero_le _, Nat.zero_le _⟩ (fun H locs hP hS => ?_)
                      have hP : va_P D vwCl (wL 9 ad (mW ad cy (v3))) H := hP
                      refine n_imul hx hb dX5_product_117 ?_
                      refine n_iadd hx hb dX5_product_118 ?_
                      refine lv_sipush (v := nI (257)) hx hb dX5_product_119 rfl ?_
                      refine n_irem hx hb (by omega) (by omega) (by omega) dX5_product_122  ?_
                      refine k_iast (q0 := 6) (j := i + j) (v := nI ((((mulI ((S.1 jra).2 i) (S.1 jrb).2 ((S.1 jra).1 + (S.1 jrb).1 - 1) i (mulO (S.1 jra).2 (S.1 jrb).2 (S.1 jrb).1 ((S.1 jra).1 + (S.1 jrb).1 - 1) i) j) (i + j)) + (((S.1 jra).2 i) * ((S.1 jrb).2 j))) % 257)) (Wd' := mW ad cy (pou v3 (va_up (vou v3) (i + j) ((((mulI ((S.1 jra).2 i) (S.1 jrb).2 ((S.1 jra).1 + (S.1 jrb).1 - 1) i (mulO (S.1 jra).2 (S.1 jrb).2 (S.1 jrb).1 ((S.1 jra).1 + (S.1 jrb).1 - 1) i) j) (i + j)) + (((S.1 jra).2 i) * ((S.1 jrb).2 j))) % 257)))) hx hb hK hI hP hS (by decide) mW_ou (by decide) (by omega) mW_up_ou dX5_product_123 (fun H locs hP hS => ?_)
                      refine lv_iinc (v := nI (j + 1)) (lv' := [(6, .int (nI (j + 1))), (5, .int (nI (i))), (0, .ref (ad (0))), (1, .int (nI (jra))), (2, .int (nI (jrb))), (3, .int (nI (jrc))), (4, .int (nI ((S.1 jra).1 + (S.1 jrb).1 - 1)))]) hx hb dX5_product_124 hl (k := 0) rfl (nI_inc _) (by decide) rfl (fun ls hl => ?_)
                      refine lv_goto (tgt := 74) hx hb dX5_product_127 (by decide) ?_
                      exact ih74 (j + 1) (pou v3 (va_up (vou v3) (i + j) ((((mulI ((S.1 jra).2 i) (S.1 jrb).2 ((S.1 jra).1 + (S.1 jrb).1 - 1) i (mulO (S.1 jra).2 (S.1 jrb).2 (S.1 jrb).1 ((S.1 jra).1 + (S.1 jrb).1 - 1) i) j) (i + j)) + (((S.1 jra).2 i) * ((S.1 jrb).2 j))) % 257))) (by omega) (by
                        rw [hv3]
                        refine pou_o ?_
                        show _ = va_up (mulI ((S.1 jra).2 i) (S.1 jrb).2 ((S.1 jra).1 + (S.1 jrb).1 - 1) i (mulO (S.1 jra).2 (S.1 jrb).2 (S.1 jrb).1 ((S.1 jra).1 + (S.1 jrb).1 - 1) i) j) ((i + j) % ((S.1 jra).1 + (S.1 jrb).1 - 1)) (((mulI ((S.1 jra).2 i) (S.1 jrb).2 ((S.1 jra).1 + (S.1 jrb).1 - 1) i (mulO (S.1 jra).2 (S.1 jrb).2 (S.1 jrb).1 ((S.1 jra).1 + (S.1 jrb).1 - 1) i) j) ((i + j) % ((S.1 jra).1 + (S.1 jrb).1 - 1)) + (S.1 jra).2 i * (S.1 jrb).2 j) % 257)
                        rw [hij]; rfl) (by omega) _ _ hP hS _ hl
                exact lp74 (_ + 1) (0) (v2) (by omega) (by rw [hv2]; rfl) (Nat.lt_succ_self _) _ _ hP hS _ hl
          exact lp61 (_ + 1) (0) (bla (recV v) ((S.1 jra).1 + (S.1 jrb).1 - 1)) (by omega) (by omega) (bla_o rfl) (Nat.lt_succ_self _) _ _ hP hS _ (lv_sub hl [0, 2, 3, 4, 5, 1] rfl)
        · skip
          refine lv_bipush (v := (-4 : Int32)) hx hb dX5_product_45 (by decide) ?_
          refine k_iret hx hb hr hlocks (v) hP hS dX5_product_47 ?_
          rw [ejra, ejrb, ejrc, op_product_x hjra hjrb hjrc, if_pos (by omega)]
          exact ⟨rfl, hR⟩
      · skip
        have hjrc : ¬ isR rc := of_decide_eq_false h_3
        refine lv_iconst (v := (-1 : Int32)) hx hb dX5_product_21 (by decide) ?_
        refine k_iret hx hb hr hlocks (v) hP hS dX5_product_22 ?_
        rw [show op_product S ra rb rc = (-1, S) from if_pos (by first | exact Or.inl hjra | exact Or.inr (Or.inl hjrb) | exact Or.inr (Or.inr (hjrc)))]
        exact ⟨rfl, hR⟩
set_option maxHeartbeats 4000000 in
set_option maxRecDepth 100000 in
theorem c_X5_round (l : Launch) (D : va_G) (cy : Nat → ClassId) (ad : Nat → Nat) (hI : wI 9 ad) (v : kV) (S : kSt) (ra : Int32) (rb : Int32) (rn : Int32) (rc : Int32) (hSI : kInv S) (hR : mRep S v) : kM l yX5_round wsX5_round ({ frames := 2, cells := 0, slots := 0, locals := 43 } : Room) D cy 9 ad (mW ad cy) (mW ad cy (v)) [.ref (ad (0)), .int (ra), .int (rb), .int (rn), .int (rc)] (fun o u => o = some (.int (op_round S ra rb rn rc).1) ∧ mRep (op_round S ra rb rn rc).2 u) := by
  refine k_met cX5_round 8 (some .int) (by decide) rfl (Nat.le_of_ble_eq_true rfl) ?_
  intro p e s m below meth c ls hx hb hr hts hown hlocks hml hK hP hS hl
  have hl : lv_has ls 8 [(0, .ref (ad (0))), (1, .int (ra)), (2, .int (rb)), (3, .int (rn)), (4, .int (rc))] := hl
  have hown : s.vm.findClass RX5 = some m.cls := hown
  have hf_27 := hts (.fieldLink RX5 27 "TurnedRowsModel" "out" "[I") (by decide +kernel)
  have hw_X5 : ∀ qw ∈ wsX50, qw.before ([.ref (ad (0)), .int (ra), .int (rb), .int (rn), .int (rc)] : List Value).toArray s = true := fun qw h => hts qw ((by decide +kernel : ∀ qw ∈ wsX50, qw ∈ wsX5_round) qw h)
  have hM : mReg S.1 v := hR.reg hSI
  have hrow : ∀ j, j < 6 → rO (S.1 j) := hSI.1
  have hpm6 : vpm v ≤ 6 := by rw [hR.2.1.1]; exact hR.2.1.2
  have hplS : vty v = S.2.2.2.2.2.1 := hR.2.2.2.2.1
  have hty80 : vty v ≤ 80 := by rw [hplS]; exact hSI.2.2.2.2.2.1
  have hpdS : ∀ j, j < S.2.2.2.2.2.1 → vpd v j = S.2.2.2.2.2.2 j := hR.2.2.2.2.2.1
  have hpd : ∀ j, j < vty v → vpd v j < 127 := fun j hj => by rw [hpdS j (by omega)]; have := (hSI.2.2.2.2.2.2 j (by omega)).2; omega
  refine lv_iload_n hx hb dX5_round_0 rfl (lv_at hl 1 rfl) ?_
  refine k_callSr (rest := []) (nL := 8) ⟨hx, hb, hml, hown, hts⟩ (c_X5_isRegister l D cy ad hI v ra) (va_cwS 1 hts gX5_round_X5_isRegister rfl rfl rfl (by decide +kernel) ⟨Nat.le_of_ble_eq_true rfl, Nat.le_of_ble_eq_true rfl⟩) hK hP hS (fun _ h => h) rfl hl.1 rfl (Nat.le_of_ble_eq_true rfl) dX5_round_1 ⟨Nat.zero_le _, Nat.zero_le _⟩ (fun H locs hP hS => ?_)
  have hP : va_P D vwCl (wL 9 ad (mW ad cy (v))) H := hP
  refine b_ifeq (tgt := 22) hx hb dX5_round_4 (by decide) (fun h_1 => ?_) (fun h_1 => ?_)
  · skip
    have hjra : ¬ isR ra := of_decide_eq_false h_1
    refine lv_iconst (v := (-1 : Int32)) hx hb dX5_round_22 (by decide) ?_
    refine k_iret hx hb hr hlocks (v) hP hS dX5_round_23 ?_
    rw [show op_round S ra rb rn rc = (-1, S) from if_pos (by first | exact Or.inl hjra | exact Or.inr (Or.inl hjrb) | exact Or.inr (Or.inr (hjrc)))]
    exact ⟨rfl, hR⟩
  · skip
    obtain ⟨jra, hjra, ejra⟩ := (kreg_cases ra).resolve_left (fun q => q (of_decide_eq_true h_1))
    rw [ejra] at hl
    refine lv_iload_n hx hb dX5_round_7 rfl (lv_at hl 2 rfl) ?_
    refine k_callSr (rest := []) (nL := 8) ⟨hx, hb, hml, hown, hts⟩ (c_X5_isRegister l D cy ad hI v rb) (va_cwS 1 hts gX5_round_X5_isRegister rfl rfl rfl (by decide +kernel) ⟨Nat.le_of_ble_eq_true rfl, Nat.le_of_ble_eq_true rfl⟩) hK hP hS (fun _ h => h) rfl hl.1 rfl (Nat.le_of_ble_eq_true rfl) dX5_round_8 ⟨Nat.zero_le _, Nat.zero_le _⟩ (fun H locs hP hS => ?_)
    have hP : va_P D vwCl (wL 9 ad (mW ad cy (v))) H := hP
    refine b_ifeq (tgt := 22) hx hb dX5_round_11 (by decide) (fun h_2 => ?_) (fun h_2 => ?_)
    · skip
      have hjrb : ¬ isR rb := of_decide_eq_false h_2
      refine lv_iconst (v := (-1 : Int32)) hx hb dX5_round_22 (by decide) ?_
      refine k_iret hx hb hr hlocks (v) hP hS dX5_round_23 ?_
      rw [show op_round S ra rb rn rc = (-1, S) from if_pos (by first | exact Or.inl hjra | exact Or.inr (Or.inl hjrb) | exact Or.inr (Or.inr (hjrc)))]
      exact ⟨rfl, hR⟩
    · skip
      obtain ⟨jrb, hjrb, ejrb⟩ := (kreg_cases rb).resolve_left (fun q => q (of_decide_eq_true h_2))
      rw [ejrb] at hl
      refine lv_iload hx hb dX5_round_14 (lv_at hl 4 rfl) ?_
      refine k_callSr (rest := []) (nL := 8) ⟨hx, hb, hml, hown, hts⟩ (c_X5_isRegister l D cy ad hI v rc) (va_cwS 1 hts gX5_round_X5_isRegister rfl rfl rfl (by decide +kernel) ⟨Nat.le_of_ble_eq_true rfl, Nat.le_of_ble_eq_true rfl⟩) hK hP hS (fun _ h => h) rfl hl.1 rfl (Nat.le_of_ble_eq_true rfl) dX5_round_16 ⟨Nat.zero_le _, Nat.zero_le _⟩ (fun H locs hP hS => ?_)
      have hP : va_P D vwCl (wL 9 ad (mW ad cy (v))) H := hP
      refine b_ifne (tgt := 24) hx hb dX5_round_19 (by decide) (fun h_3 => ?_) (fun h_3 => ?_)
      · skip
        obtain ⟨jrc, hjrc, ejrc⟩ := (kreg_cases rc).resolve_left (fun q => q (of_decide_eq_true h_3))
        rw [ejrc] at hl
        refine lv_iload_n hx hb dX5_round_24 rfl (lv_at hl 3 rfl) ?_
        refine lv_iconst (v := nI (1)) hx hb dX5_round_25 rfl ?_
        refine lv_bipush (v := nI (64)) hx hb dX5_round_26 rfl ?_
        refine k_callSr (rest := []) (nL := 8) ⟨hx, hb, hml, hown, hts⟩ (c_X5_in l D cy ad hI v rn (nI (1)) (nI (64))) (va_cwS 3 hts gX5_round_X5_in rfl rfl rfl (by decide +kernel) ⟨Nat.le_of_ble_eq_true rfl, Nat.le_of_ble_eq_true rfl⟩) hK hP hS (fun _ h => h) rfl hl.1 rfl (Nat.le_of_ble_eq_true rfl) dX5_round_28 ⟨Nat.zero_le _, Nat.zero_le _⟩ (fun H locs hP hS => ?_)
        have hP : va_P D vwCl (wL 9 ad (mW ad cy (v))) H := hP
        refine b_ifne (tgt := 37) hx hb dX5_round_31 (by decide) (fun h_4 => ?_) (fun h_4 => ?_)
        · skip
          obtain ⟨kn, hkn1, hkn, ekn⟩ := (le1_cases rn 64 (by decide)).resolve_left (fun q => q (show (1 : Int32) ≤ rn ∧ rn ≤ nI 64 from of_decide_eq_true h_4))
          rw [ekn] at hl
          refine lv_aload_n hx hb dX5_round_37 rfl (lv_at hl 0 rfl) ?_
          have hoa := hrow jra hjra
          have hob := hrow jrb hjrb
          have hla := hoa.2.1
          have hla1 := hoa.1
          have hlb := hob.2.1
          have hlb1 := hob.1
          have hpb : plc (S.1 jra).1 (S.1 jrb).1 ≤ 65 := by unfold plc; omega
          refine k_callVv (rest := []) (nL := 8) ⟨hx, hb, hml, hown, hts⟩ (c_X5_record l D cy ad hI v (by first | assumption | omega)) (cwV 0 hts gX5_round_X5_record rfl rfl rfl (by decide +kernel) ⟨Nat.le_of_ble_eq_true rfl, Nat.le_of_ble_eq_true rfl⟩) hK hP hS (fun _ h => h) (q0 := 0) (ci := 5) rfl (by decide) mW_obj rfl rfl rfl hl.1 rfl (Nat.le_of_ble_eq_true rfl) dX5_round_38 ⟨Nat.zero_le _, Nat.zero_le _⟩ (fun H locs hP hS => ?_)
          have hP : va_P D vwCl (wL 9 ad (mW ad cy (recV v))) H := hP
          refine lv_aload_n hx hb dX5_round_41 rfl (lv_at hl 0 rfl) ?_
          refine lv_iload_n hx hb dX5_round_42 rfl (lv_at hl 3 rfl) ?_
          refine k_callVv (rest := []) (nL := 8) ⟨hx, hb, hml, hown, hts⟩ (c_X5_blank l D cy ad hI (recV v) kn) (cwV 1 hts gX5_round_X5_blank rfl rfl rfl (by decide +kernel) ⟨Nat.le_of_ble_eq_true rfl, Nat.le_of_ble_eq_true rfl⟩) hK hP hS (fun _ h => h) (q0 := 0) (ci := 5) rfl (by decide) mW_obj rfl rfl rfl hl.1 rfl (Nat.le_of_ble_eq_true rfl) dX5_round_43 ⟨Nat.zero_le _, Nat.zero_le _⟩ (fun H locs hP hS => ?_)
          have hP : va_P D vwCl (wL 9 ad (mW ad cy (bla (recV v) kn))) H := hP
          refine lv_iconst (v := nI (0)) hx hb dX5_round_46 rfl ?_
          refine lv_istore (lv' := [(5, .int (nI (0))), (0, .ref (ad (0))), (1, .int (nI (jra))), (2, .int (nI (jrb))), (3, .int (nI (kn))), (4, .int (nI (jrc)))]) hx hb dX5_round_47 hl (by decide) rfl (fun ls hl => ?_)
          have lp49 : ∀ (fu : Nat) (i : Nat) (v2 : kV), (i ≤ (S.1 jra).1) → (kn ≤ 64) → (v2 = pou (bla (recV v) (kn)) (mulO (S.1 jra).2 (S.1 jrb).2 (S.1 jrb).1 (kn) i)) → (S.1 jra).1 - i < fu → ∀ (H : Heap) (locs : List Loc), va_P D vwCl (wL 9 ad (mW ad cy (v2))) H → va_S (wA 9 ad) s.heap H locs → ∀ (ls : Array Slot), lv_has ls 8 [(5, .int (nI (i))), (0, .ref (ad (0))), (1, .int (nI (jra))), (2, .int (nI (jrb))), (3, .int (nI (kn))), (4, .int (nI (jrc)))] → W p l e ({ frames := 2, cells := 0, slots := 0, locals := 43 } : Room) s m ([.ref (ad (0)), .int (ra), .int (rb), .int (rn), .int (rc)] : List Value).toArray below meth c H locs 0 0 (MQ below (kQ D 9 ad (mW ad cy) (fun o u => o = some (.int (op_round S ra rb rn rc).1) ∧ mRep (op_round S ra rb rn rc).2 u)) ([.ref (ad (0)), .int (ra), .int (rb), .int (rn), .int (rc)] : List Value).toArray s 0 0 (wA 9 ad)) (F0 m 49 ls []) := by
            intro fu
            induction fu with
            | zero => intro i v2 hi hs64 hv2 hfu; exact absurd hfu (Nat.not_lt_zero _)
            | succ fu ih49 =>
              intro i v2 hi hs64 hv2 hfu H locs hP hS ls hl
              have hM2 : mReg S.1 v2 := by rw [hv2]; exact hM
              refine lv_iload hx hb dX5_round_49 (lv_at hl 0 rfl) ?_
              refine lv_aload_n hx hb dX5_round_51 rfl (lv_at hl 1 rfl) ?_
              refine lv_iload_n hx hb dX5_round_52 rfl (lv_at hl 2 rfl) ?_
              refine k_callVr (rest := [.int (nI (i))]) (nL := 8) ⟨hx, hb, hml, hown, hts⟩ (c_X5_lengthOf l D cy ad hI v2 S.1 jra hM2 (by first | assumption | omega)) (cwV 1 hts gX5_round_X5_lengthOf rfl rfl rfl (by decide +kernel) ⟨Nat.le_of_ble_eq_true rfl, Nat.le_of_ble_eq_true rfl⟩) hK hP hS (fun _ h => h) (q0 := 0) (ci := 5) rfl (by decide) mW_obj rfl rfl rfl hl.1 rfl (Nat.le_of_ble_eq_true rfl) dX5_round_53 ⟨Nat.zero_le _, Nat.zero_le _⟩ (fun H locs hP hS => ?_)
              have hP : va_P D vwCl (wL 9 ad (mW ad cy (v2))) H := hP
              refine n_icmp_ge (tgt := 127) hx hb (by omega) (by omega) dX5_round_56 (by decide) (fun h_5 => ?_) (fun h_5 => ?_)
              · skip
                refine lv_aload_n hx hb dX5_round_127 rfl (lv_at hl 1 rfl) ?_
                refine lv_iload hx hb dX5_round_128 (lv_at hl 5 rfl) ?_
                refine k_callVv (rest := []) (nL := 8) ⟨hx, hb, hml, hown, hts⟩ (c_X5_store l D cy ad hI v2 jrc (by first | assumption | omega) (by rw [hv2, vln_o]; omega)) (cwV 1 hts gX5_round_X5_store rfl rfl rfl (by decide +kernel) ⟨Nat.le_of_ble_eq_true rfl, Nat.le_of_ble_eq_true rfl⟩) hK hP hS (fun _ h => h) (q0 := 0) (ci := 5) rfl (by decide) mW_obj rfl rfl rfl hl.1 rfl (Nat.le_of_ble_eq_true rfl) dX5_round_130 ⟨Nat.zero_le _, Nat.zero_le _⟩ (fun H locs hP hS => ?_)
                have hP : va_P D vwCl (wL 9 ad (mW ad cy (sto v2 jrc))) H := hP
                refine lv_aload_n hx hb dX5_round_133 rfl (lv_at hl 1 rfl) ?_
                refine k_callVr (rest := []) (nL := 8) ⟨hx, hb, hml, hown, hts⟩ (c_X5_degreeOut l D cy ad hI (sto v2 jrc) (by rw [hv2]; exact hkn) (by rw [hv2]; exact fun k => mulO_lt _ k)) (cwV 0 hts gX5_round_X5_degreeOut rfl rfl rfl (by decide +kernel) ⟨Nat.le_of_ble_eq_true rfl, Nat.le_of_ble_eq_true rfl⟩) hK hP hS (fun _ h => h) (q0 := 0) (ci := 5) rfl (by decide) mW_obj rfl rfl rfl hl.1 rfl (Nat.le_of_ble_eq_true rfl) dX5_round_134 ⟨Nat.zero_le _, Nat.zero_le _⟩ (fun H locs hP hS => ?_)
                have hP : va_P D vwCl (wL 9 ad (mW ad cy (sto v2 jrc))) H := hP
                have hie : i = (S.1 jra).1 := by omega
                rw [hie] at hv2
                refine k_iret hx hb hr hlocks (sto v2 jrc) hP hS dX5_round_137 ?_
                rw [ejra, ejrb, ejrc, ekn, op_round_x hjra hjrb hjrc, if_neg (fun q => q (kin1_nI hkn1 hkn (by decide))), rgN_nI (by omega)]
                exact ⟨by rw [hv2]; rfl, outM hR hv2 hjrc rfl rfl (fun _ z => mulO_zero (by omega) _ _ z)⟩
              · skip
                refine lv_iconst (v := nI (0)) hx hb dX5_round_59 rfl ?_
                refine lv_istore (lv' := [(6, .int (nI (0))), (5, .int (nI (i))), (0, .ref (ad (0))), (1, .int (nI (jra))), (2, .int (nI (jrb))), (3, .int (nI (kn))), (4, .int (nI (jrc)))]) hx hb dX5_round_60 hl (by decide) rfl (fun ls hl => ?_)
                have lp62 : ∀ (fu : Nat) (j : Nat) (v3 : kV), (j ≤ (S.1 jrb).1) → (v3 = pou (bla (recV v) (kn)) (mulI ((S.1 jra).2 i) (S.1 jrb).2 (kn) i (mulO (S.1 jra).2 (S.1 jrb).2 (S.1 jrb).1 (kn) i) j)) → (S.1 jrb).1 - j < fu → ∀ (H : Heap) (locs : List Loc), va_P D vwCl (wL 9 ad (mW ad cy (v3))) H → va_S (wA 9 ad) s.heap H locs → ∀ (ls : Array Slot), lv_has ls 8 [(6, .int (nI (j))), (5, .int (nI (i))), (0, .ref (ad (0))), (1, .int (nI (jra))), (2, .int (nI (jrb))), (3, .int (nI (kn))), (4, .int (nI (jrc)))] → W p l e ({ frames := 2, cells := 0, slots := 0, locals := 43 } : Room) s m ([.ref (ad (0)), .int (ra), .int (rb), .int (rn), .int (rc)] : List Value).toArray below meth c H locs 0 0 (MQ below (kQ D 9 ad (mW ad cy) (fun o u => o = some (.int (op_round S ra rb rn rc).1) ∧ mRep (op_round S ra rb rn rc).2 u)) ([.ref (ad (0)), .int (ra), .int (rb), .int (rn), .int (rc)] : List Value).toArray s 0 0 (wA 9 ad)) (F0 m 62 ls []) := by
                  intro fu
                  induction fu with
                  | zero => intro j v3 hj hv3 hfu; exact absurd hfu (Nat.not_lt_zero _)
                  | succ fu ih62 =>
                    intro j v3 hj hv3 hfu H locs hP hS ls hl
                    have hM3 : mReg S.1 v3 := by rw [hv3]; exact hM
                    have hm := mul_lt_257 (hoa.2.2.1 i) (hob.2.2.1 j)
                    have hg := mulI_lt (c := (S.1 jra).2 i) (f := (S.1 jrb).2) (s := kn) (i := i) (mulO_lt (f1 := (S.1 jra).2) (f2 := (S.1 jrb).2) (l2 := (S.1 jrb).1) (s := kn) i) j ((i + j) % kn)
                    refine lv_iload hx hb dX5_round_62 (lv_at hl 0 rfl) ?_
                    refine lv_aload_n hx hb dX5_round_64 rfl (lv_at hl 2 rfl) ?_
                    refine lv_iload_n hx hb dX5_round_65 rfl (lv_at hl 4 rfl) ?_
                    refine k_callVr (rest := [.int (nI (j))]) (nL := 8) ⟨hx, hb, hml, hown, hts⟩ (c_X5_lengthOf l D cy ad hI v3 S.1 jrb hM3 (by first | assumption | omega)) (cwV 1 hts gX5_round_X5_lengthOf rfl rfl rfl (by decide +kernel) ⟨Nat.le_of_ble_eq_true rfl, Nat.le_of_ble_eq_true rfl⟩) hK hP hS (fun _ h => h) (q0 := 0) (ci := 5) rfl (by decide) mW_obj rfl rfl rfl hl.1 rfl (Nat.le_of_ble_eq_true rfl) dX5_round_66 ⟨Nat.zero_le _, Nat.zero_le _⟩ (fun H locs hP hS => ?_)
                    have hP : va_P D vwCl (wL 9 ad (mW ad cy (v3))) H := hP
                    refine n_icmp_ge (tgt := 121) hx hb (by omega) (by omega) dX5_round_69 (by decide) (fun h_6 => ?_) (fun h_6 => ?_)
                    · skip
                      refine lv_iinc (v := nI (i + 1)) (lv' := [(5, .int (nI (i + 1))), (6, .int (nI (j))), (0, .ref (ad (0))), (1, .int (nI (jra))), (2, .int (nI (jrb))), (3, .int (nI (kn))), (4, .int (nI (jrc)))]) hx hb dX5_round_121 hl (k := 1) rfl (nI_inc _) (by decide) rfl (fun ls hl => ?_)
                      refine lv_goto (tgt := 49) hx hb dX5_round_124 (by decide) ?_
                      exact ih49 (i + 1) (v3) (by omega) hs64 (by rw [hv3, show j = (S.1 jrb).1 by omega]; rfl) (by omega) _ _ hP hS _ (lv_sub hl [0, 2, 3, 4, 5, 6] rfl)
                    · skip
                      refine lv_iload hx hb dX5_round_72 (lv_at hl 1 rfl) ?_
                      refine lv_iload hx hb dX5_round_74 (lv_at hl 0 rfl) ?_
                      refine n_iadd hx hb dX5_round_76 ?_
                      refine lv_iload_n hx hb dX5_round_77 rfl (lv_at hl 5 rfl) ?_
                      refine n_irem hx hb (by omega) (by omega) (by omega) dX5_round_78  ?_
                      refine lv_istore (lv' := [(7, .int (nI ((i + j) % kn))), (6, .int (nI (j))), (5, .int (nI (i))), (0, .ref (ad (0))), (1, .int (nI (jra))), (2, .int (nI (jrb))), (3, .int (nI (kn))), (4, .int (nI (jrc)))]) hx hb dX5_round_79 hl (by decide) rfl (fun ls hl => ?_)
                      refine lv_aload_n hx hb dX5_round_81 rfl (lv_at hl 3 rfl) ?_
                      refine k_get (q0 := 0) (k := 7) (T := TX5) (Nf := 11) (ci := 5) (C := RX5) (v := .ref (ad (6))) hx hb hw_X5 hown hK hP (by decide) mW_obj rfl (by decide) hf_27 rfl rfl dX5_round_82 ?_
                      refine lv_iload hx hb dX5_round_85 (lv_at hl 0 rfl) ?_
                      refine lv_aload_n hx hb dX5_round_87 rfl (lv_at hl 3 rfl) ?_
                      refine k_get (q0 := 0) (k := 7) (T := TX5) (Nf := 11) (ci := 5) (C := RX5) (v := .ref (ad (6))) hx hb hw_X5 hown hK hP (by decide) mW_obj rfl (by decide) hf_27 rfl rfl dX5_round_88 ?_
                      refine lv_iload hx hb dX5_round_91 (lv_at hl 0 rfl) ?_
                      refine k_iald (q0 := 6) (j := (i + j) % kn) hx hb hK hP (by decide) mW_ou (by decide) (Nat.lt_of_lt_of_le (Nat.mod_lt _ (by omega)) hkn) dX5_round_93 ?_
                      refine n_same (a := vou v3 ((i + j) % kn)) rfl ?_
                      refine n_push (a := (mulI ((S.1 jra).2 i) (S.1 jrb).2 (kn) i (mulO (S.1 jra).2 (S.1 jrb).2 (S.1 jrb).1 (kn) i) j) ((i + j) % kn)) (by rw [hv3]; rfl) ?_
                      refine lv_aload_n hx hb dX5_round_94 rfl (lv_at hl 3 rfl) ?_
                      refine lv_iload_n hx hb dX5_round_95 rfl (lv_at hl 4 rfl) ?_
                      refine lv_iload hx hb dX5_round_96 (lv_at hl 2 rfl) ?_
                      refine k_callVr (rest := [.int (nI ((mulI ((S.1 jra).2 i) (S.1 jrb).2 (kn) i (mulO (S.1 jra).2 (S.1 jrb).2 (S.1 jrb).1 (kn) i) j) ((i + j) % kn))), .int (nI ((i + j) % kn)), .ref (ad (6))]) (nL := 8) ⟨hx, hb, hml, hown, hts⟩ (c_X5_at l D cy ad hI v3 S.1 jra i hM3 (by first | assumption | omega) (by first | assumption | omega)) (cwV 2 hts gX5_round_X5_at rfl rfl rfl (by decide +kernel) ⟨Nat.le_of_ble_eq_true rfl, Nat.le_of_ble_eq_true rfl⟩) hK hP hS (fun _ h => h) (q0 := 0) (ci := 5) rfl (by decide) mW_obj rfl rfl rfl hl.1 rfl (Nat.le_of_ble_eq_true rfl) dX5_round_98 ⟨Nat.zero_le _, Nat.zero_le _⟩ (fun H locs hP hS => ?_)
                      have hP : va_P D vwCl (wL 9 ad (mW ad cy (v3))) H := hP
                      refine lv_aload_n hx hb dX5_round_101 rfl (lv_at hl 3 rfl) ?_
                      refine lv_iload_n hx hb dX5_round_102 rfl (lv_at hl 5 rfl) ?_
                      refine lv_iload hx hb dX5_round_103 (lv_at hl 1 rfl) ?_
                      refine k_callVr (rest := [.int (nI ((S.1 jra).2 i)), .int (nI ((mulI ((S.1 jra).2 i) (S.1 jrb).2 (kn) i (mulO (S.1 jra).2 (S.1 jrb).2 (S.1 jrb).1 (kn) i) j) ((i + j) % kn))), .int (nI ((i + j) % kn)), .ref (ad (6))]) (nL := 8) ⟨hx, hb, hml, hown, hts⟩ (c_X5_at l D cy ad hI v3 S.1 jrb j hM3 (by first | assumption | omega) (by first | assumption | omega)) (cwV 2 hts gX5_round_X5_at rfl rfl rfl (by decide +kernel) ⟨Nat.le_of_ble_eq_true rfl, Nat.le_of_ble_eq_true rfl⟩) hK hP hS (fun _ h => h) (q0 := 0) (ci := 5) rfl (by decide) mW_obj rfl rfl rfl hl.1 rfl (Nat.le_of_ble_eq_true rfl) dX5_round_105 ⟨Nat.zero_le _, Nat.zero_le _⟩ (fun H locs hP hS => ?_)
                      have hP : va_P D vwCl (wL 9 ad (mW ad cy (v3))) H := hP
                      refine n_imul hx hb dX5_round_108 ?_
                      refine n_iadd hx hb dX5_round_109 ?_
                      refine lv_sipush (v := nI (257)) hx hb dX5_round_110 rfl ?_
                      refine n_irem hx hb (by omega) (by omega) (by omega) dX5_round_113  ?_
                      refine k_iast (q0 := 6) (j := (i + j) % kn) (v := nI ((((mulI ((S.1 jra).2 i) (S.1 jrb).2 (kn) i (mulO (S.1 jra).2 (S.1 jrb).2 (S.1 jrb).1 (kn) i) j) ((i + j) % kn)) + (((S.1 jra).2 i) * ((S.1 jrb).2 j))) % 257)) (Wd' := mW ad cy (pou v3 (va_up (vou v3) ((i + j) % kn) ((((mulI ((S.1 jra).2 i) (S.1 jrb).2 (kn) i (mulO (S.1 jra).2 (S.1 jrb).2 (S.1 jrb).1 (kn) i) j) ((i + j) % kn)) + (((S.1 jra).2 i) * ((S.1 jrb).2 j))) % 257)))) hx hb hK hI hP hS (by decide) mW_ou (by decide) (Nat.lt_of_lt_of_le (Nat.mod_lt _ (by omega)) hkn) mW_up_ou dX5_round_114 (fun H locs hP hS => ?_)
                      refine lv_iinc (v := nI (j + 1)) (lv' := [(6, .int (nI (j + 1))), (7, .int (nI ((i + j) % kn))), (5, .int (nI (i))), (0, .ref (ad (0))), (1, .int (nI (jra))), (2, .int (nI (jrb))), (3, .int (nI (kn))), (4, .int (nI (jrc)))]) hx hb dX5_round_115 hl (k := 1) rfl (nI_inc _) (by decide) rfl (fun ls hl => ?_)
                      refine lv_goto (tgt := 62) hx hb dX5_round_118 (by decide) ?_
                      exact ih62 (j + 1) (pou v3 (va_up (vou v3) ((i + j) % kn) ((((mulI ((S.1 jra).2 i) (S.1 jrb).2 (kn) i (mulO (S.1 jra).2 (S.1 jrb).2 (S.1 jrb).1 (kn) i) j) ((i + j) % kn)) + (((S.1 jra).2 i) * ((S.1 jrb).2 j))) % 257))) (by omega) (by
                        rw [hv3]
                        refine pou_o ?_
                        show _ = va_up (mulI ((S.1 jra).2 i) (S.1 jrb).2 (kn) i (mulO (S.1 jra).2 (S.1 jrb).2 (S.1 jrb).1 (kn) i) j) ((i + j) % (kn)) (((mulI ((S.1 jra).2 i) (S.1 jrb).2 (kn) i (mulO (S.1 jra).2 (S.1 jrb).2 (S.1 jrb).1 (kn) i) j) ((i + j) % (kn)) + (S.1 jra).2 i * (S.1 jrb).2 j) % 257)
                        rfl) (by omega) _ _ hP hS _ (lv_sub hl [0, 2, 3, 4, 5, 6, 7] rfl)
                exact lp62 (_ + 1) (0) (v2) (by omega) (by rw [hv2]; rfl) (Nat.lt_succ_self _) _ _ hP hS _ hl
          exact lp49 (_ + 1) (0) (bla (recV v) kn) (by omega) (by omega) (bla_o rfl) (Nat.lt_succ_self _) _ _ hP hS _ hl
        · skip
          have hnkn : ¬ (1 ≤ rn ∧ rn ≤ 64) := of_decide_eq_false h_4
          refine lv_bipush (v := (-2 : Int32)) hx hb dX5_round_34 (by decide) ?_
          refine k_iret hx hb hr hlocks (v) hP hS dX5_round_36 ?_
          rw [ejra, ejrb, ejrc, op_round_x hjra hjrb hjrc, if_pos hnkn]
          exact ⟨rfl, hR⟩
      · skip
        have hjrc : ¬ isR rc := of_decide_eq_false h_3
        refine lv_iconst (v := (-1 : Int32)) hx hb dX5_round_22 (by decide) ?_
        refine k_iret hx hb hr hlocks (v) hP hS dX5_round_23 ?_
        rw [show op_round S ra rb rn rc = (-1, S) from if_pos (by first | exact Or.inl hjra | exact Or.inr (Or.inl hjrb) | exact Or.inr (Or.inr (hjrc)))]
        exact ⟨rfl, hR⟩
