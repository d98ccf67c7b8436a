set_option maxHeartbeats 4000000 in
set_option maxRecDepth 100000 in
theorem c_X5_divisor (l : Launch) (D : va_G) (cy : Nat → ClassId) (ad : Nat → Nat) (hI : wI 9 ad) (v : kV) (S : kSt) (ra : Int32) (rb : Int32) (rc : Int32) (hSI : kInv S) (hR : mRep S v) : kM l yX5_divisor wsX5_divisor ({ frames := 4, cells := 0, slots := 0, locals := 90 } : Room) D cy 9 ad (mW ad cy) (mW ad cy (v)) [.ref (ad (0)), .int (ra), .int (rb), .int (rc)] (fun o u => o = some (.int (op_divisor S ra rb rc).1) ∧ mRep (op_divisor S ra rb rc).2 u) := by
  refine k_met cX5_divisor 6 (some .int) (by decide) rfl (Nat.le_of_ble_eq_true rfl) ?_
  intro p e s m below meth c ls hx hb hr hts hown hlocks hml hK hP hS hl
  have hl : lv_has ls 6 [(0, .ref (ad (0))), (1, .int (ra)), (2, .int (rb)), (3, .int (rc))] := hl
  have hown : s.vm.findClass RX5 = some m.cls := hown
  have hf_27 := hts (.fieldLink RX5 27 "TurnedRowsModel" "out" "[I") (by decide +kernel)
  have hf_30 := hts (.fieldLink RX5 30 "TurnedRowsModel" "one" "[I") (by decide +kernel)
  have hf_33 := hts (.fieldLink RX5 33 "TurnedRowsModel" "two" "[I") (by decide +kernel)
  have hw_X5 : ∀ qw ∈ wsX50, qw.before ([.ref (ad (0)), .int (ra), .int (rb), .int (rc)] : List Value).toArray s = true := fun qw h => hts qw ((by decide +kernel : ∀ qw ∈ wsX50, qw ∈ wsX5_divisor) qw h)
  have hM : mReg S.1 v := hR.reg hSI
  have hrow : ∀ j, j < 6 → rO (S.1 j) := hSI.1
  have hpm6 : vpm v ≤ 6 := by rw [hR.2.1.1]; exact hR.2.1.2
  have hplS : vty v = S.2.2.2.2.2.1 := hR.2.2.2.2.1
  have hty80 : vty v ≤ 80 := by rw [hplS]; exact hSI.2.2.2.2.2.1
  have hpdS : ∀ j, j < S.2.2.2.2.2.1 → vpd v j = S.2.2.2.2.2.2 j := hR.2.2.2.2.2.1
  have hpd : ∀ j, j < vty v → vpd v j < 127 := fun j hj => by rw [hpdS j (by omega)]; have := (hSI.2.2.2.2.2.2 j (by omega)).2; omega
  refine lv_iload_n hx hb dX5_divisor_0 rfl (lv_at hl 1 rfl) ?_
  refine k_callSr (rest := []) (nL := 6) ⟨hx, hb, hml, hown, hts⟩ (c_X5_isRegister l D cy ad hI v ra) (va_cwS 1 hts gX5_divisor_X5_isRegister rfl rfl rfl (by decide +kernel) ⟨Nat.le_of_ble_eq_true rfl, Nat.le_of_ble_eq_true rfl⟩) hK hP hS (fun _ h => h) rfl hl.1 rfl (Nat.le_of_ble_eq_true rfl) dX5_divisor_1 ⟨Nat.zero_le _, Nat.zero_le _⟩ (fun H locs hP hS => ?_)
  have hP : va_P D vwCl (wL 9 ad (mW ad cy (v))) H := hP
  refine b_ifeq (tgt := 21) hx hb dX5_divisor_4 (by decide) (fun h_1 => ?_) (fun h_1 => ?_)
  · skip
    have hjra : ¬ isR ra := of_decide_eq_false h_1
    refine lv_iconst (v := (-1 : Int32)) hx hb dX5_divisor_21 (by decide) ?_
    refine k_iret hx hb hr hlocks (v) hP hS dX5_divisor_22 ?_
    rw [show op_divisor S ra rb rc = (-1, S) from if_pos (by first | exact Or.inl hjra | exact Or.inr (Or.inl hjrb) | exact Or.inr (Or.inr (hjrc)))]
    exact ⟨rfl, hR⟩
  · skip
    obtain ⟨jra, hjra, ejra⟩ := (kreg_cases ra).resolve_left (fun q => q (of_decide_eq_true h_1))
    rw [ejra] at hl
    refine lv_iload_n hx hb dX5_divisor_7 rfl (lv_at hl 2 rfl) ?_
    refine k_callSr (rest := []) (nL := 6) ⟨hx, hb, hml, hown, hts⟩ (c_X5_isRegister l D cy ad hI v rb) (va_cwS 1 hts gX5_divisor_X5_isRegister rfl rfl rfl (by decide +kernel) ⟨Nat.le_of_ble_eq_true rfl, Nat.le_of_ble_eq_true rfl⟩) hK hP hS (fun _ h => h) rfl hl.1 rfl (Nat.le_of_ble_eq_true rfl) dX5_divisor_8 ⟨Nat.zero_le _, Nat.zero_le _⟩ (fun H locs hP hS => ?_)
    have hP : va_P D vwCl (wL 9 ad (mW ad cy (v))) H := hP
    refine b_ifeq (tgt := 21) hx hb dX5_divisor_11 (by decide) (fun h_2 => ?_) (fun h_2 => ?_)
    · skip
      have hjrb : ¬ isR rb := of_decide_eq_false h_2
      refine lv_iconst (v := (-1 : Int32)) hx hb dX5_divisor_21 (by decide) ?_
      refine k_iret hx hb hr hlocks (v) hP hS dX5_divisor_22 ?_
      rw [show op_divisor S ra rb rc = (-1, S) from if_pos (by first | exact Or.inl hjra | exact Or.inr (Or.inl hjrb) | exact Or.inr (Or.inr (hjrc)))]
      exact ⟨rfl, hR⟩
    · skip
      obtain ⟨jrb, hjrb, ejrb⟩ := (kreg_cases rb).resolve_left (fun q => q (of_decide_eq_true h_2))
      rw [ejrb] at hl
      refine lv_iload_n hx hb dX5_divisor_14 rfl (lv_at hl 3 rfl) ?_
      refine k_callSr (rest := []) (nL := 6) ⟨hx, hb, hml, hown, hts⟩ (c_X5_isRegister l D cy ad hI v rc) (va_cwS 1 hts gX5_divisor_X5_isRegister rfl rfl rfl (by decide +kernel) ⟨Nat.le_of_ble_eq_true rfl, Nat.le_of_ble_eq_true rfl⟩) hK hP hS (fun _ h => h) rfl hl.1 rfl (Nat.le_of_ble_eq_true rfl) dX5_divisor_15 ⟨Nat.zero_le _, Nat.zero_le _⟩ (fun H locs hP hS => ?_)
      have hP : va_P D vwCl (wL 9 ad (mW ad cy (v))) H := hP
      refine b_ifne (tgt := 23) hx hb dX5_divisor_18 (by decide) (fun h_3 => ?_) (fun h_3 => ?_)
      · skip
        obtain ⟨jrc, hjrc, ejrc⟩ := (kreg_cases rc).resolve_left (fun q => q (of_decide_eq_true h_3))
        rw [ejrc] at hl
        refine lv_aload_n hx hb dX5_divisor_23 rfl (lv_at hl 0 rfl) ?_
        refine lv_iload_n hx hb dX5_divisor_24 rfl (lv_at hl 1 rfl) ?_
        have hoa := hrow jra hjra
        have hob := hrow jrb hjrb
        have hla := hoa.2.1
        have hlb := hob.2.1
        have hda := dg_le (S.1 jra).2 (S.1 jra).1
        have hdb := dg_le (S.1 jrb).2 (S.1 jrb).1
        refine k_callVr (rest := []) (nL := 6) ⟨hx, hb, hml, hown, hts⟩ (c_X5_degreeOf l D cy ad hI v S.1 jra hM (by first | assumption | omega)) (cwV 1 hts gX5_divisor_X5_degreeOf rfl rfl rfl (by decide +kernel) ⟨Nat.le_of_ble_eq_true rfl, Nat.le_of_ble_eq_true rfl⟩) hK hP hS (fun _ h => h) (q0 := 0) (ci := 5) rfl (by decide) mW_obj rfl rfl rfl hl.1 rfl (Nat.le_of_ble_eq_true rfl) dX5_divisor_25 ⟨Nat.zero_le _, Nat.zero_le _⟩ (fun H locs hP hS => ?_)
        have hP : va_P D vwCl (wL 9 ad (mW ad cy (v))) H := hP
        refine lv_bipush (v := (-6 : Int32)) hx hb dX5_divisor_28 (by decide) ?_
        refine lv_icmp_ne (tgt := 46) hx hb dX5_divisor_30 (by decide) (fun h_4 => ?_) (fun h_4 => ?_)
        · skip
          have hnz : 0 < rD (S.1 jra) ∨ 0 < rD (S.1 jrb) := Or.inl (Nat.pos_of_ne_zero (fun z => h_4 ((dV_none (D := dg (S.1 jra).2 (S.1 jra).1) (by omega)).mpr z)))
          refine lv_aload_n hx hb dX5_divisor_46 rfl (lv_at hl 0 rfl) ?_
          refine k_callVv (rest := []) (nL := 6) ⟨hx, hb, hml, hown, hts⟩ (c_X5_record l D cy ad hI v (by first | assumption | omega)) (cwV 0 hts gX5_divisor_X5_record rfl rfl rfl (by decide +kernel) ⟨Nat.le_of_ble_eq_true rfl, Nat.le_of_ble_eq_true rfl⟩) hK hP hS (fun _ h => h) (q0 := 0) (ci := 5) rfl (by decide) mW_obj rfl rfl rfl hl.1 rfl (Nat.le_of_ble_eq_true rfl) dX5_divisor_47 ⟨Nat.zero_le _, Nat.zero_le _⟩ (fun H locs hP hS => ?_)
          have hP : va_P D vwCl (wL 9 ad (mW ad cy (recV v))) H := hP
          obtain ⟨w0, hRw, hMw, ew0⟩ : ∃ z, mRep (recS S) z ∧ mReg S.1 z ∧ z = recV v := ⟨_, mRep_rec hR, hM, rfl⟩
          rw [← ew0] at hP
          refine lv_iconst (v := nI (0)) hx hb dX5_divisor_50 rfl ?_
          refine lv_istore (lv' := [(4, .int (nI (0))), (0, .ref (ad (0))), (1, .int (nI (jra))), (2, .int (nI (jrb))), (3, .int (nI (jrc)))]) hx hb dX5_divisor_51 hl (by decide) rfl (fun ls hl => ?_)
          have lp53 : ∀ (fu : Nat) (k : Nat) (v' : kV), (k ≤ 64) → (v' = ptw (pon w0 (cp1 (S.1 jra).2 (von w0) k)) (cp1 (S.1 jrb).2 (vtw w0) k)) → 64 - k < fu → ∀ (H : Heap) (locs : List Loc), va_P D vwCl (wL 9 ad (mW ad cy (v'))) H → va_S (wA 9 ad) s.heap H locs → ∀ (ls : Array Slot), lv_has ls 6 [(4, .int (nI (k))), (0, .ref (ad (0))), (1, .int (nI (jra))), (2, .int (nI (jrb))), (3, .int (nI (jrc)))] → W p l e ({ frames := 4, cells := 0, slots := 0, locals := 90 } : Room) s m ([.ref (ad (0)), .int (ra), .int (rb), .int (rc)] : List Value).toArray below meth c H locs 0 0 (MQ below (kQ D 9 ad (mW ad cy) (fun o u => o = some (.int (op_divisor S ra rb rc).1) ∧ mRep (op_divisor S ra rb rc).2 u)) ([.ref (ad (0)), .int (ra), .int (rb), .int (rc)] : List Value).toArray s 0 0 (wA 9 ad)) (F0 m 53 ls []) := by
            intro fu
            induction fu with
            | zero => intro k v' hk hv hfu; exact absurd hfu (Nat.not_lt_zero _)
            | succ fu ih53 =>
              intro k v' hk hv hfu H locs hP hS ls hl
              have hM3 : mReg S.1 v' := cpl_M hMw hv
              refine lv_iload hx hb dX5_divisor_53 (lv_at hl 0 rfl) ?_
              refine lv_bipush (v := nI (64)) hx hb dX5_divisor_55 rfl ?_
              refine n_icmp_ge (tgt := 94) hx hb (by omega) (by omega) dX5_divisor_57 (by decide) (fun h_5 => ?_) (fun h_5 => ?_)
              · skip
                have hk64 : k = 64 := by omega
                rw [hk64] at hv
                obtain ⟨v3, hon3, htw3, hR3, hP⟩ := cpl_e hRw hv hP
                have lp94 : ∀ (fu : Nat) (n : Nat) (A2 : kR) (B2 : kR) (v2 : kV), (n + dg B2.2 B2.1 ≤ 64) → (von v2 = A2.2) → (vtw v2 = B2.2) → (rK A2) → (rK B2) → (∀ k, A2.1 ≤ k → A2.2 k = 0) → (∀ k, B2.1 ≤ k → B2.2 k = 0) → (euc (65 - n) A2 B2 = euc 65 (S.1 jra) (S.1 jrb)) → (0 < dg A2.2 A2.1 ∨ 0 < dg B2.2 B2.1) → (mRep (recS S) v2) → dg B2.2 B2.1 < fu → ∀ (H : Heap) (locs : List Loc), va_P D vwCl (wL 9 ad (mW ad cy (v2))) H → va_S (wA 9 ad) s.heap H locs → ∀ (ls : Array Slot), lv_has ls 6 [(0, .ref (ad (0))), (3, .int (nI (jrc)))] → W p l e ({ frames := 4, cells := 0, slots := 0, locals := 90 } : Room) s m ([.ref (ad (0)), .int (ra), .int (rb), .int (rc)] : List Value).toArray below meth c H locs 0 0 (MQ below (kQ D 9 ad (mW ad cy) (fun o u => o = some (.int (op_divisor S ra rb rc).1) ∧ mRep (op_divisor S ra rb rc).2 u)) ([.ref (ad (0)), .int (ra), .int (rb), .int (rc)] : List Value).toArray s 0 0 (wA 9 ad)) (F0 m 94 ls []) := by
                  intro fu
                  induction fu with
                  | zero => intro n A2 B2 v2 hn hvA hvB hKA hKB hZA hZB he hnz2 hR2 hfu; exact absurd hfu (Nat.not_lt_zero _)
                  | succ fu ih94 =>
                    intro n A2 B2 v2 hn hvA hvB hKA hKB hZA hZB he hnz2 hR2 hfu H locs hP hS ls hl
                    have hKA1 := hKA.1
                    have hKB1 := hKB.1
                    have hdA := dg_le A2.2 A2.1
                    have hdB := dg_le B2.2 B2.1
                    refine lv_aload_n hx hb dX5_divisor_94 rfl (lv_at hl 0 rfl) ?_
                    refine k_get (q0 := 0) (k := 10) (T := TX5) (Nf := 11) (ci := 5) (C := RX5) (v := .ref (ad (8))) hx hb hw_X5 hown hK hP (by decide) mW_obj rfl (by decide) hf_33 rfl rfl dX5_divisor_95 ?_
                    refine k_callSr (rest := []) (nL := 6) ⟨hx, hb, hml, hown, hts⟩ (c_X5_degreeIn_tw l D cy ad hI v2 (by rw [hvB]; exact hKB.2)) (va_cwS 1 hts gX5_divisor_X5_degreeIn rfl rfl rfl (by decide +kernel) ⟨Nat.le_of_ble_eq_true rfl, Nat.le_of_ble_eq_true rfl⟩) hK hP hS (fun _ h => h) rfl hl.1 rfl (Nat.le_of_ble_eq_true rfl) dX5_divisor_98 ⟨Nat.zero_le _, Nat.zero_le _⟩ (fun H locs hP hS => ?_)
                    have hP : va_P D vwCl (wL 9 ad (mW ad cy (v2))) H := hP
                    refine i_push (b := dV (dg B2.2 B2.1)) (by rw [hvB, dg_len 64 hKB.1 hZB]) ?_
                    refine lv_bipush (v := (-6 : Int32)) hx hb dX5_divisor_101 (by decide) ?_
                    refine lv_icmp_eq (tgt := 181) hx hb dX5_divisor_103 (by decide) (fun h_6 => ?_) (fun h_6 => ?_)
                    · skip
                      have hB0 : dg B2.2 B2.1 = 0 := (dV_none (by omega)).mp h_6
                      have hG : euc 65 (S.1 jra) (S.1 jrb) = A2 := by rw [← he]; exact euc_0 hB0
                      obtain ⟨g, hg⟩ : ∃ g, dg A2.2 A2.1 = g + 1 := ⟨dg A2.2 A2.1 - 1, by omega⟩
                      refine lv_aload_n hx hb dX5_divisor_181 rfl (lv_at hl 0 rfl) ?_
                      refine k_get (q0 := 0) (k := 9) (T := TX5) (Nf := 11) (ci := 5) (C := RX5) (v := .ref (ad (7))) hx hb hw_X5 hown hK hP (by decide) mW_obj rfl (by decide) hf_30 rfl rfl dX5_divisor_182 ?_
                      refine k_callSr (rest := []) (nL := 6) ⟨hx, hb, hml, hown, hts⟩ (c_X5_degreeIn_on l D cy ad hI v2 (by rw [hvA]; exact hKA.2)) (va_cwS 1 hts gX5_divisor_X5_degreeIn rfl rfl rfl (by decide +kernel) ⟨Nat.le_of_ble_eq_true rfl, Nat.le_of_ble_eq_true rfl⟩) hK hP hS (fun _ h => h) rfl hl.1 rfl (Nat.le_of_ble_eq_true rfl) dX5_divisor_185 ⟨Nat.zero_le _, Nat.zero_le _⟩ (fun H locs hP hS => ?_)
                      have hP : va_P D vwCl (wL 9 ad (mW ad cy (v2))) H := hP
                      refine n_push (a := g) (by rw [hvA, dg_len 64 hKA.1 hZA, hg]; exact dV_s g) ?_
                      refine lv_istore (lv' := [(4, .int (nI (g))), (0, .ref (ad (0))), (3, .int (nI (jrc)))]) hx hb dX5_divisor_188 hl (by decide) rfl (fun ls hl => ?_)
                      refine lv_aload_n hx hb dX5_divisor_190 rfl (lv_at hl 1 rfl) ?_
                      refine lv_iload hx hb dX5_divisor_191 (lv_at hl 0 rfl) ?_
                      refine lv_iconst (v := nI (1)) hx hb dX5_divisor_193 rfl ?_
                      refine n_iadd hx hb dX5_divisor_194 ?_
                      refine k_callVv (rest := []) (nL := 6) ⟨hx, hb, hml, hown, hts⟩ (c_X5_blank l D cy ad hI v2 (g + 1)) (cwV 1 hts gX5_divisor_X5_blank rfl rfl rfl (by decide +kernel) ⟨Nat.le_of_ble_eq_true rfl, Nat.le_of_ble_eq_true rfl⟩) hK hP hS (fun _ h => h) (q0 := 0) (ci := 5) rfl (by decide) mW_obj rfl rfl rfl hl.1 rfl (Nat.le_of_ble_eq_true rfl) dX5_divisor_195 ⟨Nat.zero_le _, Nat.zero_le _⟩ (fun H locs hP hS => ?_)
                      have hP : va_P D vwCl (wL 9 ad (mW ad cy (bla v2 (g + 1)))) H := hP
                      refine lv_iconst (v := nI (0)) hx hb dX5_divisor_198 rfl ?_
                      refine lv_istore (lv' := [(5, .int (nI (0))), (4, .int (nI (g))), (0, .ref (ad (0))), (3, .int (nI (jrc)))]) hx hb dX5_divisor_199 hl (by decide) rfl (fun ls hl => ?_)
                      have lp201 : ∀ (fu : Nat) (k : Nat) (v4 : kV), (k ≤ g + 1) → (v4 = pou (bla v2 (g + 1)) (mnK A2.2 (pw (A2.2 g) 255) k)) → g + 1 - k < fu → ∀ (H : Heap) (locs : List Loc), va_P D vwCl (wL 9 ad (mW ad cy (v4))) H → va_S (wA 9 ad) s.heap H locs → ∀ (ls : Array Slot), lv_has ls 6 [(5, .int (nI (k))), (4, .int (nI (g))), (0, .ref (ad (0))), (3, .int (nI (jrc)))] → W p l e ({ frames := 4, cells := 0, slots := 0, locals := 90 } : Room) s m ([.ref (ad (0)), .int (ra), .int (rb), .int (rc)] : List Value).toArray below meth c H locs 0 0 (MQ below (kQ D 9 ad (mW ad cy) (fun o u => o = some (.int (op_divisor S ra rb rc).1) ∧ mRep (op_divisor S ra rb rc).2 u)) ([.ref (ad (0)), .int (ra), .int (rb), .int (rc)] : List Value).toArray s 0 0 (wA 9 ad)) (F0 m 201 ls []) := by
                        intro fu
                        induction fu with
                        | zero => intro k v4 hk hv4 hfu; exact absurd hfu (Nat.not_lt_zero _)
                        | succ fu ih201 =>
                          intro k v4 hk hv4 hfu H locs hP hS ls hl
                          refine lv_iload hx hb dX5_divisor_201 (lv_at hl 0 rfl) ?_
                          refine lv_iload hx hb dX5_divisor_203 (lv_at hl 1 rfl) ?_
                          refine n_icmp_gt (tgt := 241) hx hb (by omega) (by omega) dX5_divisor_205 (by decide) (fun h_7 => ?_) (fun h_7 => ?_)
                          · skip
                            have hkg : k = g + 1 := by omega
                            rw [hkg] at hv4
                            refine lv_aload_n hx hb dX5_divisor_241 rfl (lv_at hl 2 rfl) ?_
                            refine lv_iload_n hx hb dX5_divisor_242 rfl (lv_at hl 3 rfl) ?_
                            refine k_callVv (rest := []) (nL := 6) ⟨hx, hb, hml, hown, hts⟩ (c_X5_store l D cy ad hI v4 jrc (by first | assumption | omega) (by rw [hv4, vln_o]; omega)) (cwV 1 hts gX5_divisor_X5_store rfl rfl rfl (by decide +kernel) ⟨Nat.le_of_ble_eq_true rfl, Nat.le_of_ble_eq_true rfl⟩) hK hP hS (fun _ h => h) (q0 := 0) (ci := 5) rfl (by decide) mW_obj rfl rfl rfl hl.1 rfl (Nat.le_of_ble_eq_true rfl) dX5_divisor_243 ⟨Nat.zero_le _, Nat.zero_le _⟩ (fun H locs hP hS => ?_)
                            have hP : va_P D vwCl (wL 9 ad (mW ad cy (sto v4 jrc))) H := hP
                            refine lv_iload hx hb dX5_divisor_246 (lv_at hl 1 rfl) ?_
                            refine k_iret hx hb hr hlocks (sto v4 jrc) hP hS dX5_divisor_248 ?_
                            have hGm : gcdR (S.1 jra) (S.1 jrb) = monR A2 := by unfold gcdR; rw [hG]
                            rw [ejra, ejrb, ejrc, op_divisor_x hjra hjrb hjrc, if_neg (by omega), hGm, monR_dg hKA.2 (by omega), hg, dV_s]
                            exact ⟨rfl, mRep.chg (v := v) (by rw [hv4]; exact mRep_ow hR2) hjrc (by rw [hv4, vln_o]; exact hg.symm) (fun k hk => by
                              rw [hv4, vou_o]
                              show (if k < dg A2.2 A2.1 then mnK A2.2 (pw (A2.2 g) 255) (g + 1) k else 0) = _
                              rw [hg, ← mnK_e hg]
                              exact out_z (fun _ z => mnK_z z) k)⟩
                          · skip
                            refine lv_aload_n hx hb dX5_divisor_208 rfl (lv_at hl 2 rfl) ?_
                            refine k_get (q0 := 0) (k := 7) (T := TX5) (Nf := 11) (ci := 5) (C := RX5) (v := .ref (ad (6))) hx hb hw_X5 hown hK hP (by decide) mW_obj rfl (by decide) hf_27 rfl rfl dX5_divisor_209 ?_
                            refine lv_iload hx hb dX5_divisor_212 (lv_at hl 0 rfl) ?_
                            refine lv_aload_n hx hb dX5_divisor_214 rfl (lv_at hl 2 rfl) ?_
                            refine k_get (q0 := 0) (k := 9) (T := TX5) (Nf := 11) (ci := 5) (C := RX5) (v := .ref (ad (7))) hx hb hw_X5 hown hK hP (by decide) mW_obj rfl (by decide) hf_30 rfl rfl dX5_divisor_215 ?_
                            refine lv_iload hx hb dX5_divisor_218 (lv_at hl 0 rfl) ?_
                            refine k_iald (q0 := 7) (j := k) hx hb hK hP (by decide) mW_on (by decide) (by omega) dX5_divisor_220 ?_
                            refine n_same (a := von v4 k) rfl ?_
                            refine n_push (a := A2.2 k) (by rw [hv4]; exact congrArg (fun f => nI (f k)) hvA) ?_
                            refine lv_aload_n hx hb dX5_divisor_221 rfl (lv_at hl 2 rfl) ?_
                            refine k_get (q0 := 0) (k := 9) (T := TX5) (Nf := 11) (ci := 5) (C := RX5) (v := .ref (ad (7))) hx hb hw_X5 hown hK hP (by decide) mW_obj rfl (by decide) hf_30 rfl rfl dX5_divisor_222 ?_
                            refine lv_iload hx hb dX5_divisor_225 (lv_at hl 1 rfl) ?_
                            refine k_iald (q0 := 7) (j := g) hx hb hK hP (by decide) mW_on (by decide) (by omega) dX5_divisor_227 ?_
                            refine n_same (a := von v4 g) rfl ?_
                            refine n_push (a := A2.2 g) (by rw [hv4]; exact congrArg (fun f => nI (f g)) hvA) ?_
                            refine k_callSr (rest := [.int (nI (A2.2 k)), .int (nI (k)), .ref (ad (6))]) (nL := 6) ⟨hx, hb, hml, hown, hts⟩ (c_X5_over l D cy ad hI v4 (A2.2 g) (hKA.2 g)) (va_cwS 1 hts gX5_divisor_X5_over rfl rfl rfl (by decide +kernel) ⟨Nat.le_of_ble_eq_true rfl, Nat.le_of_ble_eq_true rfl⟩) hK hP hS (fun _ h => h) rfl hl.1 rfl (Nat.le_of_ble_eq_true rfl) dX5_divisor_228 ⟨Nat.zero_le _, Nat.zero_le _⟩ (fun H locs hP hS => ?_)
                            have hP : va_P D vwCl (wL 9 ad (mW ad cy (v4))) H := hP
                            refine k_callSr (rest := [.int (nI (k)), .ref (ad (6))]) (nL := 6) ⟨hx, hb, hml, hown, hts⟩ (c_X5_times l D cy ad hI v4 (A2.2 k) (pw (A2.2 g) 255) (hKA.2 k) (pw_lt _ _)) (va_cwS 2 hts gX5_divisor_X5_times rfl rfl rfl (by decide +kernel) ⟨Nat.le_of_ble_eq_true rfl, Nat.le_of_ble_eq_true rfl⟩) hK hP hS (fun _ h => h) rfl hl.1 rfl (Nat.le_of_ble_eq_true rfl) dX5_divisor_231 ⟨Nat.zero_le _, Nat.zero_le _⟩ (fun H locs hP hS => ?_)
                            have hP : va_P D vwCl (wL 9 ad (mW ad cy (v4))) H := hP
                            refine k_iast (q0 := 6) (j := k) (v := nI ((A2.2 k) * (pw (A2.2 g) 255) % 257)) (Wd' := mW ad cy (pou v4 (va_up (vou v4) k ((A2.2 k) * (pw (A2.2 g) 255) % 257)))) hx hb hK hI hP hS (by decide) mW_ou (by decide) (by omega) mW_up_ou dX5_divisor_234 (fun H locs hP hS => ?_)
                            refine lv_iinc (v := nI (k + 1)) (lv' := [(5, .int (nI (k + 1))), (4, .int (nI (g))), (0, .ref (ad (0))), (3, .int (nI (jrc)))]) hx hb dX5_divisor_235 hl (k := 0) rfl (nI_inc _) (by decide) rfl (fun ls hl => ?_)
                            refine lv_goto (tgt := 201) hx hb dX5_divisor_238 (by decide) ?_
                            exact ih201 (k + 1) (pou v4 (va_up (vou v4) k ((A2.2 k) * (pw (A2.2 g) 255) % 257))) (by omega) (by rw [hv4]; exact pou_o (mnK_s _ _ _)) (by omega) _ _ hP hS _ hl
                      exact lp201 (_ + 1) (0) (bla v2 (g + 1)) (Nat.zero_le _) (bla_o (mnK_0 _ _)) (Nat.lt_succ_self _) _ _ hP hS _ hl
                    · skip
                      have hB0 : dg B2.2 B2.1 ≠ 0 := fun z => h_6 ((dV_none (by omega)).mpr z)
                      obtain ⟨d, hd⟩ : ∃ d, dg B2.2 B2.1 = d + 1 := ⟨dg B2.2 B2.1 - 1, by omega⟩
                      refine lv_aload_n hx hb dX5_divisor_106 rfl (lv_at hl 0 rfl) ?_
                      refine lv_bipush (v := nI (64)) hx hb dX5_divisor_107 rfl ?_
                      refine k_callVv (rest := []) (nL := 6) ⟨hx, hb, hml, hown, hts⟩ (c_X5_blank l D cy ad hI v2 64) (cwV 1 hts gX5_divisor_X5_blank rfl rfl rfl (by decide +kernel) ⟨Nat.le_of_ble_eq_true rfl, Nat.le_of_ble_eq_true rfl⟩) hK hP hS (fun _ h => h) (q0 := 0) (ci := 5) rfl (by decide) mW_obj rfl rfl rfl hl.1 rfl (Nat.le_of_ble_eq_true rfl) dX5_divisor_109 ⟨Nat.zero_le _, Nat.zero_le _⟩ (fun H locs hP hS => ?_)
                      have hP : va_P D vwCl (wL 9 ad (mW ad cy (bla v2 64))) H := hP
                      refine lv_aload_n hx hb dX5_divisor_112 rfl (lv_at hl 0 rfl) ?_
                      refine lv_aload_n hx hb dX5_divisor_113 rfl (lv_at hl 0 rfl) ?_
                      refine k_get (q0 := 0) (k := 9) (T := TX5) (Nf := 11) (ci := 5) (C := RX5) (v := .ref (ad (7))) hx hb hw_X5 hown hK hP (by decide) mW_obj rfl (by decide) hf_30 rfl rfl dX5_divisor_114 ?_
                      refine k_callSr (rest := [.ref (ad (0))]) (nL := 6) ⟨hx, hb, hml, hown, hts⟩ (c_X5_degreeIn_on l D cy ad hI (bla v2 64) (bla_on hvA hKA.2)) (va_cwS 1 hts gX5_divisor_X5_degreeIn rfl rfl rfl (by decide +kernel) ⟨Nat.le_of_ble_eq_true rfl, Nat.le_of_ble_eq_true rfl⟩) hK hP hS (fun _ h => h) rfl hl.1 rfl (Nat.le_of_ble_eq_true rfl) dX5_divisor_117 ⟨Nat.zero_le _, Nat.zero_le _⟩ (fun H locs hP hS => ?_)
                      have hP : va_P D vwCl (wL 9 ad (mW ad cy (bla v2 64))) H := hP
                      refine i_push (b := dV (dg A2.2 A2.1)) (by show dV (dg (von v2) 64) = _; rw [hvA, dg_len 64 hKA.1 hZA]) ?_
                      refine lv_aload_n hx hb dX5_divisor_120 rfl (lv_at hl 0 rfl) ?_
                      refine k_get (q0 := 0) (k := 10) (T := TX5) (Nf := 11) (ci := 5) (C := RX5) (v := .ref (ad (8))) hx hb hw_X5 hown hK hP (by decide) mW_obj rfl (by decide) hf_33 rfl rfl dX5_divisor_121 ?_
                      refine k_callSr (rest := [.int (dV (dg A2.2 A2.1)), .ref (ad (0))]) (nL := 6) ⟨hx, hb, hml, hown, hts⟩ (c_X5_degreeIn_tw l D cy ad hI (bla v2 64) (bla_tw hvB hKB.2)) (va_cwS 1 hts gX5_divisor_X5_degreeIn rfl rfl rfl (by decide +kernel) ⟨Nat.le_of_ble_eq_true rfl, Nat.le_of_ble_eq_true rfl⟩) hK hP hS (fun _ h => h) rfl hl.1 rfl (Nat.le_of_ble_eq_true rfl) dX5_divisor_124 ⟨Nat.zero_le _, Nat.zero_le _⟩ (fun H locs hP hS => ?_)
                      have hP : va_P D vwCl (wL 9 ad (mW ad cy (bla v2 64))) H := hP
                      refine n_push (a := d) (by show dV (dg (vtw v2) 64) = _; rw [hvB, dg_len 64 hKB.1 hZB, hd]; exact dV_s d) ?_
                      refine k_callVv (rest := []) (nL := 6) ⟨hx, hb, hml, hown, hts⟩ (c_X5_divideRows l D cy ad hI (bla v2 64) (dg A2.2 A2.1) d (by first | assumption | omega) (by first | assumption | omega) (bla_on hvA hKA.2) (bla_tw hvB hKB.2)) (cwV 2 hts gX5_divisor_X5_divideRows rfl rfl rfl (by decide +kernel) ⟨Nat.le_of_ble_eq_true rfl, Nat.le_of_ble_eq_true rfl⟩) hK hP hS (fun _ h => h) (q0 := 0) (ci := 5) rfl (by decide) mW_obj rfl rfl rfl hl.1 rfl (Nat.le_of_ble_eq_true rfl) dX5_divisor_127 ⟨Nat.zero_le _, Nat.zero_le _⟩ (fun H locs hP hS => ?_)
                      have hP : va_P D vwCl (wL 9 ad (mW ad cy (dvm (bla v2 64) (dg A2.2 A2.1) d))) H := hP
                      obtain ⟨w5, ew5, -, hwr, -, hR5⟩ := dvm_pack (n := 64) (D := dg A2.2 A2.1) (d := d) hvA hvB hR2
                      have htw5 : vtw w5 = B2.2 := by rw [ew5]; exact hvB
                      rw [res_e hKA.2 hZA (hKB.2 d) (dg_top _ _ _ hd)] at hwr
                      rw [← ew5] at hP
                      obtain ⟨rR, erR⟩ : ∃ z, z = resR A2.2 B2.2 (dg A2.2 A2.1) d := ⟨_, rfl⟩
                      rw [← erR] at hwr
                      have hZR : ∀ k, max d 1 ≤ k → rR.2 k = 0 := by rw [erR]; exact resR_Z
                      have hKR : rK rR := by rw [erR]; exact resR_K hKA.2 (by omega)
                      have hdR : dg rR.2 rR.1 ≤ d := by rw [erR]; exact resR_dg (la := A2.1) hKA.2 hZA (hKB.2 d) (dg_top _ _ _ hd)
                      have hR1 : rR.1 = max d 1 := by rw [erR]; rfl
                      have he2 : euc (65 - n) A2 B2 = euc (65 - (n + 1)) B2 rR := by rw [show 65 - n = (65 - (n + 1)) + 1 by omega, euc_s hd, erR]
                      refine lv_iconst (v := nI (0)) hx hb dX5_divisor_130 rfl ?_
                      refine lv_istore (lv' := [(4, .int (nI (0))), (0, .ref (ad (0))), (3, .int (nI (jrc)))]) hx hb dX5_divisor_131 hl (by decide) rfl (fun ls hl => ?_)
                      have lp133 : ∀ (fu : Nat) (k : Nat) (v3 : kV), (k ≤ 64) → (v3 = ptw (pon w5 (cp1 (vtw w5) (von w5) k)) (cp1 (von w5) (vtw w5) k)) → 64 - k < fu → ∀ (H : Heap) (locs : List Loc), va_P D vwCl (wL 9 ad (mW ad cy (v3))) H → va_S (wA 9 ad) s.heap H locs → ∀ (ls : Array Slot), lv_has ls 6 [(4, .int (nI (k))), (0, .ref (ad (0))), (3, .int (nI (jrc)))] → W p l e ({ frames := 4, cells := 0, slots := 0, locals := 90 } : Room) s m ([.ref (ad (0)), .int (ra), .int (rb), .int (rc)] : List Value).toArray below meth c H locs 0 0 (MQ below (kQ D 9 ad (mW ad cy) (fun o u => o = some (.int (op_divisor S ra rb rc).1) ∧ mRep (op_divisor S ra rb rc).2 u)) ([.ref (ad (0)), .int (ra), .int (rb), .int (rc)] : List Value).toArray s 0 0 (wA 9 ad)) (F0 m 133 ls []) := by
                        intro fu
                        induction fu with
                        | zero => intro k v3 hk hv3 hfu; exact absurd hfu (Nat.not_lt_zero _)
                        | succ fu ih133 =>
                          intro k v3 hk hv3 hfu H locs hP hS ls hl
                          refine lv_iload hx hb dX5_divisor_133 (lv_at hl 0 rfl) ?_
                          refine lv_bipush (v := nI (64)) hx hb dX5_divisor_135 rfl ?_
                          refine n_icmp_ge (tgt := 178) hx hb (by omega) (by omega) dX5_divisor_137 (by decide) (fun h_8 => ?_) (fun h_8 => ?_)
                          · skip
                            have hk64 : k = 64 := by omega
                            rw [hk64] at hv3
                            refine lv_goto (tgt := 94) hx hb dX5_divisor_178 (by decide) ?_
                            exact ih94 (n + 1) (B2) (rR) (v3) (by omega) (by
                              rw [hv3]
                              show cp1 (vtw w5) (von w5) 64 = _
                              rw [htw5, hwr]
                              exact cp1_all (fun k hk => (hZB k (by omega)).trans (hZR k (by omega)).symm)) (by
                              rw [hv3]
                              show cp1 (von w5) (vtw w5) 64 = _
                              rw [htw5, hwr]
                              exact cp1_all (fun k hk => (hZR k (by omega)).trans (hZB k (by omega)).symm)) hKB hKR hZB (fun k hk => hZR k (by omega)) (he2.symm.trans he) (Or.inl (by omega)) (by rw [hv3]; exact mRep_tw hR5) (by omega) _ _ hP hS _ (lv_sub hl [1, 2] rfl)
                          · skip
                            refine lv_aload_n hx hb dX5_divisor_140 rfl (lv_at hl 1 rfl) ?_
                            refine k_get (q0 := 0) (k := 9) (T := TX5) (Nf := 11) (ci := 5) (C := RX5) (v := .ref (ad (7))) hx hb hw_X5 hown hK hP (by decide) mW_obj rfl (by decide) hf_30 rfl rfl dX5_divisor_141 ?_
                            refine lv_iload hx hb dX5_divisor_144 (lv_at hl 0 rfl) ?_
                            refine k_iald (q0 := 7) (j := k) hx hb hK hP (by decide) mW_on (by decide) (by omega) dX5_divisor_146 ?_
                            refine n_same (a := von v3 k) rfl ?_
                            refine n_push (a := von w5 k) (by rw [hv3]; exact congrArg nI (cp1_k _ _ _)) ?_
                            refine lv_istore (lv' := [(5, .int (nI (von w5 k))), (4, .int (nI (k))), (0, .ref (ad (0))), (3, .int (nI (jrc)))]) hx hb dX5_divisor_147 hl (by decide) rfl (fun ls hl => ?_)
                            refine lv_aload_n hx hb dX5_divisor_149 rfl (lv_at hl 2 rfl) ?_
                            refine k_get (q0 := 0) (k := 9) (T := TX5) (Nf := 11) (ci := 5) (C := RX5) (v := .ref (ad (7))) hx hb hw_X5 hown hK hP (by decide) mW_obj rfl (by decide) hf_30 rfl rfl dX5_divisor_150 ?_
                            refine lv_iload hx hb dX5_divisor_153 (lv_at hl 1 rfl) ?_
                            refine lv_aload_n hx hb dX5_divisor_155 rfl (lv_at hl 2 rfl) ?_
                            refine k_get (q0 := 0) (k := 10) (T := TX5) (Nf := 11) (ci := 5) (C := RX5) (v := .ref (ad (8))) hx hb hw_X5 hown hK hP (by decide) mW_obj rfl (by decide) hf_33 rfl rfl dX5_divisor_156 ?_
                            refine lv_iload hx hb dX5_divisor_159 (lv_at hl 1 rfl) ?_
                            refine k_iald (q0 := 8) (j := k) hx hb hK hP (by decide) mW_tw (by decide) (by omega) dX5_divisor_161 ?_
                            refine n_same (a := vtw v3 k) rfl ?_
                            refine n_push (a := vtw w5 k) (by rw [hv3]; exact congrArg nI (cp1_k _ _ _)) ?_
                            refine k_iast (q0 := 7) (j := k) (v := nI (vtw w5 k)) (Wd' := mW ad cy (pon v3 (va_up (von v3) k (vtw w5 k)))) hx hb hK hI hP hS (by decide) mW_on (by decide) (by omega) mW_up_on dX5_divisor_162 (fun H locs hP hS => ?_)
                            refine lv_aload_n hx hb dX5_divisor_163 rfl (lv_at hl 2 rfl) ?_
                            refine k_get (q0 := 0) (k := 10) (T := TX5) (Nf := 11) (ci := 5) (C := RX5) (v := .ref (ad (8))) hx hb hw_X5 hown hK hP (by decide) mW_obj rfl (by decide) hf_33 rfl rfl dX5_divisor_164 ?_
                            refine lv_iload hx hb dX5_divisor_167 (lv_at hl 1 rfl) ?_
                            refine lv_iload hx hb dX5_divisor_169 (lv_at hl 0 rfl) ?_
                            refine k_iast (q0 := 8) (j := k) (v := nI (von w5 k)) (Wd' := mW ad cy (ptw (pon v3 (va_up (von v3) k (vtw w5 k))) (va_up (vtw (pon v3 (va_up (von v3) k (vtw w5 k)))) k (von w5 k)))) hx hb hK hI hP hS (by decide) mW_tw (by decide) (by omega) mW_up_tw dX5_divisor_171 (fun H locs hP hS => ?_)
                            refine lv_iinc (v := nI (k + 1)) (lv' := [(4, .int (nI (k + 1))), (5, .int (nI (von w5 k))), (0, .ref (ad (0))), (3, .int (nI (jrc)))]) hx hb dX5_divisor_172 hl (k := 1) rfl (nI_inc _) (by decide) rfl (fun ls hl => ?_)
                            refine lv_goto (tgt := 133) hx hb dX5_divisor_175 (by decide) ?_
                            exact ih133 (k + 1) (ptw (pon v3 (va_up (von v3) k (vtw w5 k))) (va_up (vtw (pon v3 (va_up (von v3) k (vtw w5 k)))) k (von w5 k))) (by omega) (cpl_s hv3) (by omega) _ _ hP hS _ (lv_sub hl [0, 2, 3] rfl)
                      exact lp133 (_ + 1) (0) (w5) (by omega) (cpl_0 _ _ _) (Nat.lt_succ_self _) _ _ hP hS _ hl
                exact lp94 (_ + 1) (0) ((S.1 jra)) ((S.1 jrb)) (v3) (by omega) hon3 htw3 hoa.K hob.K hoa.2.2.2 hob.2.2.2 rfl hnz hR3 (Nat.lt_succ_self _) _ _ hP hS _ (lv_sub hl [1, 4] rfl)
              · skip
                refine lv_aload_n hx hb dX5_divisor_60 rfl (lv_at hl 1 rfl) ?_
                refine k_get (q0 := 0) (k := 9) (T := TX5) (Nf := 11) (ci := 5) (C := RX5) (v := .ref (ad (7))) hx hb hw_X5 hown hK hP (by decide) mW_obj rfl (by decide) hf_30 rfl rfl dX5_divisor_61 ?_
                refine lv_iload hx hb dX5_divisor_64 (lv_at hl 0 rfl) ?_
                refine lv_aload_n hx hb dX5_divisor_66 rfl (lv_at hl 1 rfl) ?_
                refine lv_iload_n hx hb dX5_divisor_67 rfl (lv_at hl 2 rfl) ?_
                refine lv_iload hx hb dX5_divisor_68 (lv_at hl 0 rfl) ?_
                refine k_callVr (rest := [.int (nI (k)), .ref (ad (7))]) (nL := 6) ⟨hx, hb, hml, hown, hts⟩ (c_X5_at l D cy ad hI v' S.1 jra k hM3 (by first | assumption | omega) (by first | assumption | omega)) (cwV 2 hts gX5_divisor_X5_at rfl rfl rfl (by decide +kernel) ⟨Nat.le_of_ble_eq_true rfl, Nat.le_of_ble_eq_true rfl⟩) hK hP hS (fun _ h => h) (q0 := 0) (ci := 5) rfl (by decide) mW_obj rfl rfl rfl hl.1 rfl (Nat.le_of_ble_eq_true rfl) dX5_divisor_70 ⟨Nat.zero_le _, Nat.zero_le _⟩ (fun H locs hP hS => ?_)
                have hP : va_P D vwCl (wL 9 ad (mW ad cy (v'))) H := hP
                refine k_iast (q0 := 7) (j := k) (v := nI ((S.1 jra).2 k)) (Wd' := mW ad cy (pon v' (va_up (von v') k ((S.1 jra).2 k)))) hx hb hK hI hP hS (by decide) mW_on (by decide) (by omega) mW_up_on dX5_divisor_73 (fun H locs hP hS => ?_)
                refine lv_aload_n hx hb dX5_divisor_74 rfl (lv_at hl 1 rfl) ?_
                refine k_get (q0 := 0) (k := 10) (T := TX5) (Nf := 11) (ci := 5) (C := RX5) (v := .ref (ad (8))) hx hb hw_X5 hown hK hP (by decide) mW_obj rfl (by decide) hf_33 rfl rfl dX5_divisor_75 ?_
                refine lv_iload hx hb dX5_divisor_78 (lv_at hl 0 rfl) ?_
                refine lv_aload_n hx hb dX5_divisor_80 rfl (lv_at hl 1 rfl) ?_
                refine lv_iload_n hx hb dX5_divisor_81 rfl (lv_at hl 3 rfl) ?_
                refine lv_iload hx hb dX5_divisor_82 (lv_at hl 0 rfl) ?_
                refine k_callVr (rest := [.int (nI (k)), .ref (ad (8))]) (nL := 6) ⟨hx, hb, hml, hown, hts⟩ (c_X5_at l D cy ad hI (pon v' (va_up (von v') k ((S.1 jra).2 k))) S.1 jrb k hM3 (by first | assumption | omega) (by first | assumption | omega)) (cwV 2 hts gX5_divisor_X5_at rfl rfl rfl (by decide +kernel) ⟨Nat.le_of_ble_eq_true rfl, Nat.le_of_ble_eq_true rfl⟩) hK hP hS (fun _ h => h) (q0 := 0) (ci := 5) rfl (by decide) mW_obj rfl rfl rfl hl.1 rfl (Nat.le_of_ble_eq_true rfl) dX5_divisor_84 ⟨Nat.zero_le _, Nat.zero_le _⟩ (fun H locs hP hS => ?_)
                have hP : va_P D vwCl (wL 9 ad (mW ad cy (pon v' (va_up (von v') k ((S.1 jra).2 k))))) H := hP
                refine k_iast (q0 := 8) (j := k) (v := nI ((S.1 jrb).2 k)) (Wd' := mW ad cy (ptw (pon v' (va_up (von v') k ((S.1 jra).2 k))) (va_up (vtw (pon v' (va_up (von v') k ((S.1 jra).2 k)))) k ((S.1 jrb).2 k)))) hx hb hK hI hP hS (by decide) mW_tw (by decide) (by omega) mW_up_tw dX5_divisor_87 (fun H locs hP hS => ?_)
                refine lv_iinc (v := nI (k + 1)) (lv' := [(4, .int (nI (k + 1))), (0, .ref (ad (0))), (1, .int (nI (jra))), (2, .int (nI (jrb))), (3, .int (nI (jrc)))]) hx hb dX5_divisor_88 hl (k := 0) rfl (nI_inc _) (by decide) rfl (fun ls hl => ?_)
                refine lv_goto (tgt := 53) hx hb dX5_divisor_91 (by decide) ?_
                exact ih53 (k + 1) (ptw (pon v' (va_up (von v') k ((S.1 jra).2 k))) (va_up (vtw (pon v' (va_up (von v') k ((S.1 jra).2 k)))) k ((S.1 jrb).2 k))) (by omega) (cpl_s hv) (by omega) _ _ hP hS _ hl
          exact lp53 (_ + 1) (0) (w0) (by omega) (cpl_0 _ _ _) (Nat.lt_succ_self _) _ _ hP hS _ hl
        · skip
          have hza : rD (S.1 jra) = 0 := (dV_none (D := dg (S.1 jra).2 (S.1 jra).1) (by omega)).mp h_4
          refine lv_aload_n hx hb dX5_divisor_33 rfl (lv_at hl 0 rfl) ?_
          refine lv_iload_n hx hb dX5_divisor_34 rfl (lv_at hl 2 rfl) ?_
          refine k_callVr (rest := []) (nL := 6) ⟨hx, hb, hml, hown, hts⟩ (c_X5_degreeOf l D cy ad hI v S.1 jrb hM (by first | assumption | omega)) (cwV 1 hts gX5_divisor_X5_degreeOf rfl rfl rfl (by decide +kernel) ⟨Nat.le_of_ble_eq_true rfl, Nat.le_of_ble_eq_true rfl⟩) hK hP hS (fun _ h => h) (q0 := 0) (ci := 5) rfl (by decide) mW_obj rfl rfl rfl hl.1 rfl (Nat.le_of_ble_eq_true rfl) dX5_divisor_35 ⟨Nat.zero_le _, Nat.zero_le _⟩ (fun H locs hP hS => ?_)
          have hP : va_P D vwCl (wL 9 ad (mW ad cy (v))) H := hP
          refine lv_bipush (v := (-6 : Int32)) hx hb dX5_divisor_38 (by decide) ?_
          refine lv_icmp_ne (tgt := 46) hx hb dX5_divisor_40 (by decide) (fun h_9 => ?_) (fun h_9 => ?_)
          · skip
            have hnz : 0 < rD (S.1 jra) ∨ 0 < rD (S.1 jrb) := Or.inr (Nat.pos_of_ne_zero (fun z => h_9 ((dV_none (D := dg (S.1 jrb).2 (S.1 jrb).1) (by omega)).mpr z)))
            refine lv_aload_n hx hb dX5_divisor_46 rfl (lv_at hl 0 rfl) ?_
            refine k_callVv (rest := []) (nL := 6) ⟨hx, hb, hml, hown, hts⟩ (c_X5_record l D cy ad hI v (by first | assumption | omega)) (cwV 0 hts gX5_divisor_X5_record rfl rfl rfl (by decide +kernel) ⟨Nat.le_of_ble_eq_true rfl, Nat.le_of_ble_eq_true rfl⟩) hK hP hS (fun _ h => h) (q0 := 0) (ci := 5) rfl (by decide) mW_obj rfl rfl rfl hl.1 rfl (Nat.le_of_ble_eq_true rfl) dX5_divisor_47 ⟨Nat.zero_le _, Nat.zero_le _⟩ (fun H locs hP hS => ?_)
            have hP : va_P D vwCl (wL 9 ad (mW ad cy (recV v))) H := hP
            obtain ⟨w0, hRw, hMw, ew0⟩ : ∃ z, mRep (recS S) z ∧ mReg S.1 z ∧ z = recV v := ⟨_, mRep_rec hR, hM, rfl⟩
            rw [← ew0] at hP
            refine lv_iconst (v := nI (0)) hx hb dX5_divisor_50 rfl ?_
            refine lv_istore (lv' := [(4, .int (nI (0))), (0, .ref (ad (0))), (1, .int (nI (jra))), (2, .int (nI (jrb))), (3, .int (nI (jrc)))]) hx hb dX5_divisor_51 hl (by decide) rfl (fun ls hl => ?_)
            have lp53 : ∀ (fu : Nat) (k : Nat) (v' : kV), (k ≤ 64) → (v' = ptw (pon w0 (cp1 (S.1 jra).2 (von w0) k)) (cp1 (S.1 jrb).2 (vtw w0) k)) → 64 - k < fu → ∀ (H : Heap) (locs : List Loc), va_P D vwCl (wL 9 ad (mW ad cy (v'))) H → va_S (wA 9 ad) s.heap H locs → ∀ (ls : Array Slot), lv_has ls 6 [(4, .int (nI (k))), (0, .ref (ad (0))), (1, .int (nI (jra))), (2, .int (nI (jrb))), (3, .int (nI (jrc)))] → W p l e ({ frames := 4, cells := 0, slots := 0, locals := 90 } : Room) s m ([.ref (ad (0)), .int (ra), .int (rb), .int (rc)] : List Value).toArray below meth c H locs 0 0 (MQ below (kQ D 9 ad (mW ad cy) (fun o u => o = some (.int (op_divisor S ra rb rc).1) ∧ mRep (op_divisor S ra rb rc).2 u)) ([.ref (ad (0)), .int (ra), .int (rb), .int (rc)] : List Value).toArray s 0 0 (wA 9 ad)) (F0 m 53 ls []) := by
              intro fu
              induction fu with
              | zero => intro k v' hk hv hfu; exact absurd hfu (Nat.not_lt_zero _)
              | succ fu ih53 =>
                intro k v' hk hv hfu H locs hP hS ls hl
                have hM3 : mReg S.1 v' := cpl_M hMw hv
                refine lv_iload hx hb dX5_divisor_53 (lv_at hl 0 rfl) ?_
                refine lv_bipush (v := nI (64)) hx hb dX5_divisor_55 rfl ?_
                refine n_icmp_ge (tgt := 94) hx hb (by omega) (by omega) dX5_divisor_57 (by decide) (fun h_10 => ?_) (fun h_10 => ?_)
                · skip
                  have hk64 : k = 64 := by omega
                  rw [hk64] at hv
                  obtain ⟨v3, hon3, htw3, hR3, hP⟩ := cpl_e hRw hv hP
                  have lp94 : ∀ (fu : Nat) (n : Nat) (A2 : kR) (B2 : kR) (v2 : kV), (n + dg B2.2 B2.1 ≤ 64) → (von v2 = A2.2) → (vtw v2 = B2.2) → (rK A2) → (rK B2) → (∀ k, A2.1 ≤ k → A2.2 k = 0) → (∀ k, B2.1 ≤ k → B2.2 k = 0) → (euc (65 - n) A2 B2 = euc 65 (S.1 jra) (S.1 jrb)) → (0 < dg A2.2 A2.1 ∨ 0 < dg B2.2 B2.1) → (mRep (recS S) v2) → dg B2.2 B2.1 < fu → ∀ (H : Heap) (locs : List Loc), va_P D vwCl (wL 9 ad (mW ad cy (v2))) H → va_S (wA 9 ad) s.heap H locs → ∀ (ls : Array Slot), lv_has ls 6 [(0, .ref (ad (0))), (3, .int (nI (jrc)))] → W p l e ({ frames := 4, cells := 0, slots := 0, locals := 90 } : Room) s m ([.ref (ad (0)), .int (ra), .int (rb), .int (rc)] : List Value).toArray below meth c H locs 0 0 (MQ below (kQ D 9 ad (mW ad cy) (fun o u => o = some (.int (op_divisor S ra rb rc).1) ∧ mRep (op_divisor S ra rb rc).2 u)) ([.ref (ad (0)), .int (ra), .int (rb), .int (rc)] : List Value).toArray s 0 0 (wA 9 ad)) (F0 m 94 ls []) := by
                    intro fu
                    induction fu with
                    | zero => intro n A2 B2 v2 hn hvA hvB hKA hKB hZA hZB he hnz2 hR2 hfu; exact absurd hfu (Nat.not_lt_zero _)
                    | succ fu ih94 =>
                      intro n A2 B2 v2 hn hvA hvB hKA hKB hZA hZB he hnz2 hR2 hfu H locs hP hS ls hl
                      have hKA1 := hKA.1
                      have hKB1 := hKB.1
                      have hdA := dg_le A2.2 A2.1
                      have hdB := dg_le B2.2 B2.1
                      refine lv_aload_n hx hb dX5_divisor_94 rfl (lv_at hl 0 rfl) ?_
                      refine k_get (q0 := 0) (k := 10) (T := TX5) (Nf := 11) (ci := 5) (C := RX5) (v := .ref (ad (8))) hx hb hw_X5 hown hK hP (by decide) mW_obj rfl (by decide) hf_33 rfl rfl dX5_divisor_95 ?_
                      refine k_callSr (rest := []) (nL := 6) ⟨hx, hb, hml, hown, hts⟩ (c_X5_degreeIn_tw l D cy ad hI v2 (by rw [hvB]; exact hKB.2)) (va_cwS 1 hts gX5_divisor_X5_degreeIn rfl rfl rfl (by decide +kernel) ⟨Nat.le_of_ble_eq_true rfl, Nat.le_of_ble_eq_true rfl⟩) hK hP hS (fun _ h => h) rfl hl.1 rfl (Nat.le_of_ble_eq_true rfl) dX5_divisor_98 ⟨Nat.zero_le _, Nat.zero_le _⟩ (fun H locs hP hS => ?_)
                      have hP : va_P D vwCl (wL 9 ad (mW ad cy (v2))) H := hP
                      refine i_push (b := dV (dg B2.2 B2.1)) (by rw [hvB, dg_len 64 hKB.1 hZB]) ?_
                      refine lv_bipush (v := (-6 : Int32)) hx hb dX5_divisor_101 (by decide) ?_
                      refine lv_icmp_eq (tgt := 181) hx hb dX5_divisor_103 (by decide) (fun h_11 => ?_) (fun h_11 => ?_)
                      · skip
                        have hB0 : dg B2.2 B2.1 = 0 := (dV_none (by omega)).mp h_11
                        have hG : euc 65 (S.1 jra) (S.1 jrb) = A2 := by rw [← he]; exact euc_0 hB0
                        obtain ⟨g, hg⟩ : ∃ g, dg A2.2 A2.1 = g + 1 := ⟨dg A2.2 A2.1 - 1, by omega⟩
                        refine lv_aload_n hx hb dX5_divisor_181 rfl (lv_at hl 0 rfl) ?_
                        refine k_get (q0 := 0) (k := 9) (T := TX5) (Nf := 11) (ci := 5) (C := RX5) (v := .ref (ad (7))) hx hb hw_X5 hown hK hP (by decide) mW_obj rfl (by decide) hf_30 rfl rfl dX5_divisor_182 ?_
                        refine k_callSr (rest := []) (nL := 6) ⟨hx, hb, hml, hown, hts⟩ (c_X5_degreeIn_on l D cy ad hI v2 (by rw [hvA]; exact hKA.2)) (va_cwS 1 hts gX5_divisor_X5_degreeIn rfl rfl rfl (by decide +kernel) ⟨Nat.le_of_ble_eq_true rfl, Nat.le_of_ble_eq_true rfl⟩) hK hP hS (fun _ h => h) rfl hl.1 rfl (Nat.le_of_ble_eq_true rfl) dX5_divisor_185 ⟨Nat.zero_le _, Nat.zero_le _⟩ (fun H locs hP hS => ?_)
                        have hP : va_P D vwCl (wL 9 ad (mW ad cy (v2))) H := hP
                        refine n_push (a := g) (by rw [hvA, dg_len 64 hKA.1 hZA, hg]; exact dV_s g) ?_
                        refine lv_istore (lv' := [(4, .int (nI (g))), (0, .ref (ad (0))), (3, .int (nI (jrc)))]) hx hb dX5_divisor_188 hl (by decide) rfl (fun ls hl => ?_)
                        refine lv_aload_n hx hb dX5_divisor_190 rfl (lv_at hl 1 rfl) ?_
                        refine lv_iload hx hb dX5_divisor_191 (lv_at hl 0 rfl) ?_
                        refine lv_iconst (v := nI (1)) hx hb dX5_divisor_193 rfl ?_
                        refine n_iadd hx hb dX5_divisor_194 ?_
                        refine k_callVv (rest := []) (nL := 6) ⟨hx, hb, hml, hown, hts⟩ (c_X5_blank l D cy ad hI v2 (g + 1)) (cwV 1 hts gX5_divisor_X5_blank rfl rfl rfl (by decide +kernel) ⟨Nat.le_of_ble_eq_true rfl, Nat.le_of_ble_eq_true rfl⟩) hK hP hS (fun _ h => h) (q0 := 0) (ci := 5) rfl (by decide) mW_obj rfl rfl rfl hl.1 rfl (Nat.le_of_ble_eq_true rfl) dX5_divisor_195 ⟨Nat.zero_le _, Nat.zero_le _⟩ (fun H locs hP hS => ?_)
                        have hP : va_P D vwCl (wL 9 ad (mW ad cy (bla v2 (g + 1)))) H := hP
                        refine lv_iconst (v := nI (0)) hx hb dX5_divisor_198 rfl ?_
                        refine lv_istore (lv' := [(5, .int (nI (0))), (4, .int (nI (g))), (0, .ref (ad (0))), (3, .int (nI (jrc)))]) hx hb dX5_divisor_199 hl (by decide) rfl (fun ls hl => ?_)
                        have lp201 : ∀ (fu : Nat) (k : Nat) (v4 : kV), (k ≤ g + 1) → (v4 = pou (bla v2 (g + 1)) (mnK A2.2 (pw (A2.2 g) 255) k)) → g + 1 - k < fu → ∀ (H : Heap) (locs : List Loc), va_P D vwCl (wL 9 ad (mW ad cy (v4))) H → va_S (wA 9 ad) s.heap H locs → ∀ (ls : Array Slot), lv_has ls 6 [(5, .int (nI (k))), (4, .int (nI (g))), (0, .ref (ad (0))), (3, .int (nI (jrc)))] → W p l e ({ frames := 4, cells := 0, slots := 0, locals := 90 } : Room) s m ([.ref (ad (0)), .int (ra), .int (rb), .int (rc)] : List Value).toArray below meth c H locs 0 0 (MQ below (kQ D 9 ad (mW ad cy) (fun o u => o = some (.int (op_divisor S ra rb rc).1) ∧ mRep (op_divisor S ra rb rc).2 u)) ([.ref (ad (0)), .int (ra), .int (rb), .int (rc)] : List Value).toArray s 0 0 (wA 9 ad)) (F0 m 201 ls []) := by
                          intro fu
                          induction fu with
                          | zero => intro k v4 hk hv4 hfu; exact absurd hfu (Nat.not_lt_zero _)
                          | succ fu ih201 =>
                            intro k v4 hk hv4 hfu H locs hP hS ls hl
                            refine lv_iload hx hb dX5_divisor_201 (lv_at hl 0 rfl) ?_
                            refine lv_iload hx hb dX5_divisor_203 (lv_at hl 1 rfl) ?_
                            refine n_icmp_gt (tgt := 241) hx hb (by omega) (by omega) dX5_divisor_205 (by decide) (fun h_12 => ?_) (fun h_12 => ?_)
                            · skip
                              have hkg : k = g + 1 := by omega
                              rw [hkg] at hv4
                              refine lv_aload_n hx hb dX5_divisor_241 rfl (lv_at hl 2 rfl) ?_
                              refine lv_iload_n hx hb dX5_divisor_242 rfl (lv_at hl 3 rfl) ?_
                              refine k_callVv (rest := []) (nL := 6) ⟨hx, hb, hml, hown, hts⟩ (c_X5_store l D cy ad hI v4 jrc (by first | assumption | omega) (by rw [hv4, vln_o]; omega)) (cwV 1 hts gX5_divisor_X5_store rfl rfl rfl (by decide +kernel) ⟨Nat.le_of_ble_eq_true rfl, Nat.le_of_ble_eq_true rfl⟩) hK hP hS (fun _ h => h) (q0 := 0) (ci := 5) rfl (by decide) mW_obj rfl rfl rfl hl.1 rfl (Nat.le_of_ble_eq_true rfl) dX5_divisor_243 ⟨Nat.zero_le _, Nat.zero_le _⟩ (fun H locs hP hS => ?_)
                              have hP : va_P D vwCl (wL 9 ad (mW ad cy (sto v4 jrc))) H := hP
                              refine lv_iload hx hb dX5_divisor_246 (lv_at hl 1 rfl) ?_
                              refine k_iret hx hb hr hlocks (sto v4 jrc) hP hS dX5_divisor_248 ?_
                              have hGm : gcdR (S.1 jra) (S.1 jrb) = monR A2 := by unfold gcdR; rw [hG]
                              rw [ejra, ejrb, ejrc, op_divisor_x hjra hjrb hjrc, if_neg (by omega), hGm, monR_dg hKA.2 (by omega), hg, dV_s]
                              exact ⟨rfl, mRep.chg (v := v) (by rw [hv4]; exact mRep_ow hR2) hjrc (by rw [hv4, vln_o]; exact hg.symm) (fun k hk => by
                                rw [hv4, vou_o]
                                show (if k < dg A2.2 A2.1 then mnK A2.2 (pw (A2.2 g) 255) (g + 1) k else 0) = _
                                rw [hg, ← mnK_e hg]
                                exact out_z (fun _ z => mnK_z z) k)⟩
                            · skip
                              refine lv_aload_n hx hb dX5_divisor_208 rfl (lv_at hl 2 rfl) ?_
                              refine k_get (q0 := 0) (k := 7) (T := TX5) (Nf := 11) (ci := 5) (C := RX5) (v := .ref (ad (6))) hx hb hw_X5 hown hK hP (by decide) mW_obj rfl (by decide) hf_27 rfl rfl dX5_divisor_209 ?_
                              refine lv_iload hx hb dX5_divisor_212 (lv_at hl 0 rfl) ?_
                              refine lv_aload_n hx hb dX5_divisor_214 rfl (lv_at hl 2 rfl) ?_
                              refine k_get (q0 := 0) (k := 9) (T := TX5) (Nf := 11) (ci := 5) (C := RX5) (v := .ref (ad (7))) hx hb hw_X5 hown hK hP (by decide) mW_obj rfl (by decide) hf_30 rfl rfl dX5_divisor_215 ?_
                              refine lv_iload hx hb dX5_divisor_218 (lv_at hl 0 rfl) ?_
                              refine k_iald (q0 := 7) (j := k) hx hb hK hP (by decide) mW_on (by decide) (by omega) dX5_divisor_220 ?_
                              refine n_same (a := von v4 k) rfl ?_
                              refine n_push (a := A2.2 k) (by rw [hv4]; exact congrArg (fun f => nI (f k)) hvA) ?_
                              refine lv_aload_n hx hb dX5_divisor_221 rfl (lv_at hl 2 rfl) ?_
                              refine k_get (q0 := 0) (k := 9) (T := TX5) (Nf := 11) (ci := 5) (C := RX5) (v := .ref (ad (7))) hx hb hw_X5 hown hK hP (by decide) mW_obj rfl (by decide) hf_30 rfl rfl dX5_divisor_222 ?_
                              refine lv_iload hx hb dX5_divisor_225 (lv_at hl 1 rfl) ?_
                              refine k_iald (q0 := 7) (j := g) hx hb hK hP (by decide) mW_on (by decide) (by omega) dX5_divisor_227 ?_
                              refine n_same (a := von v4 g) rfl ?_
                              refine n_push (a := A2.2 g) (by rw [hv4]; exact congrArg (fun f => nI (f g)) hvA) ?_
                              refine k_callSr (rest := [.int (nI (A2.2 k)), .int (nI (k)), .ref (ad (6))]) (nL := 6) ⟨hx, hb, hml, hown, hts⟩ (c_X5_over l D cy ad hI v4 (A2.2 g) (hKA.2 g)) (va_cwS 1 hts gX5_divisor_X5_over rfl rfl rfl (by decide +kernel) ⟨Nat.le_of_ble_eq_true rfl, Nat.le_of_ble_eq_true rfl⟩) hK hP hS (fun _ h => h) rfl hl.1 rfl (Nat.le_of_ble_eq_true rfl) dX5_divisor_228 ⟨Nat.zero_le _, Nat.zero_le _⟩ (fun H locs hP hS => ?_)
                              have hP : va_P D vwCl (wL 9 ad (mW ad cy (v4))) H := hP
                              refine k_callSr (rest := [.int (nI (k)), .ref (ad (6))]) (nL := 6) ⟨hx, hb, hml, hown, hts⟩ (c_X5_times l D cy ad hI v4 (A2.2 k) (pw (A2.2 g) 255) (hKA.2 k) (pw_lt _ _)) (va_cwS 2 hts gX5_divisor_X5_times rfl rfl rfl (by decide +kernel) ⟨Nat.le_of_ble_eq_true rfl, Nat.le_of_ble_eq_true rfl⟩) hK hP hS (fun _ h => h) rfl hl.1 rfl (Nat.le_of_ble_eq_true rfl) dX5_divisor_231 ⟨Nat.zero_le _, Nat.zero_le _⟩ (fun H locs hP hS => ?_)
                              have hP : va_P D vwCl (wL 9 ad (mW ad cy (v4))) H := hP
                              refine k_iast (q0 := 6) (j := k) (v := nI ((A2.2 k) * (pw (A2.2 g) 255) % 257)) (Wd' := mW ad cy (pou v4 (va_up (vou v4) k ((A2.2 k) * (pw (A2.2 g) 255) % 257)))) hx hb hK hI hP hS (by decide) mW_ou (by decide) (by omega) mW_up_ou dX5_divisor_234 (fun H locs hP hS => ?_)
                              refine lv_iinc (v := nI (k + 1)) (lv' := [(5, .int (nI (k + 1))), (4, .int (nI (g))), (0, .ref (ad (0))), (3, .int (nI (jrc)))]) hx hb dX5_divisor_235 hl (k := 0) rfl (nI_inc _) (by decide) rfl (fun ls hl => ?_)
                              refine lv_goto (tgt := 201) hx hb dX5_divisor_238 (by decide) ?_
                              exact ih201 (k + 1) (pou v4 (va_up (vou v4) k ((A2.2 k) * (pw (A2.2 g) 255) % 257))) (by omega) (by rw [hv4]; exact pou_o (mnK_s _ _ _)) (by omega) _ _ hP hS _ hl
                        exact lp201 (_ + 1) (0) (bla v2 (g + 1)) (Nat.zero_le _) (bla_o (mnK_0 _ _)) (Nat.lt_succ_self _) _ _ hP hS _ hl
                      · skip
                        have hB0 : dg B2.2 B2.1 ≠ 0 := fun z => h_11 ((dV_none (by omega)).mpr z)
                        obtain ⟨d, hd⟩ : ∃ d, dg B2.2 B2.1 = d + 1 := ⟨dg B2.2 B2.1 - 1, by omega⟩
                        refine lv_aload_n hx hb dX5_divisor_106 rfl (lv_at hl 0 rfl) ?_
                        refine lv_bipush (v := nI (64)) hx hb dX5_divisor_107 rfl ?_
                        refine k_callVv (rest := []) (nL := 6) ⟨hx, hb, hml, hown, hts⟩ (c_X5_blank l D cy ad hI v2 64) (cwV 1 hts gX5_divisor_X5_blank rfl rfl rfl (by decide +kernel) ⟨Nat.le_of_ble_eq_true rfl, Nat.le_of_ble_eq_true rfl⟩) hK hP hS (fun _ h => h) (q0 := 0) (ci := 5) rfl (by decide) mW_obj rfl rfl rfl hl.1 rfl (Nat.le_of_ble_eq_true rfl) dX5_divisor_109 ⟨Nat.zero_le _, Nat.zero_le _⟩ (fun H locs hP hS => ?_)
                        have hP : va_P D vwCl (wL 9 ad (mW ad cy (bla v2 64))) H := hP
                        refine lv_aload_n hx hb dX5_divisor_112 rfl (lv_at hl 0 rfl) ?_
                        refine lv_aload_n hx hb dX5_divisor_113 rfl (lv_at hl 0 rfl) ?_
                        refine k_get (q0 := 0) (k := 9) (T := TX5) (Nf := 11) (ci := 5) (C := RX5) (v := .ref (ad (7))) hx hb hw_X5 hown hK hP (by decide) mW_obj rfl (by decide) hf_30 rfl rfl dX5_divisor_114 ?_
                        refine k_callSr (rest := [.ref (ad (0))]) (nL := 6) ⟨hx, hb, hml, hown, hts⟩ (c_X5_degreeIn_on l D cy ad hI (bla v2 64) (bla_on hvA hKA.2)) (va_cwS 1 hts gX5_divisor_X5_degreeIn rfl rfl rfl (by decide +kernel) ⟨Nat.le_of_ble_eq_true rfl, Nat.le_of_ble_eq_true rfl⟩) hK hP hS (fun _ h => h) rfl hl.1 rfl (Nat.le_of_ble_eq_true rfl) dX5_divisor_117 ⟨Nat.zero_le _, Nat.zero_le _⟩ (fun H locs hP hS => ?_)
                        have hP : va_P D vwCl (wL 9 ad (mW ad cy (bla v2 64))) H := hP
                        refine i_push (b := dV (dg A2.2 A2.1)) (by show dV (dg (von v2) 64) = _; rw [hvA, dg_len 64 hKA.1 hZA]) ?_
                        refine lv_aload_n hx hb dX5_divisor_120 rfl (lv_at hl 0 rfl) ?_
                        refine k_get (q0 := 0) (k := 10) (T := TX5) (Nf := 11) (ci := 5) (C := RX5) (v := .ref (ad (8))) hx hb hw_X5 hown hK hP (by decide) mW_obj rfl (by decide) hf_33 rfl rfl dX5_divisor_121 ?_
                        refine k_callSr (rest := [.int (dV (dg A2.2 A2.1)), .ref (ad (0))]) (nL := 6) ⟨hx, hb, hml, hown, hts⟩ (c_X5_degreeIn_tw l D cy ad hI (bla v2 64) (bla_tw hvB hKB.2)) (va_cwS 1 hts gX5_divisor_X5_degreeIn rfl rfl rfl (by decide +kernel) ⟨Nat.le_of_ble_eq_true rfl, Nat.le_of_ble_eq_true rfl⟩) hK hP hS (fun _ h => h) rfl hl.1 rfl (Nat.le_of_ble_eq_true rfl) dX5_divisor_124 ⟨Nat.zero_le _, Nat.zero_le _⟩ (fun H locs hP hS => ?_)
                        have hP : va_P D vwCl (wL 9 ad (mW ad cy (bla v2 64))) H := hP
                        refine n_push (a := d) (by show dV (dg (vtw v2) 64) = _; rw [hvB, dg_len 64 hKB.1 hZB, hd]; exact dV_s d) ?_
                        refine k_callVv (rest := []) (nL := 6) ⟨hx, hb, hml, hown, hts⟩ (c_X5_divideRows l D cy ad hI (bla v2 64) (dg A2.2 A2.1) d (by first | assumption | omega) (by first | assumption | omega) (bla_on hvA hKA.2) (bla_tw hvB hKB.2)) (cwV 2 hts gX5_divisor_X5_divideRows rfl rfl rfl (by decide +kernel) ⟨Nat.le_of_ble_eq_true rfl, Nat.le_of_ble_eq_true rfl⟩) hK hP hS (fun _ h => h) (q0 := 0) (ci := 5) rfl (by decide) mW_obj rfl rfl rfl hl.1 rfl (Nat.le_of_ble_eq_true rfl) dX5_divisor_127 ⟨Nat.zero_le _, Nat.zero_le _⟩ (fun H locs hP hS => ?_)
                        have hP : va_P D vwCl (wL 9 ad (mW ad cy (dvm (bla v2 64) (dg A2.2 A2.1) d))) H := hP
                        obtain ⟨w5, ew5, -, hwr, -, hR5⟩ := dvm_pack (n := 64) (D := dg A2.2 A2.1) (d := d) hvA hvB hR2
                        have htw5 : vtw w5 = B2.2 := by rw [ew5]; exact hvB
                        rw [res_e hKA.2 hZA (hKB.2 d) (dg_top _ _ _ hd)] at hwr
                        rw [← ew5] at hP
                        obtain ⟨rR, erR⟩ : ∃ z, z = resR A2.2 B2.2 (dg A2.2 A2.1) d := ⟨_, rfl⟩
                        rw [← erR] at hwr
                        have hZR : ∀ k, max d 1 ≤ k → rR.2 k = 0 := by rw [erR]; exact resR_Z
                        have hKR : rK rR := by rw [erR]; exact resR_K hKA.2 (by omega)
                        have hdR : dg rR.2 rR.1 ≤ d := by rw [erR]; exact resR_dg (la := A2.1) hKA.2 hZA (hKB.2 d) (dg_top _ _ _ hd)
                        have hR1 : rR.1 = max d 1 := by rw [erR]; rfl
                        have he2 : euc (65 - n) A2 B2 = euc (65 - (n + 1)) B2 rR := by rw [show 65 - n = (65 - (n + 1)) + 1 by omega, euc_s hd, erR]
                        refine lv_iconst (v := nI (0)) hx hb dX5_divisor_130 rfl ?_
                        refine lv_istore (lv' := [(4, .int (nI (0))), (0, .ref (ad (0))), (3, .int (nI (jrc)))]) hx hb dX5_divisor_131 hl (by decide) rfl (fun ls hl => ?_)
                        have lp133 : ∀ (fu : Nat) (k : Nat) (v3 : kV), (k ≤ 64) → (v3 = ptw (pon w5 (cp1 (vtw w5) (von w5) k)) (cp1 (von w5) (vtw w5) k)) → 64 - k < fu → ∀ (H : Heap) (locs : List Loc), va_P D vwCl (wL 9 ad (mW ad cy (v3))) H → va_S (wA 9 ad) s.heap H locs → ∀ (ls : Array Slot), lv_has ls 6 [(4, .int (nI (k))), (0, .ref (ad (0))), (3, .int (nI (jrc)))] → W p l e ({ frames := 4, cells := 0, slots := 0, locals := 90 } : Room) s m ([.ref (ad (0)), .int (ra), .int (rb), .int (rc)] : List Value).toArray below meth c H locs 0 0 (MQ below (kQ D 9 ad (mW ad cy) (fun o u => o = some (.int (op_divisor S ra rb rc).1) ∧ mRep (op_divisor S ra rb rc).2 u)) ([.ref (ad (0)), .int (ra), .int (rb), .int (rc)] : List Value).toArray s 0 0 (wA 9 ad)) (F0 m 133 ls []) := by
                          intro fu
                          induction fu with
                          | zero => intro k v3 hk hv3 hfu; exact absurd hfu (Nat.not_lt_zero _)
                          | succ fu ih133 =>
                            intro k v3 hk hv3 hfu H locs hP hS ls hl
                            refine lv_iload hx hb dX5_divisor_133 (lv_at hl 0 rfl) ?_
                            refine lv_bipush (v := nI (64)) hx hb dX5_divisor_135 rfl ?_
                            refine n_icmp_ge (tgt := 178) hx hb (by omega) (by omega) dX5_divisor_137 (by decide) (fun h_13 => ?_) (fun h_13 => ?_)
                            · skip
                              have hk64 : k = 64 := by omega
                              rw [hk64] at hv3
                              refine lv_goto (tgt := 94) hx hb dX5_divisor_178 (by decide) ?_
                              exact ih94 (n + 1) (B2) (rR) (v3) (by omega) (by
                                rw [hv3]
                                show cp1 (vtw w5) (von w5) 64 = _
                                rw [htw5, hwr]
                                exact cp1_all (fun k hk => (hZB k (by omega)).trans (hZR k (by omega)).symm)) (by
                                rw [hv3]
                                show cp1 (von w5) (vtw w5) 64 = _
                                rw [htw5, hwr]
                                exact cp1_all (fun k hk => (hZR k (by omega)).trans (hZB k (by omega)).symm)) hKB hKR hZB (fun k hk => hZR k (by omega)) (he2.symm.trans he) (Or.inl (by omega)) (by rw [hv3]; exact mRep_tw hR5) (by omega) _ _ hP hS _ (lv_sub hl [1, 2] rfl)
                            · skip
                              refine lv_aload_n hx hb dX5_divisor_140 rfl (lv_at hl 1 rfl) ?_
                              refine k_get (q0 := 0) (k := 9) (T := TX5) (Nf := 11) (ci := 5) (C := RX5) (v := .ref (ad (7))) hx hb hw_X5 hown hK hP (by decide) mW_obj rfl (by decide) hf_30 rfl rfl dX5_divisor_141 ?_
                              refine lv_iload hx hb dX5_divisor_144 (lv_at hl 0 rfl) ?_
                              refine k_iald (q0 := 7) (j := k) hx hb hK hP (by decide) mW_on (by decide) (by omega) dX5_divisor_146 ?_
                              refine n_same (a := von v3 k) rfl ?_
                              refine n_push (a := von w5 k) (by rw [hv3]; exact congrArg nI (cp1_k _ _ _)) ?_
                              refine lv_istore (lv' := [(5, .int (nI (von w5 k))), (4, .int (nI (k))), (0, .ref (ad (0))), (3, .int (nI (jrc)))]) hx hb dX5_divisor_147 hl (by decide) rfl (fun ls hl => ?_)
                              refine lv_aload_n hx hb dX5_divisor_149 rfl (lv_at hl 2 rfl) ?_
                              refine k_get (q0 := 0) (k := 9) (T := TX5) (Nf := 11) (ci := 5) (C := RX5) (v := .ref (ad (7))) hx hb hw_X5 hown hK hP (by decide) mW_obj rfl (by decide) hf_30 rfl rfl dX5_divisor_150 ?_
                              refine lv_iload hx hb dX5_divisor_153 (lv_at hl 1 rfl) ?_
                              refine lv_aload_n hx hb dX5_divisor_155 rfl (lv_at hl 2 rfl) ?_
                              refine k_get (q0 := 0) (k := 10) (T := TX5) (Nf := 11) (ci := 5) (C := RX5) (v := .ref (ad (8))) hx hb hw_X5 hown hK hP (by decide) mW_obj rfl (by decide) hf_33 rfl rfl dX5_divisor_156 ?_
                              refine lv_iload hx hb dX5_divisor_159 (lv_at hl 1 rfl) ?_
                              refine k_iald (q0 := 8) (j := k) hx hb hK hP (by decide) mW_tw (by decide) (by omega) dX5_divisor_161 ?_
                              refine n_same (a := vtw v3 k) rfl ?_
                              refine n_push (a := vtw w5 k) (by rw [hv3]; exact congrArg nI (cp1_k _ _ _)) ?_
                              refine k_iast (q0 := 7) (j := k) (v := nI (vtw w5 k)) (Wd' := mW ad cy (pon v3 (va_up (von v3) k (vtw w5 k)))) hx hb hK hI hP hS (by decide) mW_on (by decide) (by omega) mW_up_on dX5_divisor_162 (fun H locs hP hS => ?_)
                              refine lv_aload_n hx hb dX5_divisor_163 rfl (lv_at hl 2 rfl) ?_
                              refine k_get (q0 := 0) (k := 10) (T := TX5) (Nf := 11) (ci := 5) (C := RX5) (v := .ref (ad (8))) hx hb hw_X5 hown hK hP (by decide) mW_obj rfl (by decide) hf_33 rfl rfl dX5_divisor_164 ?_
                              refine lv_iload hx hb dX5_divisor_167 (lv_at hl 1 rfl) ?_
                              refine lv_iload hx hb dX5_divisor_169 (lv_at hl 0 rfl) ?_
                              refine k_iast (q0 := 8) (j := k) (v := nI (von w5 k)) (Wd' := mW ad cy (ptw (pon v3 (va_up (von v3) k (vtw w5 k))) (va_up (vtw (pon v3 (va_up (von v3) k (vtw w5 k)))) k (von w5 k)))) hx hb hK hI hP hS (by decide) mW_tw (by decide) (by omega) mW_up_tw dX5_divisor_171 (fun H locs hP hS => ?_)
                              refine lv_iinc (v := nI (k + 1)) (lv' := [(4, .int (nI (k + 1))), (5, .int (nI (von w5 k))), (0, .ref (ad (0))), (3, .int (nI (jrc)))]) hx hb dX5_divisor_172 hl (k := 1) rfl (nI_inc _) (by decide) rfl (fun ls hl => ?_)
                              refine lv_goto (tgt := 133) hx hb dX5_divisor_175 (by decide) ?_
                              exact ih133 (k + 1) (ptw (pon v3 (va_up (von v3) k (vtw w5 k))) (va_up (vtw (pon v3 (va_up (von v3) k (vtw w5 k)))) k (von w5 k))) (by omega) (cpl_s hv3) (by omega) _ _ hP hS _ (lv_sub hl [0, 2, 3] rfl)
                        exact lp133 (_ + 1) (0) (w5) (by omega) (cpl_0 _ _ _) (Nat.lt_succ_self _) _ _ hP hS _ hl
                  exact lp94 (_ + 1) (0) ((S.1 jra)) ((S.1 jrb)) (v3) (by omega) hon3 htw3 hoa.K hob.K hoa.2.2.2 hob.2.2.2 rfl hnz hR3 (Nat.lt_succ_self _) _ _ hP hS _ (lv_sub hl [1, 4] rfl)
                · skip
                  refine lv_aload_n hx hb dX5_divisor_60 rfl (lv_at hl 1 rfl) ?_
                  refine k_get (q0 := 0) (k := 9) (T := TX5) (Nf := 11) (ci := 5) (C := RX5) (v := .ref (ad (7))) hx hb hw_X5 hown hK hP (by decide) mW_obj rfl (by decide) hf_30 rfl rfl dX5_divisor_61 ?_
                  refine lv_iload hx hb dX5_divisor_64 (lv_at hl 0 rfl) ?_
                  refine lv_aload_n hx hb dX5_divisor_66 rfl (lv_at hl 1 rfl) ?_
                  refine lv_iload_n hx hb dX5_divisor_67 rfl (lv_at hl 2 rfl) ?_
                  refine lv_iload hx hb dX5_divisor_68 (lv_at hl 0 rfl) ?_
                  refine k_callVr (rest := [.int (nI (k)), .ref (ad (7))]) (nL := 6) ⟨hx, hb, hml, hown, hts⟩ (c_X5_at l D cy ad hI v' S.1 jra k hM3 (by first | assumption | omega) (by first | assumption | omega)) (cwV 2 hts gX5_divisor_X5_at rfl rfl rfl (by decide +kernel) ⟨Nat.le_of_ble_eq_true rfl, Nat.le_of_ble_eq_true rfl⟩) hK hP hS (fun _ h => h) (q0 := 0) (ci := 5) rfl (by decide) mW_obj rfl rfl rfl hl.1 rfl (Nat.le_of_ble_eq_true rfl) dX5_divisor_70 ⟨Nat.zero_le _, Nat.zero_le _⟩ (fun H locs hP hS => ?_)
                  have hP : va_P D vwCl (wL 9 ad (mW ad cy (v'))) H := hP
                  refine k_iast (q0 := 7) (j := k) (v := nI ((S.1 jra).2 k)) (Wd' := mW ad cy (pon v' (va_up (von v') k ((S.1 jra).2 k)))) hx hb hK hI hP hS (by decide) mW_on (by decide) (by omega) mW_up_on dX5_divisor_73 (fun H locs hP hS => ?_)
                  refine lv_aload_n hx hb dX5_divisor_74 rfl (lv_at hl 1 rfl) ?_
                  refine k_get (q0 := 0) (k := 10) (T := TX5) (Nf := 11) (ci := 5) (C := RX5) (v := .ref (ad (8))) hx hb hw_X5 hown hK hP (by decide) mW_obj rfl (by decide) hf_33 rfl rfl dX5_divisor_75 ?_
                  refine lv_iload hx hb dX5_divisor_78 (lv_at hl 0 rfl) ?_
                  refine lv_aload_n hx hb dX5_divisor_80 rfl (lv_at hl 1 rfl) ?_
                  refine lv_iload_n hx hb dX5_divisor_81 rfl (lv_at hl 3 rfl) ?_
                  refine lv_iload hx hb dX5_divisor_82 (lv_at hl 0 rfl) ?_
                  refine k_callVr (rest := [.int (nI (k)), .ref (ad (8))]) (nL := 6) ⟨hx, hb, hml, hown, hts⟩ (c_X5_at l D cy ad hI (pon v' (va_up (von v') k ((S.1 jra).2 k))) S.1 jrb k hM3 (by first | assumption | omega) (by first | assumption | omega)) (cwV 2 hts gX5_divisor_X5_at rfl rfl rfl (by decide +kernel) ⟨Nat.le_of_ble_eq_true rfl, Nat.le_of_ble_eq_true rfl⟩) hK hP hS (fun _ h => h) (q0 := 0) (ci := 5) rfl (by decide) mW_obj rfl rfl rfl hl.1 rfl (Nat.le_of_ble_eq_true rfl) dX5_divisor_84 ⟨Nat.zero_le _, Nat.zero_le _⟩ (fun H locs hP hS => ?_)
                  have hP : va_P D vwCl (wL 9 ad (mW ad cy (pon v' (va_up (von v') k ((S.1 jra).2 k))))) H := hP
                  refine k_iast (q0 := 8) (j := k) (v := nI ((S.1 jrb).2 k)) (Wd' := mW ad cy (ptw (pon v' (va_up (von v') k ((S.1 jra).2 k))) (va_up (vtw (pon v' (va_up (von v') k ((S.1 jra).2 k)))) k ((S.1 jrb).2 k)))) hx hb hK hI hP hS (by decide) mW_tw (by decide) (by omega) mW_up_tw dX5_divisor_87 (fun H locs hP hS => ?_)
                  refine lv_iinc (v := nI (k + 1)) (lv' := [(4, .int (nI (k + 1))), (0, .ref (ad (0))), (1, .int (nI (jra))), (2, .int (nI (jrb))), (3, .int (nI (jrc)))]) hx hb dX5_divisor_88 hl (k := 0) rfl (nI_inc _) (by decide) rfl (fun ls hl => ?_)
                  refine lv_goto (tgt := 53) hx hb dX5_divisor_91 (by decide) ?_
                  exact ih53 (k + 1) (ptw (pon v' (va_up (von v') k ((S.1 jra).2 k))) (va_up (vtw (pon v' (va_up (von v') k ((S.1 jra).2 k)))) k ((S.1 jrb).2 k))) (by omega) (cpl_s hv) (by omega) _ _ hP hS _ hl
            exact lp53 (_ + 1) (0) (w0) (by omega) (cpl_0 _ _ _) (Nat.lt_succ_self _) _ _ hP hS _ hl
          · skip
            have hzb : rD (S.1 jrb) = 0 := (dV_none (D := dg (S.1 jrb).2 (S.1 jrb).1) (by omega)).mp h_9
            refine lv_bipush (v := (-5 : Int32)) hx hb dX5_divisor_43 (by decide) ?_
            refine k_iret hx hb hr hlocks (v) hP hS dX5_divisor_45 ?_
            rw [ejra, ejrb, ejrc, op_divisor_x hjra hjrb hjrc, if_pos ⟨hza, hzb⟩]
            exact ⟨rfl, hR⟩
      · skip
        have hjrc : ¬ isR rc := of_decide_eq_false h_3
        refine lv_iconst (v := (-1 : Int32)) hx hb dX5_divisor_21 (by decide) ?_
        refine k_iret hx hb hr hlocks (v) hP hS dX5_divisor_22 ?_
        rw [show op_divisor S ra rb rc = (-1, S) from if_pos (by first | exact Or.inl hjra | exact Or.inr (Or.inl hjrb) | exact Or.inr (Or.inr (hjrc)))]
        exact ⟨rfl, hR⟩
