set_option maxHeartbeats 4000000 in
set_option maxRecDepth 100000 in
theorem c_X4_product (l : Launch) (D : va_G) (cy : Nat → ClassId) (ad : Nat → Nat) (hI : wI 143 ad) (ρ : Nat → kR) (x : kX) (S : kSt) (ra : Int32) (rb : Int32) (rc : Int32) (hSI : kInv S) (hR : cRep S (ρ, x)) : kM l yX4_product wsX4_product ({ frames := 5, cells := 0, slots := 0, locals := 103 } : Room) D cy 143 ad (cWf ad cy) (cW ad cy (ρ) (x)) [.ref (ad (136)), .int (ra), .int (rb), .int (rc)] (fun o u => o = some (.int (op_product S ra rb rc).1) ∧ cRep (op_product S ra rb rc).2 u) := by
  refine k_met cX4_product 8 (some .int) (by decide) rfl (Nat.le_of_ble_eq_true rfl) ?_
  intro p e s m below meth c ls hx hb hr hts hown hlocks hml hK hP hS hl
  have hl : lv_has ls 8 [(0, .ref (ad (136))), (1, .int (ra)), (2, .int (rb)), (3, .int (rc))] := hl
  have hown : s.vm.findClass RX4 = some m.cls := hown
  have hf_10 := hts (.fieldLink RX4 10 "TurnedRows" "state" "LTurnedRows$State;") (by decide +kernel)
  have hf_41 := hts (.fieldLink RX4 41 "TurnedRows" "made" "LTurnedRows$Row;") (by decide +kernel)
  have hw_X4 : ∀ qw ∈ wsX40, qw.before ([.ref (ad (136)), .int (ra), .int (rb), .int (rc)] : List Value).toArray s = true := fun qw h => hts qw ((by decide +kernel : ∀ qw ∈ wsX40, qw ∈ wsX4_product) qw h)
  have hrow : ∀ j, j < 6 → rO (ρ j) := fun j hj => by rw [show ρ j = S.1 j from hR.1 j hj]; exact hSI.1 j hj
  have hreg : ∀ j, j < 6 → ρ j = S.1 j := hR.1
  have hpr : ∀ j, j < 6 → 1 ≤ x.2.1 j ∧ x.2.1 j ≤ 6 := hR.2.2.2.2.1
  have hpm : ∀ j, j < 6 → x.2.1 j < 9 := fun j hj => by have := hpr j hj; omega
  have hp0 : ∀ j, j < 6 → x.2.1 j ≠ 0 := fun j hj => by have := hpr j hj; omega
  have hhl : x.1 ≤ 6 := by rw [show x.1 = S.2.2.1 from hR.2.1.1]; exact hR.2.1.2
  have hplS : x.2.2.1 = S.2.2.2.2.2.1 := hR.2.2.2.2.2.2.1
  have hpl : x.2.2.1 ≤ 80 := by rw [hplS]; exact hSI.2.2.2.2.2.1
  have hpdS : ∀ j, j < S.2.2.2.2.2.1 → x.2.2.2.1 j = S.2.2.2.2.2.2 j := hR.2.2.2.2.2.2.2.1
  have hpd : ∀ j, j < x.2.2.1 → x.2.2.2.1 j < 127 := fun j hj => by rw [hpdS j (by omega)]; have := (hSI.2.2.2.2.2.2 j (by omega)).2; omega
  refine lv_aload_n hx hb dX4_product_0 rfl (lv_at hl 0 rfl) ?_
  refine k_get (q0 := 136) (k := 0) (T := TX4) (Nf := 10) (ci := 4) (C := RX4) (v := .ref (ad (118 + 2 * 0))) hx hb hw_X4 hown hK hP (by decide) cW_top rfl (by decide) hf_10 rfl rfl dX4_product_1 ?_
  refine lv_iload_n hx hb dX4_product_4 rfl (lv_at hl 1 rfl) ?_
  refine k_callVr (rest := []) (nL := 8) ⟨hx, hb, hml, hown, hts⟩ (c_X3_rowOf l D cy ad hI ρ x ra) (cwV 1 hts gX4_product_X3_rowOf rfl rfl rfl (by decide +kernel) ⟨Nat.le_of_ble_eq_true rfl, Nat.le_of_ble_eq_true rfl⟩) hK hP hS (fun _ h => h) (q0 := 118 + 2 * 0) (ci := 3) rfl (by omega) (cW_st (t := 0) (by omega)) rfl rfl rfl hl.1 rfl (Nat.le_of_ble_eq_true rfl) dX4_product_5 ⟨Nat.zero_le _, Nat.zero_le _⟩ (fun H locs hP hS => ?_)
  have hP : va_P D vwCl (wL 143 ad (cW ad cy (ρ) (x))) H := hP
  refine lv_astoreV (lv' := [(4, va_rf (rOf ad ra)), (0, .ref (ad (136))), (1, .int (ra)), (2, .int (rb)), (3, .int (rc))]) hx hb dX4_product_8 hl (by decide) rfl (fun ls hl => ?_)
  refine lv_aload_n hx hb dX4_product_10 rfl (lv_at hl 1 rfl) ?_
  refine k_get (q0 := 136) (k := 0) (T := TX4) (Nf := 10) (ci := 4) (C := RX4) (v := .ref (ad (118 + 2 * 0))) hx hb hw_X4 hown hK hP (by decide) cW_top rfl (by decide) hf_10 rfl rfl dX4_product_11 ?_
  refine lv_iload_n hx hb dX4_product_14 rfl (lv_at hl 3 rfl) ?_
  refine k_callVr (rest := []) (nL := 8) ⟨hx, hb, hml, hown, hts⟩ (c_X3_rowOf l D cy ad hI ρ x rb) (cwV 1 hts gX4_product_X3_rowOf rfl rfl rfl (by decide +kernel) ⟨Nat.le_of_ble_eq_true rfl, Nat.le_of_ble_eq_true rfl⟩) hK hP hS (fun _ h => h) (q0 := 118 + 2 * 0) (ci := 3) rfl (by omega) (cW_st (t := 0) (by omega)) rfl rfl rfl hl.1 rfl (Nat.le_of_ble_eq_true rfl) dX4_product_15 ⟨Nat.zero_le _, Nat.zero_le _⟩ (fun H locs hP hS => ?_)
  have hP : va_P D vwCl (wL 143 ad (cW ad cy (ρ) (x))) H := hP
  refine lv_astoreV (lv' := [(5, va_rf (rOf ad rb)), (4, va_rf (rOf ad ra)), (0, .ref (ad (136))), (1, .int (ra)), (2, .int (rb)), (3, .int (rc))]) hx hb dX4_product_18 hl (by decide) (by simp [List.filter, va_rf_cat]) (fun ls hl => ?_)
  refine lv_aload_n hx hb dX4_product_20 rfl (lv_at hl 2 rfl) ?_
  refine k_get (q0 := 136) (k := 0) (T := TX4) (Nf := 10) (ci := 4) (C := RX4) (v := .ref (ad (118 + 2 * 0))) hx hb hw_X4 hown hK hP (by decide) cW_top rfl (by decide) hf_10 rfl rfl dX4_product_21 ?_
  refine lv_iload_n hx hb dX4_product_24 rfl (lv_at hl 5 rfl) ?_
  refine k_callVr (rest := []) (nL := 8) ⟨hx, hb, hml, hown, hts⟩ (c_X3_rowOf l D cy ad hI ρ x rc) (cwV 1 hts gX4_product_X3_rowOf rfl rfl rfl (by decide +kernel) ⟨Nat.le_of_ble_eq_true rfl, Nat.le_of_ble_eq_true rfl⟩) hK hP hS (fun _ h => h) (q0 := 118 + 2 * 0) (ci := 3) rfl (by omega) (cW_st (t := 0) (by omega)) rfl rfl rfl hl.1 rfl (Nat.le_of_ble_eq_true rfl) dX4_product_25 ⟨Nat.zero_le _, Nat.zero_le _⟩ (fun H locs hP hS => ?_)
  have hP : va_P D vwCl (wL 143 ad (cW ad cy (ρ) (x))) H := hP
  refine lv_astoreV (lv' := [(6, va_rf (rOf ad rc)), (5, va_rf (rOf ad rb)), (4, va_rf (rOf ad ra)), (0, .ref (ad (136))), (1, .int (ra)), (2, .int (rb)), (3, .int (rc))]) hx hb dX4_product_28 hl (by decide) (by simp [List.filter, va_rf_cat]) (fun ls hl => ?_)
  refine lv_aloadV hx hb dX4_product_30 (lv_at hl 2 rfl) ?_
  rcases kreg_cases ra with hjra | ⟨jra, hjra, ejra⟩
  · skip
    rw [kreg_bad hjra] at hl ⊢
    refine lv_ifnullN (tgt := 45) hx hb dX4_product_32 (by decide) ?_
    refine lv_iconst (v := (-1 : Int32)) hx hb dX4_product_45 (by decide) ?_
    refine k_iret hx hb hr hlocks (ρ, x) hP hS dX4_product_46 ?_
    rw [show op_product S ra rb rc = (-1, S) from if_pos (by first | exact Or.inl hjra | exact Or.inr (Or.inl hjrb) | exact Or.inr (Or.inr (hjrc)))]
    exact ⟨rfl, hR⟩
  · skip
    rw [kreg_ok hjra ejra] at hl ⊢
    refine lv_ifnull hx hb dX4_product_32 ?_
    refine lv_aloadV hx hb dX4_product_35 (lv_at hl 1 rfl) ?_
    rcases kreg_cases rb with hjrb | ⟨jrb, hjrb, ejrb⟩
    · skip
      rw [kreg_bad hjrb] at hl ⊢
      refine lv_ifnullN (tgt := 45) hx hb dX4_product_37 (by decide) ?_
      refine lv_iconst (v := (-1 : Int32)) hx hb dX4_product_45 (by decide) ?_
      refine k_iret hx hb hr hlocks (ρ, x) hP hS dX4_product_46 ?_
      rw [show op_product S ra rb rc = (-1, S) from if_pos (by first | exact Or.inl hjra | exact Or.inr (Or.inl hjrb) | exact Or.inr (Or.inr (hjrc)))]
      exact ⟨rfl, hR⟩
    · skip
      rw [kreg_ok hjrb ejrb] at hl ⊢
      refine lv_ifnull hx hb dX4_product_37 ?_
      refine lv_aloadV hx hb dX4_product_40 (lv_at hl 0 rfl) ?_
      rcases kreg_cases rc with hjrc | ⟨jrc, hjrc, ejrc⟩
      · skip
        rw [kreg_bad hjrc] at hl ⊢
        refine lv_ifnonnullN hx hb dX4_product_42 ?_
        refine lv_iconst (v := (-1 : Int32)) hx hb dX4_product_45 (by decide) ?_
        refine k_iret hx hb hr hlocks (ρ, x) hP hS dX4_product_46 ?_
        rw [show op_product S ra rb rc = (-1, S) from if_pos (by first | exact Or.inl hjra | exact Or.inr (Or.inl hjrb) | exact Or.inr (Or.inr (hjrc)))]
        exact ⟨rfl, hR⟩
      · skip
        rw [kreg_ok hjrc ejrc] at hl ⊢
        refine lv_ifnonnull (tgt := 47) hx hb dX4_product_42 (by decide) ?_
        refine lv_aload hx hb dX4_product_47 (lv_at hl 2 rfl) ?_
        refine lv_aload hx hb dX4_product_49 (lv_at hl 1 rfl) ?_
        have hoa := hrow jra hjra
        have hob := hrow jrb hjrb
        have hla := hoa.2.1
        have hla1 := hoa.1
        have hlb := hob.2.1
        have hlb1 := hob.1
        refine k_callSr (rest := []) (nL := 8) ⟨hx, hb, hml, hown, hts⟩ (c_X4_productLength l D cy ad hI ρ x jra jrb (by first | assumption | omega) (by first | assumption | omega) ⟨hla, hla1⟩ hlb) (va_cwS 2 hts gX4_product_X4_productLength rfl rfl rfl (by decide +kernel) ⟨Nat.le_of_ble_eq_true rfl, Nat.le_of_ble_eq_true rfl⟩) hK hP hS (fun _ h => h) rfl hl.1 rfl (Nat.le_of_ble_eq_true rfl) dX4_product_51 ⟨Nat.zero_le _, Nat.zero_le _⟩ (fun H locs hP hS => ?_)
        have hP : va_P D vwCl (wL 143 ad (cW ad cy (ρ) (x))) H := hP
        refine lv_istore (lv' := [(7, .int (nI ((ρ jra).1 + (ρ jrb).1 - 1))), (6, .ref (ad (2 * jrc))), (5, .ref (ad (2 * jrb))), (4, .ref (ad (2 * jra))), (0, .ref (ad (136))), (1, .int (ra)), (2, .int (rb)), (3, .int (rc))]) hx hb dX4_product_54 hl (by decide) rfl (fun ls hl => ?_)
        refine lv_iload hx hb dX4_product_56 (lv_at hl 0 rfl) ?_
        refine lv_bipush (v := nI (64)) hx hb dX4_product_58 rfl ?_
        refine n_icmp_le (tgt := 66) hx hb (by omega) (by omega) dX4_product_60 (by decide) (fun h_1 => ?_) (fun h_1 => ?_)
        · skip
          refine lv_aload hx hb dX4_product_66 (lv_at hl 3 rfl) ?_
          refine lv_aload hx hb dX4_product_68 (lv_at hl 2 rfl) ?_
          refine lv_iload hx hb dX4_product_70 (lv_at hl 0 rfl) ?_
          refine lv_aload_n hx hb dX4_product_72 rfl (lv_at hl 4 rfl) ?_
          refine k_get (q0 := 136) (k := 5) (T := TX4) (Nf := 10) (ci := 4) (C := RX4) (v := .ref (ad (2 * 54))) hx hb hw_X4 hown hK hP (by decide) cW_top rfl (by decide) hf_41 rfl rfl dX4_product_73 ?_
          refine k_callSv (rest := []) (nL := 8) ⟨hx, hb, hml, hown, hts⟩ (c_X4_multiply l D cy ad hI ρ x jra jrb 54 ((ρ jra).1 + (ρ jrb).1 - 1) (by first | assumption | omega) (by first | assumption | omega) (by first | assumption | omega) (by first | assumption | omega) (by first | assumption | omega) hoa.K hob.K (by first | assumption | omega)) (va_cwS 4 hts gX4_product_X4_multiply rfl rfl rfl (by decide +kernel) ⟨Nat.le_of_ble_eq_true rfl, Nat.le_of_ble_eq_true rfl⟩) hK hP hS (fun _ h => h) rfl hl.1 rfl (Nat.le_of_ble_eq_true rfl) dX4_product_76 ⟨Nat.zero_le _, Nat.zero_le _⟩ (fun H locs hP hS => ?_)
          have hP : va_P D vwCl (wL 143 ad (cW ad cy (va_up ρ 54 (mulR (ρ jra) (ρ jrb) ((ρ jra).1 + (ρ jrb).1 - 1))) (x))) H := hP
          refine lv_aload_n hx hb dX4_product_79 rfl (lv_at hl 4 rfl) ?_
          refine lv_aload hx hb dX4_product_80 (lv_at hl 1 rfl) ?_
          refine k_callVv (rest := []) (nL := 8) ⟨hx, hb, hml, hown, hts⟩ (c_X4_change l D cy ad hI (va_up ρ 54 (mulR (ρ jra) (ρ jrb) ((ρ jra).1 + (ρ jrb).1 - 1))) x jrc (by omega) hpm hp0 hpr hhl) (cwV 1 hts gX4_product_X4_change rfl rfl rfl (by decide +kernel) ⟨Nat.le_of_ble_eq_true rfl, Nat.le_of_ble_eq_true rfl⟩) hK hP hS (fun _ h => h) (q0 := 136) (ci := 4) rfl (by decide) cW_top rfl rfl rfl hl.1 rfl (Nat.le_of_ble_eq_true rfl) dX4_product_82 ⟨Nat.zero_le _, Nat.zero_le _⟩ (fun H locs hP hS => ?_)
          have hP : va_P D vwCl (wL 143 ad (cW ad cy (va_up (keepR (va_up ρ 54 (mulR (ρ jra) (ρ jrb) ((ρ jra).1 + (ρ jrb).1 - 1))) x) jrc ((va_up ρ 54 (mulR (ρ jra) (ρ jrb) ((ρ jra).1 + (ρ jrb).1 - 1))) 54)) (keepX x))) H := hP
          refine lv_iload hx hb dX4_product_85 (lv_at hl 0 rfl) ?_
          refine k_iret hx hb hr hlocks (va_up (keepR (va_up ρ 54 (mulR (ρ jra) (ρ jrb) ((ρ jra).1 + (ρ jrb).1 - 1))) x) jrc ((va_up ρ 54 (mulR (ρ jra) (ρ jrb) ((ρ jra).1 + (ρ jrb).1 - 1))) 54), keepX x) hP hS dX4_product_87 ?_
          rw [ejra, ejrb, ejrc, op_product_x hjra hjrb hjrc, ← hreg jra hjra, ← hreg jrb hjrb, if_neg (by omega)]
          exact ⟨rfl, cRep_chg hR (fun i hi => va_up_ne _ _ (by omega)) hjrc (va_up_self _ _ _)⟩
        · skip
          refine lv_bipush (v := (-4 : Int32)) hx hb dX4_product_63 (by decide) ?_
          refine k_iret hx hb hr hlocks (ρ, x) hP hS dX4_product_65 ?_
          rw [ejra, ejrb, ejrc, op_product_x hjra hjrb hjrc, ← hreg jra hjra, ← hreg jrb hjrb, if_pos (by omega)]
          exact ⟨rfl, hR⟩
set_option maxHeartbeats 4000000 in
set_option maxRecDepth 100000 in
theorem c_X4_add (l : Launch) (D : va_G) (cy : Nat → ClassId) (ad : Nat → Nat) (hI : wI 143 ad) (ρ : Nat → kR) (x : kX) (S : kSt) (ra : Int32) (rb : Int32) (rt : Int32) (rc : Int32) (hSI : kInv S) (hR : cRep S (ρ, x)) : kM l yX4_add wsX4_add ({ frames := 5, cells := 0, slots := 0, locals := 103 } : Room) D cy 143 ad (cWf ad cy) (cW ad cy (ρ) (x)) [.ref (ad (136)), .int (ra), .int (rb), .int (rt), .int (rc)] (fun o u => o = some (.int (op_add S ra rb rt rc).1) ∧ cRep (op_add S ra rb rt rc).2 u) := by
  refine k_met cX4_add 9 (some .int) (by decide) rfl (Nat.le_of_ble_eq_true rfl) ?_
  intro p e s m below meth c ls hx hb hr hts hown hlocks hml hK hP hS hl
  have hl : lv_has ls 9 [(0, .ref (ad (136))), (1, .int (ra)), (2, .int (rb)), (3, .int (rt)), (4, .int (rc))] := hl
  have hown : s.vm.findClass RX4 = some m.cls := hown
  have hf_10 := hts (.fieldLink RX4 10 "TurnedRows" "state" "LTurnedRows$State;") (by decide +kernel)
  have hf_41 := hts (.fieldLink RX4 41 "TurnedRows" "made" "LTurnedRows$Row;") (by decide +kernel)
  have hw_X4 : ∀ qw ∈ wsX40, qw.before ([.ref (ad (136)), .int (ra), .int (rb), .int (rt), .int (rc)] : List Value).toArray s = true := fun qw h => hts qw ((by decide +kernel : ∀ qw ∈ wsX40, qw ∈ wsX4_add) qw h)
  have hm_84 := hts (.methodLink RX4 84 Lib.Math.max.name) (by decide +kernel)
  have hms := hts (.static Lib.Math.max.name) (by decide +kernel)
  have hmi := hts (.initialized "java/lang/Math") (by decide +kernel)
  have hmc := hts (.code Lib.Math.max.name Lib.Math.max.code 2 (some .int)) (by decide +kernel)
  have hrow : ∀ j, j < 6 → rO (ρ j) := fun j hj => by rw [show ρ j = S.1 j from hR.1 j hj]; exact hSI.1 j hj
  have hreg : ∀ j, j < 6 → ρ j = S.1 j := hR.1
  have hpr : ∀ j, j < 6 → 1 ≤ x.2.1 j ∧ x.2.1 j ≤ 6 := hR.2.2.2.2.1
  have hpm : ∀ j, j < 6 → x.2.1 j < 9 := fun j hj => by have := hpr j hj; omega
  have hp0 : ∀ j, j < 6 → x.2.1 j ≠ 0 := fun j hj => by have := hpr j hj; omega
  have hhl : x.1 ≤ 6 := by rw [show x.1 = S.2.2.1 from hR.2.1.1]; exact hR.2.1.2
  have hplS : x.2.2.1 = S.2.2.2.2.2.1 := hR.2.2.2.2.2.2.1
  have hpl : x.2.2.1 ≤ 80 := by rw [hplS]; exact hSI.2.2.2.2.2.1
  have hpdS : ∀ j, j < S.2.2.2.2.2.1 → x.2.2.2.1 j = S.2.2.2.2.2.2 j := hR.2.2.2.2.2.2.2.1
  have hpd : ∀ j, j < x.2.2.1 → x.2.2.2.1 j < 127 := fun j hj => by rw [hpdS j (by omega)]; have := (hSI.2.2.2.2.2.2 j (by omega)).2; omega
  refine lv_aload_n hx hb dX4_add_0 rfl (lv_at hl 0 rfl) ?_
  refine k_get (q0 := 136) (k := 0) (T := TX4) (Nf := 10) (ci := 4) (C := RX4) (v := .ref (ad (118 + 2 * 0))) hx hb hw_X4 hown hK hP (by decide) cW_top rfl (by decide) hf_10 rfl rfl dX4_add_1 ?_
  refine lv_iload_n hx hb dX4_add_4 rfl (lv_at hl 1 rfl) ?_
  refine k_callVr (rest := []) (nL := 9) ⟨hx, hb, hml, hown, hts⟩ (c_X3_rowOf l D cy ad hI ρ x ra) (cwV 1 hts gX4_add_X3_rowOf rfl rfl rfl (by decide +kernel) ⟨Nat.le_of_ble_eq_true rfl, Nat.le_of_ble_eq_true rfl⟩) hK hP hS (fun _ h => h) (q0 := 118 + 2 * 0) (ci := 3) rfl (by omega) (cW_st (t := 0) (by omega)) rfl rfl rfl hl.1 rfl (Nat.le_of_ble_eq_true rfl) dX4_add_5 ⟨Nat.zero_le _, Nat.zero_le _⟩ (fun H locs hP hS => ?_)
  have hP : va_P D vwCl (wL 143 ad (cW ad cy (ρ) (x))) H := hP
  refine lv_astoreV (lv' := [(5, va_rf (rOf ad ra)), (0, .ref (ad (136))), (1, .int (ra)), (2, .int (rb)), (3, .int (rt)), (4, .int (rc))]) hx hb dX4_add_8 hl (by decide) rfl (fun ls hl => ?_)
  refine lv_aload_n hx hb dX4_add_10 rfl (lv_at hl 1 rfl) ?_
  refine k_get (q0 := 136) (k := 0) (T := TX4) (Nf := 10) (ci := 4) (C := RX4) (v := .ref (ad (118 + 2 * 0))) hx hb hw_X4 hown hK hP (by decide) cW_top rfl (by decide) hf_10 rfl rfl dX4_add_11 ?_
  refine lv_iload_n hx hb dX4_add_14 rfl (lv_at hl 3 rfl) ?_
  refine k_callVr (rest := []) (nL := 9) ⟨hx, hb, hml, hown, hts⟩ (c_X3_rowOf l D cy ad hI ρ x rb) (cwV 1 hts gX4_add_X3_rowOf rfl rfl rfl (by decide +kernel) ⟨Nat.le_of_ble_eq_true rfl, Nat.le_of_ble_eq_true rfl⟩) hK hP hS (fun _ h => h) (q0 := 118 + 2 * 0) (ci := 3) rfl (by omega) (cW_st (t := 0) (by omega)) rfl rfl rfl hl.1 rfl (Nat.le_of_ble_eq_true rfl) dX4_add_15 ⟨Nat.zero_le _, Nat.zero_le _⟩ (fun H locs hP hS => ?_)
  have hP : va_P D vwCl (wL 143 ad (cW ad cy (ρ) (x))) H := hP
  refine lv_astoreV (lv' := [(6, va_rf (rOf ad rb)), (5, va_rf (rOf ad ra)), (0, .ref (ad (136))), (1, .int (ra)), (2, .int (rb)), (3, .int (rt)), (4, .int (rc))]) hx hb dX4_add_18 hl (by decide) (by simp [List.filter, va_rf_cat]) (fun ls hl => ?_)
  refine lv_aload_n hx hb dX4_add_20 rfl (lv_at hl 2 rfl) ?_
  refine k_get (q0 := 136) (k := 0) (T := TX4) (Nf := 10) (ci := 4) (C := RX4) (v := .ref (ad (118 + 2 * 0))) hx hb hw_X4 hown hK hP (by decide) cW_top rfl (by decide) hf_10 rfl rfl dX4_add_21 ?_
  refine lv_iload hx hb dX4_add_24 (lv_at hl 6 rfl) ?_
  refine k_callVr (rest := []) (nL := 9) ⟨hx, hb, hml, hown, hts⟩ (c_X3_rowOf l D cy ad hI ρ x rc) (cwV 1 hts gX4_add_X3_rowOf rfl rfl rfl (by decide +kernel) ⟨Nat.le_of_ble_eq_true rfl, Nat.le_of_ble_eq_true rfl⟩) hK hP hS (fun _ h => h) (q0 := 118 + 2 * 0) (ci := 3) rfl (by omega) (cW_st (t := 0) (by omega)) rfl rfl rfl hl.1 rfl (Nat.le_of_ble_eq_true rfl) dX4_add_26 ⟨Nat.zero_le _, Nat.zero_le _⟩ (fun H locs hP hS => ?_)
  have hP : va_P D vwCl (wL 143 ad (cW ad cy (ρ) (x))) H := hP
  refine lv_astoreV (lv' := [(7, va_rf (rOf ad rc)), (6, va_rf (rOf ad rb)), (5, va_rf (rOf ad ra)), (0, .ref (ad (136))), (1, .int (ra)), (2, .int (rb)), (3, .int (rt)), (4, .int (rc))]) hx hb dX4_add_29 hl (by decide) (by simp [List.filter, va_rf_cat]) (fun ls hl => ?_)
  refine lv_aloadV hx hb dX4_add_31 (lv_at hl 2 rfl) ?_
  rcases kreg_cases ra with hjra | ⟨jra, hjra, ejra⟩
  · skip
    rw [kreg_bad hjra] at hl ⊢
    refine lv_ifnullN (tgt := 46) hx hb dX4_add_33 (by decide) ?_
    refine lv_iconst (v := (-1 : Int32)) hx hb dX4_add_46 (by decide) ?_
    refine k_iret hx hb hr hlocks (ρ, x) hP hS dX4_add_47 ?_
    rw [show op_add S ra rb rt rc = (-1, S) from if_pos (by first | exact Or.inl hjra | exact Or.inr (Or.inl hjrb) | exact Or.inr (Or.inr (hjrc)))]
    exact ⟨rfl, hR⟩
  · skip
    rw [kreg_ok hjra ejra] at hl ⊢
    refine lv_ifnull hx hb dX4_add_33 ?_
    refine lv_aloadV hx hb dX4_add_36 (lv_at hl 1 rfl) ?_
    rcases kreg_cases rb with hjrb | ⟨jrb, hjrb, ejrb⟩
    · skip
      rw [kreg_bad hjrb] at hl ⊢
      refine lv_ifnullN (tgt := 46) hx hb dX4_add_38 (by decide) ?_
      refine lv_iconst (v := (-1 : Int32)) hx hb dX4_add_46 (by decide) ?_
      refine k_iret hx hb hr hlocks (ρ, x) hP hS dX4_add_47 ?_
      rw [show op_add S ra rb rt rc = (-1, S) from if_pos (by first | exact Or.inl hjra | exact Or.inr (Or.inl hjrb) | exact Or.inr (Or.inr (hjrc)))]
      exact ⟨rfl, hR⟩
    · skip
      rw [kreg_ok hjrb ejrb] at hl ⊢
      refine lv_ifnull hx hb dX4_add_38 ?_
      refine lv_aloadV hx hb dX4_add_41 (lv_at hl 0 rfl) ?_
      rcases kreg_cases rc with hjrc | ⟨jrc, hjrc, ejrc⟩
      · skip
        rw [kreg_bad hjrc] at hl ⊢
        refine lv_ifnonnullN hx hb dX4_add_43 ?_
        refine lv_iconst (v := (-1 : Int32)) hx hb dX4_add_46 (by decide) ?_
        refine k_iret hx hb hr hlocks (ρ, x) hP hS dX4_add_47 ?_
        rw [show op_add S ra rb rt rc = (-1, S) from if_pos (by first | exact Or.inl hjra | exact Or.inr (Or.inl hjrb) | exact Or.inr (Or.inr (hjrc)))]
        exact ⟨rfl, hR⟩
      · skip
        rw [kreg_ok hjrc ejrc] at hl ⊢
        refine lv_ifnonnull (tgt := 48) hx hb dX4_add_43 (by decide) ?_
        refine lv_iload_n hx hb dX4_add_48 rfl (lv_at hl 6 rfl) ?_
        refine k_callSr (rest := []) (nL := 9) ⟨hx, hb, hml, hown, hts⟩ (c_X4_isNumber l D cy ad hI ρ x rt) (va_cwS 1 hts gX4_add_X4_isNumber rfl rfl rfl (by decide +kernel) ⟨Nat.le_of_ble_eq_true rfl, Nat.le_of_ble_eq_true rfl⟩) hK hP hS (fun _ h => h) rfl hl.1 rfl (Nat.le_of_ble_eq_true rfl) dX4_add_49 ⟨Nat.zero_le _, Nat.zero_le _⟩ (fun H locs hP hS => ?_)
        have hP : va_P D vwCl (wL 143 ad (cW ad cy (ρ) (x))) H := hP
        refine b_ifne (tgt := 58) hx hb dX4_add_52 (by decide) (fun h_1 => ?_) (fun h_1 => ?_)
        · skip
          obtain ⟨krt, hkrt, ekrt⟩ : ∃ k : Nat, k < 257 ∧ rt = nI k := by
            rcases kin_cases rt 257 (by decide) with q | q
            · exact absurd (of_decide_eq_true h_1) q
            · exact q
          rw [ekrt] at hl
          refine lv_aload_n hx hb dX4_add_58 rfl (lv_at hl 3 rfl) ?_
          refine k_get (q0 := 136) (k := 5) (T := TX4) (Nf := 10) (ci := 4) (C := RX4) (v := .ref (ad (2 * 54))) hx hb hw_X4 hown hK hP (by decide) cW_top rfl (by decide) hf_41 rfl rfl dX4_add_59 ?_
          have hoa := hrow jra hjra
          have hob := hrow jrb hjrb
          have hla := hoa.2.1
          have hlb := hob.2.1
          have hfa := hoa.2.2.1
          have hfb := hob.2.2.1
          refine lv_aload hx hb dX4_add_62 (lv_at hl 2 rfl) ?_
          refine k_callVr (rest := [.ref (ad (2 * 54))]) (nL := 9) ⟨hx, hb, hml, hown, hts⟩ (c_X2_length l D cy ad hI ρ x jra (by first | assumption | omega)) (cwV 0 hts gX4_add_X2_length rfl rfl rfl (by decide +kernel) ⟨Nat.le_of_ble_eq_true rfl, Nat.le_of_ble_eq_true rfl⟩) hK hP hS (fun _ h => h) (q0 := 2 * jra) (ci := 2) rfl (by omega) (cW_row (i := jra) (by omega)) rfl rfl rfl hl.1 rfl (Nat.le_of_ble_eq_true rfl) dX4_add_64 ⟨Nat.zero_le _, Nat.zero_le _⟩ (fun H locs hP hS => ?_)
          have hP : va_P D vwCl (wL 143 ad (cW ad cy (ρ) (x))) H := hP
          refine lv_aload hx hb dX4_add_67 (lv_at hl 1 rfl) ?_
          refine k_callVr (rest := [.int (nI ((ρ jra).1)), .ref (ad (2 * 54))]) (nL := 9) ⟨hx, hb, hml, hown, hts⟩ (c_X2_length l D cy ad hI ρ x jrb (by first | assumption | omega)) (cwV 0 hts gX4_add_X2_length rfl rfl rfl (by decide +kernel) ⟨Nat.le_of_ble_eq_true rfl, Nat.le_of_ble_eq_true rfl⟩) hK hP hS (fun _ h => h) (q0 := 2 * jrb) (ci := 2) rfl (by omega) (cW_row (i := jrb) (by omega)) rfl rfl rfl hl.1 rfl (Nat.le_of_ble_eq_true rfl) dX4_add_69 ⟨Nat.zero_le _, Nat.zero_le _⟩ (fun H locs hP hS => ?_)
          have hP : va_P D vwCl (wL 143 ad (cW ad cy (ρ) (x))) H := hP
          refine n_max (a := (ρ jra).1) (b := (ρ jrb).1) hx hb (hml.trans hl.1.symm) hown hm_84 hms hmi hmc (by decide) (Nat.le_of_ble_eq_true rfl) (Nat.zero_le _) (Nat.zero_le _) (by omega) (by omega) dX4_add_72 ?_
          refine k_callVv (rest := []) (nL := 9) ⟨hx, hb, hml, hown, hts⟩ (c_X2_clear l D cy ad hI ρ x 54 (max ((ρ jra).1) ((ρ jrb).1)) (by first | assumption | omega)) (cwV 1 hts gX4_add_X2_clear rfl rfl rfl (by decide +kernel) ⟨Nat.le_of_ble_eq_true rfl, Nat.le_of_ble_eq_true rfl⟩) hK hP hS (fun _ h => h) (q0 := 2 * 54) (ci := 2) rfl (by omega) (cW_row (i := 54) (by omega)) rfl rfl rfl hl.1 rfl (Nat.le_of_ble_eq_true rfl) dX4_add_75 ⟨Nat.zero_le _, Nat.zero_le _⟩ (fun H locs hP hS => ?_)
          have hP : va_P D vwCl (wL 143 ad (cW ad cy (va_up ρ 54 ((max ((ρ jra).1) ((ρ jrb).1)), fun _ => 0)) (x))) H := hP
          refine lv_iconst (v := nI (0)) hx hb dX4_add_78 rfl ?_
          refine lv_istore (lv' := [(8, .int (nI (0))), (7, .ref (ad (2 * jrc))), (6, .ref (ad (2 * jrb))), (5, .ref (ad (2 * jra))), (0, .ref (ad (136))), (1, .int (ra)), (2, .int (rb)), (3, .int (nI (krt))), (4, .int (rc))]) hx hb dX4_add_79 hl (by decide) rfl (fun ls hl => ?_)
          have lp81 : ∀ (fu : Nat) (k : Nat) (ρ' : Nat → kR), (k ≤ max (ρ jra).1 (ρ jrb).1) → (ρ' 54 = (max (ρ jra).1 (ρ jrb).1, adF (ρ jra) (ρ jrb) krt k)) → (∀ i, i < 54 → ρ' i = ρ i) → max (ρ jra).1 (ρ jrb).1 - k < fu → ∀ (H : Heap) (locs : List Loc), va_P D vwCl (wL 143 ad (cW ad cy (ρ') (x))) H → va_S (wA 143 ad) s.heap H locs → ∀ (ls : Array Slot), lv_has ls 9 [(8, .int (nI (k))), (7, .ref (ad (2 * jrc))), (6, .ref (ad (2 * jrb))), (5, .ref (ad (2 * jra))), (3, .int (nI (krt))), (0, .ref (ad (136)))] → W p l e ({ frames := 5, cells := 0, slots := 0, locals := 103 } : Room) s m ([.ref (ad (136)), .int (ra), .int (rb), .int (rt), .int (rc)] : List Value).toArray below meth c H locs 0 0 (MQ below (kQ D 143 ad (cWf ad cy) (fun o u => o = some (.int (op_add S ra rb rt rc).1) ∧ cRep (op_add S ra rb rt rc).2 u)) ([.ref (ad (136)), .int (ra), .int (rb), .int (rt), .int (rc)] : List Value).toArray s 0 0 (wA 143 ad)) (F0 m 81 ls []) := by
            intro fu
            induction fu with
            | zero => intro k ρ' hk hρ hfr hfu; exact absurd hfu (Nat.not_lt_zero _)
            | succ fu ih81 =>
              intro k ρ' hk hρ hfr hfu H locs hP hS ls hl
              have e54 := hρ
              have hm1 := mul_lt_257 hkrt (hfb k)
              have hfk := hfa k
              refine lv_iload hx hb dX4_add_81 (lv_at hl 0 rfl) ?_
              refine lv_aload_n hx hb dX4_add_83 rfl (lv_at hl 5 rfl) ?_
              refine k_get (q0 := 136) (k := 5) (T := TX4) (Nf := 10) (ci := 4) (C := RX4) (v := .ref (ad (2 * 54))) hx hb hw_X4 hown hK hP (by decide) cW_top rfl (by decide) hf_41 rfl rfl dX4_add_84 ?_
              refine k_callVr (rest := [.int (nI (k))]) (nL := 9) ⟨hx, hb, hml, hown, hts⟩ (c_X2_length l D cy ad hI ρ' x 54 (by first | assumption | omega)) (cwV 0 hts gX4_add_X2_length rfl rfl rfl (by decide +kernel) ⟨Nat.le_of_ble_eq_true rfl, Nat.le_of_ble_eq_true rfl⟩) hK hP hS (fun _ h => h) (q0 := 2 * 54) (ci := 2) rfl (by omega) (cW_row (i := 54) (by omega)) rfl rfl rfl hl.1 rfl (Nat.le_of_ble_eq_true rfl) dX4_add_87 ⟨Nat.zero_le _, Nat.zero_le _⟩ (fun H locs hP hS => ?_)
              have hP : va_P D vwCl (wL 143 ad (cW ad cy (ρ') (x))) H := hP
              refine n_push (a := max (ρ jra).1 (ρ jrb).1) (by rw [e54]) ?_
              refine n_icmp_ge (tgt := 125) hx hb (by omega) (by omega) dX4_add_90 (by decide) (fun h_2 => ?_) (fun h_2 => ?_)
              · skip
                refine lv_aload_n hx hb dX4_add_125 rfl (lv_at hl 5 rfl) ?_
                refine lv_aload hx hb dX4_add_126 (lv_at hl 1 rfl) ?_
                refine k_callVv (rest := []) (nL := 9) ⟨hx, hb, hml, hown, hts⟩ (c_X4_change l D cy ad hI ρ' x jrc (by omega) hpm hp0 hpr hhl) (cwV 1 hts gX4_add_X4_change rfl rfl rfl (by decide +kernel) ⟨Nat.le_of_ble_eq_true rfl, Nat.le_of_ble_eq_true rfl⟩) hK hP hS (fun _ h => h) (q0 := 136) (ci := 4) rfl (by decide) cW_top rfl rfl rfl hl.1 rfl (Nat.le_of_ble_eq_true rfl) dX4_add_128 ⟨Nat.zero_le _, Nat.zero_le _⟩ (fun H locs hP hS => ?_)
                have hP : va_P D vwCl (wL 143 ad (cW ad cy (va_up (keepR ρ' x) jrc (ρ' 54)) (keepX x))) H := hP
                have eW : (va_up (keepR ρ' x) jrc (ρ' 54)) jrc = addR (ρ jra) (ρ jrb) krt := by rw [va_up_self, hρ, show k = max (ρ jra).1 (ρ jrb).1 by omega]; rfl
                refine lv_aload hx hb dX4_add_131 (lv_at hl 1 rfl) ?_
                refine k_callVr (rest := []) (nL := 9) ⟨hx, hb, hml, hown, hts⟩ (c_X2_length l D cy ad hI (va_up (keepR ρ' x) jrc (ρ' 54)) (keepX x) jrc (by first | assumption | omega)) (cwV 0 hts gX4_add_X2_length rfl rfl rfl (by decide +kernel) ⟨Nat.le_of_ble_eq_true rfl, Nat.le_of_ble_eq_true rfl⟩) hK hP hS (fun _ h => h) (q0 := 2 * jrc) (ci := 2) rfl (by omega) (cW_row (i := jrc) (by omega)) rfl rfl rfl hl.1 rfl (Nat.le_of_ble_eq_true rfl) dX4_add_133 ⟨Nat.zero_le _, Nat.zero_le _⟩ (fun H locs hP hS => ?_)
                have hP : va_P D vwCl (wL 143 ad (cW ad cy (va_up (keepR ρ' x) jrc (ρ' 54)) (keepX x))) H := hP
                refine k_iret hx hb hr hlocks (va_up (keepR ρ' x) jrc (ρ' 54), keepX x) hP hS dX4_add_136 ?_
                rw [ejra, ejrb, ejrc, ekrt, op_add_x hjra hjrb hjrc, ← hreg jra hjra, ← hreg jrb hjrb, if_neg (fun q => q (isN_nI hkrt)), rgN_nI (by omega), eW]
                exact ⟨rfl, cRep_chg hR hfr hjrc (by rw [hρ, show k = max (ρ jra).1 (ρ jrb).1 by omega]; rfl)⟩
              · skip
                refine lv_aload_n hx hb dX4_add_93 rfl (lv_at hl 5 rfl) ?_
                refine k_get (q0 := 136) (k := 5) (T := TX4) (Nf := 10) (ci := 4) (C := RX4) (v := .ref (ad (2 * 54))) hx hb hw_X4 hown hK hP (by decide) cW_top rfl (by decide) hf_41 rfl rfl dX4_add_94 ?_
                refine lv_iload hx hb dX4_add_97 (lv_at hl 0 rfl) ?_
                refine lv_aload hx hb dX4_add_99 (lv_at hl 3 rfl) ?_
                refine lv_iload hx hb dX4_add_101 (lv_at hl 0 rfl) ?_
                refine k_callVr (rest := [.int (nI (k)), .ref (ad (2 * 54))]) (nL := 9) ⟨hx, hb, hml, hown, hts⟩ (c_X2_at l D cy ad hI ρ' x jra k (by first | assumption | omega) (by first | assumption | omega)) (cwV 1 hts gX4_add_X2_at rfl rfl rfl (by decide +kernel) ⟨Nat.le_of_ble_eq_true rfl, Nat.le_of_ble_eq_true rfl⟩) hK hP hS (fun _ h => h) (q0 := 2 * jra) (ci := 2) rfl (by omega) (cW_row (i := jra) (by omega)) rfl rfl rfl hl.1 rfl (Nat.le_of_ble_eq_true rfl) dX4_add_103 ⟨Nat.zero_le _, Nat.zero_le _⟩ (fun H locs hP hS => ?_)
                have hP : va_P D vwCl (wL 143 ad (cW ad cy (ρ') (x))) H := hP
                refine n_push (a := (ρ jra).2 k) (by rw [hfr jra (by omega)]) ?_
                refine lv_iload_n hx hb dX4_add_106 rfl (lv_at hl 4 rfl) ?_
                refine lv_aload hx hb dX4_add_107 (lv_at hl 2 rfl) ?_
                refine lv_iload hx hb dX4_add_109 (lv_at hl 0 rfl) ?_
                refine k_callVr (rest := [.int (nI (krt)), .int (nI ((ρ jra).2 k)), .int (nI (k)), .ref (ad (2 * 54))]) (nL := 9) ⟨hx, hb, hml, hown, hts⟩ (c_X2_at l D cy ad hI ρ' x jrb k (by first | assumption | omega) (by first | assumption | omega)) (cwV 1 hts gX4_add_X2_at rfl rfl rfl (by decide +kernel) ⟨Nat.le_of_ble_eq_true rfl, Nat.le_of_ble_eq_true rfl⟩) hK hP hS (fun _ h => h) (q0 := 2 * jrb) (ci := 2) rfl (by omega) (cW_row (i := jrb) (by omega)) rfl rfl rfl hl.1 rfl (Nat.le_of_ble_eq_true rfl) dX4_add_111 ⟨Nat.zero_le _, Nat.zero_le _⟩ (fun H locs hP hS => ?_)
                have hP : va_P D vwCl (wL 143 ad (cW ad cy (ρ') (x))) H := hP
                refine n_push (a := (ρ jrb).2 k) (by rw [hfr jrb (by omega)]) ?_
                refine n_imul hx hb dX4_add_114 ?_
                refine n_iadd hx hb dX4_add_115 ?_
                refine k_callVv (rest := []) (nL := 9) ⟨hx, hb, hml, hown, hts⟩ (c_X2_write l D cy ad hI ρ' x 54 k (nI (((ρ jra).2 k) + (krt * ((ρ jrb).2 k)))) (by first | assumption | omega) (by first | assumption | omega)) (cwV 2 hts gX4_add_X2_write rfl rfl rfl (by decide +kernel) ⟨Nat.le_of_ble_eq_true rfl, Nat.le_of_ble_eq_true rfl⟩) hK hP hS (fun _ h => h) (q0 := 2 * 54) (ci := 2) rfl (by omega) (cW_row (i := 54) (by omega)) rfl rfl rfl hl.1 rfl (Nat.le_of_ble_eq_true rfl) dX4_add_116 ⟨Nat.zero_le _, Nat.zero_le _⟩ (fun H locs hP hS => ?_)
                have hP : va_P D vwCl (wL 143 ad (cW ad cy (va_up ρ' 54 ((ρ' 54).1, va_up (ρ' 54).2 k (kmod (nI (((ρ jra).2 k) + (krt * ((ρ jrb).2 k)))).toInt))) (x))) H := hP
                refine lv_iinc (v := nI (k + 1)) (lv' := [(8, .int (nI (k + 1))), (7, .ref (ad (2 * jrc))), (6, .ref (ad (2 * jrb))), (5, .ref (ad (2 * jra))), (3, .int (nI (krt))), (0, .ref (ad (136)))]) hx hb dX4_add_119 hl (k := 0) rfl (nI_inc _) (by decide) rfl (fun ls hl => ?_)
                refine lv_goto (tgt := 81) hx hb dX4_add_122 (by decide) ?_
                exact ih81 (k + 1) (va_up ρ' 54 ((ρ' 54).1, va_up (ρ' 54).2 k (kmod (nI (((ρ jra).2 k) + (krt * ((ρ jrb).2 k)))).toInt))) (by omega) (by rw [va_up_self, kmod_nI (by omega), hρ]; exact congrArg (fun z => (_, z)) (adF_s _ _ _ _)) (fun i hi => by rw [va_up_ne _ _ (by omega)]; exact hfr i hi) (by omega) _ _ hP hS _ hl
          exact lp81 (_ + 1) (0) (va_up ρ 54 ((max ((ρ jra).1) ((ρ jrb).1)), fun _ => 0)) (Nat.zero_le _) (by rw [va_up_self, adF_0]) (fun i hi => va_up_ne _ _ (by omega)) (Nat.lt_succ_self _) _ _ hP hS _ (lv_sub hl [0, 1, 2, 3, 7, 4] rfl)
        · skip
          have hnrt : ¬ isN rt := of_decide_eq_false h_1
          refine lv_bipush (v := (-2 : Int32)) hx hb dX4_add_55 (by decide) ?_
          refine k_iret hx hb hr hlocks (ρ, x) hP hS dX4_add_57 ?_
          rw [ejra, ejrb, ejrc, op_add_x hjra hjrb hjrc, if_pos hnrt]
          exact ⟨rfl, hR⟩
set_option maxHeartbeats 4000000 in
set_option maxRecDepth 100000 in
theorem c_X4_round (l : Launch) (D : va_G) (cy : Nat → ClassId) (ad : Nat → Nat) (hI : wI 143 ad) (ρ : Nat → kR) (x : kX) (S : kSt) (ra : Int32) (rb : Int32) (rn : Int32) (rc : Int32) (hSI : kInv S) (hR : cRep S (ρ, x)) : kM l yX4_round wsX4_round ({ frames := 5, cells := 0, slots := 0, locals := 103 } : Room) D cy 143 ad (cWf ad cy) (cW ad cy (ρ) (x)) [.ref (ad (136)), .int (ra), .int (rb), .int (rn), .int (rc)] (fun o u => o = some (.int (op_round S ra rb rn rc).1) ∧ cRep (op_round S ra rb rn rc).2 u) := by
  refine k_met cX4_round 8 (some .int) (by decide) rfl (Nat.le_of_ble_eq_true rfl) ?_
  intro p e s m below meth c ls hx hb hr hts hown hlocks hml hK hP hS hl
  have hl : lv_has ls 8 [(0, .ref (ad (136))), (1, .int (ra)), (2, .int (rb)), (3, .int (rn)), (4, .int (rc))] := hl
  have hown : s.vm.findClass RX4 = some m.cls := hown
  have hf_10 := hts (.fieldLink RX4 10 "TurnedRows" "state" "LTurnedRows$State;") (by decide +kernel)
  have hf_41 := hts (.fieldLink RX4 41 "TurnedRows" "made" "LTurnedRows$Row;") (by decide +kernel)
  have hw_X4 : ∀ qw ∈ wsX40, qw.before ([.ref (ad (136)), .int (ra), .int (rb), .int (rn), .int (rc)] : List Value).toArray s = true := fun qw h => hts qw ((by decide +kernel : ∀ qw ∈ wsX40, qw ∈ wsX4_round) qw h)
  have hrow : ∀ j, j < 6 → rO (ρ j) := fun j hj => by rw [show ρ j = S.1 j from hR.1 j hj]; exact hSI.1 j hj
  have hreg : ∀ j, j < 6 → ρ j = S.1 j := hR.1
  have hpr : ∀ j, j < 6 → 1 ≤ x.2.1 j ∧ x.2.1 j ≤ 6 := hR.2.2.2.2.1
  have hpm : ∀ j, j < 6 → x.2.1 j < 9 := fun j hj => by have := hpr j hj; omega
  have hp0 : ∀ j, j < 6 → x.2.1 j ≠ 0 := fun j hj => by have := hpr j hj; omega
  have hhl : x.1 ≤ 6 := by rw [show x.1 = S.2.2.1 from hR.2.1.1]; exact hR.2.1.2
  have hplS : x.2.2.1 = S.2.2.2.2.2.1 := hR.2.2.2.2.2.2.1
  have hpl : x.2.2.1 ≤ 80 := by rw [hplS]; exact hSI.2.2.2.2.2.1
  have hpdS : ∀ j, j < S.2.2.2.2.2.1 → x.2.2.2.1 j = S.2.2.2.2.2.2 j := hR.2.2.2.2.2.2.2.1
  have hpd : ∀ j, j < x.2.2.1 → x.2.2.2.1 j < 127 := fun j hj => by rw [hpdS j (by omega)]; have := (hSI.2.2.2.2.2.2 j (by omega)).2; omega
  refine lv_aload_n hx hb dX4_round_0 rfl (lv_at hl 0 rfl) ?_
  refine k_get (q0 := 136) (k := 0) (T := TX4) (Nf := 10) (ci := 4) (C := RX4) (v := .ref (ad (118 + 2 * 0))) hx hb hw_X4 hown hK hP (by decide) cW_top rfl (by decide) hf_10 rfl rfl dX4_round_1 ?_
  refine lv_iload_n hx hb dX4_round_4 rfl (lv_at hl 1 rfl) ?_
  refine k_callVr (rest := []) (nL := 8) ⟨hx, hb, hml, hown, hts⟩ (c_X3_rowOf l D cy ad hI ρ x ra) (cwV 1 hts gX4_round_X3_rowOf rfl rfl rfl (by decide +kernel) ⟨Nat.le_of_ble_eq_true rfl, Nat.le_of_ble_eq_true rfl⟩) hK hP hS (fun _ h => h) (q0 := 118 + 2 * 0) (ci := 3) rfl (by omega) (cW_st (t := 0) (by omega)) rfl rfl rfl hl.1 rfl (Nat.le_of_ble_eq_true rfl) dX4_round_5 ⟨Nat.zero_le _, Nat.zero_le _⟩ (fun H locs hP hS => ?_)
  have hP : va_P D vwCl (wL 143 ad (cW ad cy (ρ) (x))) H := hP
  refine lv_astoreV (lv' := [(5, va_rf (rOf ad ra)), (0, .ref (ad (136))), (1, .int (ra)), (2, .int (rb)), (3, .int (rn)), (4, .int (rc))]) hx hb dX4_round_8 hl (by decide) rfl (fun ls hl => ?_)
  refine lv_aload_n hx hb dX4_round_10 rfl (lv_at hl 1 rfl) ?_
  refine k_get (q0 := 136) (k := 0) (T := TX4) (Nf := 10) (ci := 4) (C := RX4) (v := .ref (ad (118 + 2 * 0))) hx hb hw_X4 hown hK hP (by decide) cW_top rfl (by decide) hf_10 rfl rfl dX4_round_11 ?_
  refine lv_iload_n hx hb dX4_round_14 rfl (lv_at hl 3 rfl) ?_
  refine k_callVr (rest := []) (nL := 8) ⟨hx, hb, hml, hown, hts⟩ (c_X3_rowOf l D cy ad hI ρ x rb) (cwV 1 hts gX4_round_X3_rowOf rfl rfl rfl (by decide +kernel) ⟨Nat.le_of_ble_eq_true rfl, Nat.le_of_ble_eq_true rfl⟩) hK hP hS (fun _ h => h) (q0 := 118 + 2 * 0) (ci := 3) rfl (by omega) (cW_st (t := 0) (by omega)) rfl rfl rfl hl.1 rfl (Nat.le_of_ble_eq_true rfl) dX4_round_15 ⟨Nat.zero_le _, Nat.zero_le _⟩ (fun H locs hP hS => ?_)
  have hP : va_P D vwCl (wL 143 ad (cW ad cy (ρ) (x))) H := hP
  refine lv_astoreV (lv' := [(6, va_rf (rOf ad rb)), (5, va_rf (rOf ad ra)), (0, .ref (ad (136))), (1, .int (ra)), (2, .int (rb)), (3, .int (rn)), (4, .int (rc))]) hx hb dX4_round_18 hl (by decide) (by simp [List.filter, va_rf_cat]) (fun ls hl => ?_)
  refine lv_aload_n hx hb dX4_round_20 rfl (lv_at hl 2 rfl) ?_
  refine k_get (q0 := 136) (k := 0) (T := TX4) (Nf := 10) (ci := 4) (C := RX4) (v := .ref (ad (118 + 2 * 0))) hx hb hw_X4 hown hK hP (by decide) cW_top rfl (by decide) hf_10 rfl rfl dX4_round_21 ?_
  refine lv_iload hx hb dX4_round_24 (lv_at hl 6 rfl) ?_
  refine k_callVr (rest := []) (nL := 8) ⟨hx, hb, hml, hown, hts⟩ (c_X3_rowOf l D cy ad hI ρ x rc) (cwV 1 hts gX4_round_X3_rowOf rfl rfl rfl (by decide +kernel) ⟨Nat.le_of_ble_eq_true rfl, Nat.le_of_ble_eq_true rfl⟩) hK hP hS (fun _ h => h) (q0 := 118 + 2 * 0) (ci := 3) rfl (by omega) (cW_st (t := 0) (by omega)) rfl rfl rfl hl.1 rfl (Nat.le_of_ble_eq_true rfl) dX4_round_26 ⟨Nat.zero_le _, Nat.zero_le _⟩ (fun H locs hP hS => ?_)
  have hP : va_P D vwCl (wL 143 ad (cW ad cy (ρ) (x))) H := hP
  refine lv_astoreV (lv' := [(7, va_rf (rOf ad rc)), (6, va_rf (rOf ad rb)), (5, va_rf (rOf ad ra)), (0, .ref (ad (136))), (1, .int (ra)), (2, .int (rb)), (3, .int (rn)), (4, .int (rc))]) hx hb dX4_round_29 hl (by decide) (by simp [List.filter, va_rf_cat]) (fun ls hl => ?_)
  refine lv_aloadV hx hb dX4_round_31 (lv_at hl 2 rfl) ?_
  rcases kreg_cases ra with hjra | ⟨jra, hjra, ejra⟩
  · skip
    rw [kreg_bad hjra] at hl ⊢
    refine lv_ifnullN (tgt := 46) hx hb dX4_round_33 (by decide) ?_
    refine lv_iconst (v := (-1 : Int32)) hx hb dX4_round_46 (by decide) ?_
    refine k_iret hx hb hr hlocks (ρ, x) hP hS dX4_round_47 ?_
    rw [show op_round S ra rb rn rc = (-1, S) from if_pos (by first | exact Or.inl hjra | exact Or.inr (Or.inl hjrb) | exact Or.inr (Or.inr (hjrc)))]
    exact ⟨rfl, hR⟩
  · skip
    rw [kreg_ok hjra ejra] at hl ⊢
    refine lv_ifnull hx hb dX4_round_33 ?_
    refine lv_aloadV hx hb dX4_round_36 (lv_at hl 1 rfl) ?_
    rcases kreg_cases rb with hjrb | ⟨jrb, hjrb, ejrb⟩
    · skip
      rw [kreg_bad hjrb] at hl ⊢
      refine lv_ifnullN (tgt := 46) hx hb dX4_round_38 (by decide) ?_
      refine lv_iconst (v := (-1 : Int32)) hx hb dX4_round_46 (by decide) ?_
      refine k_iret hx hb hr hlocks (ρ, x) hP hS dX4_round_47 ?_
      rw [show op_round S ra rb rn rc = (-1, S) from if_pos (by first | exact Or.inl hjra | exact Or.inr (Or.inl hjrb) | exact Or.inr (Or.inr (hjrc)))]
      exact ⟨rfl, hR⟩
    · skip
      rw [kreg_ok hjrb ejrb] at hl ⊢
      refine lv_ifnull hx hb dX4_round_38 ?_
      refine lv_aloadV hx hb dX4_round_41 (lv_at hl 0 rfl) ?_
      rcases kreg_cases rc with hjrc | ⟨jrc, hjrc, ejrc⟩
      · skip
        rw [kreg_bad hjrc] at hl ⊢
        refine lv_ifnonnullN hx hb dX4_round_43 ?_
        refine lv_iconst (v := (-1 : Int32)) hx hb dX4_round_46 (by decide) ?_
        refine k_iret hx hb hr hlocks (ρ, x) hP hS dX4_round_47 ?_
        rw [show op_round S ra rb rn rc = (-1, S) from if_pos (by first | exact Or.inl hjra | exact Or.inr (Or.inl hjrb) | exact Or.inr (Or.inr (hjrc)))]
        exact ⟨rfl, hR⟩
      · skip
        rw [kreg_ok hjrc ejrc] at hl ⊢
        refine lv_ifnonnull (tgt := 48) hx hb dX4_round_43 (by decide) ?_
        refine lv_iload_n hx hb dX4_round_48 rfl (lv_at hl 6 rfl) ?_
        refine lv_iconst (v := nI (1)) hx hb dX4_round_49 rfl ?_
        refine lv_icmp_lt (tgt := 59) hx hb dX4_round_50 (by decide) (fun h_1 => ?_) (fun h_1 => ?_)
        · skip
          refine lv_bipush (v := (-2 : Int32)) hx hb dX4_round_59 (by decide) ?_
          refine k_iret hx hb hr hlocks (ρ, x) hP hS dX4_round_61 ?_
          rw [ejra, ejrb, ejrc, op_round_x hjra hjrb hjrc, if_pos (fun q => absurd q.1 (Int32.not_le.mpr h_1))]
          exact ⟨rfl, hR⟩
        · skip
          refine lv_iload_n hx hb dX4_round_53 rfl (lv_at hl 6 rfl) ?_
          refine lv_bipush (v := nI (64)) hx hb dX4_round_54 rfl ?_
          refine lv_icmp_le (tgt := 62) hx hb dX4_round_56 (by decide) (fun h_2 => ?_) (fun h_2 => ?_)
          · skip
            obtain ⟨kn, hkn1, hkn, ekn⟩ := kin1 (r := rn) (n := 64) (by decide) h_1 (Int32.not_lt.mpr h_2)
            rw [ekn] at hl
            refine lv_aload hx hb dX4_round_62 (lv_at hl 2 rfl) ?_
            refine lv_aload hx hb dX4_round_64 (lv_at hl 1 rfl) ?_
            refine lv_iload_n hx hb dX4_round_66 rfl (lv_at hl 6 rfl) ?_
            refine lv_aload_n hx hb dX4_round_67 rfl (lv_at hl 3 rfl) ?_
            refine k_get (q0 := 136) (k := 5) (T := TX4) (Nf := 10) (ci := 4) (C := RX4) (v := .ref (ad (2 * 54))) hx hb hw_X4 hown hK hP (by decide) cW_top rfl (by decide) hf_41 rfl rfl dX4_round_68 ?_
            have hoa := hrow jra hjra
            have hob := hrow jrb hjrb
            refine k_callSv (rest := []) (nL := 8) ⟨hx, hb, hml, hown, hts⟩ (c_X4_multiply l D cy ad hI ρ x jra jrb 54 kn (by first | assumption | omega) (by first | assumption | omega) (by first | assumption | omega) (by first | assumption | omega) (by first | assumption | omega) hoa.K hob.K (by first | assumption | omega)) (va_cwS 4 hts gX4_round_X4_multiply rfl rfl rfl (by decide +kernel) ⟨Nat.le_of_ble_eq_true rfl, Nat.le_of_ble_eq_true rfl⟩) hK hP hS (fun _ h => h) rfl hl.1 rfl (Nat.le_of_ble_eq_true rfl) dX4_round_71 ⟨Nat.zero_le _, Nat.zero_le _⟩ (fun H locs hP hS => ?_)
            have hP : va_P D vwCl (wL 143 ad (cW ad cy (va_up ρ 54 (mulR (ρ jra) (ρ jrb) kn)) (x))) H := hP
            refine lv_aload_n hx hb dX4_round_74 rfl (lv_at hl 3 rfl) ?_
            refine lv_aload hx hb dX4_round_75 (lv_at hl 0 rfl) ?_
            refine k_callVv (rest := []) (nL := 8) ⟨hx, hb, hml, hown, hts⟩ (c_X4_change l D cy ad hI (va_up ρ 54 (mulR (ρ jra) (ρ jrb) kn)) x jrc (by omega) hpm hp0 hpr hhl) (cwV 1 hts gX4_round_X4_change rfl rfl rfl (by decide +kernel) ⟨Nat.le_of_ble_eq_true rfl, Nat.le_of_ble_eq_true rfl⟩) hK hP hS (fun _ h => h) (q0 := 136) (ci := 4) rfl (by decide) cW_top rfl rfl rfl hl.1 rfl (Nat.le_of_ble_eq_true rfl) dX4_round_77 ⟨Nat.zero_le _, Nat.zero_le _⟩ (fun H locs hP hS => ?_)
            have hP : va_P D vwCl (wL 143 ad (cW ad cy (va_up (keepR (va_up ρ 54 (mulR (ρ jra) (ρ jrb) kn)) x) jrc ((va_up ρ 54 (mulR (ρ jra) (ρ jrb) kn)) 54)) (keepX x))) H := hP
            have eW : (va_up (keepR (va_up ρ 54 (mulR (ρ jra) (ρ jrb) kn)) x) jrc ((va_up ρ 54 (mulR (ρ jra) (ρ jrb) kn)) 54)) jrc = mulR (ρ jra) (ρ jrb) kn := by rw [va_up_self]; exact va_up_self _ _ _
            have hW : rO (mulR (ρ jra) (ρ jrb) kn) := mulR_O ⟨hkn1, hkn⟩
            refine lv_aload hx hb dX4_round_80 (lv_at hl 0 rfl) ?_
            refine k_callVr (rest := []) (nL := 8) ⟨hx, hb, hml, hown, hts⟩ (c_X2_degree l D cy ad hI (va_up (keepR (va_up ρ 54 (mulR (ρ jra) (ρ jrb) kn)) x) jrc ((va_up ρ 54 (mulR (ρ jra) (ρ jrb) kn)) 54)) (keepX x) jrc (by first | assumption | omega) (by rw [eW]; exact hW.2.1) (by rw [eW]; exact hW.2.2.1)) (cwV 0 hts gX4_round_X2_degree rfl rfl rfl (by decide +kernel) ⟨Nat.le_of_ble_eq_true rfl, Nat.le_of_ble_eq_true rfl⟩) hK hP hS (fun _ h => h) (q0 := 2 * jrc) (ci := 2) rfl (by omega) (cW_row (i := jrc) (by omega)) rfl rfl rfl hl.1 rfl (Nat.le_of_ble_eq_true rfl) dX4_round_82 ⟨Nat.zero_le _, Nat.zero_le _⟩ (fun H locs hP hS => ?_)
            have hP : va_P D vwCl (wL 143 ad (cW ad cy (va_up (keepR (va_up ρ 54 (mulR (ρ jra) (ρ jrb) kn)) x) jrc ((va_up ρ 54 (mulR (ρ jra) (ρ jrb) kn)) 54)) (keepX x))) H := hP
            refine k_iret hx hb hr hlocks (va_up (keepR (va_up ρ 54 (mulR (ρ jra) (ρ jrb) kn)) x) jrc ((va_up ρ 54 (mulR (ρ jra) (ρ jrb) kn)) 54), keepX x) hP hS dX4_round_85 ?_
            rw [ejra, ejrb, ejrc, ekn, op_round_x hjra hjrb hjrc, ← hreg jra hjra, ← hreg jrb hjrb, if_neg (fun q => q (kin1_nI hkn1 hkn (by decide))), rgN_nI (by omega), eW]
            exact ⟨rfl, cRep_chg hR (fun i hi => va_up_ne _ _ (by omega)) hjrc (va_up_self _ _ _)⟩
          · skip
            refine lv_bipush (v := (-2 : Int32)) hx hb dX4_round_59 (by decide) ?_
            refine k_iret hx hb hr hlocks (ρ, x) hP hS dX4_round_61 ?_
            rw [ejra, ejrb, ejrc, op_round_x hjra hjrb hjrc, if_pos (fun q => h_2 q.2)]
            exact ⟨rfl, hR⟩
set_option maxHeartbeats 4000000 in
set_option maxRecDepth 100000 in
theorem c_X4_inverse (l : Launch) (D : va_G) (cy : Nat → ClassId) (ad : Nat → Nat) (hI : wI 143 ad) (ρ : Nat → kR) (x : kX) (S : kSt) (ra : Int32) (rn : Int32) (rc : Int32) (hSI : kInv S) (hR : cRep S (ρ, x)) : kM l yX4_inverse wsX4_inverse ({ frames := 5, cells := 0, slots := 0, locals := 103 } : Room) D cy 143 ad (cWf ad cy) (cW ad cy (ρ) (x)) [.ref (ad (136)), .int (ra), .int (rn), .int (rc)] (fun o u => o = some (.int (op_inverse S ra rn rc).1) ∧ cRep (op_inverse S ra rn rc).2 u) := by
  refine k_met cX4_inverse 6 (some .int) (by decide) rfl (Nat.le_of_ble_eq_true rfl) ?_
  intro p e s m below meth c ls hx hb hr hts hown hlocks hml hK hP hS hl
  have hl : lv_has ls 6 [(0, .ref (ad (136))), (1, .int (ra)), (2, .int (rn)), (3, .int (rc))] := hl
  have hown : s.vm.findClass RX4 = some m.cls := hown
  have hf_10 := hts (.fieldLink RX4 10 "TurnedRows" "state" "LTurnedRows$State;") (by decide +kernel)
  have hf_41 := hts (.fieldLink RX4 41 "TurnedRows" "made" "LTurnedRows$Row;") (by decide +kernel)
  have hw_X4 : ∀ qw ∈ wsX40, qw.before ([.ref (ad (136)), .int (ra), .int (rn), .int (rc)] : List Value).toArray s = true := fun qw h => hts qw ((by decide +kernel : ∀ qw ∈ wsX40, qw ∈ wsX4_inverse) qw h)
  have hrow : ∀ j, j < 6 → rO (ρ j) := fun j hj => by rw [show ρ j = S.1 j from hR.1 j hj]; exact hSI.1 j hj
  have hreg : ∀ j, j < 6 → ρ j = S.1 j := hR.1
  have hpr : ∀ j, j < 6 → 1 ≤ x.2.1 j ∧ x.2.1 j ≤ 6 := hR.2.2.2.2.1
  have hpm : ∀ j, j < 6 → x.2.1 j < 9 := fun j hj => by have := hpr j hj; omega
  have hp0 : ∀ j, j < 6 → x.2.1 j ≠ 0 := fun j hj => by have := hpr j hj; omega
  have hhl : x.1 ≤ 6 := by rw [show x.1 = S.2.2.1 from hR.2.1.1]; exact hR.2.1.2
  have hplS : x.2.2.1 = S.2.2.2.2.2.1 := hR.2.2.2.2.2.2.1
  have hpl : x.2.2.1 ≤ 80 := by rw [hplS]; exact hSI.2.2.2.2.2.1
  have hpdS : ∀ j, j < S.2.2.2.2.2.1 → x.2.2.2.1 j = S.2.2.2.2.2.2 j := hR.2.2.2.2.2.2.2.1
  have hpd : ∀ j, j < x.2.2.1 → x.2.2.2.1 j < 127 := fun j hj => by rw [hpdS j (by omega)]; have := (hSI.2.2.2.2.2.2 j (by omega)).2; omega
  refine lv_aload_n hx hb dX4_inverse_0 rfl (lv_at hl 0 rfl) ?_
  refine k_get (q0 := 136) (k := 0) (T := TX4) (Nf := 10) (ci := 4) (C := RX4) (v := .ref (ad (118 + 2 * 0))) hx hb hw_X4 hown hK hP (by decide) cW_top rfl (by decide) hf_10 rfl rfl dX4_inverse_1 ?_
  refine lv_iload_n hx hb dX4_inverse_4 rfl (lv_at hl 1 rfl) ?_
  refine k_callVr (rest := []) (nL := 6) ⟨hx, hb, hml, hown, hts⟩ (c_X3_rowOf l D cy ad hI ρ x ra) (cwV 1 hts gX4_inverse_X3_rowOf rfl rfl rfl (by decide +kernel) ⟨Nat.le_of_ble_eq_true rfl, Nat.le_of_ble_eq_true rfl⟩) hK hP hS (fun _ h => h) (q0 := 118 + 2 * 0) (ci := 3) rfl (by omega) (cW_st (t := 0) (by omega)) rfl rfl rfl hl.1 rfl (Nat.le_of_ble_eq_true rfl) dX4_inverse_5 ⟨Nat.zero_le _, Nat.zero_le _⟩ (fun H locs hP hS => ?_)
  have hP : va_P D vwCl (wL 143 ad (cW ad cy (ρ) (x))) H := hP
  refine lv_astoreV (lv' := [(4, va_rf (rOf ad ra)), (0, .ref (ad (136))), (1, .int (ra)), (2, .int (rn)), (3, .int (rc))]) hx hb dX4_inverse_8 hl (by decide) rfl (fun ls hl => ?_)
  refine lv_aload_n hx hb dX4_inverse_10 rfl (lv_at hl 1 rfl) ?_
  refine k_get (q0 := 136) (k := 0) (T := TX4) (Nf := 10) (ci := 4) (C := RX4) (v := .ref (ad (118 + 2 * 0))) hx hb hw_X4 hown hK hP (by decide) cW_top rfl (by decide) hf_10 rfl rfl dX4_inverse_11 ?_
  refine lv_iload_n hx hb dX4_inverse_14 rfl (lv_at hl 4 rfl) ?_
  refine k_callVr (rest := []) (nL := 6) ⟨hx, hb, hml, hown, hts⟩ (c_X3_rowOf l D cy ad hI ρ x rc) (cwV 1 hts gX4_inverse_X3_rowOf rfl rfl rfl (by decide +kernel) ⟨Nat.le_of_ble_eq_true rfl, Nat.le_of_ble_eq_true rfl⟩) hK hP hS (fun _ h => h) (q0 := 118 + 2 * 0) (ci := 3) rfl (by omega) (cW_st (t := 0) (by omega)) rfl rfl rfl hl.1 rfl (Nat.le_of_ble_eq_true rfl) dX4_inverse_15 ⟨Nat.zero_le _, Nat.zero_le _⟩ (fun H locs hP hS => ?_)
  have hP : va_P D vwCl (wL 143 ad (cW ad cy (ρ) (x))) H := hP
  refine lv_astoreV (lv' := [(5, va_rf (rOf ad rc)), (4, va_rf (rOf ad ra)), (0, .ref (ad (136))), (1, .int (ra)), (2, .int (rn)), (3, .int (rc))]) hx hb dX4_inverse_18 hl (by decide) (by simp [List.filter, va_rf_cat]) (fun ls hl => ?_)
  refine lv_aloadV hx hb dX4_inverse_20 (lv_at hl 1 rfl) ?_
  rcases kreg_cases ra with hjra | ⟨jra, hjra, ejra⟩
  · skip
    rw [kreg_bad hjra] at hl ⊢
    refine lv_ifnullN (tgt := 30) hx hb dX4_inverse_22 (by decide) ?_
    refine lv_iconst (v := (-1 : Int32)) hx hb dX4_inverse_30 (by decide) ?_
    refine k_iret hx hb hr hlocks (ρ, x) hP hS dX4_inverse_31 ?_
    rw [show op_inverse S ra rn rc = (-1, S) from if_pos (by first | exact Or.inl hjra | exact Or.inr (hjrc))]
    exact ⟨rfl, hR⟩
  · skip
    rw [kreg_ok hjra ejra] at hl ⊢
    refine lv_ifnull hx hb dX4_inverse_22 ?_
    refine lv_aloadV hx hb dX4_inverse_25 (lv_at hl 0 rfl) ?_
    rcases kreg_cases rc with hjrc | ⟨jrc, hjrc, ejrc⟩
    · skip
      rw [kreg_bad hjrc] at hl ⊢
      refine lv_ifnonnullN hx hb dX4_inverse_27 ?_
      refine lv_iconst (v := (-1 : Int32)) hx hb dX4_inverse_30 (by decide) ?_
      refine k_iret hx hb hr hlocks (ρ, x) hP hS dX4_inverse_31 ?_
      rw [show op_inverse S ra rn rc = (-1, S) from if_pos (by first | exact Or.inl hjra | exact Or.inr (hjrc))]
      exact ⟨rfl, hR⟩
    · skip
      rw [kreg_ok hjrc ejrc] at hl ⊢
      refine lv_ifnonnull (tgt := 32) hx hb dX4_inverse_27 (by decide) ?_
      refine lv_iload_n hx hb dX4_inverse_32 rfl (lv_at hl 4 rfl) ?_
      refine lv_iconst (v := nI (1)) hx hb dX4_inverse_33 rfl ?_
      refine lv_icmp_lt (tgt := 43) hx hb dX4_inverse_34 (by decide) (fun h_1 => ?_) (fun h_1 => ?_)
      · skip
        refine lv_bipush (v := (-2 : Int32)) hx hb dX4_inverse_43 (by decide) ?_
        refine k_iret hx hb hr hlocks (ρ, x) hP hS dX4_inverse_45 ?_
        rw [ejra, ejrc, op_inverse_x hjra hjrc, if_pos (fun q => absurd q.1 (Int32.not_le.mpr h_1))]
        exact ⟨rfl, hR⟩
      · skip
        refine lv_iload_n hx hb dX4_inverse_37 rfl (lv_at hl 4 rfl) ?_
        refine lv_bipush (v := nI (64)) hx hb dX4_inverse_38 rfl ?_
        refine lv_icmp_le (tgt := 46) hx hb dX4_inverse_40 (by decide) (fun h_2 => ?_) (fun h_2 => ?_)
        · skip
          obtain ⟨kn, hkn1, hkn, ekn⟩ := kin1 (r := rn) (n := 64) (by decide) h_1 (Int32.not_lt.mpr h_2)
          rw [ekn] at hl
          refine lv_aload hx hb dX4_inverse_46 (lv_at hl 1 rfl) ?_
          refine lv_iconst (v := nI (0)) hx hb dX4_inverse_48 rfl ?_
          have hoa := hrow jra hjra
          have hf0 := hoa.2.2.1 0
          refine k_callVr (rest := []) (nL := 6) ⟨hx, hb, hml, hown, hts⟩ (c_X2_at l D cy ad hI ρ x jra 0 (by first | assumption | omega) (by first | assumption | omega)) (cwV 1 hts gX4_inverse_X2_at rfl rfl rfl (by decide +kernel) ⟨Nat.le_of_ble_eq_true rfl, Nat.le_of_ble_eq_true rfl⟩) hK hP hS (fun _ h => h) (q0 := 2 * jra) (ci := 2) rfl (by omega) (cW_row (i := jra) (by omega)) rfl rfl rfl hl.1 rfl (Nat.le_of_ble_eq_true rfl) dX4_inverse_49 ⟨Nat.zero_le _, Nat.zero_le _⟩ (fun H locs hP hS => ?_)
          have hP : va_P D vwCl (wL 143 ad (cW ad cy (ρ) (x))) H := hP
          refine n_ifne (tgt := 58) hx hb (by omega) dX4_inverse_52 (by decide) (fun h_3 => ?_) (fun h_3 => ?_)
          · skip
            refine lv_aload hx hb dX4_inverse_58 (lv_at hl 1 rfl) ?_
            refine lv_iload_n hx hb dX4_inverse_60 rfl (lv_at hl 4 rfl) ?_
            refine lv_aload_n hx hb dX4_inverse_61 rfl (lv_at hl 2 rfl) ?_
            refine k_get (q0 := 136) (k := 5) (T := TX4) (Nf := 10) (ci := 4) (C := RX4) (v := .ref (ad (2 * 54))) hx hb hw_X4 hown hK hP (by decide) cW_top rfl (by decide) hf_41 rfl rfl dX4_inverse_62 ?_
            refine k_callSv (rest := []) (nL := 6) ⟨hx, hb, hml, hown, hts⟩ (c_X4_invertRow l D cy ad hI ρ x jra kn 54 (by first | assumption | omega) (by first | assumption | omega) (by first | assumption | omega) hoa.K (by first | assumption | omega)) (va_cwS 3 hts gX4_inverse_X4_invertRow rfl rfl rfl (by decide +kernel) ⟨Nat.le_of_ble_eq_true rfl, Nat.le_of_ble_eq_true rfl⟩) hK hP hS (fun _ h => h) rfl hl.1 rfl (Nat.le_of_ble_eq_true rfl) dX4_inverse_65 ⟨Nat.zero_le _, Nat.zero_le _⟩ (fun H locs hP hS => ?_)
            have hP : va_P D vwCl (wL 143 ad (cW ad cy (va_up ρ 54 (kn, inv (ρ jra).2 (pw ((ρ jra).2 0) 255) kn)) (x))) H := hP
            refine lv_aload_n hx hb dX4_inverse_68 rfl (lv_at hl 2 rfl) ?_
            refine lv_aload hx hb dX4_inverse_69 (lv_at hl 0 rfl) ?_
            refine k_callVv (rest := []) (nL := 6) ⟨hx, hb, hml, hown, hts⟩ (c_X4_change l D cy ad hI (va_up ρ 54 (kn, inv (ρ jra).2 (pw ((ρ jra).2 0) 255) kn)) x jrc (by omega) hpm hp0 hpr hhl) (cwV 1 hts gX4_inverse_X4_change rfl rfl rfl (by decide +kernel) ⟨Nat.le_of_ble_eq_true rfl, Nat.le_of_ble_eq_true rfl⟩) hK hP hS (fun _ h => h) (q0 := 136) (ci := 4) rfl (by decide) cW_top rfl rfl rfl hl.1 rfl (Nat.le_of_ble_eq_true rfl) dX4_inverse_71 ⟨Nat.zero_le _, Nat.zero_le _⟩ (fun H locs hP hS => ?_)
            have hP : va_P D vwCl (wL 143 ad (cW ad cy (va_up (keepR (va_up ρ 54 (kn, inv (ρ jra).2 (pw ((ρ jra).2 0) 255) kn)) x) jrc ((va_up ρ 54 (kn, inv (ρ jra).2 (pw ((ρ jra).2 0) 255) kn)) 54)) (keepX x))) H := hP
            have eW : (va_up (keepR (va_up ρ 54 (kn, inv (ρ jra).2 (pw ((ρ jra).2 0) 255) kn)) x) jrc ((va_up ρ 54 (kn, inv (ρ jra).2 (pw ((ρ jra).2 0) 255) kn)) 54)) jrc = invR (ρ jra) kn := by rw [va_up_self]; exact va_up_self _ _ _
            have hW : rO (invR (ρ jra) kn) := invR_O ⟨hkn1, hkn⟩
            refine lv_aload hx hb dX4_inverse_74 (lv_at hl 0 rfl) ?_
            refine k_callVr (rest := []) (nL := 6) ⟨hx, hb, hml, hown, hts⟩ (c_X2_degree l D cy ad hI (va_up (keepR (va_up ρ 54 (kn, inv (ρ jra).2 (pw ((ρ jra).2 0) 255) kn)) x) jrc ((va_up ρ 54 (kn, inv (ρ jra).2 (pw ((ρ jra).2 0) 255) kn)) 54)) (keepX x) jrc (by first | assumption | omega) (by rw [eW]; exact hW.2.1) (by rw [eW]; exact hW.2.2.1)) (cwV 0 hts gX4_inverse_X2_degree rfl rfl rfl (by decide +kernel) ⟨Nat.le_of_ble_eq_true rfl, Nat.le_of_ble_eq_true rfl⟩) hK hP hS (fun _ h => h) (q0 := 2 * jrc) (ci := 2) rfl (by omega) (cW_row (i := jrc) (by omega)) rfl rfl rfl hl.1 rfl (Nat.le_of_ble_eq_true rfl) dX4_inverse_76 ⟨Nat.zero_le _, Nat.zero_le _⟩ (fun H locs hP hS => ?_)
            have hP : va_P D vwCl (wL 143 ad (cW ad cy (va_up (keepR (va_up ρ 54 (kn, inv (ρ jra).2 (pw ((ρ jra).2 0) 255) kn)) x) jrc ((va_up ρ 54 (kn, inv (ρ jra).2 (pw ((ρ jra).2 0) 255) kn)) 54)) (keepX x))) H := hP
            refine k_iret hx hb hr hlocks (va_up (keepR (va_up ρ 54 (kn, inv (ρ jra).2 (pw ((ρ jra).2 0) 255) kn)) x) jrc ((va_up ρ 54 (kn, inv (ρ jra).2 (pw ((ρ jra).2 0) 255) kn)) 54), keepX x) hP hS dX4_inverse_79 ?_
            rw [ejra, ejrc, ekn, op_inverse_x hjra hjrc, ← hreg jra hjra, if_neg (fun q => q (kin1_nI hkn1 hkn (by decide))), if_neg h_3, rgN_nI (by omega), eW]
            exact ⟨rfl, cRep_chg hR (fun i hi => va_up_ne _ _ (by omega)) hjrc (va_up_self _ _ _)⟩
          · skip
            refine lv_bipush (v := (-5 : Int32)) hx hb dX4_inverse_55 (by decide) ?_
            refine k_iret hx hb hr hlocks (ρ, x) hP hS dX4_inverse_57 ?_
            rw [ejra, ejrc, ekn, op_inverse_x hjra hjrc, ← hreg jra hjra, if_neg (fun q => q (kin1_nI hkn1 hkn (by decide))), if_pos h_3]
            exact ⟨rfl, hR⟩
        · skip
          refine lv_bipush (v := (-2 : Int32)) hx hb dX4_inverse_43 (by decide) ?_
          refine k_iret hx hb hr hlocks (ρ, x) hP hS dX4_inverse_45 ?_
          rw [ejra, ejrc, op_inverse_x hjra hjrc, if_pos (fun q => h_2 q.2)]
          exact ⟨rfl, hR⟩
set_option maxHeartbeats 4000000 in
set_option maxRecDepth 100000 in
theorem c_X4_turn (l : Launch) (D : va_G) (cy : Nat → ClassId) (ad : Nat → Nat) (hI : wI 143 ad) (ρ : Nat → kR) (x : kX) (S : kSt) (ra : Int32) (rn : Int32) (rc : Int32) (hSI : kInv S) (hR : cRep S (ρ, x)) : kM l yX4_turn wsX4_turn ({ frames := 5, cells := 0, slots := 0, locals := 103 } : Room) D cy 143 ad (cWf ad cy) (cW ad cy (ρ) (x)) [.ref (ad (136)), .int (ra), .int (rn), .int (rc)] (fun o u => o = some (.int (op_turn S ra rn rc).1) ∧ cRep (op_turn S ra rn rc).2 u) := by
  refine k_met cX4_turn 7 (some .int) (by decide) rfl (Nat.le_of_ble_eq_true rfl) ?_
  intro p e s m below meth c ls hx hb hr hts hown hlocks hml hK hP hS hl
  have hl : lv_has ls 7 [(0, .ref (ad (136))), (1, .int (ra)), (2, .int (rn)), (3, .int (rc))] := hl
  have hown : s.vm.findClass RX4 = some m.cls := hown
  have hf_10 := hts (.fieldLink RX4 10 "TurnedRows" "state" "LTurnedRows$State;") (by decide +kernel)
  have hf_41 := hts (.fieldLink RX4 41 "TurnedRows" "made" "LTurnedRows$Row;") (by decide +kernel)
  have hw_X4 : ∀ qw ∈ wsX40, qw.before ([.ref (ad (136)), .int (ra), .int (rn), .int (rc)] : List Value).toArray s = true := fun qw h => hts qw ((by decide +kernel : ∀ qw ∈ wsX40, qw ∈ wsX4_turn) qw h)
  have hrow : ∀ j, j < 6 → rO (ρ j) := fun j hj => by rw [show ρ j = S.1 j from hR.1 j hj]; exact hSI.1 j hj
  have hreg : ∀ j, j < 6 → ρ j = S.1 j := hR.1
  have hpr : ∀ j, j < 6 → 1 ≤ x.2.1 j ∧ x.2.1 j ≤ 6 := hR.2.2.2.2.1
  have hpm : ∀ j, j < 6 → x.2.1 j < 9 := fun j hj => by have := hpr j hj; omega
  have hp0 : ∀ j, j < 6 → x.2.1 j ≠ 0 := fun j hj => by have := hpr j hj; omega
  have hhl : x.1 ≤ 6 := by rw [show x.1 = S.2.2.1 from hR.2.1.1]; exact hR.2.1.2
  have hplS : x.2.2.1 = S.2.2.2.2.2.1 := hR.2.2.2.2.2.2.1
  have hpl : x.2.2.1 ≤ 80 := by rw [hplS]; exact hSI.2.2.2.2.2.1
  have hpdS : ∀ j, j < S.2.2.2.2.2.1 → x.2.2.2.1 j = S.2.2.2.2.2.2 j := hR.2.2.2.2.2.2.2.1
  have hpd : ∀ j, j < x.2.2.1 → x.2.2.2.1 j < 127 := fun j hj => by rw [hpdS j (by omega)]; have := (hSI.2.2.2.2.2.2 j (by omega)).2; omega
  refine lv_aload_n hx hb dX4_turn_0 rfl (lv_at hl 0 rfl) ?_
  refine k_get (q0 := 136) (k := 0) (T := TX4) (Nf := 10) (ci := 4) (C := RX4) (v := .ref (ad (118 + 2 * 0))) hx hb hw_X4 hown hK hP (by decide) cW_top rfl (by decide) hf_10 rfl rfl dX4_turn_1 ?_
  refine lv_iload_n hx hb dX4_turn_4 rfl (lv_at hl 1 rfl) ?_
  refine k_callVr (rest := []) (nL := 7) ⟨hx, hb, hml, hown, hts⟩ (c_X3_rowOf l D cy ad hI ρ x ra) (cwV 1 hts gX4_turn_X3_rowOf rfl rfl rfl (by decide +kernel) ⟨Nat.le_of_ble_eq_true rfl, Nat.le_of_ble_eq_true rfl⟩) hK hP hS (fun _ h => h) (q0 := 118 + 2 * 0) (ci := 3) rfl (by omega) (cW_st (t := 0) (by omega)) rfl rfl rfl hl.1 rfl (Nat.le_of_ble_eq_true rfl) dX4_turn_5 ⟨Nat.zero_le _, Nat.zero_le _⟩ (fun H locs hP hS => ?_)
  have hP : va_P D vwCl (wL 143 ad (cW ad cy (ρ) (x))) H := hP
  refine lv_astoreV (lv' := [(4, va_rf (rOf ad ra)), (0, .ref (ad (136))), (1, .int (ra)), (2, .int (rn)), (3, .int (rc))]) hx hb dX4_turn_8 hl (by decide) rfl (fun ls hl => ?_)
  refine lv_aload_n hx hb dX4_turn_10 rfl (lv_at hl 1 rfl) ?_
  refine k_get (q0 := 136) (k := 0) (T := TX4) (Nf := 10) (ci := 4) (C := RX4) (v := .ref (ad (118 + 2 * 0))) hx hb hw_X4 hown hK hP (by decide) cW_top rfl (by decide) hf_10 rfl rfl dX4_turn_11 ?_
  refine lv_iload_n hx hb dX4_turn_14 rfl (lv_at hl 4 rfl) ?_
  refine k_callVr (rest := []) (nL := 7) ⟨hx, hb, hml, hown, hts⟩ (c_X3_rowOf l D cy ad hI ρ x rc) (cwV 1 hts gX4_turn_X3_rowOf rfl rfl rfl (by decide +kernel) ⟨Nat.le_of_ble_eq_true rfl, Nat.le_of_ble_eq_true rfl⟩) hK hP hS (fun _ h => h) (q0 := 118 + 2 * 0) (ci := 3) rfl (by omega) (cW_st (t := 0) (by omega)) rfl rfl rfl hl.1 rfl (Nat.le_of_ble_eq_true rfl) dX4_turn_15 ⟨Nat.zero_le _, Nat.zero_le _⟩ (fun H locs hP hS => ?_)
  have hP : va_P D vwCl (wL 143 ad (cW ad cy (ρ) (x))) H := hP
  refine lv_astoreV (lv' := [(5, va_rf (rOf ad rc)), (4, va_rf (rOf ad ra)), (0, .ref (ad (136))), (1, .int (ra)), (2, .int (rn)), (3, .int (rc))]) hx hb dX4_turn_18 hl (by decide) (by simp [List.filter, va_rf_cat]) (fun ls hl => ?_)
  refine lv_aloadV hx hb dX4_turn_20 (lv_at hl 1 rfl) ?_
  rcases kreg_cases ra with hjra | ⟨jra, hjra, ejra⟩
  · skip
    rw [kreg_bad hjra] at hl ⊢
    refine lv_ifnullN (tgt := 30) hx hb dX4_turn_22 (by decide) ?_
    refine lv_iconst (v := (-1 : Int32)) hx hb dX4_turn_30 (by decide) ?_
    refine k_iret hx hb hr hlocks (ρ, x) hP hS dX4_turn_31 ?_
    rw [show op_turn S ra rn rc = (-1, S) from if_pos (by first | exact Or.inl hjra | exact Or.inr (hjrc))]
    exact ⟨rfl, hR⟩
  · skip
    rw [kreg_ok hjra ejra] at hl ⊢
    refine lv_ifnull hx hb dX4_turn_22 ?_
    refine lv_aloadV hx hb dX4_turn_25 (lv_at hl 0 rfl) ?_
    rcases kreg_cases rc with hjrc | ⟨jrc, hjrc, ejrc⟩
    · skip
      rw [kreg_bad hjrc] at hl ⊢
      refine lv_ifnonnullN hx hb dX4_turn_27 ?_
      refine lv_iconst (v := (-1 : Int32)) hx hb dX4_turn_30 (by decide) ?_
      refine k_iret hx hb hr hlocks (ρ, x) hP hS dX4_turn_31 ?_
      rw [show op_turn S ra rn rc = (-1, S) from if_pos (by first | exact Or.inl hjra | exact Or.inr (hjrc))]
      exact ⟨rfl, hR⟩
    · skip
      rw [kreg_ok hjrc ejrc] at hl ⊢
      refine lv_ifnonnull (tgt := 32) hx hb dX4_turn_27 (by decide) ?_
      refine lv_iload_n hx hb dX4_turn_32 rfl (lv_at hl 4 rfl) ?_
      refine k_callSr (rest := []) (nL := 7) ⟨hx, hb, hml, hown, hts⟩ (c_X4_pointOf l D cy ad hI ρ x rn) (va_cwS 1 hts gX4_turn_X4_pointOf rfl rfl rfl (by decide +kernel) ⟨Nat.le_of_ble_eq_true rfl, Nat.le_of_ble_eq_true rfl⟩) hK hP hS (fun _ h => h) rfl hl.1 rfl (Nat.le_of_ble_eq_true rfl) dX4_turn_33 ⟨Nat.zero_le _, Nat.zero_le _⟩ (fun H locs hP hS => ?_)
      have hP : va_P D vwCl (wL 143 ad (cW ad cy (ρ) (x))) H := hP
      refine lv_istore (lv' := [(6, .int (ptV rn)), (5, .ref (ad (2 * jrc))), (4, .ref (ad (2 * jra))), (0, .ref (ad (136))), (1, .int (ra)), (2, .int (rn)), (3, .int (rc))]) hx hb dX4_turn_36 hl (by decide) rfl (fun ls hl => ?_)
      refine lv_iload hx hb dX4_turn_38 (lv_at hl 0 rfl) ?_
      refine lv_bipush (v := (-6 : Int32)) hx hb dX4_turn_40 (by decide) ?_
      refine lv_icmp_ne (tgt := 48) hx hb dX4_turn_42 (by decide) (fun h_1 => ?_) (fun h_1 => ?_)
      · skip
        have hz : isZ rn = true := by
          cases hq : isZ rn with
          | true => rfl
          | false => exact absurd (ptV_none.mpr hq) h_1
        have ept := ptV_ok hz
        obtain ⟨kn, hkn1, hkn, ekn⟩ := isZ_cases hz
        rw [ept, ekn, rgN_nI (by omega)] at hl
        have hptl := tpt_lt kn
        refine lv_aload hx hb dX4_turn_48 (lv_at hl 2 rfl) ?_
        have hoa := hrow jra hjra
        have hla := hoa.2.1
        refine k_callVr (rest := []) (nL := 7) ⟨hx, hb, hml, hown, hts⟩ (c_X2_length l D cy ad hI ρ x jra (by first | assumption | omega)) (cwV 0 hts gX4_turn_X2_length rfl rfl rfl (by decide +kernel) ⟨Nat.le_of_ble_eq_true rfl, Nat.le_of_ble_eq_true rfl⟩) hK hP hS (fun _ h => h) (q0 := 2 * jra) (ci := 2) rfl (by omega) (cW_row (i := jra) (by omega)) rfl rfl rfl hl.1 rfl (Nat.le_of_ble_eq_true rfl) dX4_turn_50 ⟨Nat.zero_le _, Nat.zero_le _⟩ (fun H locs hP hS => ?_)
        have hP : va_P D vwCl (wL 143 ad (cW ad cy (ρ) (x))) H := hP
        refine lv_iload_n hx hb dX4_turn_53 rfl (lv_at hl 5 rfl) ?_
        refine n_icmp_le (tgt := 60) hx hb (by omega) (by omega) dX4_turn_54 (by decide) (fun h_2 => ?_) (fun h_2 => ?_)
        · skip
          refine lv_aload hx hb dX4_turn_60 (lv_at hl 2 rfl) ?_
          refine lv_iload_n hx hb dX4_turn_62 rfl (lv_at hl 5 rfl) ?_
          refine lv_iload hx hb dX4_turn_63 (lv_at hl 0 rfl) ?_
          refine lv_aload_n hx hb dX4_turn_65 rfl (lv_at hl 3 rfl) ?_
          refine k_get (q0 := 136) (k := 5) (T := TX4) (Nf := 10) (ci := 4) (C := RX4) (v := .ref (ad (2 * 54))) hx hb hw_X4 hown hK hP (by decide) cW_top rfl (by decide) hf_41 rfl rfl dX4_turn_66 ?_
          refine k_callSv (rest := []) (nL := 7) ⟨hx, hb, hml, hown, hts⟩ (c_X4_turnAround l D cy ad hI ρ x jra kn (tpt kn) 54 (by first | assumption | omega) (by first | assumption | omega) (by first | assumption | omega) hoa.K (by first | assumption | omega) (by first | assumption | omega)) (va_cwS 4 hts gX4_turn_X4_turnAround rfl rfl rfl (by decide +kernel) ⟨Nat.le_of_ble_eq_true rfl, Nat.le_of_ble_eq_true rfl⟩) hK hP hS (fun _ h => h) rfl hl.1 rfl (Nat.le_of_ble_eq_true rfl) dX4_turn_69 ⟨Nat.zero_le _, Nat.zero_le _⟩ (fun H locs hP hS => ?_)
          have hP : va_P D vwCl (wL 143 ad (cW ad cy (va_up ρ 54 (kn, tur (ρ jra) (tpt kn) kn)) (x))) H := hP
          refine lv_aload_n hx hb dX4_turn_72 rfl (lv_at hl 3 rfl) ?_
          refine lv_aload hx hb dX4_turn_73 (lv_at hl 1 rfl) ?_
          refine k_callVv (rest := []) (nL := 7) ⟨hx, hb, hml, hown, hts⟩ (c_X4_change l D cy ad hI (va_up ρ 54 (kn, tur (ρ jra) (tpt kn) kn)) x jrc (by omega) hpm hp0 hpr hhl) (cwV 1 hts gX4_turn_X4_change rfl rfl rfl (by decide +kernel) ⟨Nat.le_of_ble_eq_true rfl, Nat.le_of_ble_eq_true rfl⟩) hK hP hS (fun _ h => h) (q0 := 136) (ci := 4) rfl (by decide) cW_top rfl rfl rfl hl.1 rfl (Nat.le_of_ble_eq_true rfl) dX4_turn_75 ⟨Nat.zero_le _, Nat.zero_le _⟩ (fun H locs hP hS => ?_)
          have hP : va_P D vwCl (wL 143 ad (cW ad cy (va_up (keepR (va_up ρ 54 (kn, tur (ρ jra) (tpt kn) kn)) x) jrc ((va_up ρ 54 (kn, tur (ρ jra) (tpt kn) kn)) 54)) (keepX x))) H := hP
          have eW : (va_up (keepR (va_up ρ 54 (kn, tur (ρ jra) (tpt kn) kn)) x) jrc ((va_up ρ 54 (kn, tur (ρ jra) (tpt kn) kn)) 54)) jrc = turR (ρ jra) kn := by rw [va_up_self]; exact va_up_self _ _ _
          have hW : rO (turR (ρ jra) kn) := turR_O ⟨hkn1, hkn⟩
          refine lv_aload hx hb dX4_turn_78 (lv_at hl 1 rfl) ?_
          refine k_callVr (rest := []) (nL := 7) ⟨hx, hb, hml, hown, hts⟩ (c_X2_length l D cy ad hI (va_up (keepR (va_up ρ 54 (kn, tur (ρ jra) (tpt kn) kn)) x) jrc ((va_up ρ 54 (kn, tur (ρ jra) (tpt kn) kn)) 54)) (keepX x) jrc (by first | assumption | omega)) (cwV 0 hts gX4_turn_X2_length rfl rfl rfl (by decide +kernel) ⟨Nat.le_of_ble_eq_true rfl, Nat.le_of_ble_eq_true rfl⟩) hK hP hS (fun _ h => h) (q0 := 2 * jrc) (ci := 2) rfl (by omega) (cW_row (i := jrc) (by omega)) rfl rfl rfl hl.1 rfl (Nat.le_of_ble_eq_true rfl) dX4_turn_80 ⟨Nat.zero_le _, Nat.zero_le _⟩ (fun H locs hP hS => ?_)
          have hP : va_P D vwCl (wL 143 ad (cW ad cy (va_up (keepR (va_up ρ 54 (kn, tur (ρ jra) (tpt kn) kn)) x) jrc ((va_up ρ 54 (kn, tur (ρ jra) (tpt kn) kn)) 54)) (keepX x))) H := hP
          refine n_push (a := kn) (by rw [eW]; rfl) ?_
          refine lv_aload hx hb dX4_turn_83 (lv_at hl 1 rfl) ?_
          refine k_callVr (rest := [.int (nI (kn))]) (nL := 7) ⟨hx, hb, hml, hown, hts⟩ (c_X2_countNotZero l D cy ad hI (va_up (keepR (va_up ρ 54 (kn, tur (ρ jra) (tpt kn) kn)) x) jrc ((va_up ρ 54 (kn, tur (ρ jra) (tpt kn) kn)) 54)) (keepX x) jrc (by first | assumption | omega) (by rw [eW]; exact hW.2.1) (by rw [eW]; exact hW.2.2.1)) (cwV 0 hts gX4_turn_X2_countNotZero rfl rfl rfl (by decide +kernel) ⟨Nat.le_of_ble_eq_true rfl, Nat.le_of_ble_eq_true rfl⟩) hK hP hS (fun _ h => h) (q0 := 2 * jrc) (ci := 2) rfl (by omega) (cW_row (i := jrc) (by omega)) rfl rfl rfl hl.1 rfl (Nat.le_of_ble_eq_true rfl) dX4_turn_85 ⟨Nat.zero_le _, Nat.zero_le _⟩ (fun H locs hP hS => ?_)
          have hP : va_P D vwCl (wL 143 ad (cW ad cy (va_up (keepR (va_up ρ 54 (kn, tur (ρ jra) (tpt kn) kn)) x) jrc ((va_up ρ 54 (kn, tur (ρ jra) (tpt kn) kn)) 54)) (keepX x))) H := hP
          refine n_push (a := cn (turR (ρ jra) kn).2 kn) (by rw [eW]; rfl) ?_
          refine n_isub hx hb (cn_le _ _) dX4_turn_88 ?_
          refine k_iret hx hb hr hlocks (va_up (keepR (va_up ρ 54 (kn, tur (ρ jra) (tpt kn) kn)) x) jrc ((va_up ρ 54 (kn, tur (ρ jra) (tpt kn) kn)) 54), keepX x) hP hS dX4_turn_89 ?_
          rw [ejra, ejrc, op_turn_x hjra hjrc, ← hreg jra hjra, if_neg (by rw [hz]; decide), ekn, rgN_nI (by omega), if_neg (by omega)]
          have hcc := cn_cq (turR (ρ jra) kn).2 kn
          exact ⟨rN (by omega), cRep_chg hR (fun i hi => va_up_ne _ _ (by omega)) hjrc (va_up_self _ _ _)⟩
        · skip
          refine lv_bipush (v := (-5 : Int32)) hx hb dX4_turn_57 (by decide) ?_
          refine k_iret hx hb hr hlocks (ρ, x) hP hS dX4_turn_59 ?_
          rw [ejra, ejrc, op_turn_x hjra hjrc, ← hreg jra hjra, if_neg (by rw [hz]; decide), ekn, rgN_nI (by omega), if_pos (by omega)]
          exact ⟨rfl, hR⟩
      · skip
        have hz : isZ rn = false := ptV_none.mp h_1
        refine lv_bipush (v := (-2 : Int32)) hx hb dX4_turn_45 (by decide) ?_
        refine k_iret hx hb hr hlocks (ρ, x) hP hS dX4_turn_47 ?_
        rw [ejra, ejrc, op_turn_x hjra hjrc, if_pos hz]
        exact ⟨rfl, hR⟩
set_option maxHeartbeats 4000000 in
set_option maxRecDepth 100000 in
theorem c_X4_turnBack (l : Launch) (D : va_G) (cy : Nat → ClassId) (ad : Nat → Nat) (hI : wI 143 ad) (ρ : Nat → kR) (x : kX) (S : kSt) (ra : Int32) (rc : Int32) (hSI : kInv S) (hR : cRep S (ρ, x)) : kM l yX4_turnBack wsX4_turnBack ({ frames := 5, cells := 0, slots := 0, locals := 103 } : Room) D cy 143 ad (cWf ad cy) (cW ad cy (ρ) (x)) [.ref (ad (136)), .int (ra), .int (rc)] (fun o u => o = some (.int (op_turnBack S ra rc).1) ∧ cRep (op_turnBack S ra rc).2 u) := by
  refine k_met cX4_turnBack 7 (some .int) (by decide) rfl (Nat.le_of_ble_eq_true rfl) ?_
  intro p e s m below meth c ls hx hb hr hts hown hlocks hml hK hP hS hl
  have hl : lv_has ls 7 [(0, .ref (ad (136))), (1, .int (ra)), (2, .int (rc))] := hl
  have hown : s.vm.findClass RX4 = some m.cls := hown
  have hf_10 := hts (.fieldLink RX4 10 "TurnedRows" "state" "LTurnedRows$State;") (by decide +kernel)
  have hf_41 := hts (.fieldLink RX4 41 "TurnedRows" "made" "LTurnedRows$Row;") (by decide +kernel)
  have hw_X4 : ∀ qw ∈ wsX40, qw.before ([.ref (ad (136)), .int (ra), .int (rc)] : List Value).toArray s = true := fun qw h => hts qw ((by decide +kernel : ∀ qw ∈ wsX40, qw ∈ wsX4_turnBack) qw h)
  have hrow : ∀ j, j < 6 → rO (ρ j) := fun j hj => by rw [show ρ j = S.1 j from hR.1 j hj]; exact hSI.1 j hj
  have hreg : ∀ j, j < 6 → ρ j = S.1 j := hR.1
  have hpr : ∀ j, j < 6 → 1 ≤ x.2.1 j ∧ x.2.1 j ≤ 6 := hR.2.2.2.2.1
  have hpm : ∀ j, j < 6 → x.2.1 j < 9 := fun j hj => by have := hpr j hj; omega
  have hp0 : ∀ j, j < 6 → x.2.1 j ≠ 0 := fun j hj => by have := hpr j hj; omega
  have hhl : x.1 ≤ 6 := by rw [show x.1 = S.2.2.1 from hR.2.1.1]; exact hR.2.1.2
  have hplS : x.2.2.1 = S.2.2.2.2.2.1 := hR.2.2.2.2.2.2.1
  have hpl : x.2.2.1 ≤ 80 := by rw [hplS]; exact hSI.2.2.2.2.2.1
  have hpdS : ∀ j, j < S.2.2.2.2.2.1 → x.2.2.2.1 j = S.2.2.2.2.2.2 j := hR.2.2.2.2.2.2.2.1
  have hpd : ∀ j, j < x.2.2.1 → x.2.2.2.1 j < 127 := fun j hj => by rw [hpdS j (by omega)]; have := (hSI.2.2.2.2.2.2 j (by omega)).2; omega
  refine lv_aload_n hx hb dX4_turnBack_0 rfl (lv_at hl 0 rfl) ?_
  refine k_get (q0 := 136) (k := 0) (T := TX4) (Nf := 10) (ci := 4) (C := RX4) (v := .ref (ad (118 + 2 * 0))) hx hb hw_X4 hown hK hP (by decide) cW_top rfl (by decide) hf_10 rfl rfl dX4_turnBack_1 ?_
  refine lv_iload_n hx hb dX4_turnBack_4 rfl (lv_at hl 1 rfl) ?_
  refine k_callVr (rest := []) (nL := 7) ⟨hx, hb, hml, hown, hts⟩ (c_X3_rowOf l D cy ad hI ρ x ra) (cwV 1 hts gX4_turnBack_X3_rowOf rfl rfl rfl (by decide +kernel) ⟨Nat.le_of_ble_eq_true rfl, Nat.le_of_ble_eq_true rfl⟩) hK hP hS (fun _ h => h) (q0 := 118 + 2 * 0) (ci := 3) rfl (by omega) (cW_st (t := 0) (by omega)) rfl rfl rfl hl.1 rfl (Nat.le_of_ble_eq_true rfl) dX4_turnBack_5 ⟨Nat.zero_le _, Nat.zero_le _⟩ (fun H locs hP hS => ?_)
  have hP : va_P D vwCl (wL 143 ad (cW ad cy (ρ) (x))) H := hP
  refine lv_astore_nV (lv' := [(3, va_rf (rOf ad ra)), (0, .ref (ad (136))), (1, .int (ra)), (2, .int (rc))]) hx hb dX4_turnBack_8 rfl hl (by decide) rfl (fun ls hl => ?_)
  refine lv_aload_n hx hb dX4_turnBack_9 rfl (lv_at hl 1 rfl) ?_
  refine k_get (q0 := 136) (k := 0) (T := TX4) (Nf := 10) (ci := 4) (C := RX4) (v := .ref (ad (118 + 2 * 0))) hx hb hw_X4 hown hK hP (by decide) cW_top rfl (by decide) hf_10 rfl rfl dX4_turnBack_10 ?_
  refine lv_iload_n hx hb dX4_turnBack_13 rfl (lv_at hl 3 rfl) ?_
  refine k_callVr (rest := []) (nL := 7) ⟨hx, hb, hml, hown, hts⟩ (c_X3_rowOf l D cy ad hI ρ x rc) (cwV 1 hts gX4_turnBack_X3_rowOf rfl rfl rfl (by decide +kernel) ⟨Nat.le_of_ble_eq_true rfl, Nat.le_of_ble_eq_true rfl⟩) hK hP hS (fun _ h => h) (q0 := 118 + 2 * 0) (ci := 3) rfl (by omega) (cW_st (t := 0) (by omega)) rfl rfl rfl hl.1 rfl (Nat.le_of_ble_eq_true rfl) dX4_turnBack_14 ⟨Nat.zero_le _, Nat.zero_le _⟩ (fun H locs hP hS => ?_)
  have hP : va_P D vwCl (wL 143 ad (cW ad cy (ρ) (x))) H := hP
  refine lv_astoreV (lv' := [(4, va_rf (rOf ad rc)), (3, va_rf (rOf ad ra)), (0, .ref (ad (136))), (1, .int (ra)), (2, .int (rc))]) hx hb dX4_turnBack_17 hl (by decide) (by simp [List.filter, va_rf_cat]) (fun ls hl => ?_)
  refine lv_aload_nV hx hb dX4_turnBack_19 rfl (lv_at hl 1 rfl) ?_
  rcases kreg_cases ra with hjra | ⟨jra, hjra, ejra⟩
  · skip
    rw [kreg_bad hjra] at hl ⊢
    refine lv_ifnullN (tgt := 28) hx hb dX4_turnBack_20 (by decide) ?_
    refine lv_iconst (v := (-1 : Int32)) hx hb dX4_turnBack_28 (by decide) ?_
    refine k_iret hx hb hr hlocks (ρ, x) hP hS dX4_turnBack_29 ?_
    rw [show op_turnBack S ra rc = (-1, S) from if_pos (by first | exact Or.inl hjra | exact Or.inr (hjrc))]
    exact ⟨rfl, hR⟩
  · skip
    rw [kreg_ok hjra ejra] at hl ⊢
    refine lv_ifnull hx hb dX4_turnBack_20 ?_
    refine lv_aloadV hx hb dX4_turnBack_23 (lv_at hl 0 rfl) ?_
    rcases kreg_cases rc with hjrc | ⟨jrc, hjrc, ejrc⟩
    · skip
      rw [kreg_bad hjrc] at hl ⊢
      refine lv_ifnonnullN hx hb dX4_turnBack_25 ?_
      refine lv_iconst (v := (-1 : Int32)) hx hb dX4_turnBack_28 (by decide) ?_
      refine k_iret hx hb hr hlocks (ρ, x) hP hS dX4_turnBack_29 ?_
      rw [show op_turnBack S ra rc = (-1, S) from if_pos (by first | exact Or.inl hjra | exact Or.inr (hjrc))]
      exact ⟨rfl, hR⟩
    · skip
      rw [kreg_ok hjrc ejrc] at hl ⊢
      refine lv_ifnonnull (tgt := 30) hx hb dX4_turnBack_25 (by decide) ?_
      refine lv_aload_n hx hb dX4_turnBack_30 rfl (lv_at hl 1 rfl) ?_
      have hoa := hrow jra hjra
      have hla := hoa.2.1
      refine k_callVr (rest := []) (nL := 7) ⟨hx, hb, hml, hown, hts⟩ (c_X2_length l D cy ad hI ρ x jra (by first | assumption | omega)) (cwV 0 hts gX4_turnBack_X2_length rfl rfl rfl (by decide +kernel) ⟨Nat.le_of_ble_eq_true rfl, Nat.le_of_ble_eq_true rfl⟩) hK hP hS (fun _ h => h) (q0 := 2 * jra) (ci := 2) rfl (by omega) (cW_row (i := jra) (by omega)) rfl rfl rfl hl.1 rfl (Nat.le_of_ble_eq_true rfl) dX4_turnBack_31 ⟨Nat.zero_le _, Nat.zero_le _⟩ (fun H locs hP hS => ?_)
      have hP : va_P D vwCl (wL 143 ad (cW ad cy (ρ) (x))) H := hP
      refine lv_istore (lv' := [(5, .int (nI ((ρ jra).1))), (4, .ref (ad (2 * jrc))), (3, .ref (ad (2 * jra))), (0, .ref (ad (136))), (1, .int (ra)), (2, .int (rc))]) hx hb dX4_turnBack_34 hl (by decide) rfl (fun ls hl => ?_)
      refine lv_iload hx hb dX4_turnBack_36 (lv_at hl 0 rfl) ?_
      refine k_callSr (rest := []) (nL := 7) ⟨hx, hb, hml, hown, hts⟩ (c_X4_pointOf l D cy ad hI ρ x (nI ((ρ jra).1))) (va_cwS 1 hts gX4_turnBack_X4_pointOf rfl rfl rfl (by decide +kernel) ⟨Nat.le_of_ble_eq_true rfl, Nat.le_of_ble_eq_true rfl⟩) hK hP hS (fun _ h => h) rfl hl.1 rfl (Nat.le_of_ble_eq_true rfl) dX4_turnBack_38 ⟨Nat.zero_le _, Nat.zero_le _⟩ (fun H locs hP hS => ?_)
      have hP : va_P D vwCl (wL 143 ad (cW ad cy (ρ) (x))) H := hP
      refine lv_istore (lv' := [(6, .int (ptV (nI ((ρ jra).1)))), (5, .int (nI ((ρ jra).1))), (4, .ref (ad (2 * jrc))), (3, .ref (ad (2 * jra))), (0, .ref (ad (136))), (1, .int (ra)), (2, .int (rc))]) hx hb dX4_turnBack_41 hl (by decide) rfl (fun ls hl => ?_)
      refine lv_iload hx hb dX4_turnBack_43 (lv_at hl 0 rfl) ?_
      refine lv_bipush (v := (-6 : Int32)) hx hb dX4_turnBack_45 (by decide) ?_
      refine lv_icmp_ne (tgt := 53) hx hb dX4_turnBack_47 (by decide) (fun h_1 => ?_) (fun h_1 => ?_)
      · skip
        have hz : isZ (nI (ρ jra).1) = true := by
          cases hq : isZ (nI (ρ jra).1) with
          | true => rfl
          | false => exact absurd (ptV_none.mpr hq) h_1
        have ept := ptV_ok hz
        rw [rgN_nI (by omega)] at ept
        rw [ept] at hl
        have hptl := tpt_lt (ρ jra).1
        have hptl2 := pw_lt (tpt (ρ jra).1) 255
        have hptl3 := pw_lt (ρ jra).1 255
        refine lv_aload_n hx hb dX4_turnBack_53 rfl (lv_at hl 3 rfl) ?_
        refine lv_iload hx hb dX4_turnBack_54 (lv_at hl 1 rfl) ?_
        refine lv_iload hx hb dX4_turnBack_56 (lv_at hl 0 rfl) ?_
        refine k_callSr (rest := [.int (nI ((ρ jra).1)), .ref (ad (2 * jra))]) (nL := 7) ⟨hx, hb, hml, hown, hts⟩ (c_X4_inverseOf l D cy ad hI ρ x (tpt (ρ jra).1) (by first | assumption | omega)) (va_cwS 1 hts gX4_turnBack_X4_inverseOf rfl rfl rfl (by decide +kernel) ⟨Nat.le_of_ble_eq_true rfl, Nat.le_of_ble_eq_true rfl⟩) hK hP hS (fun _ h => h) rfl hl.1 rfl (Nat.le_of_ble_eq_true rfl) dX4_turnBack_58 ⟨Nat.zero_le _, Nat.zero_le _⟩ (fun H locs hP hS => ?_)
        have hP : va_P D vwCl (wL 143 ad (cW ad cy (ρ) (x))) H := hP
        refine lv_aload_n hx hb dX4_turnBack_61 rfl (lv_at hl 4 rfl) ?_
        refine k_get (q0 := 136) (k := 5) (T := TX4) (Nf := 10) (ci := 4) (C := RX4) (v := .ref (ad (2 * 54))) hx hb hw_X4 hown hK hP (by decide) cW_top rfl (by decide) hf_41 rfl rfl dX4_turnBack_62 ?_
        refine k_callSv (rest := []) (nL := 7) ⟨hx, hb, hml, hown, hts⟩ (c_X4_turnAround l D cy ad hI ρ x jra ((ρ jra).1) (pw (tpt (ρ jra).1) 255) 54 (by first | assumption | omega) (by first | assumption | omega) (by first | assumption | omega) hoa.K (by first | assumption | omega) (by first | assumption | omega)) (va_cwS 4 hts gX4_turnBack_X4_turnAround rfl rfl rfl (by decide +kernel) ⟨Nat.le_of_ble_eq_true rfl, Nat.le_of_ble_eq_true rfl⟩) hK hP hS (fun _ h => h) rfl hl.1 rfl (Nat.le_of_ble_eq_true rfl) dX4_turnBack_65 ⟨Nat.zero_le _, Nat.zero_le _⟩ (fun H locs hP hS => ?_)
        have hP : va_P D vwCl (wL 143 ad (cW ad cy (va_up ρ 54 (((ρ jra).1), tur (ρ jra) (pw (tpt (ρ jra).1) 255) ((ρ jra).1))) (x))) H := hP
        refine lv_aload_n hx hb dX4_turnBack_68 rfl (lv_at hl 4 rfl) ?_
        refine k_get (q0 := 136) (k := 5) (T := TX4) (Nf := 10) (ci := 4) (C := RX4) (v := .ref (ad (2 * 54))) hx hb hw_X4 hown hK hP (by decide) cW_top rfl (by decide) hf_41 rfl rfl dX4_turnBack_69 ?_
        refine lv_iload hx hb dX4_turnBack_72 (lv_at hl 1 rfl) ?_
        refine k_callSr (rest := [.ref (ad (2 * 54))]) (nL := 7) ⟨hx, hb, hml, hown, hts⟩ (c_X4_inverseOf l D cy ad hI (va_up ρ 54 (((ρ jra).1), tur (ρ jra) (pw (tpt (ρ jra).1) 255) ((ρ jra).1))) x ((ρ jra).1) (by first | assumption | omega)) (va_cwS 1 hts gX4_turnBack_X4_inverseOf rfl rfl rfl (by decide +kernel) ⟨Nat.le_of_ble_eq_true rfl, Nat.le_of_ble_eq_true rfl⟩) hK hP hS (fun _ h => h) rfl hl.1 rfl (Nat.le_of_ble_eq_true rfl) dX4_turnBack_74 ⟨Nat.zero_le _, Nat.zero_le _⟩ (fun H locs hP hS => ?_)
        have hP : va_P D vwCl (wL 143 ad (cW ad cy (va_up ρ 54 (((ρ jra).1), tur (ρ jra) (pw (tpt (ρ jra).1) 255) ((ρ jra).1))) (x))) H := hP
        have e54 : va_up ρ 54 ((ρ jra).1, tur (ρ jra) (pw (tpt (ρ jra).1) 255) (ρ jra).1) 54 = ((ρ jra).1, tur (ρ jra) (pw (tpt (ρ jra).1) 255) (ρ jra).1) := va_up_self _ _ _
        refine k_callVv (rest := []) (nL := 7) ⟨hx, hb, hml, hown, hts⟩ (c_X2_scale l D cy ad hI (va_up ρ 54 (((ρ jra).1), tur (ρ jra) (pw (tpt (ρ jra).1) 255) ((ρ jra).1))) x 54 (pw ((ρ jra).1) 255) (by first | assumption | omega) (by rw [e54]; exact hla) (by first | assumption | omega) (by rw [e54]; exact fun k => tur_lt _ _ _ k)) (cwV 1 hts gX4_turnBack_X2_scale rfl rfl rfl (by decide +kernel) ⟨Nat.le_of_ble_eq_true rfl, Nat.le_of_ble_eq_true rfl⟩) hK hP hS (fun _ h => h) (q0 := 2 * 54) (ci := 2) rfl (by omega) (cW_row (i := 54) (by omega)) rfl rfl rfl hl.1 rfl (Nat.le_of_ble_eq_true rfl) dX4_turnBack_77 ⟨Nat.zero_le _, Nat.zero_le _⟩ (fun H locs hP hS => ?_)
        have hP : va_P D vwCl (wL 143 ad (cW ad cy (va_up (va_up ρ 54 (((ρ jra).1), tur (ρ jra) (pw (tpt (ρ jra).1) 255) ((ρ jra).1))) 54 (((va_up ρ 54 (((ρ jra).1), tur (ρ jra) (pw (tpt (ρ jra).1) 255) ((ρ jra).1))) 54).1, scl ((va_up ρ 54 (((ρ jra).1), tur (ρ jra) (pw (tpt (ρ jra).1) 255) ((ρ jra).1))) 54).2 (pw ((ρ jra).1) 255) ((va_up ρ 54 (((ρ jra).1), tur (ρ jra) (pw (tpt (ρ jra).1) 255) ((ρ jra).1))) 54).1)) (x))) H := hP
        refine lv_aload_n hx hb dX4_turnBack_80 rfl (lv_at hl 4 rfl) ?_
        refine lv_aload hx hb dX4_turnBack_81 (lv_at hl 2 rfl) ?_
        refine k_callVv (rest := []) (nL := 7) ⟨hx, hb, hml, hown, hts⟩ (c_X4_change l D cy ad hI (va_up (va_up ρ 54 (((ρ jra).1), tur (ρ jra) (pw (tpt (ρ jra).1) 255) ((ρ jra).1))) 54 (((va_up ρ 54 (((ρ jra).1), tur (ρ jra) (pw (tpt (ρ jra).1) 255) ((ρ jra).1))) 54).1, scl ((va_up ρ 54 (((ρ jra).1), tur (ρ jra) (pw (tpt (ρ jra).1) 255) ((ρ jra).1))) 54).2 (pw ((ρ jra).1) 255) ((va_up ρ 54 (((ρ jra).1), tur (ρ jra) (pw (tpt (ρ jra).1) 255) ((ρ jra).1))) 54).1)) x jrc (by omega) hpm hp0 hpr hhl) (cwV 1 hts gX4_turnBack_X4_change rfl rfl rfl (by decide +kernel) ⟨Nat.le_of_ble_eq_true rfl, Nat.le_of_ble_eq_true rfl⟩) hK hP hS (fun _ h => h) (q0 := 136) (ci := 4) rfl (by decide) cW_top rfl rfl rfl hl.1 rfl (Nat.le_of_ble_eq_true rfl) dX4_turnBack_83 ⟨Nat.zero_le _, Nat.zero_le _⟩ (fun H locs hP hS => ?_)
        have hP : va_P D vwCl (wL 143 ad (cW ad cy (va_up (keepR (va_up (va_up ρ 54 (((ρ jra).1), tur (ρ jra) (pw (tpt (ρ jra).1) 255) ((ρ jra).1))) 54 (((va_up ρ 54 (((ρ jra).1), tur (ρ jra) (pw (tpt (ρ jra).1) 255) ((ρ jra).1))) 54).1, scl ((va_up ρ 54 (((ρ jra).1), tur (ρ jra) (pw (tpt (ρ jra).1) 255) ((ρ jra).1))) 54).2 (pw ((ρ jra).1) 255) ((va_up ρ 54 (((ρ jra).1), tur (ρ jra) (pw (tpt (ρ jra).1) 255) ((ρ jra).1))) 54).1)) x) jrc ((va_up (va_up ρ 54 (((ρ jra).1), tur (ρ jra) (pw (tpt (ρ jra).1) 255) ((ρ jra).1))) 54 (((va_up ρ 54 (((ρ jra).1), tur (ρ jra) (pw (tpt (ρ jra).1) 255) ((ρ jra).1))) 54).1, scl ((va_up ρ 54 (((ρ jra).1), tur (ρ jra) (pw (tpt (ρ jra).1) 255) ((ρ jra).1))) 54).2 (pw ((ρ jra).1) 255) ((va_up ρ 54 (((ρ jra).1), tur (ρ jra) (pw (tpt (ρ jra).1) 255) ((ρ jra).1))) 54).1)) 54)) (keepX x))) H := hP
        have eW : (va_up (keepR (va_up (va_up ρ 54 (((ρ jra).1), tur (ρ jra) (pw (tpt (ρ jra).1) 255) ((ρ jra).1))) 54 (((va_up ρ 54 (((ρ jra).1), tur (ρ jra) (pw (tpt (ρ jra).1) 255) ((ρ jra).1))) 54).1, scl ((va_up ρ 54 (((ρ jra).1), tur (ρ jra) (pw (tpt (ρ jra).1) 255) ((ρ jra).1))) 54).2 (pw ((ρ jra).1) 255) ((va_up ρ 54 (((ρ jra).1), tur (ρ jra) (pw (tpt (ρ jra).1) 255) ((ρ jra).1))) 54).1)) x) jrc ((va_up (va_up ρ 54 (((ρ jra).1), tur (ρ jra) (pw (tpt (ρ jra).1) 255) ((ρ jra).1))) 54 (((va_up ρ 54 (((ρ jra).1), tur (ρ jra) (pw (tpt (ρ jra).1) 255) ((ρ jra).1))) 54).1, scl ((va_up ρ 54 (((ρ jra).1), tur (ρ jra) (pw (tpt (ρ jra).1) 255) ((ρ jra).1))) 54).2 (pw ((ρ jra).1) 255) ((va_up ρ 54 (((ρ jra).1), tur (ρ jra) (pw (tpt (ρ jra).1) 255) ((ρ jra).1))) 54).1)) 54)) jrc = trbR (ρ jra) := by rw [va_up_self, va_up_self, e54]; rfl
        have hW : rO (trbR (ρ jra)) := trbR_O hoa
        refine lv_aload hx hb dX4_turnBack_86 (lv_at hl 2 rfl) ?_
        refine k_callVr (rest := []) (nL := 7) ⟨hx, hb, hml, hown, hts⟩ (c_X2_degree l D cy ad hI (va_up (keepR (va_up (va_up ρ 54 (((ρ jra).1), tur (ρ jra) (pw (tpt (ρ jra).1) 255) ((ρ jra).1))) 54 (((va_up ρ 54 (((ρ jra).1), tur (ρ jra) (pw (tpt (ρ jra).1) 255) ((ρ jra).1))) 54).1, scl ((va_up ρ 54 (((ρ jra).1), tur (ρ jra) (pw (tpt (ρ jra).1) 255) ((ρ jra).1))) 54).2 (pw ((ρ jra).1) 255) ((va_up ρ 54 (((ρ jra).1), tur (ρ jra) (pw (tpt (ρ jra).1) 255) ((ρ jra).1))) 54).1)) x) jrc ((va_up (va_up ρ 54 (((ρ jra).1), tur (ρ jra) (pw (tpt (ρ jra).1) 255) ((ρ jra).1))) 54 (((va_up ρ 54 (((ρ jra).1), tur (ρ jra) (pw (tpt (ρ jra).1) 255) ((ρ jra).1))) 54).1, scl ((va_up ρ 54 (((ρ jra).1), tur (ρ jra) (pw (tpt (ρ jra).1) 255) ((ρ jra).1))) 54).2 (pw ((ρ jra).1) 255) ((va_up ρ 54 (((ρ jra).1), tur (ρ jra) (pw (tpt (ρ jra).1) 255) ((ρ jra).1))) 54).1)) 54)) (keepX x) jrc (by first | assumption | omega) (by rw [eW]; exact hW.2.1) (by rw [eW]; exact hW.2.2.1)) (cwV 0 hts gX4_turnBack_X2_degree rfl rfl rfl (by decide +kernel) ⟨Nat.le_of_ble_eq_true rfl, Nat.le_of_ble_eq_true rfl⟩) hK hP hS (fun _ h => h) (q0 := 2 * jrc) (ci := 2) rfl (by omega) (cW_row (i := jrc) (by omega)) rfl rfl rfl hl.1 rfl (Nat.le_of_ble_eq_true rfl) dX4_turnBack_88 ⟨Nat.zero_le _, Nat.zero_le _⟩ (fun H locs hP hS => ?_)
        have hP : va_P D vwCl (wL 143 ad (cW ad cy (va_up (keepR (va_up (va_up ρ 54 (((ρ jra).1), tur (ρ jra) (pw (tpt (ρ jra).1) 255) ((ρ jra).1))) 54 (((va_up ρ 54 (((ρ jra).1), tur (ρ jra) (pw (tpt (ρ jra).1) 255) ((ρ jra).1))) 54).1, scl ((va_up ρ 54 (((ρ jra).1), tur (ρ jra) (pw (tpt (ρ jra).1) 255) ((ρ jra).1))) 54).2 (pw ((ρ jra).1) 255) ((va_up ρ 54 (((ρ jra).1), tur (ρ jra) (pw (tpt (ρ jra).1) 255) ((ρ jra).1))) 54).1)) x) jrc ((va_up (va_up ρ 54 (((ρ jra).1), tur (ρ jra) (pw (tpt (ρ jra).1) 255) ((ρ jra).1))) 54 (((va_up ρ 54 (((ρ jra).1), tur (ρ jra) (pw (tpt (ρ jra).1) 255) ((ρ jra).1))) 54).1, scl ((va_up ρ 54 (((ρ jra).1), tur (ρ jra) (pw (tpt (ρ jra).1) 255) ((ρ jra).1))) 54).2 (pw ((ρ jra).1) 255) ((va_up ρ 54 (((ρ jra).1), tur (ρ jra) (pw (tpt (ρ jra).1) 255) ((ρ jra).1))) 54).1)) 54)) (keepX x))) H := hP
        refine k_iret hx hb hr hlocks (va_up (keepR (va_up (va_up ρ 54 (((ρ jra).1), tur (ρ jra) (pw (tpt (ρ jra).1) 255) ((ρ jra).1))) 54 (((va_up ρ 54 (((ρ jra).1), tur (ρ jra) (pw (tpt (ρ jra).1) 255) ((ρ jra).1))) 54).1, scl ((va_up ρ 54 (((ρ jra).1), tur (ρ jra) (pw (tpt (ρ jra).1) 255) ((ρ jra).1))) 54).2 (pw ((ρ jra).1) 255) ((va_up ρ 54 (((ρ jra).1), tur (ρ jra) (pw (tpt (ρ jra).1) 255) ((ρ jra).1))) 54).1)) x) jrc ((va_up (va_up ρ 54 (((ρ jra).1), tur (ρ jra) (pw (tpt (ρ jra).1) 255) ((ρ jra).1))) 54 (((va_up ρ 54 (((ρ jra).1), tur (ρ jra) (pw (tpt (ρ jra).1) 255) ((ρ jra).1))) 54).1, scl ((va_up ρ 54 (((ρ jra).1), tur (ρ jra) (pw (tpt (ρ jra).1) 255) ((ρ jra).1))) 54).2 (pw ((ρ jra).1) 255) ((va_up ρ 54 (((ρ jra).1), tur (ρ jra) (pw (tpt (ρ jra).1) 255) ((ρ jra).1))) 54).1)) 54), keepX x) hP hS dX4_turnBack_91 ?_
        rw [ejra, ejrc, op_turnBack_x hjra hjrc, ← hreg jra hjra, if_neg (by rw [hz]; decide), eW]
        exact ⟨rfl, cRep_chg hR (fun i hi => by rw [va_up_ne _ _ (by omega), va_up_ne _ _ (by omega)]) hjrc (by rw [va_up_self, e54]; rfl)⟩
      · skip
        have hz : isZ (nI (ρ jra).1) = false := ptV_none.mp h_1
        refine lv_bipush (v := (-5 : Int32)) hx hb dX4_turnBack_50 (by decide) ?_
        refine k_iret hx hb hr hlocks (ρ, x) hP hS dX4_turnBack_52 ?_
        rw [ejra, ejrc, op_turnBack_x hjra hjrc, ← hreg jra hjra, if_pos hz]
        exact ⟨rfl, hR⟩
