set_option maxHeartbeats 4000000 in
set_option maxRecDepth 100000 in
theorem c_X3_rowOf_ok (l : Launch) (D : va_G) (cy : Nat → ClassId) (ad : Nat → Nat) (hI : wI 143 ad) (ρ : Nat → kR) (x : kX) (j : Nat) (hj : j < 6) : kM l yX3_rowOf wsX3_rowOf ({ frames := 0, cells := 0, slots := 0, locals := 0 } : Room) D cy 143 ad (cWf ad cy) (cW ad cy (ρ) (x)) [.ref (ad (118 + 2 * 0)), .int (nI (j))] (kF (some (.ref (ad (2 * j)))) (ρ, x)) := by
  refine k_met cX3_rowOf 2 (some (.object "TurnedRows$Row")) (by decide) rfl (Nat.le_of_ble_eq_true rfl) ?_
  intro p e s m below meth c ls hx hb hr hts hown hlocks hml hK hP hS hl
  have hl : lv_has ls 2 [(0, .ref (ad (118 + 2 * 0))), (1, .int (nI (j)))] := hl
  have hown : s.vm.findClass RX3 = some m.cls := hown
  have hf_11 := hts (.fieldLink RX3 11 "TurnedRows$State" "rows" "[LTurnedRows$Row;") (by decide +kernel)
  have hw_X3 : ∀ qw ∈ wsX30, qw.before ([.ref (ad (118 + 2 * 0)), .int (nI (j))] : List Value).toArray s = true := fun qw h => hts qw ((by decide +kernel : ∀ qw ∈ wsX30, qw ∈ wsX3_rowOf) qw h)
  refine lv_iload_n hx hb dX3_rowOf_0 rfl (lv_at hl 1 rfl) ?_
  refine n_iflt (tgt := 22) hx hb (by omega) dX3_rowOf_1 (by decide) ?_
  refine lv_iload_n hx hb dX3_rowOf_4 rfl (lv_at hl 1 rfl) ?_
  refine lv_aload_n hx hb dX3_rowOf_5 rfl (lv_at hl 0 rfl) ?_
  refine k_get (q0 := 118 + 2 * 0) (k := 0) (T := TX3) (Nf := 1) (ci := 3) (C := RX3) (v := .ref (ad (118 + 2 * 0 + 1))) hx hb hw_X3 hown hK hP (by omega) (cW_st (t := 0) (by omega)) rfl (by decide) hf_11 rfl rfl dX3_rowOf_6 ?_
  refine k_alen (q0 := 118 + 2 * 0 + 1) hx hb hK hP 3 (by omega) (cW_sr (t := 0) (by omega)) rfl 6 rfl dX3_rowOf_9 ?_
  refine n_icmp_ge (tgt := 22) hx hb (by omega) (by omega) dX3_rowOf_10 (by decide) (fun h_1 => ?_) (fun h_1 => ?_)
  · skip
    exact absurd h_1 (by omega)
  · skip
    refine lv_aload_n hx hb dX3_rowOf_13 rfl (lv_at hl 0 rfl) ?_
    refine k_get (q0 := 118 + 2 * 0) (k := 0) (T := TX3) (Nf := 1) (ci := 3) (C := RX3) (v := .ref (ad (118 + 2 * 0 + 1))) hx hb hw_X3 hown hK hP (by omega) (cW_st (t := 0) (by omega)) rfl (by decide) hf_11 rfl rfl dX3_rowOf_14 ?_
    refine lv_iload_n hx hb dX3_rowOf_17 rfl (lv_at hl 1 rfl) ?_
    refine k_aald (q0 := 118 + 2 * 0 + 1) (j := j) hx hb hK hP (by omega) (cW_sr (t := 0) (by omega)) rfl (by decide) (by omega) dX3_rowOf_18 ?_
    refine r_same ?_
    refine lv_goto (tgt := 23) hx hb dX3_rowOf_19 (by decide) ?_
    refine k_aret hx hb hr hlocks (o := some (ad (2 * (6 * 0 + j)))) (ρ, x) hP hS dX3_rowOf_23 ?_
    exact ⟨by rw [show 6 * 0 + j = j by omega]; rfl, rfl⟩
set_option maxHeartbeats 4000000 in
set_option maxRecDepth 100000 in
theorem c_X3_rowOf_bad (l : Launch) (D : va_G) (cy : Nat → ClassId) (ad : Nat → Nat) (hI : wI 143 ad) (ρ : Nat → kR) (x : kX) (r : Int32) (hr0 : ¬ (0 ≤ r ∧ r < 6)) : kM l yX3_rowOf wsX3_rowOf ({ frames := 0, cells := 0, slots := 0, locals := 0 } : Room) D cy 143 ad (cWf ad cy) (cW ad cy (ρ) (x)) [.ref (ad (118 + 2 * 0)), .int (r)] (kF (some (.null)) (ρ, x)) := by
  refine k_met cX3_rowOf 2 (some (.object "TurnedRows$Row")) (by decide) rfl (Nat.le_of_ble_eq_true rfl) ?_
  intro p e s m below meth c ls hx hb hr hts hown hlocks hml hK hP hS hl
  have hl : lv_has ls 2 [(0, .ref (ad (118 + 2 * 0))), (1, .int (r))] := hl
  have hown : s.vm.findClass RX3 = some m.cls := hown
  have hf_11 := hts (.fieldLink RX3 11 "TurnedRows$State" "rows" "[LTurnedRows$Row;") (by decide +kernel)
  have hw_X3 : ∀ qw ∈ wsX30, qw.before ([.ref (ad (118 + 2 * 0)), .int (r)] : List Value).toArray s = true := fun qw h => hts qw ((by decide +kernel : ∀ qw ∈ wsX30, qw ∈ wsX3_rowOf) qw h)
  refine lv_iload_n hx hb dX3_rowOf_0 rfl (lv_at hl 1 rfl) ?_
  refine lv_if_lt (tgt := 22) hx hb dX3_rowOf_1 (by decide) (fun h_1 => ?_) (fun h_1 => ?_)
  · skip
    refine lv_null hx hb dX3_rowOf_22 ?_
    refine k_aret hx hb hr hlocks (o := none) (ρ, x) hP hS dX3_rowOf_23 ?_
    exact ⟨rfl, rfl⟩
  · skip
    refine lv_iload_n hx hb dX3_rowOf_4 rfl (lv_at hl 1 rfl) ?_
    refine lv_aload_n hx hb dX3_rowOf_5 rfl (lv_at hl 0 rfl) ?_
    refine k_get (q0 := 118 + 2 * 0) (k := 0) (T := TX3) (Nf := 1) (ci := 3) (C := RX3) (v := .ref (ad (118 + 2 * 0 + 1))) hx hb hw_X3 hown hK hP (by omega) (cW_st (t := 0) (by omega)) rfl (by decide) hf_11 rfl rfl dX3_rowOf_6 ?_
    refine k_alen (q0 := 118 + 2 * 0 + 1) hx hb hK hP 3 (by omega) (cW_sr (t := 0) (by omega)) rfl 6 rfl dX3_rowOf_9 ?_
    refine lv_icmp_ge (tgt := 22) hx hb dX3_rowOf_10 (by decide) (fun h_2 => ?_) (fun h_2 => ?_)
    · skip
      refine lv_null hx hb dX3_rowOf_22 ?_
      refine k_aret hx hb hr hlocks (o := none) (ρ, x) hP hS dX3_rowOf_23 ?_
      exact ⟨rfl, rfl⟩
    · skip
      exact absurd ⟨Int32.not_lt.mp h_1, Int32.not_le.mp h_2⟩ hr0
set_option maxHeartbeats 4000000 in
set_option maxRecDepth 100000 in
theorem c_X3_rowOf (l : Launch) (D : va_G) (cy : Nat → ClassId) (ad : Nat → Nat) (hI : wI 143 ad) (ρ : Nat → kR) (x : kX) (r : Int32) : kM l yX3_rowOf wsX3_rowOf ({ frames := 0, cells := 0, slots := 0, locals := 0 } : Room) D cy 143 ad (cWf ad cy) (cW ad cy (ρ) (x)) [.ref (ad (118 + 2 * 0)), .int (r)] (kF (some (va_rf (rOf ad r))) (ρ, x)) := by
  rcases kreg_cases r with h | ⟨j, hj, rfl⟩
  · rw [kreg_bad h]; exact c_X3_rowOf_bad l D cy ad hI ρ x r h
  · rw [kreg_ok hj rfl]; exact c_X3_rowOf_ok l D cy ad hI ρ x j hj
set_option maxHeartbeats 4000000 in
set_option maxRecDepth 100000 in
theorem c_X3_copyFrom (l : Launch) (D : va_G) (cy : Nat → ClassId) (ad : Nat → Nat) (hI : wI 143 ad) (ρ : Nat → kR) (x : kX) (t : Nat) (u : Nat) (ht : t < 9) (hu : u < 9) (htu : u ≠ t) : kM l yX3_copyFrom wsX3_copyFrom ({ frames := 2, cells := 0, slots := 0, locals := 39 } : Room) D cy 143 ad (cWf ad cy) (cW ad cy (ρ) (x)) [.ref (ad (118 + 2 * t)), .ref (ad (118 + 2 * u))] (kF none (cpS ρ t u 6, x)) := by
  refine k_met cX3_copyFrom 3 none (by decide) rfl (Nat.le_of_ble_eq_true rfl) ?_
  intro p e s m below meth c ls hx hb hr hts hown hlocks hml hK hP hS hl
  have hl : lv_has ls 3 [(0, .ref (ad (118 + 2 * t))), (1, .ref (ad (118 + 2 * u)))] := hl
  have hown : s.vm.findClass RX3 = some m.cls := hown
  have hf_11 := hts (.fieldLink RX3 11 "TurnedRows$State" "rows" "[LTurnedRows$Row;") (by decide +kernel)
  have hw_X3 : ∀ qw ∈ wsX30, qw.before ([.ref (ad (118 + 2 * t)), .ref (ad (118 + 2 * u))] : List Value).toArray s = true := fun qw h => hts qw ((by decide +kernel : ∀ qw ∈ wsX30, qw ∈ wsX3_copyFrom) qw h)
  refine lv_iconst (v := nI (0)) hx hb dX3_copyFrom_0 rfl ?_
  refine lv_istore_n (lv' := [(2, .int (nI (0))), (0, .ref (ad (118 + 2 * t))), (1, .ref (ad (118 + 2 * u)))]) hx hb dX3_copyFrom_1 rfl hl (by decide) rfl (fun ls hl => ?_)
  have lp2 : ∀ (fu : Nat) (k : Nat) (ρ' : Nat → kR), (k ≤ 6) → (ρ' = cpS ρ t u k) → 6 - k < fu → ∀ (H : Heap) (locs : List Loc), va_P D vwCl (wL 143 ad (cW ad cy (ρ') (x))) H → va_S (wA 143 ad) s.heap H locs → ∀ (ls : Array Slot), lv_has ls 3 [(2, .int (nI (k))), (0, .ref (ad (118 + 2 * t))), (1, .ref (ad (118 + 2 * u)))] → W p l e ({ frames := 2, cells := 0, slots := 0, locals := 39 } : Room) s m ([.ref (ad (118 + 2 * t)), .ref (ad (118 + 2 * u))] : List Value).toArray below meth c H locs 0 0 (MQ below (kQ D 143 ad (cWf ad cy) (kF none (cpS ρ t u 6, x))) ([.ref (ad (118 + 2 * t)), .ref (ad (118 + 2 * u))] : List Value).toArray s 0 0 (wA 143 ad)) (F0 m 2 ls []) := by
    intro fu
    induction fu with
    | zero => intro k ρ' hk hρ hfu; exact absurd hfu (Nat.not_lt_zero _)
    | succ fu ih2 =>
      intro k ρ' hk hρ hfu H locs hP hS ls hl
      refine lv_iload_n hx hb dX3_copyFrom_2 rfl (lv_at hl 0 rfl) ?_
      refine lv_aload_n hx hb dX3_copyFrom_3 rfl (lv_at hl 1 rfl) ?_
      refine k_get (q0 := 118 + 2 * t) (k := 0) (T := TX3) (Nf := 1) (ci := 3) (C := RX3) (v := .ref (ad (118 + 2 * t + 1))) hx hb hw_X3 hown hK hP (by omega) (cW_st (t := t) (by omega)) rfl (by decide) hf_11 rfl rfl dX3_copyFrom_4 ?_
      refine k_alen (q0 := 118 + 2 * t + 1) hx hb hK hP 3 (by omega) (cW_sr (t := t) (by omega)) rfl 6 rfl dX3_copyFrom_7 ?_
      refine n_icmp_ge (tgt := 32) hx hb (by omega) (by omega) dX3_copyFrom_8 (by decide) (fun h_1 => ?_) (fun h_1 => ?_)
      · skip
        rw [hρ, show k = 6 by omega] at hP
        refine k_vret hx hb hr hlocks (cpS ρ t u 6, x) hP hS dX3_copyFrom_32 ?_
        exact ⟨rfl, rfl⟩
      · skip
        refine lv_aload_n hx hb dX3_copyFrom_11 rfl (lv_at hl 1 rfl) ?_
        refine k_get (q0 := 118 + 2 * t) (k := 0) (T := TX3) (Nf := 1) (ci := 3) (C := RX3) (v := .ref (ad (118 + 2 * t + 1))) hx hb hw_X3 hown hK hP (by omega) (cW_st (t := t) (by omega)) rfl (by decide) hf_11 rfl rfl dX3_copyFrom_12 ?_
        refine lv_iload_n hx hb dX3_copyFrom_15 rfl (lv_at hl 0 rfl) ?_
        refine k_aald (q0 := 118 + 2 * t + 1) (j := k) hx hb hK hP (by omega) (cW_sr (t := t) (by omega)) rfl (by decide) (by omega) dX3_copyFrom_16 ?_
        refine r_same ?_
        refine lv_aload_n hx hb dX3_copyFrom_17 rfl (lv_at hl 2 rfl) ?_
        refine k_get (q0 := 118 + 2 * u) (k := 0) (T := TX3) (Nf := 1) (ci := 3) (C := RX3) (v := .ref (ad (118 + 2 * u + 1))) hx hb hw_X3 hown hK hP (by omega) (cW_st (t := u) (by omega)) rfl (by decide) hf_11 rfl rfl dX3_copyFrom_18 ?_
        refine lv_iload_n hx hb dX3_copyFrom_21 rfl (lv_at hl 0 rfl) ?_
        refine k_aald (q0 := 118 + 2 * u + 1) (j := k) hx hb hK hP (by omega) (cW_sr (t := u) (by omega)) rfl (by decide) (by omega) dX3_copyFrom_22 ?_
        refine r_same ?_
        refine k_callVv (rest := []) (nL := 3) ⟨hx, hb, hml, hown, hts⟩ (c_X2_copyFrom l D cy ad hI ρ' x (6 * t + k) (6 * u + k) (by first | assumption | omega) (by first | assumption | omega) (by first | assumption | omega)) (cwV 1 hts gX3_copyFrom_X2_copyFrom rfl rfl rfl (by decide +kernel) ⟨Nat.le_of_ble_eq_true rfl, Nat.le_of_ble_eq_true rfl⟩) hK hP hS (fun _ h => h) (q0 := 2 * (6 * t + k)) (ci := 2) rfl (by omega) (cW_row (i := 6 * t + k) (by omega)) rfl rfl rfl hl.1 rfl (Nat.le_of_ble_eq_true rfl) dX3_copyFrom_23 ⟨Nat.zero_le _, Nat.zero_le _⟩ (fun H locs hP hS => ?_)
        have hP : va_P D vwCl (wL 143 ad (cW ad cy (va_up ρ' (6 * t + k) (ρ' (6 * u + k))) (x))) H := hP
        refine lv_iinc (v := nI (k + 1)) (lv' := [(2, .int (nI (k + 1))), (0, .ref (ad (118 + 2 * t))), (1, .ref (ad (118 + 2 * u)))]) hx hb dX3_copyFrom_26 hl (k := 0) rfl (nI_inc _) (by decide) rfl (fun ls hl => ?_)
        refine lv_goto (tgt := 2) hx hb dX3_copyFrom_29 (by decide) ?_
        exact ih2 (k + 1) (va_up ρ' (6 * t + k) (ρ' (6 * u + k))) (by omega) (by rw [hρ, cpS_s htu h_1]) (by omega) _ _ hP hS _ hl
  exact lp2 (_ + 1) (0) (ρ) (by omega) (by rw [cpS_0]) (Nat.lt_succ_self _) _ _ hP hS _ hl
set_option maxHeartbeats 4000000 in
set_option maxRecDepth 100000 in
theorem c_X0_dropOldest (l : Launch) (D : va_G) (cy : Nat → ClassId) (ad : Nat → Nat) (hI : wI 143 ad) (ρ : Nat → kR) (x : kX) (hpm : ∀ j, j < 6 → x.2.1 j < 9) : kM l yX0_dropOldest wsX0_dropOldest ({ frames := 0, cells := 0, slots := 0, locals := 0 } : Room) D cy 143 ad (cWf ad cy) (cW ad cy (ρ) (x)) [.ref (ad (137))] (kF none (ρ, (5, rotF x.2.1, x.2.2))) := by
  refine k_met cX0_dropOldest 3 none (by decide) rfl (Nat.le_of_ble_eq_true rfl) ?_
  intro p e s m below meth c ls hx hb hr hts hown hlocks hml hK hP hS hl
  have hl : lv_has ls 3 [(0, .ref (ad (137)))] := hl
  have hown : s.vm.findClass RX0 = some m.cls := hown
  have hf_11 := hts (.fieldLink RX0 11 "TurnedRows$History" "states" "[LTurnedRows$State;") (by decide +kernel)
  have hf_17 := hts (.fieldLink RX0 17 "TurnedRows$History" "length" "I") (by decide +kernel)
  have hw_X0 : ∀ qw ∈ wsX00, qw.before ([.ref (ad (137))] : List Value).toArray s = true := fun qw h => hts qw ((by decide +kernel : ∀ qw ∈ wsX00, qw ∈ wsX0_dropOldest) qw h)
  refine lv_aload_n hx hb dX0_dropOldest_0 rfl (lv_at hl 0 rfl) ?_
  refine k_get (q0 := 137) (k := 0) (T := TX0) (Nf := 2) (ci := 0) (C := RX0) (v := .ref (ad (138))) hx hb hw_X0 hown hK hP (by decide) cW_hist rfl (by decide) hf_11 rfl rfl dX0_dropOldest_1 ?_
  refine lv_iconst (v := nI (0)) hx hb dX0_dropOldest_4 rfl ?_
  refine k_aald (q0 := 138) (j := 0) hx hb hK hP (by decide) cW_hs rfl (by decide) (by omega) dX0_dropOldest_5 ?_
  have hp0 := hpm 0 (by decide)
  refine r_same ?_
  refine lv_astore_n (lv' := [(1, .ref (ad (118 + 2 * (x.2.1 0)))), (0, .ref (ad (137)))]) hx hb dX0_dropOldest_6 rfl hl (by decide) rfl (fun ls hl => ?_)
  refine lv_iconst (v := nI (1)) hx hb dX0_dropOldest_7 rfl ?_
  refine lv_istore_n (lv' := [(2, .int (nI (1))), (1, .ref (ad (118 + 2 * (x.2.1 0)))), (0, .ref (ad (137)))]) hx hb dX0_dropOldest_8 rfl hl (by decide) rfl (fun ls hl => ?_)
  have lp9 : ∀ (fu : Nat) (k : Nat) (x' : kX), (1 ≤ k ∧ k ≤ 6) → (x' = (x.1, rot x.2.1 k, x.2.2)) → 6 - k < fu → ∀ (H : Heap) (locs : List Loc), va_P D vwCl (wL 143 ad (cW ad cy (ρ) (x'))) H → va_S (wA 143 ad) s.heap H locs → ∀ (ls : Array Slot), lv_has ls 3 [(2, .int (nI (k))), (1, .ref (ad (118 + 2 * (x.2.1 0)))), (0, .ref (ad (137)))] → W p l e ({ frames := 0, cells := 0, slots := 0, locals := 0 } : Room) s m ([.ref (ad (137))] : List Value).toArray below meth c H locs 0 0 (MQ below (kQ D 143 ad (cWf ad cy) (kF none (ρ, (5, rotF x.2.1, x.2.2)))) ([.ref (ad (137))] : List Value).toArray s 0 0 (wA 143 ad)) (F0 m 9 ls []) := by
    intro fu
    induction fu with
    | zero => intro k x' hk hx' hfu; exact absurd hfu (Nat.not_lt_zero _)
    | succ fu ih9 =>
      intro k x' hk hx' hfu H locs hP hS ls hl
      refine lv_iload_n hx hb dX0_dropOldest_9 rfl (lv_at hl 0 rfl) ?_
      refine lv_aload_n hx hb dX0_dropOldest_10 rfl (lv_at hl 2 rfl) ?_
      refine k_get (q0 := 137) (k := 0) (T := TX0) (Nf := 2) (ci := 0) (C := RX0) (v := .ref (ad (138))) hx hb hw_X0 hown hK hP (by decide) cW_hist rfl (by decide) hf_11 rfl rfl dX0_dropOldest_11 ?_
      refine k_alen (q0 := 138) hx hb hK hP 4 (by decide) cW_hs rfl 6 rfl dX0_dropOldest_14 ?_
      refine n_icmp_ge (tgt := 38) hx hb (by omega) (by omega) dX0_dropOldest_15 (by decide) (fun h_1 => ?_) (fun h_1 => ?_)
      · skip
        refine lv_aload_n hx hb dX0_dropOldest_38 rfl (lv_at hl 2 rfl) ?_
        refine lv_aload_n hx hb dX0_dropOldest_39 rfl (lv_at hl 2 rfl) ?_
        refine k_get (q0 := 137) (k := 0) (T := TX0) (Nf := 2) (ci := 0) (C := RX0) (v := .ref (ad (138))) hx hb hw_X0 hown hK hP (by decide) cW_hist rfl (by decide) hf_11 rfl rfl dX0_dropOldest_40 ?_
        refine k_alen (q0 := 138) hx hb hK hP 4 (by decide) cW_hs rfl 6 rfl dX0_dropOldest_43 ?_
        refine lv_iconst (v := nI (1)) hx hb dX0_dropOldest_44 rfl ?_
        refine n_isub hx hb (by omega) dX0_dropOldest_45 ?_
        refine k_put (q0 := 137) (k := 1) (T := TX0) (Nf := 2) (ci := 0) (C := RX0) (v := .int (nI (6 - 1))) (Wd' := cW ad cy (ρ) ((6 - 1, x'.2))) hx hb hw_X0 tyX0 tyX0_ok nmX0 hown hK hI hP hS (by decide) cW_hist rfl (by decide) hf_17 rfl rfl (ty := .int) (by decide +kernel) rfl rfl (Nat.le_of_ble_eq_true rfl) cW_up_hl dX0_dropOldest_46 (fun H locs hP hS => ?_)
        refine lv_aload_n hx hb dX0_dropOldest_49 rfl (lv_at hl 2 rfl) ?_
        refine k_get (q0 := 137) (k := 0) (T := TX0) (Nf := 2) (ci := 0) (C := RX0) (v := .ref (ad (138))) hx hb hw_X0 hown hK hP (by decide) cW_hist rfl (by decide) hf_11 rfl rfl dX0_dropOldest_50 ?_
        refine lv_aload_n hx hb dX0_dropOldest_53 rfl (lv_at hl 2 rfl) ?_
        refine k_get (q0 := 137) (k := 1) (T := TX0) (Nf := 2) (ci := 0) (C := RX0) (v := .int (nI (6 - 1))) hx hb hw_X0 hown hK hP (by decide) cW_hist rfl (by decide) hf_17 rfl rfl dX0_dropOldest_54 ?_
        refine lv_aload_n hx hb dX0_dropOldest_57 rfl (lv_at hl 1 rfl) ?_
        refine k_aast (q0 := 138) (qk := 118 + 2 * (x.2.1 0)) (j := 6 - 1) (r := (RX3, TX3, 1)) (Wd' := cW ad cy (ρ) ((6 - 1, va_up x'.2.1 (6 - 1) (x.2.1 0), x'.2.2))) hx hb hK hI hP hS (by decide) cW_hs rfl (by omega) (cW_st (t := x.2.1 0) (by omega)) rfl (by decide) (by omega) cW_up_hs dX0_dropOldest_58 (fun H locs hP hS => ?_)
        refine k_vret hx hb hr hlocks (ρ, (6 - 1, va_up x'.2.1 (6 - 1) (x.2.1 0), x'.2.2)) hP hS dX0_dropOldest_59 ?_
        exact ⟨rfl, by rw [hx', show k = 6 by omega]; rfl⟩
      · skip
        refine lv_aload_n hx hb dX0_dropOldest_18 rfl (lv_at hl 2 rfl) ?_
        refine k_get (q0 := 137) (k := 0) (T := TX0) (Nf := 2) (ci := 0) (C := RX0) (v := .ref (ad (138))) hx hb hw_X0 hown hK hP (by decide) cW_hist rfl (by decide) hf_11 rfl rfl dX0_dropOldest_19 ?_
        refine lv_iload_n hx hb dX0_dropOldest_22 rfl (lv_at hl 0 rfl) ?_
        refine lv_iconst (v := nI (1)) hx hb dX0_dropOldest_23 rfl ?_
        refine n_isub hx hb (by omega) dX0_dropOldest_24 ?_
        refine lv_aload_n hx hb dX0_dropOldest_25 rfl (lv_at hl 2 rfl) ?_
        refine k_get (q0 := 137) (k := 0) (T := TX0) (Nf := 2) (ci := 0) (C := RX0) (v := .ref (ad (138))) hx hb hw_X0 hown hK hP (by decide) cW_hist rfl (by decide) hf_11 rfl rfl dX0_dropOldest_26 ?_
        refine lv_iload_n hx hb dX0_dropOldest_29 rfl (lv_at hl 0 rfl) ?_
        refine k_aald (q0 := 138) (j := k) hx hb hK hP (by decide) cW_hs rfl (by decide) (by omega) dX0_dropOldest_30 ?_
        have hp1 := hpm k (by omega)
        have e1 : x'.2.1 k = x.2.1 k := by rw [hx']; exact rot_k _ _
        rw [e1]
        refine r_same ?_
        refine k_aast (q0 := 138) (qk := 118 + 2 * (x.2.1 k)) (j := k - 1) (r := (RX3, TX3, 1)) (Wd' := cW ad cy (ρ) ((x'.1, va_up x'.2.1 (k - 1) (x.2.1 k), x'.2.2))) hx hb hK hI hP hS (by decide) cW_hs rfl (by omega) (cW_st (t := x.2.1 k) (by omega)) rfl (by decide) (by omega) cW_up_hs dX0_dropOldest_31 (fun H locs hP hS => ?_)
        refine lv_iinc (v := nI (k + 1)) (lv' := [(2, .int (nI (k + 1))), (1, .ref (ad (118 + 2 * (x.2.1 0)))), (0, .ref (ad (137)))]) hx hb dX0_dropOldest_32 hl (k := 0) rfl (nI_inc _) (by decide) rfl (fun ls hl => ?_)
        refine lv_goto (tgt := 9) hx hb dX0_dropOldest_35 (by decide) ?_
        exact ih9 (k + 1) ((x'.1, va_up x'.2.1 (k - 1) (x.2.1 k), x'.2.2)) (by omega) (by rw [hx']; exact congrArg (fun q => (x.1, q, x.2.2)) (rot_s _ hk.1)) (by omega) _ _ hP hS _ hl
  exact lp9 (_ + 1) (1) (x) (by omega) (by rw [rot_1]) (Nat.lt_succ_self _) _ _ hP hS _ hl
set_option maxHeartbeats 4000000 in
set_option maxRecDepth 100000 in
theorem c_X0_keep (l : Launch) (D : va_G) (cy : Nat → ClassId) (ad : Nat → Nat) (hI : wI 143 ad) (ρ : Nat → kR) (x : kX) (hpm : ∀ j, j < 6 → x.2.1 j < 9) (hhl : x.1 ≤ 6) (hp0 : ∀ j, j < 6 → x.2.1 j ≠ 0) : kM l yX0_keep wsX0_keep ({ frames := 3, cells := 0, slots := 0, locals := 61 } : Room) D cy 143 ad (cWf ad cy) (cW ad cy (ρ) (x)) [.ref (ad (137)), .ref (ad (118 + 2 * 0))] (kF none (keepR ρ x, keepX x)) := by
  refine k_met cX0_keep 2 none (by decide) rfl (Nat.le_of_ble_eq_true rfl) ?_
  intro p e s m below meth c ls hx hb hr hts hown hlocks hml hK hP hS hl
  have hl : lv_has ls 2 [(0, .ref (ad (137))), (1, .ref (ad (118 + 2 * 0)))] := hl
  have hown : s.vm.findClass RX0 = some m.cls := hown
  have hf_11 := hts (.fieldLink RX0 11 "TurnedRows$History" "states" "[LTurnedRows$State;") (by decide +kernel)
  have hf_17 := hts (.fieldLink RX0 17 "TurnedRows$History" "length" "I") (by decide +kernel)
  have hw_X0 : ∀ qw ∈ wsX00, qw.before ([.ref (ad (137)), .ref (ad (118 + 2 * 0))] : List Value).toArray s = true := fun qw h => hts qw ((by decide +kernel : ∀ qw ∈ wsX00, qw ∈ wsX0_keep) qw h)
  have hpx : ∀ j, j < 6 → rotF x.2.1 j < 9 := by
    intro j hj
    by_cases q : j = 5
    · subst q; exact hpm 0 (by decide)
    · unfold rotF; rw [va_up_ne _ _ q]; unfold rot; split; exact hpm _ (by omega); exact hpm _ hj
  refine lv_aload_n hx hb dX0_keep_0 rfl (lv_at hl 0 rfl) ?_
  refine k_get (q0 := 137) (k := 1) (T := TX0) (Nf := 2) (ci := 0) (C := RX0) (v := .int (nI (x.1))) hx hb hw_X0 hown hK hP (by decide) cW_hist rfl (by decide) hf_17 rfl rfl dX0_keep_1 ?_
  refine lv_aload_n hx hb dX0_keep_4 rfl (lv_at hl 0 rfl) ?_
  refine k_get (q0 := 137) (k := 0) (T := TX0) (Nf := 2) (ci := 0) (C := RX0) (v := .ref (ad (138))) hx hb hw_X0 hown hK hP (by decide) cW_hist rfl (by decide) hf_11 rfl rfl dX0_keep_5 ?_
  refine k_alen (q0 := 138) hx hb hK hP 4 (by decide) cW_hs rfl 6 rfl dX0_keep_8 ?_
  refine n_icmp_lt (tgt := 16) hx hb (by omega) (by omega) dX0_keep_9 (by decide) (fun h_1 => ?_) (fun h_1 => ?_)
  · skip
    have e1 : kpm x = x.2.1 := if_pos h_1
    have e2 : khl x = x.1 := if_pos h_1
    have hp1 := hpm x.1 h_1
    have hp2 := hp0 x.1 h_1
    refine lv_aload_n hx hb dX0_keep_16 rfl (lv_at hl 0 rfl) ?_
    refine k_get (q0 := 137) (k := 0) (T := TX0) (Nf := 2) (ci := 0) (C := RX0) (v := .ref (ad (138))) hx hb hw_X0 hown hK hP (by decide) cW_hist rfl (by decide) hf_11 rfl rfl dX0_keep_17 ?_
    refine lv_aload_n hx hb dX0_keep_20 rfl (lv_at hl 0 rfl) ?_
    refine k_get (q0 := 137) (k := 1) (T := TX0) (Nf := 2) (ci := 0) (C := RX0) (v := .int (nI (x.1))) hx hb hw_X0 hown hK hP (by decide) cW_hist rfl (by decide) hf_17 rfl rfl dX0_keep_21 ?_
    refine k_aald (q0 := 138) (j := x.1) hx hb hK hP (by decide) cW_hs rfl (by decide) (by omega) dX0_keep_24 ?_
    refine r_same ?_
    refine lv_aload_n hx hb dX0_keep_25 rfl (lv_at hl 1 rfl) ?_
    refine k_callVv (rest := []) (nL := 2) ⟨hx, hb, hml, hown, hts⟩ (c_X3_copyFrom l D cy ad hI ρ x (x.2.1 x.1) 0 (by first | assumption | omega) (by first | assumption | omega) (by first | assumption | omega)) (cwV 1 hts gX0_keep_X3_copyFrom rfl rfl rfl (by decide +kernel) ⟨Nat.le_of_ble_eq_true rfl, Nat.le_of_ble_eq_true rfl⟩) hK hP hS (fun _ h => h) (q0 := 118 + 2 * (x.2.1 x.1)) (ci := 3) rfl (by omega) (cW_st (t := x.2.1 x.1) (by omega)) rfl rfl rfl hl.1 rfl (Nat.le_of_ble_eq_true rfl) dX0_keep_26 ⟨Nat.zero_le _, Nat.zero_le _⟩ (fun H locs hP hS => ?_)
    have hP : va_P D vwCl (wL 143 ad (cW ad cy (cpS ρ (x.2.1 x.1) 0 6) (x))) H := hP
    refine lv_aload_n hx hb dX0_keep_29 rfl (lv_at hl 0 rfl) ?_
    refine lv_dup hx hb dX0_keep_30 rfl ?_
    refine k_get (q0 := 137) (k := 1) (T := TX0) (Nf := 2) (ci := 0) (C := RX0) (v := .int (nI (x.1))) hx hb hw_X0 hown hK hP (by decide) cW_hist rfl (by decide) hf_17 rfl rfl dX0_keep_31 ?_
    refine lv_iconst (v := nI (1)) hx hb dX0_keep_34 rfl ?_
    refine n_iadd hx hb dX0_keep_35 ?_
    refine k_put (q0 := 137) (k := 1) (T := TX0) (Nf := 2) (ci := 0) (C := RX0) (v := .int (nI (x.1 + 1))) (Wd' := cW ad cy (cpS ρ (x.2.1 x.1) 0 6) ((x.1 + 1, x.2))) hx hb hw_X0 tyX0 tyX0_ok nmX0 hown hK hI hP hS (by decide) cW_hist rfl (by decide) hf_17 rfl rfl (ty := .int) (by decide +kernel) rfl rfl (Nat.le_of_ble_eq_true rfl) cW_up_hl dX0_keep_36 (fun H locs hP hS => ?_)
    refine k_vret hx hb hr hlocks (cpS ρ (x.2.1 x.1) 0 6, (x.1 + 1, x.2)) hP hS dX0_keep_39 ?_
    exact ⟨rfl, by unfold keepR keepX; rw [e1, e2]⟩
  · skip
    have e1 : kpm x = rotF x.2.1 := if_neg (Nat.not_lt.mpr h_1)
    have e2 : khl x = 5 := if_neg (Nat.not_lt.mpr h_1)
    have hp1 := hpx 5 (by decide)
    have hp2 : rotF x.2.1 5 ≠ 0 := hp0 0 (by decide)
    refine lv_aload_n hx hb dX0_keep_12 rfl (lv_at hl 0 rfl) ?_
    refine k_callVv (rest := []) (nL := 2) ⟨hx, hb, hml, hown, hts⟩ (c_X0_dropOldest l D cy ad hI ρ x (by first | assumption | omega)) (cwV 0 hts gX0_keep_X0_dropOldest rfl rfl rfl (by decide +kernel) ⟨Nat.le_of_ble_eq_true rfl, Nat.le_of_ble_eq_true rfl⟩) hK hP hS (fun _ h => h) (q0 := 137) (ci := 0) rfl (by decide) cW_hist rfl rfl rfl hl.1 rfl (Nat.le_of_ble_eq_true rfl) dX0_keep_13 ⟨Nat.zero_le _, Nat.zero_le _⟩ (fun H locs hP hS => ?_)
    have hP : va_P D vwCl (wL 143 ad (cW ad cy (ρ) ((5, rotF x.2.1, x.2.2)))) H := hP
    refine lv_aload_n hx hb dX0_keep_16 rfl (lv_at hl 0 rfl) ?_
    refine k_get (q0 := 137) (k := 0) (T := TX0) (Nf := 2) (ci := 0) (C := RX0) (v := .ref (ad (138))) hx hb hw_X0 hown hK hP (by decide) cW_hist rfl (by decide) hf_11 rfl rfl dX0_keep_17 ?_
    refine lv_aload_n hx hb dX0_keep_20 rfl (lv_at hl 0 rfl) ?_
    refine k_get (q0 := 137) (k := 1) (T := TX0) (Nf := 2) (ci := 0) (C := RX0) (v := .int (nI (5))) hx hb hw_X0 hown hK hP (by decide) cW_hist rfl (by decide) hf_17 rfl rfl dX0_keep_21 ?_
    refine k_aald (q0 := 138) (j := 5) hx hb hK hP (by decide) cW_hs rfl (by decide) (by omega) dX0_keep_24 ?_
    refine r_same ?_
    refine lv_aload_n hx hb dX0_keep_25 rfl (lv_at hl 1 rfl) ?_
    refine k_callVv (rest := []) (nL := 2) ⟨hx, hb, hml, hown, hts⟩ (c_X3_copyFrom l D cy ad hI ρ (5, rotF x.2.1, x.2.2) ((rotF x.2.1) 5) 0 (by first | assumption | omega) (by first | assumption | omega) (by first | assumption | omega)) (cwV 1 hts gX0_keep_X3_copyFrom rfl rfl rfl (by decide +kernel) ⟨Nat.le_of_ble_eq_true rfl, Nat.le_of_ble_eq_true rfl⟩) hK hP hS (fun _ h => h) (q0 := 118 + 2 * ((rotF x.2.1) 5)) (ci := 3) rfl (by omega) (cW_st (t := (rotF x.2.1) 5) (by omega)) rfl rfl rfl hl.1 rfl (Nat.le_of_ble_eq_true rfl) dX0_keep_26 ⟨Nat.zero_le _, Nat.zero_le _⟩ (fun H locs hP hS => ?_)
    have hP : va_P D vwCl (wL 143 ad (cW ad cy (cpS ρ ((rotF x.2.1) 5) 0 6) ((5, rotF x.2.1, x.2.2)))) H := hP
    refine lv_aload_n hx hb dX0_keep_29 rfl (lv_at hl 0 rfl) ?_
    refine lv_dup hx hb dX0_keep_30 rfl ?_
    refine k_get (q0 := 137) (k := 1) (T := TX0) (Nf := 2) (ci := 0) (C := RX0) (v := .int (nI (5))) hx hb hw_X0 hown hK hP (by decide) cW_hist rfl (by decide) hf_17 rfl rfl dX0_keep_31 ?_
    refine lv_iconst (v := nI (1)) hx hb dX0_keep_34 rfl ?_
    refine n_iadd hx hb dX0_keep_35 ?_
    refine k_put (q0 := 137) (k := 1) (T := TX0) (Nf := 2) (ci := 0) (C := RX0) (v := .int (nI (5 + 1))) (Wd' := cW ad cy (cpS ρ ((rotF x.2.1) 5) 0 6) ((5 + 1, (rotF x.2.1, x.2.2)))) hx hb hw_X0 tyX0 tyX0_ok nmX0 hown hK hI hP hS (by decide) cW_hist rfl (by decide) hf_17 rfl rfl (ty := .int) (by decide +kernel) rfl rfl (Nat.le_of_ble_eq_true rfl) cW_up_hl dX0_keep_36 (fun H locs hP hS => ?_)
    refine k_vret hx hb hr hlocks (cpS ρ ((rotF x.2.1) 5) 0 6, (5 + 1, (rotF x.2.1, x.2.2))) hP hS dX0_keep_39 ?_
    exact ⟨rfl, by unfold keepR keepX; rw [e1, e2]⟩
set_option maxHeartbeats 4000000 in
set_option maxRecDepth 100000 in
theorem c_X1_length (l : Launch) (D : va_G) (cy : Nat → ClassId) (ad : Nat → Nat) (hI : wI 143 ad) (ρ : Nat → kR) (x : kX) : kM l yX1_length wsX1_length ({ frames := 0, cells := 0, slots := 0, locals := 0 } : Room) D cy 143 ad (cWf ad cy) (cW ad cy (ρ) (x)) [.ref (ad (139))] (kF (some (.int (nI (x.2.2.1)))) (ρ, x)) := by
  refine k_met cX1_length 1 (some .int) (by decide) rfl (Nat.le_of_ble_eq_true rfl) ?_
  intro p e s m below meth c ls hx hb hr hts hown hlocks hml hK hP hS hl
  have hl : lv_has ls 1 [(0, .ref (ad (139)))] := hl
  have hown : s.vm.findClass RX1 = some m.cls := hown
  have hf_15 := hts (.fieldLink RX1 15 "TurnedRows$Pad" "length" "I") (by decide +kernel)
  have hw_X1 : ∀ qw ∈ wsX10, qw.before ([.ref (ad (139))] : List Value).toArray s = true := fun qw h => hts qw ((by decide +kernel : ∀ qw ∈ wsX10, qw ∈ wsX1_length) qw h)
  refine lv_aload_n hx hb dX1_length_0 rfl (lv_at hl 0 rfl) ?_
  refine k_get (q0 := 139) (k := 1) (T := TX1) (Nf := 2) (ci := 1) (C := RX1) (v := .int (nI (x.2.2.1))) hx hb hw_X1 hown hK hP (by decide) cW_pad rfl (by decide) hf_15 rfl rfl dX1_length_1 ?_
  refine k_iret hx hb hr hlocks (ρ, x) hP hS dX1_length_4 ?_
  exact ⟨rfl, rfl⟩
set_option maxHeartbeats 4000000 in
set_option maxRecDepth 100000 in
theorem c_X1_empty (l : Launch) (D : va_G) (cy : Nat → ClassId) (ad : Nat → Nat) (hI : wI 143 ad) (ρ : Nat → kR) (x : kX) : kM l yX1_empty wsX1_empty ({ frames := 0, cells := 0, slots := 0, locals := 0 } : Room) D cy 143 ad (cWf ad cy) (cW ad cy (ρ) (x)) [.ref (ad (139))] (kF none (ρ, (x.1, x.2.1, 0, x.2.2.2))) := by
  refine k_met cX1_empty 1 none (by decide) rfl (Nat.le_of_ble_eq_true rfl) ?_
  intro p e s m below meth c ls hx hb hr hts hown hlocks hml hK hP hS hl
  have hl : lv_has ls 1 [(0, .ref (ad (139)))] := hl
  have hown : s.vm.findClass RX1 = some m.cls := hown
  have hf_15 := hts (.fieldLink RX1 15 "TurnedRows$Pad" "length" "I") (by decide +kernel)
  have hw_X1 : ∀ qw ∈ wsX10, qw.before ([.ref (ad (139))] : List Value).toArray s = true := fun qw h => hts qw ((by decide +kernel : ∀ qw ∈ wsX10, qw ∈ wsX1_empty) qw h)
  refine lv_aload_n hx hb dX1_empty_0 rfl (lv_at hl 0 rfl) ?_
  refine lv_iconst (v := nI (0)) hx hb dX1_empty_1 rfl ?_
  refine k_put (q0 := 139) (k := 1) (T := TX1) (Nf := 2) (ci := 1) (C := RX1) (v := .int (nI (0))) (Wd' := cW ad cy (ρ) ((x.1, x.2.1, 0, x.2.2.2))) hx hb hw_X1 tyX1 tyX1_ok nmX1 hown hK hI hP hS (by decide) cW_pad rfl (by decide) hf_15 rfl rfl (ty := .int) (by decide +kernel) rfl rfl (Nat.le_of_ble_eq_true rfl) cW_up_pl dX1_empty_2 (fun H locs hP hS => ?_)
  refine k_vret hx hb hr hlocks (ρ, (x.1, x.2.1, 0, x.2.2.2)) hP hS dX1_empty_5 ?_
  exact ⟨rfl, rfl⟩
set_option maxHeartbeats 4000000 in
set_option maxRecDepth 100000 in
theorem c_X1_append (l : Launch) (D : va_G) (cy : Nat → ClassId) (ad : Nat → Nat) (hI : wI 143 ad) (ρ : Nat → kR) (x : kX) (w : Nat) (hl80 : x.2.2.1 < 80) : kM l yX1_append wsX1_append ({ frames := 0, cells := 0, slots := 0, locals := 0 } : Room) D cy 143 ad (cWf ad cy) (cW ad cy (ρ) (x)) [.ref (ad (139)), .int (nI (w))] (kF none (ρ, (x.1, x.2.1, x.2.2.1 + 1, va_up x.2.2.2.1 x.2.2.1 w, x.2.2.2.2))) := by
  refine k_met cX1_append 2 none (by decide) rfl (Nat.le_of_ble_eq_true rfl) ?_
  intro p e s m below meth c ls hx hb hr hts hown hlocks hml hK hP hS hl
  have hl : lv_has ls 2 [(0, .ref (ad (139))), (1, .int (nI (w)))] := hl
  have hown : s.vm.findClass RX1 = some m.cls := hown
  have hf_9 := hts (.fieldLink RX1 9 "TurnedRows$Pad" "codes" "[I") (by decide +kernel)
  have hf_15 := hts (.fieldLink RX1 15 "TurnedRows$Pad" "length" "I") (by decide +kernel)
  have hw_X1 : ∀ qw ∈ wsX10, qw.before ([.ref (ad (139)), .int (nI (w))] : List Value).toArray s = true := fun qw h => hts qw ((by decide +kernel : ∀ qw ∈ wsX10, qw ∈ wsX1_append) qw h)
  refine lv_aload_n hx hb dX1_append_0 rfl (lv_at hl 0 rfl) ?_
  refine k_get (q0 := 139) (k := 1) (T := TX1) (Nf := 2) (ci := 1) (C := RX1) (v := .int (nI (x.2.2.1))) hx hb hw_X1 hown hK hP (by decide) cW_pad rfl (by decide) hf_15 rfl rfl dX1_append_1 ?_
  refine lv_aload_n hx hb dX1_append_4 rfl (lv_at hl 0 rfl) ?_
  refine k_get (q0 := 139) (k := 0) (T := TX1) (Nf := 2) (ci := 1) (C := RX1) (v := .ref (ad (140))) hx hb hw_X1 hown hK hP (by decide) cW_pad rfl (by decide) hf_9 rfl rfl dX1_append_5 ?_
  refine k_alen (q0 := 140) hx hb hK hP 0 (by decide) cW_pc rfl 80 rfl dX1_append_8 ?_
  refine n_icmp_ge (tgt := 32) hx hb (by omega) (by omega) dX1_append_9 (by decide) (fun h_1 => ?_) (fun h_1 => ?_)
  · skip
    exact absurd h_1 (by omega)
  · skip
    refine lv_aload_n hx hb dX1_append_12 rfl (lv_at hl 0 rfl) ?_
    refine k_get (q0 := 139) (k := 0) (T := TX1) (Nf := 2) (ci := 1) (C := RX1) (v := .ref (ad (140))) hx hb hw_X1 hown hK hP (by decide) cW_pad rfl (by decide) hf_9 rfl rfl dX1_append_13 ?_
    refine lv_aload_n hx hb dX1_append_16 rfl (lv_at hl 0 rfl) ?_
    refine k_get (q0 := 139) (k := 1) (T := TX1) (Nf := 2) (ci := 1) (C := RX1) (v := .int (nI (x.2.2.1))) hx hb hw_X1 hown hK hP (by decide) cW_pad rfl (by decide) hf_15 rfl rfl dX1_append_17 ?_
    refine lv_iload_n hx hb dX1_append_20 rfl (lv_at hl 1 rfl) ?_
    refine k_iast (q0 := 140) (j := x.2.2.1) (v := nI (w)) (Wd' := cW ad cy (ρ) ((x.1, x.2.1, x.2.2.1, va_up x.2.2.2.1 x.2.2.1 w, x.2.2.2.2))) hx hb hK hI hP hS (by decide) cW_pc (by decide) (by omega) cW_up_pd dX1_append_21 (fun H locs hP hS => ?_)
    refine lv_aload_n hx hb dX1_append_22 rfl (lv_at hl 0 rfl) ?_
    refine lv_dup hx hb dX1_append_23 rfl ?_
    refine k_get (q0 := 139) (k := 1) (T := TX1) (Nf := 2) (ci := 1) (C := RX1) (v := .int (nI (x.2.2.1))) hx hb hw_X1 hown hK hP (by decide) cW_pad rfl (by decide) hf_15 rfl rfl dX1_append_24 ?_
    refine lv_iconst (v := nI (1)) hx hb dX1_append_27 rfl ?_
    refine n_iadd hx hb dX1_append_28 ?_
    refine k_put (q0 := 139) (k := 1) (T := TX1) (Nf := 2) (ci := 1) (C := RX1) (v := .int (nI (x.2.2.1 + 1))) (Wd' := cW ad cy (ρ) ((x.1, x.2.1, x.2.2.1 + 1, (va_up x.2.2.2.1 x.2.2.1 w, x.2.2.2.2)))) hx hb hw_X1 tyX1 tyX1_ok nmX1 hown hK hI hP hS (by decide) cW_pad rfl (by decide) hf_15 rfl rfl (ty := .int) (by decide +kernel) rfl rfl (Nat.le_of_ble_eq_true rfl) cW_up_pl dX1_append_29 (fun H locs hP hS => ?_)
    refine k_vret hx hb hr hlocks (ρ, (x.1, x.2.1, x.2.2.1 + 1, (va_up x.2.2.2.1 x.2.2.1 w, x.2.2.2.2))) hP hS dX1_append_32 ?_
    exact ⟨rfl, rfl⟩
