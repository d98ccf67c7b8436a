set_option maxHeartbeats 4000000 in
set_option maxRecDepth 100000 in
theorem c_X5_noughts_0 (l : Launch) (D : va_G) (cy : Nat → ClassId) (ad : Nat → Nat) (hI : wI 9 ad) (v : kV) (R : Nat → kR) (r : Nat) (hM : mReg R v) (hr6 : r < 6) : kM l yX5_noughts wsX5_noughts ({ frames := 3, cells := 0, slots := 0, locals := 67 } : Room) D cy 9 ad (mW ad cy) (mW ad cy (v)) [.ref (ad (0)), .int (nI (r)), .int (nI (0))] (kF (some (.int (nI (cq (vx (R r)) 257)))) (v)) := by
  refine k_met cX5_noughts 7 (some .int) (by decide) rfl (Nat.le_of_ble_eq_true rfl) ?_
  intro p e s m below meth c ls hx hb hr hts hown hlocks hml hK hP hS hl
  have hl : lv_has ls 7 [(0, .ref (ad (0))), (1, .int (nI (r))), (2, .int (nI (0)))] := hl
  have hown : s.vm.findClass RX5 = some m.cls := hown
  refine lv_iconst (v := nI (0)) hx hb dX5_noughts_0 rfl ?_
  refine lv_istore_n (lv' := [(3, .int (nI (0))), (0, .ref (ad (0))), (1, .int (nI (r))), (2, .int (nI (0)))]) hx hb dX5_noughts_1 rfl hl (by decide) rfl (fun ls hl => ?_)
  refine lv_bipush (v := (-6 : Int32)) hx hb dX5_noughts_2 (by decide) ?_
  refine lv_istore (lv' := [(4, .int (-6)), (3, .int (nI (0))), (0, .ref (ad (0))), (1, .int (nI (r))), (2, .int (nI (0)))]) hx hb dX5_noughts_4 hl (by decide) rfl (fun ls hl => ?_)
  refine lv_sipush (v := nI (256)) hx hb dX5_noughts_6 rfl ?_
  refine lv_istore (lv' := [(5, .int (nI (256))), (4, .int (-6)), (3, .int (nI (0))), (0, .ref (ad (0))), (1, .int (nI (r))), (2, .int (nI (0)))]) hx hb dX5_noughts_9 hl (by decide) rfl (fun ls hl => ?_)
  have lp11 : ∀ (fu : Nat) (k : Nat) (t : Nat) (le : Int32), (k ≤ 257) → (t + cq (vx (R r)) k = cq (vx (R r)) 257) → (le = fz (vx (R r)) k (257 - k)) → k < fu → ∀ (H : Heap) (locs : List Loc), va_P D vwCl (wL 9 ad (mW ad cy (v))) H → va_S (wA 9 ad) s.heap H locs → ∀ (ls : Array Slot), lv_has ls 7 [(5, .int (nI (k) - 1)), (4, .int (le)), (3, .int (nI (t))), (0, .ref (ad (0))), (1, .int (nI (r))), (2, .int (nI (0)))] → W p l e ({ frames := 3, cells := 0, slots := 0, locals := 67 } : Room) s m ([.ref (ad (0)), .int (nI (r)), .int (nI (0))] : List Value).toArray below meth c H locs 0 0 (MQ below (kQ D 9 ad (mW ad cy) (kF (some (.int (nI (cq (vx (R r)) 257)))) (v))) ([.ref (ad (0)), .int (nI (r)), .int (nI (0))] : List Value).toArray s 0 0 (wA 9 ad)) (F0 m 11 ls []) := by
    intro fu
    induction fu with
    | zero => intro k t le hk hcn hle hfu; exact absurd hfu (Nat.not_lt_zero _)
    | succ fu ih11 =>
      intro k t le hk hcn hle hfu H locs hP hS ls hl
      refine lv_iload hx hb dX5_noughts_11 (lv_at hl 0 rfl) ?_
      refine n_down (n := k) (tgt := 66) hx hb (by omega) dX5_noughts_13 (by decide) (fun h_1 => ?_) (fun h_1 => ?_)
      · skip
        refine lv_iload_n hx hb dX5_noughts_66 rfl (lv_at hl 5 rfl) ?_
        refine n_ifeq (tgt := 75) hx hb (by omega) dX5_noughts_67 (by decide) (fun h_2 => ?_) (fun h_2 => absurd rfl h_2)
        refine lv_iload_n hx hb dX5_noughts_75 rfl (lv_at hl 2 rfl) ?_
        refine k_iret hx hb hr hlocks (v) hP hS dX5_noughts_76 ?_
        exact ⟨rN (by rw [h_1] at hcn; exact hcn), rfl⟩
      · skip
        obtain ⟨j, rfl⟩ : ∃ j, k = j + 1 := ⟨k - 1, by omega⟩
        rw [nI_pred] at hl
        refine lv_aload_n hx hb dX5_noughts_16 rfl (lv_at hl 3 rfl) ?_
        refine lv_iload_n hx hb dX5_noughts_17 rfl (lv_at hl 4 rfl) ?_
        refine lv_iload hx hb dX5_noughts_18 (lv_at hl 0 rfl) ?_
        refine k_callVr (rest := []) (nL := 7) ⟨hx, hb, hml, hown, hts⟩ (c_X5_valueAt l D cy ad hI v R r j hM (by first | assumption | omega) (by first | assumption | omega)) (cwV 2 hts gX5_noughts_X5_valueAt rfl rfl rfl (by decide +kernel) ⟨Nat.le_of_ble_eq_true rfl, Nat.le_of_ble_eq_true rfl⟩) hK hP hS (fun _ h => h) (q0 := 0) (ci := 5) rfl (by decide) mW_obj rfl rfl rfl hl.1 rfl (Nat.le_of_ble_eq_true rfl) dX5_noughts_20 ⟨Nat.zero_le _, Nat.zero_le _⟩ (fun H locs hP hS => ?_)
        have hP : va_P D vwCl (wL 9 ad (mW ad cy (v))) H := hP
        have hvl := vx_lt (R r) j
        refine n_ifne (tgt := 30) hx hb (by omega) dX5_noughts_23 (by decide) (fun h_3 => ?_) (fun h_3 => ?_)
        · skip
          have hq := h_3
          refine lv_iconst (v := nI (0)) hx hb dX5_noughts_30 rfl ?_
          refine lv_istore (lv' := [(6, .int (nI (0))), (5, .int (nI (j))), (4, .int (le)), (3, .int (nI (t))), (0, .ref (ad (0))), (1, .int (nI (r))), (2, .int (nI (0)))]) hx hb dX5_noughts_31 hl (by decide) rfl (fun ls hl => ?_)
          refine lv_iload_n hx hb dX5_noughts_33 rfl (lv_at hl 3 rfl) ?_
          refine lv_iload hx hb dX5_noughts_34 (lv_at hl 0 rfl) ?_
          refine n_ifeq (tgt := 43) hx hb (by omega) dX5_noughts_36 (by decide) (fun h_4 => ?_) (fun h_4 => absurd rfl h_4)
          refine lv_iconst (v := nI (0)) hx hb dX5_noughts_43 rfl ?_
          refine n_iadd hx hb dX5_noughts_44 ?_
          refine lv_istore_n (lv' := [(3, .int (nI (t + 0))), (6, .int (nI (0))), (5, .int (nI (j))), (4, .int (le)), (0, .ref (ad (0))), (1, .int (nI (r))), (2, .int (nI (0)))]) hx hb dX5_noughts_45 rfl hl (by decide) rfl (fun ls hl => ?_)
          refine lv_iload hx hb dX5_noughts_46 (lv_at hl 1 rfl) ?_
          refine n_ifeq (tgt := 56) hx hb (by omega) dX5_noughts_48 (by decide) (fun h_5 => ?_) (fun h_5 => absurd rfl h_5)
          refine lv_iload hx hb dX5_noughts_56 (lv_at hl 3 rfl) ?_
          refine lv_istore (lv' := [(4, .int (le)), (3, .int (nI (t + 0))), (6, .int (nI (0))), (5, .int (nI (j))), (0, .ref (ad (0))), (1, .int (nI (r))), (2, .int (nI (0)))]) hx hb dX5_noughts_58 hl (by decide) rfl (fun ls hl => ?_)
          refine lv_iinc (v := nI (j) - 1) (lv' := [(5, .int (nI (j) - 1)), (4, .int (le)), (3, .int (nI (t + 0))), (6, .int (nI (0))), (0, .ref (ad (0))), (1, .int (nI (r))), (2, .int (nI (0)))]) hx hb dX5_noughts_60 hl (k := 3) rfl (nI_dec' _) (by decide) rfl (fun ls hl => ?_)
          refine lv_goto (tgt := 11) hx hb dX5_noughts_63 (by decide) ?_
          exact ih11 (j) (t + 0) (le) (by omega) (by rw [← hcn, cq_nz _ hq]; omega) (by rw [hle, show 257 - j = (257 - (j + 1)) + 1 by omega, fz_miss _ _ _ hq]) (by omega) _ _ hP hS _ (lv_sub hl [0, 1, 2, 4, 5, 6] rfl)
        · skip
          have hq := h_3
          refine lv_iconst (v := nI (1)) hx hb dX5_noughts_26 rfl ?_
          refine lv_goto (tgt := 31) hx hb dX5_noughts_27 (by decide) ?_
          refine lv_istore (lv' := [(6, .int (nI (1))), (5, .int (nI (j))), (4, .int (le)), (3, .int (nI (t))), (0, .ref (ad (0))), (1, .int (nI (r))), (2, .int (nI (0)))]) hx hb dX5_noughts_31 hl (by decide) rfl (fun ls hl => ?_)
          refine lv_iload_n hx hb dX5_noughts_33 rfl (lv_at hl 3 rfl) ?_
          refine lv_iload hx hb dX5_noughts_34 (lv_at hl 0 rfl) ?_
          refine n_ifeq (tgt := 43) hx hb (by omega) dX5_noughts_36 (by decide) (fun h_6 => absurd h_6 (by decide)) (fun h_6 => ?_)
          refine lv_iconst (v := nI (1)) hx hb dX5_noughts_39 rfl ?_
          refine lv_goto (tgt := 44) hx hb dX5_noughts_40 (by decide) ?_
          refine n_iadd hx hb dX5_noughts_44 ?_
          refine lv_istore_n (lv' := [(3, .int (nI (t + 1))), (6, .int (nI (1))), (5, .int (nI (j))), (4, .int (le)), (0, .ref (ad (0))), (1, .int (nI (r))), (2, .int (nI (0)))]) hx hb dX5_noughts_45 rfl hl (by decide) rfl (fun ls hl => ?_)
          refine lv_iload hx hb dX5_noughts_46 (lv_at hl 1 rfl) ?_
          refine n_ifeq (tgt := 56) hx hb (by omega) dX5_noughts_48 (by decide) (fun h_7 => absurd h_7 (by decide)) (fun h_7 => ?_)
          refine lv_iload hx hb dX5_noughts_51 (lv_at hl 2 rfl) ?_
          refine lv_goto (tgt := 58) hx hb dX5_noughts_53 (by decide) ?_
          refine lv_istore (lv' := [(4, .int (nI (j))), (3, .int (nI (t + 1))), (6, .int (nI (1))), (5, .int (nI (j))), (0, .ref (ad (0))), (1, .int (nI (r))), (2, .int (nI (0)))]) hx hb dX5_noughts_58 hl (by decide) rfl (fun ls hl => ?_)
          refine lv_iinc (v := nI (j) - 1) (lv' := [(5, .int (nI (j) - 1)), (4, .int (nI (j))), (3, .int (nI (t + 1))), (6, .int (nI (1))), (0, .ref (ad (0))), (1, .int (nI (r))), (2, .int (nI (0)))]) hx hb dX5_noughts_60 hl (k := 3) rfl (nI_dec' _) (by decide) rfl (fun ls hl => ?_)
          refine lv_goto (tgt := 11) hx hb dX5_noughts_63 (by decide) ?_
          exact ih11 (j) (t + 1) (nI j) (by omega) (by rw [← hcn, cq_zero _ hq]; omega) (by rw [show 257 - j = (257 - (j + 1)) + 1 by omega, fz_hit _ _ _ hq]) (by omega) _ _ hP hS _ (lv_sub hl [0, 1, 2, 4, 5, 6] rfl)
  rw [show nI 256 = nI 257 - 1 from by decide] at hl
  exact lp11 (_ + 1) (257) (0) (-6) (by omega) (Nat.zero_add _) rfl (Nat.lt_succ_self _) _ _ hP hS _ hl
set_option maxHeartbeats 4000000 in
set_option maxRecDepth 100000 in
theorem c_X5_noughts_1 (l : Launch) (D : va_G) (cy : Nat → ClassId) (ad : Nat → Nat) (hI : wI 9 ad) (v : kV) (R : Nat → kR) (r : Nat) (hM : mReg R v) (hr6 : r < 6) : kM l yX5_noughts wsX5_noughts ({ frames := 3, cells := 0, slots := 0, locals := 67 } : Room) D cy 9 ad (mW ad cy) (mW ad cy (v)) [.ref (ad (0)), .int (nI (r)), .int (nI (1))] (kF (some (.int (fz (vx (R r)) 0 257))) (v)) := by
  refine k_met cX5_noughts 7 (some .int) (by decide) rfl (Nat.le_of_ble_eq_true rfl) ?_
  intro p e s m below meth c ls hx hb hr hts hown hlocks hml hK hP hS hl
  have hl : lv_has ls 7 [(0, .ref (ad (0))), (1, .int (nI (r))), (2, .int (nI (1)))] := hl
  have hown : s.vm.findClass RX5 = some m.cls := hown
  refine lv_iconst (v := nI (0)) hx hb dX5_noughts_0 rfl ?_
  refine lv_istore_n (lv' := [(3, .int (nI (0))), (0, .ref (ad (0))), (1, .int (nI (r))), (2, .int (nI (1)))]) hx hb dX5_noughts_1 rfl hl (by decide) rfl (fun ls hl => ?_)
  refine lv_bipush (v := (-6 : Int32)) hx hb dX5_noughts_2 (by decide) ?_
  refine lv_istore (lv' := [(4, .int (-6)), (3, .int (nI (0))), (0, .ref (ad (0))), (1, .int (nI (r))), (2, .int (nI (1)))]) hx hb dX5_noughts_4 hl (by decide) rfl (fun ls hl => ?_)
  refine lv_sipush (v := nI (256)) hx hb dX5_noughts_6 rfl ?_
  refine lv_istore (lv' := [(5, .int (nI (256))), (4, .int (-6)), (3, .int (nI (0))), (0, .ref (ad (0))), (1, .int (nI (r))), (2, .int (nI (1)))]) hx hb dX5_noughts_9 hl (by decide) rfl (fun ls hl => ?_)
  have lp11 : ∀ (fu : Nat) (k : Nat) (t : Nat) (le : Int32), (k ≤ 257) → (t + cq (vx (R r)) k = cq (vx (R r)) 257) → (le = fz (vx (R r)) k (257 - k)) → k < fu → ∀ (H : Heap) (locs : List Loc), va_P D vwCl (wL 9 ad (mW ad cy (v))) H → va_S (wA 9 ad) s.heap H locs → ∀ (ls : Array Slot), lv_has ls 7 [(5, .int (nI (k) - 1)), (4, .int (le)), (3, .int (nI (t))), (0, .ref (ad (0))), (1, .int (nI (r))), (2, .int (nI (1)))] → W p l e ({ frames := 3, cells := 0, slots := 0, locals := 67 } : Room) s m ([.ref (ad (0)), .int (nI (r)), .int (nI (1))] : List Value).toArray below meth c H locs 0 0 (MQ below (kQ D 9 ad (mW ad cy) (kF (some (.int (fz (vx (R r)) 0 257))) (v))) ([.ref (ad (0)), .int (nI (r)), .int (nI (1))] : List Value).toArray s 0 0 (wA 9 ad)) (F0 m 11 ls []) := by
    intro fu
    induction fu with
    | zero => intro k t le hk hcn hle hfu; exact absurd hfu (Nat.not_lt_zero _)
    | succ fu ih11 =>
      intro k t le hk hcn hle hfu H locs hP hS ls hl
      refine lv_iload hx hb dX5_noughts_11 (lv_at hl 0 rfl) ?_
      refine n_down (n := k) (tgt := 66) hx hb (by omega) dX5_noughts_13 (by decide) (fun h_1 => ?_) (fun h_1 => ?_)
      · skip
        refine lv_iload_n hx hb dX5_noughts_66 rfl (lv_at hl 5 rfl) ?_
        refine n_ifeq (tgt := 75) hx hb (by omega) dX5_noughts_67 (by decide) (fun h_2 => absurd h_2 (by decide)) (fun h_2 => ?_)
        refine lv_iload hx hb dX5_noughts_70 (lv_at hl 1 rfl) ?_
        refine lv_goto (tgt := 76) hx hb dX5_noughts_72 (by decide) ?_
        refine k_iret hx hb hr hlocks (v) hP hS dX5_noughts_76 ?_
        exact ⟨congrArg (fun q => some (Value.int q)) (by rw [hle, h_1]), rfl⟩
      · skip
        obtain ⟨j, rfl⟩ : ∃ j, k = j + 1 := ⟨k - 1, by omega⟩
        rw [nI_pred] at hl
        refine lv_aload_n hx hb dX5_noughts_16 rfl (lv_at hl 3 rfl) ?_
        refine lv_iload_n hx hb dX5_noughts_17 rfl (lv_at hl 4 rfl) ?_
        refine lv_iload hx hb dX5_noughts_18 (lv_at hl 0 rfl) ?_
        refine k_callVr (rest := []) (nL := 7) ⟨hx, hb, hml, hown, hts⟩ (c_X5_valueAt l D cy ad hI v R r j hM (by first | assumption | omega) (by first | assumption | omega)) (cwV 2 hts gX5_noughts_X5_valueAt rfl rfl rfl (by decide +kernel) ⟨Nat.le_of_ble_eq_true rfl, Nat.le_of_ble_eq_true rfl⟩) hK hP hS (fun _ h => h) (q0 := 0) (ci := 5) rfl (by decide) mW_obj rfl rfl rfl hl.1 rfl (Nat.le_of_ble_eq_true rfl) dX5_noughts_20 ⟨Nat.zero_le _, Nat.zero_le _⟩ (fun H locs hP hS => ?_)
        have hP : va_P D vwCl (wL 9 ad (mW ad cy (v))) H := hP
        have hvl := vx_lt (R r) j
        refine n_ifne (tgt := 30) hx hb (by omega) dX5_noughts_23 (by decide) (fun h_3 => ?_) (fun h_3 => ?_)
        · skip
          have hq := h_3
          refine lv_iconst (v := nI (0)) hx hb dX5_noughts_30 rfl ?_
          refine lv_istore (lv' := [(6, .int (nI (0))), (5, .int (nI (j))), (4, .int (le)), (3, .int (nI (t))), (0, .ref (ad (0))), (1, .int (nI (r))), (2, .int (nI (1)))]) hx hb dX5_noughts_31 hl (by decide) rfl (fun ls hl => ?_)
          refine lv_iload_n hx hb dX5_noughts_33 rfl (lv_at hl 3 rfl) ?_
          refine lv_iload hx hb dX5_noughts_34 (lv_at hl 0 rfl) ?_
          refine n_ifeq (tgt := 43) hx hb (by omega) dX5_noughts_36 (by decide) (fun h_4 => ?_) (fun h_4 => absurd rfl h_4)
          refine lv_iconst (v := nI (0)) hx hb dX5_noughts_43 rfl ?_
          refine n_iadd hx hb dX5_noughts_44 ?_
          refine lv_istore_n (lv' := [(3, .int (nI (t + 0))), (6, .int (nI (0))), (5, .int (nI (j))), (4, .int (le)), (0, .ref (ad (0))), (1, .int (nI (r))), (2, .int (nI (1)))]) hx hb dX5_noughts_45 rfl hl (by decide) rfl (fun ls hl => ?_)
          refine lv_iload hx hb dX5_noughts_46 (lv_at hl 1 rfl) ?_
          refine n_ifeq (tgt := 56) hx hb (by omega) dX5_noughts_48 (by decide) (fun h_5 => ?_) (fun h_5 => absurd rfl h_5)
          refine lv_iload hx hb dX5_noughts_56 (lv_at hl 3 rfl) ?_
          refine lv_istore (lv' := [(4, .int (le)), (3, .int (nI (t + 0))), (6, .int (nI (0))), (5, .int (nI (j))), (0, .ref (ad (0))), (1, .int (nI (r))), (2, .int (nI (1)))]) hx hb dX5_noughts_58 hl (by decide) rfl (fun ls hl => ?_)
          refine lv_iinc (v := nI (j) - 1) (lv' := [(5, .int (nI (j) - 1)), (4, .int (le)), (3, .int (nI (t + 0))), (6, .int (nI (0))), (0, .ref (ad (0))), (1, .int (nI (r))), (2, .int (nI (1)))]) hx hb dX5_noughts_60 hl (k := 3) rfl (nI_dec' _) (by decide) rfl (fun ls hl => ?_)
          refine lv_goto (tgt := 11) hx hb dX5_noughts_63 (by decide) ?_
          exact ih11 (j) (t + 0) (le) (by omega) (by rw [← hcn, cq_nz _ hq]; omega) (by rw [hle, show 257 - j = (257 - (j + 1)) + 1 by omega, fz_miss _ _ _ hq]) (by omega) _ _ hP hS _ (lv_sub hl [0, 1, 2, 4, 5, 6] rfl)
        · skip
          have hq := h_3
          refine lv_iconst (v := nI (1)) hx hb dX5_noughts_26 rfl ?_
          refine lv_goto (tgt := 31) hx hb dX5_noughts_27 (by decide) ?_
          refine lv_istore (lv' := [(6, .int (nI (1))), (5, .int (nI (j))), (4, .int (le)), (3, .int (nI (t))), (0, .ref (ad (0))), (1, .int (nI (r))), (2, .int (nI (1)))]) hx hb dX5_noughts_31 hl (by decide) rfl (fun ls hl => ?_)
          refine lv_iload_n hx hb dX5_noughts_33 rfl (lv_at hl 3 rfl) ?_
          refine lv_iload hx hb dX5_noughts_34 (lv_at hl 0 rfl) ?_
          refine n_ifeq (tgt := 43) hx hb (by omega) dX5_noughts_36 (by decide) (fun h_6 => absurd h_6 (by decide)) (fun h_6 => ?_)
          refine lv_iconst (v := nI (1)) hx hb dX5_noughts_39 rfl ?_
          refine lv_goto (tgt := 44) hx hb dX5_noughts_40 (by decide) ?_
          refine n_iadd hx hb dX5_noughts_44 ?_
          refine lv_istore_n (lv' := [(3, .int (nI (t + 1))), (6, .int (nI (1))), (5, .int (nI (j))), (4, .int (le)), (0, .ref (ad (0))), (1, .int (nI (r))), (2, .int (nI (1)))]) hx hb dX5_noughts_45 rfl hl (by decide) rfl (fun ls hl => ?_)
          refine lv_iload hx hb dX5_noughts_46 (lv_at hl 1 rfl) ?_
          refine n_ifeq (tgt := 56) hx hb (by omega) dX5_noughts_48 (by decide) (fun h_7 => absurd h_7 (by decide)) (fun h_7 => ?_)
          refine lv_iload hx hb dX5_noughts_51 (lv_at hl 2 rfl) ?_
          refine lv_goto (tgt := 58) hx hb dX5_noughts_53 (by decide) ?_
          refine lv_istore (lv' := [(4, .int (nI (j))), (3, .int (nI (t + 1))), (6, .int (nI (1))), (5, .int (nI (j))), (0, .ref (ad (0))), (1, .int (nI (r))), (2, .int (nI (1)))]) hx hb dX5_noughts_58 hl (by decide) rfl (fun ls hl => ?_)
          refine lv_iinc (v := nI (j) - 1) (lv' := [(5, .int (nI (j) - 1)), (4, .int (nI (j))), (3, .int (nI (t + 1))), (6, .int (nI (1))), (0, .ref (ad (0))), (1, .int (nI (r))), (2, .int (nI (1)))]) hx hb dX5_noughts_60 hl (k := 3) rfl (nI_dec' _) (by decide) rfl (fun ls hl => ?_)
          refine lv_goto (tgt := 11) hx hb dX5_noughts_63 (by decide) ?_
          exact ih11 (j) (t + 1) (nI j) (by omega) (by rw [← hcn, cq_zero _ hq]; omega) (by rw [show 257 - j = (257 - (j + 1)) + 1 by omega, fz_hit _ _ _ hq]) (by omega) _ _ hP hS _ (lv_sub hl [0, 1, 2, 4, 5, 6] rfl)
  rw [show nI 256 = nI 257 - 1 from by decide] at hl
  exact lp11 (_ + 1) (257) (0) (-6) (by omega) (Nat.zero_add _) rfl (Nat.lt_succ_self _) _ _ hP hS _ hl
set_option maxHeartbeats 4000000 in
set_option maxRecDepth 100000 in
theorem c_X5_places (l : Launch) (D : va_G) (cy : Nat → ClassId) (ad : Nat → Nat) (hI : wI 9 ad) (v : kV) (R : Nat → kR) (a : Nat) (b : Nat) (hM : mReg R v) (ha6 : a < 6) (hb6 : b < 6) : kM l yX5_places wsX5_places ({ frames := 1, cells := 0, slots := 0, locals := 21 } : Room) D cy 9 ad (mW ad cy) (mW ad cy (v)) [.ref (ad (0)), .int (nI (a)), .int (nI (b))] (kF (some (.int (nI (plc (R a).1 (R b).1)))) (v)) := by
  refine k_met cX5_places 4 (some .int) (by decide) rfl (Nat.le_of_ble_eq_true rfl) ?_
  intro p e s m below meth c ls hx hb hr hts hown hlocks hml hK hP hS hl
  have hl : lv_has ls 4 [(0, .ref (ad (0))), (1, .int (nI (a))), (2, .int (nI (b)))] := hl
  have hown : s.vm.findClass RX5 = some m.cls := hown
  have hOa := hM.O ha6
  have hOb := hM.O hb6
  have hla := hOa.2.1
  have hlb := hOb.2.1
  refine lv_aload_n hx hb dX5_places_0 rfl (lv_at hl 0 rfl) ?_
  refine lv_iload_n hx hb dX5_places_1 rfl (lv_at hl 1 rfl) ?_
  refine k_callVr (rest := []) (nL := 4) ⟨hx, hb, hml, hown, hts⟩ (c_X5_lengthOf l D cy ad hI v R a hM (by first | assumption | omega)) (cwV 1 hts gX5_places_X5_lengthOf rfl rfl rfl (by decide +kernel) ⟨Nat.le_of_ble_eq_true rfl, Nat.le_of_ble_eq_true rfl⟩) hK hP hS (fun _ h => h) (q0 := 0) (ci := 5) rfl (by decide) mW_obj rfl rfl rfl hl.1 rfl (Nat.le_of_ble_eq_true rfl) dX5_places_2 ⟨Nat.zero_le _, Nat.zero_le _⟩ (fun H locs hP hS => ?_)
  have hP : va_P D vwCl (wL 9 ad (mW ad cy (v))) H := hP
  refine lv_aload_n hx hb dX5_places_5 rfl (lv_at hl 0 rfl) ?_
  refine lv_iload_n hx hb dX5_places_6 rfl (lv_at hl 2 rfl) ?_
  refine k_callVr (rest := [.int (nI ((R a).1))]) (nL := 4) ⟨hx, hb, hml, hown, hts⟩ (c_X5_lengthOf l D cy ad hI v R b hM (by first | assumption | omega)) (cwV 1 hts gX5_places_X5_lengthOf rfl rfl rfl (by decide +kernel) ⟨Nat.le_of_ble_eq_true rfl, Nat.le_of_ble_eq_true rfl⟩) hK hP hS (fun _ h => h) (q0 := 0) (ci := 5) rfl (by decide) mW_obj rfl rfl rfl hl.1 rfl (Nat.le_of_ble_eq_true rfl) dX5_places_7 ⟨Nat.zero_le _, Nat.zero_le _⟩ (fun H locs hP hS => ?_)
  have hP : va_P D vwCl (wL 9 ad (mW ad cy (v))) H := hP
  refine lv_isub hx hb dX5_places_10 ?_
  refine lv_iconst (v := nI (1)) hx hb dX5_places_11 rfl ?_
  refine lv_iadd hx hb dX5_places_12 ?_
  refine i_push (b := cpV (R a).1 (R b).1) rfl ?_
  refine lv_istore_n (lv' := [(3, .int (cpV (R a).1 (R b).1)), (0, .ref (ad (0))), (1, .int (nI (a))), (2, .int (nI (b)))]) hx hb dX5_places_13 rfl hl (by decide) rfl (fun ls hl => ?_)
  refine lv_iload_n hx hb dX5_places_14 rfl (lv_at hl 0 rfl) ?_
  refine lv_if_ge (tgt := 22) hx hb dX5_places_15 (by decide) (fun h_1 => ?_) (fun h_1 => ?_)
  · skip
    refine lv_iload_n hx hb dX5_places_22 rfl (lv_at hl 0 rfl) ?_
    refine k_iret hx hb hr hlocks (v) hP hS dX5_places_23 ?_
    exact ⟨congrArg (fun q => some (Value.int q)) (plc_ge hla hlb h_1), rfl⟩
  · skip
    refine lv_iconst (v := nI (0)) hx hb dX5_places_18 rfl ?_
    refine lv_goto (tgt := 23) hx hb dX5_places_19 (by decide) ?_
    refine k_iret hx hb hr hlocks (v) hP hS dX5_places_23 ?_
    exact ⟨rN (plc_lt hla hlb h_1).symm, rfl⟩
set_option maxHeartbeats 4000000 in
set_option maxRecDepth 100000 in
theorem c_X5_fitsAt (l : Launch) (D : va_G) (cy : Nat → ClassId) (ad : Nat → Nat) (hI : wI 9 ad) (v : kV) (R : Nat → kR) (a : Nat) (b : Nat) (pl : Nat) (hM : mReg R v) (ha6 : a < 6) (hb6 : b < 6) (hpl : pl + (R b).1 ≤ 64) : kM l yX5_fitsAt wsX5_fitsAt ({ frames := 2, cells := 0, slots := 0, locals := 43 } : Room) D cy 9 ad (mW ad cy) (mW ad cy (v)) [.ref (ad (0)), .int (nI (a)), .int (nI (b)), .int (nI (pl))] (kF (some (.int (kB (fitA (R b).2 (R a).2 pl (R b).1)))) (v)) := by
  refine k_met cX5_fitsAt 8 (some .boolean) (by decide) rfl (Nat.le_of_ble_eq_true rfl) ?_
  intro p e s m below meth c ls hx hb hr hts hown hlocks hml hK hP hS hl
  have hl : lv_has ls 8 [(0, .ref (ad (0))), (1, .int (nI (a))), (2, .int (nI (b))), (3, .int (nI (pl)))] := hl
  have hown : s.vm.findClass RX5 = some m.cls := hown
  have hOa := hM.O ha6
  have hOb := hM.O hb6
  have hla := hOa.2.1
  have hlb := hOb.2.1
  refine lv_iconst (v := nI (1)) hx hb dX5_fitsAt_0 rfl ?_
  refine lv_istore (lv' := [(4, .int (nI (1))), (0, .ref (ad (0))), (1, .int (nI (a))), (2, .int (nI (b))), (3, .int (nI (pl)))]) hx hb dX5_fitsAt_1 hl (by decide) rfl (fun ls hl => ?_)
  refine lv_iconst (v := nI (0)) hx hb dX5_fitsAt_3 rfl ?_
  refine lv_istore (lv' := [(5, .int (nI (0))), (4, .int (nI (1))), (0, .ref (ad (0))), (1, .int (nI (a))), (2, .int (nI (b))), (3, .int (nI (pl)))]) hx hb dX5_fitsAt_4 hl (by decide) rfl (fun ls hl => ?_)
  have lp6 : ∀ (fu : Nat) (k : Nat) (tb : Bool), (k ≤ (R b).1) → (tb = fitA (R b).2 (R a).2 pl k) → (R b).1 - k < fu → ∀ (H : Heap) (locs : List Loc), va_P D vwCl (wL 9 ad (mW ad cy (v))) H → va_S (wA 9 ad) s.heap H locs → ∀ (ls : Array Slot), lv_has ls 8 [(5, .int (nI (k))), (4, .int (kB (tb))), (0, .ref (ad (0))), (1, .int (nI (a))), (2, .int (nI (b))), (3, .int (nI (pl)))] → W p l e ({ frames := 2, cells := 0, slots := 0, locals := 43 } : Room) s m ([.ref (ad (0)), .int (nI (a)), .int (nI (b)), .int (nI (pl))] : List Value).toArray below meth c H locs 0 0 (MQ below (kQ D 9 ad (mW ad cy) (kF (some (.int (kB (fitA (R b).2 (R a).2 pl (R b).1)))) (v))) ([.ref (ad (0)), .int (nI (a)), .int (nI (b)), .int (nI (pl))] : List Value).toArray s 0 0 (wA 9 ad)) (F0 m 6 ls []) := by
    intro fu
    induction fu with
    | zero => intro k tb hk htb hfu; exact absurd hfu (Nat.not_lt_zero _)
    | succ fu ih6 =>
      intro k tb hk htb hfu H locs hP hS ls hl
      have hx1 := hOb.2.2.1 k
      have hx2 := hOa.2.2.1 (pl + k)
      refine lv_iload hx hb dX5_fitsAt_6 (lv_at hl 0 rfl) ?_
      refine lv_aload_n hx hb dX5_fitsAt_8 rfl (lv_at hl 2 rfl) ?_
      refine lv_iload_n hx hb dX5_fitsAt_9 rfl (lv_at hl 4 rfl) ?_
      refine k_callVr (rest := [.int (nI (k))]) (nL := 8) ⟨hx, hb, hml, hown, hts⟩ (c_X5_lengthOf l D cy ad hI v R b hM (by first | assumption | omega)) (cwV 1 hts gX5_fitsAt_X5_lengthOf rfl rfl rfl (by decide +kernel) ⟨Nat.le_of_ble_eq_true rfl, Nat.le_of_ble_eq_true rfl⟩) hK hP hS (fun _ h => h) (q0 := 0) (ci := 5) rfl (by decide) mW_obj rfl rfl rfl hl.1 rfl (Nat.le_of_ble_eq_true rfl) dX5_fitsAt_10 ⟨Nat.zero_le _, Nat.zero_le _⟩ (fun H locs hP hS => ?_)
      have hP : va_P D vwCl (wL 9 ad (mW ad cy (v))) H := hP
      refine n_icmp_ge (tgt := 71) hx hb (by omega) (by omega) dX5_fitsAt_13 (by decide) (fun h_1 => ?_) (fun h_1 => ?_)
      · skip
        refine lv_iload hx hb dX5_fitsAt_71 (lv_at hl 1 rfl) ?_
        refine k_zret hx hb hr hlocks (by first | rfl | exact nar_kB _ | decide) (v) hP hS dX5_fitsAt_73 ?_
        exact ⟨by rw [htb, show k = (R b).1 by omega], rfl⟩
      · skip
        refine lv_aload_n hx hb dX5_fitsAt_16 rfl (lv_at hl 2 rfl) ?_
        refine lv_iload_n hx hb dX5_fitsAt_17 rfl (lv_at hl 4 rfl) ?_
        refine lv_iload hx hb dX5_fitsAt_18 (lv_at hl 0 rfl) ?_
        refine k_callVr (rest := []) (nL := 8) ⟨hx, hb, hml, hown, hts⟩ (c_X5_at l D cy ad hI v R b k hM (by first | assumption | omega) (by first | assumption | omega)) (cwV 2 hts gX5_fitsAt_X5_at rfl rfl rfl (by decide +kernel) ⟨Nat.le_of_ble_eq_true rfl, Nat.le_of_ble_eq_true rfl⟩) hK hP hS (fun _ h => h) (q0 := 0) (ci := 5) rfl (by decide) mW_obj rfl rfl rfl hl.1 rfl (Nat.le_of_ble_eq_true rfl) dX5_fitsAt_20 ⟨Nat.zero_le _, Nat.zero_le _⟩ (fun H locs hP hS => ?_)
        have hP : va_P D vwCl (wL 9 ad (mW ad cy (v))) H := hP
        refine lv_istore (lv' := [(6, .int (nI ((R b).2 k))), (5, .int (nI (k))), (4, .int (kB (tb))), (0, .ref (ad (0))), (1, .int (nI (a))), (2, .int (nI (b))), (3, .int (nI (pl)))]) hx hb dX5_fitsAt_23 hl (by decide) rfl (fun ls hl => ?_)
        refine lv_aload_n hx hb dX5_fitsAt_25 rfl (lv_at hl 3 rfl) ?_
        refine lv_iload_n hx hb dX5_fitsAt_26 rfl (lv_at hl 4 rfl) ?_
        refine lv_iload_n hx hb dX5_fitsAt_27 rfl (lv_at hl 6 rfl) ?_
        refine lv_iload hx hb dX5_fitsAt_28 (lv_at hl 1 rfl) ?_
        refine n_iadd hx hb dX5_fitsAt_30 ?_
        refine k_callVr (rest := []) (nL := 8) ⟨hx, hb, hml, hown, hts⟩ (c_X5_at l D cy ad hI v R a (pl + k) hM (by first | assumption | omega) (by first | assumption | omega)) (cwV 2 hts gX5_fitsAt_X5_at rfl rfl rfl (by decide +kernel) ⟨Nat.le_of_ble_eq_true rfl, Nat.le_of_ble_eq_true rfl⟩) hK hP hS (fun _ h => h) (q0 := 0) (ci := 5) rfl (by decide) mW_obj rfl rfl rfl hl.1 rfl (Nat.le_of_ble_eq_true rfl) dX5_fitsAt_31 ⟨Nat.zero_le _, Nat.zero_le _⟩ (fun H locs hP hS => ?_)
        have hP : va_P D vwCl (wL 9 ad (mW ad cy (v))) H := hP
        refine lv_istore (lv' := [(7, .int (nI ((R a).2 (pl + k)))), (6, .int (nI ((R b).2 k))), (5, .int (nI (k))), (4, .int (kB (tb))), (0, .ref (ad (0))), (1, .int (nI (a))), (2, .int (nI (b))), (3, .int (nI (pl)))]) hx hb dX5_fitsAt_34 hl (by decide) rfl (fun ls hl => ?_)
        refine lv_iload hx hb dX5_fitsAt_36 (lv_at hl 3 rfl) ?_
        refine b_ifeq (tgt := 62) hx hb dX5_fitsAt_38 (by decide) (fun h_2 => ?_) (fun h_2 => ?_)
        · skip
          have hnx : false = fitA (R b).2 (R a).2 pl (k + 1) := by unfold fitA; rw [← htb, h_2]; rfl
          refine lv_iconst (v := nI (0)) hx hb dX5_fitsAt_62 rfl ?_
          refine lv_istore (lv' := [(4, .int (nI (0))), (7, .int (nI ((R a).2 (pl + k)))), (6, .int (nI ((R b).2 k))), (5, .int (nI (k))), (0, .ref (ad (0))), (1, .int (nI (a))), (2, .int (nI (b))), (3, .int (nI (pl)))]) hx hb dX5_fitsAt_63 hl (by decide) rfl (fun ls hl => ?_)
          refine lv_iinc (v := nI (k + 1)) (lv' := [(5, .int (nI (k + 1))), (4, .int (nI (0))), (7, .int (nI ((R a).2 (pl + k)))), (6, .int (nI ((R b).2 k))), (0, .ref (ad (0))), (1, .int (nI (a))), (2, .int (nI (b))), (3, .int (nI (pl)))]) hx hb dX5_fitsAt_65 hl (k := 3) rfl (nI_inc _) (by decide) rfl (fun ls hl => ?_)
          refine lv_goto (tgt := 6) hx hb dX5_fitsAt_68 (by decide) ?_
          exact ih6 (k + 1) (false) (by omega) hnx (by omega) _ _ hP hS _ (lv_sub hl [0, 1, 4, 5, 6, 7] rfl)
        · skip
          have htt := h_2
          refine lv_iload hx hb dX5_fitsAt_41 (lv_at hl 1 rfl) ?_
          refine n_ifeq (tgt := 58) hx hb (by omega) dX5_fitsAt_43 (by decide) (fun h_3 => ?_) (fun h_3 => ?_)
          · skip
            have hnx : true = fitA (R b).2 (R a).2 pl (k + 1) := by unfold fitA fitP; rw [← htb, htt, decide_eq_true h_3]; rfl
            refine lv_iconst (v := nI (1)) hx hb dX5_fitsAt_58 rfl ?_
            refine lv_goto (tgt := 63) hx hb dX5_fitsAt_59 (by decide) ?_
            refine lv_istore (lv' := [(4, .int (nI (1))), (7, .int (nI ((R a).2 (pl + k)))), (6, .int (nI ((R b).2 k))), (5, .int (nI (k))), (0, .ref (ad (0))), (1, .int (nI (a))), (2, .int (nI (b))), (3, .int (nI (pl)))]) hx hb dX5_fitsAt_63 hl (by decide) rfl (fun ls hl => ?_)
            refine lv_iinc (v := nI (k + 1)) (lv' := [(5, .int (nI (k + 1))), (4, .int (nI (1))), (7, .int (nI ((R a).2 (pl + k)))), (6, .int (nI ((R b).2 k))), (0, .ref (ad (0))), (1, .int (nI (a))), (2, .int (nI (b))), (3, .int (nI (pl)))]) hx hb dX5_fitsAt_65 hl (k := 3) rfl (nI_inc _) (by decide) rfl (fun ls hl => ?_)
            refine lv_goto (tgt := 6) hx hb dX5_fitsAt_68 (by decide) ?_
            exact ih6 (k + 1) (true) (by omega) hnx (by omega) _ _ hP hS _ (lv_sub hl [0, 1, 4, 5, 6, 7] rfl)
          · skip
            have hn1 := h_3
            refine lv_iload hx hb dX5_fitsAt_46 (lv_at hl 0 rfl) ?_
            refine n_ifeq (tgt := 58) hx hb (by omega) dX5_fitsAt_48 (by decide) (fun h_4 => ?_) (fun h_4 => ?_)
            · skip
              have hnx : true = fitA (R b).2 (R a).2 pl (k + 1) := by unfold fitA fitP; rw [← htb, htt, decide_eq_true h_4, Bool.or_true]; rfl
              refine lv_iconst (v := nI (1)) hx hb dX5_fitsAt_58 rfl ?_
              refine lv_goto (tgt := 63) hx hb dX5_fitsAt_59 (by decide) ?_
              refine lv_istore (lv' := [(4, .int (nI (1))), (7, .int (nI ((R a).2 (pl + k)))), (6, .int (nI ((R b).2 k))), (5, .int (nI (k))), (0, .ref (ad (0))), (1, .int (nI (a))), (2, .int (nI (b))), (3, .int (nI (pl)))]) hx hb dX5_fitsAt_63 hl (by decide) rfl (fun ls hl => ?_)
              refine lv_iinc (v := nI (k + 1)) (lv' := [(5, .int (nI (k + 1))), (4, .int (nI (1))), (7, .int (nI ((R a).2 (pl + k)))), (6, .int (nI ((R b).2 k))), (0, .ref (ad (0))), (1, .int (nI (a))), (2, .int (nI (b))), (3, .int (nI (pl)))]) hx hb dX5_fitsAt_65 hl (k := 3) rfl (nI_inc _) (by decide) rfl (fun ls hl => ?_)
              refine lv_goto (tgt := 6) hx hb dX5_fitsAt_68 (by decide) ?_
              exact ih6 (k + 1) (true) (by omega) hnx (by omega) _ _ hP hS _ (lv_sub hl [0, 1, 4, 5, 6, 7] rfl)
            · skip
              have hn2 := h_4
              refine lv_iload hx hb dX5_fitsAt_51 (lv_at hl 1 rfl) ?_
              refine lv_iload hx hb dX5_fitsAt_53 (lv_at hl 0 rfl) ?_
              refine n_icmp_ne (tgt := 62) hx hb (by omega) (by omega) dX5_fitsAt_55 (by decide) (fun h_5 => ?_) (fun h_5 => ?_)
              · skip
                have hnx : false = fitA (R b).2 (R a).2 pl (k + 1) := by unfold fitA fitP; rw [← htb, htt, decide_eq_false hn1, decide_eq_false hn2, decide_eq_false h_5]; rfl
                refine lv_iconst (v := nI (0)) hx hb dX5_fitsAt_62 rfl ?_
                refine lv_istore (lv' := [(4, .int (nI (0))), (7, .int (nI ((R a).2 (pl + k)))), (6, .int (nI ((R b).2 k))), (5, .int (nI (k))), (0, .ref (ad (0))), (1, .int (nI (a))), (2, .int (nI (b))), (3, .int (nI (pl)))]) hx hb dX5_fitsAt_63 hl (by decide) rfl (fun ls hl => ?_)
                refine lv_iinc (v := nI (k + 1)) (lv' := [(5, .int (nI (k + 1))), (4, .int (nI (0))), (7, .int (nI ((R a).2 (pl + k)))), (6, .int (nI ((R b).2 k))), (0, .ref (ad (0))), (1, .int (nI (a))), (2, .int (nI (b))), (3, .int (nI (pl)))]) hx hb dX5_fitsAt_65 hl (k := 3) rfl (nI_inc _) (by decide) rfl (fun ls hl => ?_)
                refine lv_goto (tgt := 6) hx hb dX5_fitsAt_68 (by decide) ?_
                exact ih6 (k + 1) (false) (by omega) hnx (by omega) _ _ hP hS _ (lv_sub hl [0, 1, 4, 5, 6, 7] rfl)
              · skip
                have hnx : true = fitA (R b).2 (R a).2 pl (k + 1) := by unfold fitA fitP; rw [← htb, htt, decide_eq_true h_5, Bool.or_true]; rfl
                refine lv_iconst (v := nI (1)) hx hb dX5_fitsAt_58 rfl ?_
                refine lv_goto (tgt := 63) hx hb dX5_fitsAt_59 (by decide) ?_
                refine lv_istore (lv' := [(4, .int (nI (1))), (7, .int (nI ((R a).2 (pl + k)))), (6, .int (nI ((R b).2 k))), (5, .int (nI (k))), (0, .ref (ad (0))), (1, .int (nI (a))), (2, .int (nI (b))), (3, .int (nI (pl)))]) hx hb dX5_fitsAt_63 hl (by decide) rfl (fun ls hl => ?_)
                refine lv_iinc (v := nI (k + 1)) (lv' := [(5, .int (nI (k + 1))), (4, .int (nI (1))), (7, .int (nI ((R a).2 (pl + k)))), (6, .int (nI ((R b).2 k))), (0, .ref (ad (0))), (1, .int (nI (a))), (2, .int (nI (b))), (3, .int (nI (pl)))]) hx hb dX5_fitsAt_65 hl (k := 3) rfl (nI_inc _) (by decide) rfl (fun ls hl => ?_)
                refine lv_goto (tgt := 6) hx hb dX5_fitsAt_68 (by decide) ?_
                exact ih6 (k + 1) (true) (by omega) hnx (by omega) _ _ hP hS _ (lv_sub hl [0, 1, 4, 5, 6, 7] rfl)
  exact lp6 (_ + 1) (0) (true) (by omega) rfl (Nat.lt_succ_self _) _ _ hP hS _ hl
set_option maxHeartbeats 4000000 in
set_option maxRecDepth 100000 in
theorem c_X5_sumAt (l : Launch) (D : va_G) (cy : Nat → ClassId) (ad : Nat → Nat) (hI : wI 9 ad) (v : kV) (R : Nat → kR) (a : Nat) (b : Nat) (pl : Nat) (hM : mReg R v) (ha6 : a < 6) (hb6 : b < 6) (hpl : pl + (R b).1 ≤ 64) : kM l yX5_sumAt wsX5_sumAt ({ frames := 2, cells := 0, slots := 0, locals := 43 } : Room) D cy 9 ad (mW ad cy) (mW ad cy (v)) [.ref (ad (0)), .int (nI (a)), .int (nI (b)), .int (nI (pl))] (kF (some (.int (nI (sumS (R b).2 (R a).2 pl (R b).1)))) (v)) := by
  refine k_met cX5_sumAt 9 (some .int) (by decide) rfl (Nat.le_of_ble_eq_true rfl) ?_
  intro p e s m below meth c ls hx hb hr hts hown hlocks hml hK hP hS hl
  have hl : lv_has ls 9 [(0, .ref (ad (0))), (1, .int (nI (a))), (2, .int (nI (b))), (3, .int (nI (pl)))] := hl
  have hown : s.vm.findClass RX5 = some m.cls := hown
  have hOa := hM.O ha6
  have hOb := hM.O hb6
  have hla := hOa.2.1
  have hlb := hOb.2.1
  refine lv_iconst (v := nI (0)) hx hb dX5_sumAt_0 rfl ?_
  refine lv_istore (lv' := [(4, .int (nI (0))), (0, .ref (ad (0))), (1, .int (nI (a))), (2, .int (nI (b))), (3, .int (nI (pl)))]) hx hb dX5_sumAt_1 hl (by decide) rfl (fun ls hl => ?_)
  refine lv_iconst (v := nI (0)) hx hb dX5_sumAt_3 rfl ?_
  refine lv_istore (lv' := [(5, .int (nI (0))), (4, .int (nI (0))), (0, .ref (ad (0))), (1, .int (nI (a))), (2, .int (nI (b))), (3, .int (nI (pl)))]) hx hb dX5_sumAt_4 hl (by decide) rfl (fun ls hl => ?_)
  have lp6 : ∀ (fu : Nat) (k : Nat) (t : Nat), (k ≤ (R b).1) → (t % 257 = sumS (R b).2 (R a).2 pl k) → (t ≤ 256 * k) → (R b).1 - k < fu → ∀ (H : Heap) (locs : List Loc), va_P D vwCl (wL 9 ad (mW ad cy (v))) H → va_S (wA 9 ad) s.heap H locs → ∀ (ls : Array Slot), lv_has ls 9 [(5, .int (nI (k))), (4, .int (nI (t))), (0, .ref (ad (0))), (1, .int (nI (a))), (2, .int (nI (b))), (3, .int (nI (pl)))] → W p l e ({ frames := 2, cells := 0, slots := 0, locals := 43 } : Room) s m ([.ref (ad (0)), .int (nI (a)), .int (nI (b)), .int (nI (pl))] : List Value).toArray below meth c H locs 0 0 (MQ below (kQ D 9 ad (mW ad cy) (kF (some (.int (nI (sumS (R b).2 (R a).2 pl (R b).1)))) (v))) ([.ref (ad (0)), .int (nI (a)), .int (nI (b)), .int (nI (pl))] : List Value).toArray s 0 0 (wA 9 ad)) (F0 m 6 ls []) := by
    intro fu
    induction fu with
    | zero => intro k t hk ht htl hfu; exact absurd hfu (Nat.not_lt_zero _)
    | succ fu ih6 =>
      intro k t hk ht htl hfu H locs hP hS ls hl
      have hx1 := hOb.2.2.1 k
      have hx2 := hOa.2.2.1 (pl + k)
      have hxl := lss_lt ((R b).2 k) ((R a).2 (pl + k))
      have hxy : (R b).2 k * (R a).2 (pl + k) % 257 < 257 := Nat.mod_lt _ (by decide)
      have hqd := sqd_lt ((R b).2 k) ((R a).2 (pl + k))
      refine lv_iload hx hb dX5_sumAt_6 (lv_at hl 0 rfl) ?_
      refine lv_aload_n hx hb dX5_sumAt_8 rfl (lv_at hl 2 rfl) ?_
      refine lv_iload_n hx hb dX5_sumAt_9 rfl (lv_at hl 4 rfl) ?_
      refine k_callVr (rest := [.int (nI (k))]) (nL := 9) ⟨hx, hb, hml, hown, hts⟩ (c_X5_lengthOf l D cy ad hI v R b hM (by first | assumption | omega)) (cwV 1 hts gX5_sumAt_X5_lengthOf rfl rfl rfl (by decide +kernel) ⟨Nat.le_of_ble_eq_true rfl, Nat.le_of_ble_eq_true rfl⟩) hK hP hS (fun _ h => h) (q0 := 0) (ci := 5) rfl (by decide) mW_obj rfl rfl rfl hl.1 rfl (Nat.le_of_ble_eq_true rfl) dX5_sumAt_10 ⟨Nat.zero_le _, Nat.zero_le _⟩ (fun H locs hP hS => ?_)
      have hP : va_P D vwCl (wL 9 ad (mW ad cy (v))) H := hP
      refine n_icmp_ge (tgt := 73) hx hb (by omega) (by omega) dX5_sumAt_13 (by decide) (fun h_1 => ?_) (fun h_1 => ?_)
      · skip
        refine lv_iload hx hb dX5_sumAt_73 (lv_at hl 1 rfl) ?_
        refine lv_sipush (v := nI (257)) hx hb dX5_sumAt_75 rfl ?_
        refine n_irem hx hb (by omega) (by omega) (by omega) dX5_sumAt_78  ?_
        refine k_iret hx hb hr hlocks (v) hP hS dX5_sumAt_79 ?_
        exact ⟨rN (by rw [ht, show k = (R b).1 by omega]), rfl⟩
      · skip
        refine lv_aload_n hx hb dX5_sumAt_16 rfl (lv_at hl 2 rfl) ?_
        refine lv_iload_n hx hb dX5_sumAt_17 rfl (lv_at hl 4 rfl) ?_
        refine lv_iload hx hb dX5_sumAt_18 (lv_at hl 0 rfl) ?_
        refine k_callVr (rest := []) (nL := 9) ⟨hx, hb, hml, hown, hts⟩ (c_X5_at l D cy ad hI v R b k hM (by first | assumption | omega) (by first | assumption | omega)) (cwV 2 hts gX5_sumAt_X5_at rfl rfl rfl (by decide +kernel) ⟨Nat.le_of_ble_eq_true rfl, Nat.le_of_ble_eq_true rfl⟩) hK hP hS (fun _ h => h) (q0 := 0) (ci := 5) rfl (by decide) mW_obj rfl rfl rfl hl.1 rfl (Nat.le_of_ble_eq_true rfl) dX5_sumAt_20 ⟨Nat.zero_le _, Nat.zero_le _⟩ (fun H locs hP hS => ?_)
        have hP : va_P D vwCl (wL 9 ad (mW ad cy (v))) H := hP
        refine lv_istore (lv' := [(6, .int (nI ((R b).2 k))), (5, .int (nI (k))), (4, .int (nI (t))), (0, .ref (ad (0))), (1, .int (nI (a))), (2, .int (nI (b))), (3, .int (nI (pl)))]) hx hb dX5_sumAt_23 hl (by decide) rfl (fun ls hl => ?_)
        refine lv_aload_n hx hb dX5_sumAt_25 rfl (lv_at hl 3 rfl) ?_
        refine lv_iload_n hx hb dX5_sumAt_26 rfl (lv_at hl 4 rfl) ?_
        refine lv_iload_n hx hb dX5_sumAt_27 rfl (lv_at hl 6 rfl) ?_
        refine lv_iload hx hb dX5_sumAt_28 (lv_at hl 1 rfl) ?_
        refine n_iadd hx hb dX5_sumAt_30 ?_
        refine k_callVr (rest := []) (nL := 9) ⟨hx, hb, hml, hown, hts⟩ (c_X5_at l D cy ad hI v R a (pl + k) hM (by first | assumption | omega) (by first | assumption | omega)) (cwV 2 hts gX5_sumAt_X5_at rfl rfl rfl (by decide +kernel) ⟨Nat.le_of_ble_eq_true rfl, Nat.le_of_ble_eq_true rfl⟩) hK hP hS (fun _ h => h) (q0 := 0) (ci := 5) rfl (by decide) mW_obj rfl rfl rfl hl.1 rfl (Nat.le_of_ble_eq_true rfl) dX5_sumAt_31 ⟨Nat.zero_le _, Nat.zero_le _⟩ (fun H locs hP hS => ?_)
        have hP : va_P D vwCl (wL 9 ad (mW ad cy (v))) H := hP
        refine lv_istore (lv' := [(7, .int (nI ((R a).2 (pl + k)))), (6, .int (nI ((R b).2 k))), (5, .int (nI (k))), (4, .int (nI (t))), (0, .ref (ad (0))), (1, .int (nI (a))), (2, .int (nI (b))), (3, .int (nI (pl)))]) hx hb dX5_sumAt_34 hl (by decide) rfl (fun ls hl => ?_)
        refine lv_iload hx hb dX5_sumAt_36 (lv_at hl 1 rfl) ?_
        refine lv_iload hx hb dX5_sumAt_38 (lv_at hl 0 rfl) ?_
        refine k_callSr (rest := []) (nL := 9) ⟨hx, hb, hml, hown, hts⟩ (c_X5_less l D cy ad hI v ((R b).2 k) ((R a).2 (pl + k)) (by first | assumption | omega) (by first | assumption | omega)) (va_cwS 2 hts gX5_sumAt_X5_less rfl rfl rfl (by decide +kernel) ⟨Nat.le_of_ble_eq_true rfl, Nat.le_of_ble_eq_true rfl⟩) hK hP hS (fun _ h => h) rfl hl.1 rfl (Nat.le_of_ble_eq_true rfl) dX5_sumAt_40 ⟨Nat.zero_le _, Nat.zero_le _⟩ (fun H locs hP hS => ?_)
        have hP : va_P D vwCl (wL 9 ad (mW ad cy (v))) H := hP
        refine lv_istore (lv' := [(8, .int (nI (lss ((R b).2 k) ((R a).2 (pl + k))))), (7, .int (nI ((R a).2 (pl + k)))), (6, .int (nI ((R b).2 k))), (5, .int (nI (k))), (4, .int (nI (t))), (0, .ref (ad (0))), (1, .int (nI (a))), (2, .int (nI (b))), (3, .int (nI (pl)))]) hx hb dX5_sumAt_43 hl (by decide) rfl (fun ls hl => ?_)
        refine lv_iload hx hb dX5_sumAt_45 (lv_at hl 4 rfl) ?_
        refine lv_iload hx hb dX5_sumAt_47 (lv_at hl 2 rfl) ?_
        refine lv_iload hx hb dX5_sumAt_49 (lv_at hl 1 rfl) ?_
        refine k_callSr (rest := [.int (nI (t))]) (nL := 9) ⟨hx, hb, hml, hown, hts⟩ (c_X5_times l D cy ad hI v ((R b).2 k) ((R a).2 (pl + k)) (by first | assumption | omega) (by first | assumption | omega)) (va_cwS 2 hts gX5_sumAt_X5_times rfl rfl rfl (by decide +kernel) ⟨Nat.le_of_ble_eq_true rfl, Nat.le_of_ble_eq_true rfl⟩) hK hP hS (fun _ h => h) rfl hl.1 rfl (Nat.le_of_ble_eq_true rfl) dX5_sumAt_51 ⟨Nat.zero_le _, Nat.zero_le _⟩ (fun H locs hP hS => ?_)
        have hP : va_P D vwCl (wL 9 ad (mW ad cy (v))) H := hP
        refine lv_iload hx hb dX5_sumAt_54 (lv_at hl 0 rfl) ?_
        refine lv_iload hx hb dX5_sumAt_56 (lv_at hl 0 rfl) ?_
        refine k_callSr (rest := [.int (nI (((R b).2 k) * ((R a).2 (pl + k)) % 257)), .int (nI (t))]) (nL := 9) ⟨hx, hb, hml, hown, hts⟩ (c_X5_times l D cy ad hI v (lss ((R b).2 k) ((R a).2 (pl + k))) (lss ((R b).2 k) ((R a).2 (pl + k))) (by first | assumption | omega) (by first | assumption | omega)) (va_cwS 2 hts gX5_sumAt_X5_times rfl rfl rfl (by decide +kernel) ⟨Nat.le_of_ble_eq_true rfl, Nat.le_of_ble_eq_true rfl⟩) hK hP hS (fun _ h => h) rfl hl.1 rfl (Nat.le_of_ble_eq_true rfl) dX5_sumAt_58 ⟨Nat.zero_le _, Nat.zero_le _⟩ (fun H locs hP hS => ?_)
        have hP : va_P D vwCl (wL 9 ad (mW ad cy (v))) H := hP
        refine n_push (a := sqd ((R b).2 k) ((R a).2 (pl + k))) (congrArg nI (sqd_lss hx1 hx2)) ?_
        refine k_callSr (rest := [.int (nI (t))]) (nL := 9) ⟨hx, hb, hml, hown, hts⟩ (c_X5_times l D cy ad hI v (((R b).2 k) * ((R a).2 (pl + k)) % 257) (sqd ((R b).2 k) ((R a).2 (pl + k))) (by first | assumption | omega) (by first | assumption | omega)) (va_cwS 2 hts gX5_sumAt_X5_times rfl rfl rfl (by decide +kernel) ⟨Nat.le_of_ble_eq_true rfl, Nat.le_of_ble_eq_true rfl⟩) hK hP hS (fun _ h => h) rfl hl.1 rfl (Nat.le_of_ble_eq_true rfl) dX5_sumAt_61 ⟨Nat.zero_le _, Nat.zero_le _⟩ (fun H locs hP hS => ?_)
        have hP : va_P D vwCl (wL 9 ad (mW ad cy (v))) H := hP
        refine n_iadd hx hb dX5_sumAt_64 ?_
        refine lv_istore (lv' := [(4, .int (nI (t + ((((R b).2 k) * ((R a).2 (pl + k)) % 257) * (sqd ((R b).2 k) ((R a).2 (pl + k))) % 257)))), (8, .int (nI (lss ((R b).2 k) ((R a).2 (pl + k))))), (7, .int (nI ((R a).2 (pl + k)))), (6, .int (nI ((R b).2 k))), (5, .int (nI (k))), (0, .ref (ad (0))), (1, .int (nI (a))), (2, .int (nI (b))), (3, .int (nI (pl)))]) hx hb dX5_sumAt_65 hl (by decide) rfl (fun ls hl => ?_)
        refine lv_iinc (v := nI (k + 1)) (lv' := [(5, .int (nI (k + 1))), (4, .int (nI (t + ((((R b).2 k) * ((R a).2 (pl + k)) % 257) * (sqd ((R b).2 k) ((R a).2 (pl + k))) % 257)))), (8, .int (nI (lss ((R b).2 k) ((R a).2 (pl + k))))), (7, .int (nI ((R a).2 (pl + k)))), (6, .int (nI ((R b).2 k))), (0, .ref (ad (0))), (1, .int (nI (a))), (2, .int (nI (b))), (3, .int (nI (pl)))]) hx hb dX5_sumAt_67 hl (k := 4) rfl (nI_inc _) (by decide) rfl (fun ls hl => ?_)
        refine lv_goto (tgt := 6) hx hb dX5_sumAt_70 (by decide) ?_
        exact ih6 (k + 1) (t + (R b).2 k * (R a).2 (pl + k) % 257 * sqd ((R b).2 k) ((R a).2 (pl + k)) % 257) (by omega) (by show _ = (sumS (R b).2 (R a).2 pl k + (R b).2 k * (R a).2 (pl + k) % 257 * sqd ((R b).2 k) ((R a).2 (pl + k))) % 257; omega) (by omega) (by omega) _ _ hP hS _ (lv_sub hl [0, 1, 5, 6, 7, 8] rfl)
  exact lp6 (_ + 1) (0) (0) (by omega) rfl (by omega) (Nat.lt_succ_self _) _ _ hP hS _ hl
set_option maxHeartbeats 4000000 in
set_option maxRecDepth 100000 in
theorem c_X5_multiplyOut (l : Launch) (D : va_G) (cy : Nat → ClassId) (ad : Nat → Nat) (hI : wI 9 ad) (v : kV) (R : Nat → kR) (r : Nat) (hM : mReg R v) (hr6 : r < 6) (hh : 1 ≤ vln v) (hs64 : vln v + (R r).1 - 1 ≤ 64) (hob : ∀ k, vou v k < 257) : kM l yX5_multiplyOut wsX5_multiplyOut ({ frames := 2, cells := 0, slots := 0, locals := 43 } : Room) D cy 9 ad (mW ad cy) (mW ad cy (v)) [.ref (ad (0)), .int (nI (r))] (kF none (mlo v (R r))) := by
  refine k_met cX5_multiplyOut 5 none (by decide) rfl (Nat.le_of_ble_eq_true rfl) ?_
  intro p e s m below meth c ls hx hb hr hts hown hlocks hml hK hP hS hl
  have hl : lv_has ls 5 [(0, .ref (ad (0))), (1, .int (nI (r)))] := hl
  have hown : s.vm.findClass RX5 = some m.cls := hown
  have hf_27 := hts (.fieldLink RX5 27 "TurnedRowsModel" "out" "[I") (by decide +kernel)
  have hf_30 := hts (.fieldLink RX5 30 "TurnedRowsModel" "one" "[I") (by decide +kernel)
  have hf_62 := hts (.fieldLink RX5 62 "TurnedRowsModel" "length" "I") (by decide +kernel)
  have hw_X5 : ∀ qw ∈ wsX50, qw.before ([.ref (ad (0)), .int (nI (r))] : List Value).toArray s = true := fun qw h => hts qw ((by decide +kernel : ∀ qw ∈ wsX50, qw ∈ wsX5_multiplyOut) qw h)
  have hO := hM.O hr6
  have hlr := hO.2.1
  have hlr1 := hO.1
  refine lv_aload_n hx hb dX5_multiplyOut_0 rfl (lv_at hl 0 rfl) ?_
  refine k_get (q0 := 0) (k := 8) (T := TX5) (Nf := 11) (ci := 5) (C := RX5) (v := .int (nI (vln v))) hx hb hw_X5 hown hK hP (by decide) mW_obj rfl (by decide) hf_62 rfl rfl dX5_multiplyOut_1 ?_
  refine lv_istore_n (lv' := [(2, .int (nI (vln v))), (0, .ref (ad (0))), (1, .int (nI (r)))]) hx hb dX5_multiplyOut_4 rfl hl (by decide) rfl (fun ls hl => ?_)
  refine lv_iconst (v := nI (0)) hx hb dX5_multiplyOut_5 rfl ?_
  refine lv_istore_n (lv' := [(3, .int (nI (0))), (2, .int (nI (vln v))), (0, .ref (ad (0))), (1, .int (nI (r)))]) hx hb dX5_multiplyOut_6 rfl hl (by decide) rfl (fun ls hl => ?_)
  have lp7 : ∀ (fu : Nat) (k : Nat) (v' : kV), (k ≤ vln v) → (v' = pon v (cp1 (vou v) (von v) k)) → vln v - k < fu → ∀ (H : Heap) (locs : List Loc), va_P D vwCl (wL 9 ad (mW ad cy (v'))) H → va_S (wA 9 ad) s.heap H locs → ∀ (ls : Array Slot), lv_has ls 5 [(3, .int (nI (k))), (2, .int (nI (vln v))), (0, .ref (ad (0))), (1, .int (nI (r)))] → W p l e ({ frames := 2, cells := 0, slots := 0, locals := 43 } : Room) s m ([.ref (ad (0)), .int (nI (r))] : List Value).toArray below meth c H locs 0 0 (MQ below (kQ D 9 ad (mW ad cy) (kF none (mlo v (R r)))) ([.ref (ad (0)), .int (nI (r))] : List Value).toArray s 0 0 (wA 9 ad)) (F0 m 7 ls []) := by
    intro fu
    induction fu with
    | zero => intro k v' hk hv hfu; exact absurd hfu (Nat.not_lt_zero _)
    | succ fu ih7 =>
      intro k v' hk hv hfu H locs hP hS ls hl
      refine lv_iload_n hx hb dX5_multiplyOut_7 rfl (lv_at hl 0 rfl) ?_
      refine lv_iload_n hx hb dX5_multiplyOut_8 rfl (lv_at hl 1 rfl) ?_
      refine n_icmp_ge (tgt := 30) hx hb (by omega) (by omega) dX5_multiplyOut_9 (by decide) (fun h_1 => ?_) (fun h_1 => ?_)
      · skip
        refine lv_aload_n hx hb dX5_multiplyOut_30 rfl (lv_at hl 2 rfl) ?_
        refine lv_iload_n hx hb dX5_multiplyOut_31 rfl (lv_at hl 1 rfl) ?_
        refine lv_aload_n hx hb dX5_multiplyOut_32 rfl (lv_at hl 2 rfl) ?_
        refine lv_iload_n hx hb dX5_multiplyOut_33 rfl (lv_at hl 3 rfl) ?_
        refine k_callVr (rest := [.int (nI (vln v)), .ref (ad (0))]) (nL := 5) ⟨hx, hb, hml, hown, hts⟩ (c_X5_lengthOf l D cy ad hI v' R r (by rw [hv]; exact hM) (by first | assumption | omega)) (cwV 1 hts gX5_multiplyOut_X5_lengthOf rfl rfl rfl (by decide +kernel) ⟨Nat.le_of_ble_eq_true rfl, Nat.le_of_ble_eq_true rfl⟩) hK hP hS (fun _ h => h) (q0 := 0) (ci := 5) rfl (by decide) mW_obj rfl rfl rfl hl.1 rfl (Nat.le_of_ble_eq_true rfl) dX5_multiplyOut_34 ⟨Nat.zero_le _, Nat.zero_le _⟩ (fun H locs hP hS => ?_)
        have hP : va_P D vwCl (wL 9 ad (mW ad cy (v'))) H := hP
        refine n_iadd hx hb dX5_multiplyOut_37 ?_
        refine lv_iconst (v := nI (1)) hx hb dX5_multiplyOut_38 rfl ?_
        refine n_isub hx hb (by omega) dX5_multiplyOut_39 ?_
        refine k_callVv (rest := []) (nL := 5) ⟨hx, hb, hml, hown, hts⟩ (c_X5_blank l D cy ad hI v' (((vln v) + ((R r).1)) - 1)) (cwV 1 hts gX5_multiplyOut_X5_blank rfl rfl rfl (by decide +kernel) ⟨Nat.le_of_ble_eq_true rfl, Nat.le_of_ble_eq_true rfl⟩) hK hP hS (fun _ h => h) (q0 := 0) (ci := 5) rfl (by decide) mW_obj rfl rfl rfl hl.1 rfl (Nat.le_of_ble_eq_true rfl) dX5_multiplyOut_40 ⟨Nat.zero_le _, Nat.zero_le _⟩ (fun H locs hP hS => ?_)
        have hP : va_P D vwCl (wL 9 ad (mW ad cy (bla v' (((vln v) + ((R r).1)) - 1)))) H := hP
        refine lv_iconst (v := nI (0)) hx hb dX5_multiplyOut_43 rfl ?_
        refine lv_istore_n (lv' := [(3, .int (nI (0))), (2, .int (nI (vln v))), (0, .ref (ad (0))), (1, .int (nI (r)))]) hx hb dX5_multiplyOut_44 rfl hl (by decide) rfl (fun ls hl => ?_)
        have lp45 : ∀ (fu : Nat) (i : Nat) (v2 : kV), (i ≤ vln v) → (v2 = pou (pln (pon v (cp1 (vou v) (von v) (vln v))) (vln v + (R r).1 - 1)) (mulO (vou v) (R r).2 (R r).1 (vln v + (R r).1 - 1) i)) → vln v - i < fu → ∀ (H : Heap) (locs : List Loc), va_P D vwCl (wL 9 ad (mW ad cy (v2))) H → va_S (wA 9 ad) s.heap H locs → ∀ (ls : Array Slot), lv_has ls 5 [(3, .int (nI (i))), (2, .int (nI (vln v))), (0, .ref (ad (0))), (1, .int (nI (r)))] → W p l e ({ frames := 2, cells := 0, slots := 0, locals := 43 } : Room) s m ([.ref (ad (0)), .int (nI (r))] : List Value).toArray below meth c H locs 0 0 (MQ below (kQ D 9 ad (mW ad cy) (kF none (mlo v (R r)))) ([.ref (ad (0)), .int (nI (r))] : List Value).toArray s 0 0 (wA 9 ad)) (F0 m 45 ls []) := by
          intro fu
          induction fu with
          | zero => intro i v2 hi hv2 hfu; exact absurd hfu (Nat.not_lt_zero _)
          | succ fu ih45 =>
            intro i v2 hi hv2 hfu H locs hP hS ls hl
            refine lv_iload_n hx hb dX5_multiplyOut_45 rfl (lv_at hl 0 rfl) ?_
            refine lv_iload_n hx hb dX5_multiplyOut_46 rfl (lv_at hl 1 rfl) ?_
            refine n_icmp_ge (tgt := 112) hx hb (by omega) (by omega) dX5_multiplyOut_47 (by decide) (fun h_2 => ?_) (fun h_2 => ?_)
            · skip
              refine k_vret hx hb hr hlocks (v2) hP hS dX5_multiplyOut_112 ?_
              exact ⟨rfl, by rw [hv2, show i = vln v by omega]; rfl⟩
            · skip
              refine lv_iconst (v := nI (0)) hx hb dX5_multiplyOut_50 rfl ?_
              refine lv_istore (lv' := [(4, .int (nI (0))), (3, .int (nI (i))), (2, .int (nI (vln v))), (0, .ref (ad (0))), (1, .int (nI (r)))]) hx hb dX5_multiplyOut_51 hl (by decide) rfl (fun ls hl => ?_)
              have lp53 : ∀ (fu : Nat) (j : Nat) (v3 : kV), (j ≤ (R r).1) → (v3 = pou (pln (pon v (cp1 (vou v) (von v) (vln v))) (vln v + (R r).1 - 1)) (mulI (vou v i) (R r).2 (vln v + (R r).1 - 1) i (mulO (vou v) (R r).2 (R r).1 (vln v + (R r).1 - 1) i) j)) → (R r).1 - j < fu → ∀ (H : Heap) (locs : List Loc), va_P D vwCl (wL 9 ad (mW ad cy (v3))) H → va_S (wA 9 ad) s.heap H locs → ∀ (ls : Array Slot), lv_has ls 5 [(4, .int (nI (j))), (3, .int (nI (i))), (2, .int (nI (vln v))), (0, .ref (ad (0))), (1, .int (nI (r)))] → W p l e ({ frames := 2, cells := 0, slots := 0, locals := 43 } : Room) s m ([.ref (ad (0)), .int (nI (r))] : List Value).toArray below meth c H locs 0 0 (MQ below (kQ D 9 ad (mW ad cy) (kF none (mlo v (R r)))) ([.ref (ad (0)), .int (nI (r))] : List Value).toArray s 0 0 (wA 9 ad)) (F0 m 53 ls []) := by
                intro fu
                induction fu with
                | zero => intro j v3 hj hv3 hfu; exact absurd hfu (Nat.not_lt_zero _)
                | succ fu ih53 =>
                  intro j v3 hj hv3 hfu H locs hP hS ls hl
                  have hM3 : mReg R v3 := by rw [hv3]; exact hM
                  have hij : (i + j) % (vln v + (R r).1 - 1) = i + j ∨ (R r).1 ≤ j := by
                    by_cases z : (R r).1 ≤ j
                    · exact Or.inr z
                    · exact Or.inl (Nat.mod_eq_of_lt (by omega))
                  have hfj := hO.2.2.1 j
                  have hm := mul_lt_257 (hob i) hfj
                  have hg := mulI_lt (c := vou v i) (f := (R r).2) (s := vln v + (R r).1 - 1) (i := i) (mulO_lt (f1 := vou v) (f2 := (R r).2) (l2 := (R r).1) (s := vln v + (R r).1 - 1) i) j (i + j)
                  refine lv_iload hx hb dX5_multiplyOut_53 (lv_at hl 0 rfl) ?_
                  refine lv_aload_n hx hb dX5_multiplyOut_55 rfl (lv_at hl 3 rfl) ?_
                  refine lv_iload_n hx hb dX5_multiplyOut_56 rfl (lv_at hl 4 rfl) ?_
                  refine k_callVr (rest := [.int (nI (j))]) (nL := 5) ⟨hx, hb, hml, hown, hts⟩ (c_X5_lengthOf l D cy ad hI v3 R r hM3 (by first | assumption | omega)) (cwV 1 hts gX5_multiplyOut_X5_lengthOf rfl rfl rfl (by decide +kernel) ⟨Nat.le_of_ble_eq_true rfl, Nat.le_of_ble_eq_true rfl⟩) hK hP hS (fun _ h => h) (q0 := 0) (ci := 5) rfl (by decide) mW_obj rfl rfl rfl hl.1 rfl (Nat.le_of_ble_eq_true rfl) dX5_multiplyOut_57 ⟨Nat.zero_le _, Nat.zero_le _⟩ (fun H locs hP hS => ?_)
                  have hP : va_P D vwCl (wL 9 ad (mW ad cy (v3))) H := hP
                  refine n_icmp_ge (tgt := 106) hx hb (by omega) (by omega) dX5_multiplyOut_60 (by decide) (fun h_3 => ?_) (fun h_3 => ?_)
                  · skip
                    refine lv_iinc (v := nI (i + 1)) (lv' := [(3, .int (nI (i + 1))), (4, .int (nI (j))), (2, .int (nI (vln v))), (0, .ref (ad (0))), (1, .int (nI (r)))]) hx hb dX5_multiplyOut_106 hl (k := 1) rfl (nI_inc _) (by decide) rfl (fun ls hl => ?_)
                    refine lv_goto (tgt := 45) hx hb dX5_multiplyOut_109 (by decide) ?_
                    exact ih45 (i + 1) (v3) (by omega) (by rw [hv3, show j = (R r).1 by omega]; rfl) (by omega) _ _ hP hS _ (lv_sub hl [0, 2, 3, 4] rfl)
                  · skip
                    refine lv_aload_n hx hb dX5_multiplyOut_63 rfl (lv_at hl 3 rfl) ?_
                    refine k_get (q0 := 0) (k := 7) (T := TX5) (Nf := 11) (ci := 5) (C := RX5) (v := .ref (ad (6))) hx hb hw_X5 hown hK hP (by decide) mW_obj rfl (by decide) hf_27 rfl rfl dX5_multiplyOut_64 ?_
                    refine lv_iload_n hx hb dX5_multiplyOut_67 rfl (lv_at hl 1 rfl) ?_
                    refine lv_iload hx hb dX5_multiplyOut_68 (lv_at hl 0 rfl) ?_
                    refine n_iadd hx hb dX5_multiplyOut_70 ?_
                    refine lv_aload_n hx hb dX5_multiplyOut_71 rfl (lv_at hl 3 rfl) ?_
                    refine k_get (q0 := 0) (k := 7) (T := TX5) (Nf := 11) (ci := 5) (C := RX5) (v := .ref (ad (6))) hx hb hw_X5 hown hK hP (by decide) mW_obj rfl (by decide) hf_27 rfl rfl dX5_multiplyOut_72 ?_
                    refine lv_iload_n hx hb dX5_multiplyOut_75 rfl (lv_at hl 1 rfl) ?_
                    refine lv_iload hx hb dX5_multiplyOut_76 (lv_at hl 0 rfl) ?_
                    refine n_iadd hx hb dX5_multiplyOut_78 ?_
                    refine k_iald (q0 := 6) (j := i + j) hx hb hK hP (by decide) mW_ou (by decide) (by omega) dX5_multiplyOut_79 ?_
                    refine n_same (a := vou v3 (i + j)) rfl ?_
                    refine n_push (a := mulI (vou v i) (R r).2 (vln v + (R r).1 - 1) i (mulO (vou v) (R r).2 (R r).1 (vln v + (R r).1 - 1) i) j (i + j)) (by rw [hv3]; rfl) ?_
                    refine lv_aload_n hx hb dX5_multiplyOut_80 rfl (lv_at hl 3 rfl) ?_
                    refine k_get (q0 := 0) (k := 9) (T := TX5) (Nf := 11) (ci := 5) (C := RX5) (v := .ref (ad (7))) hx hb hw_X5 hown hK hP (by decide) mW_obj rfl (by decide) hf_30 rfl rfl dX5_multiplyOut_81 ?_
                    refine lv_iload_n hx hb dX5_multiplyOut_84 rfl (lv_at hl 1 rfl) ?_
                    refine k_iald (q0 := 7) (j := i) hx hb hK hP (by decide) mW_on (by decide) (by omega) dX5_multiplyOut_85 ?_
                    refine n_same (a := von v3 i) rfl ?_
                    refine n_push (a := vou v i) (by rw [hv3]; exact congrArg nI (cp1_lt (by omega))) ?_
                    refine lv_aload_n hx hb dX5_multiplyOut_86 rfl (lv_at hl 3 rfl) ?_
                    refine lv_iload_n hx hb dX5_multiplyOut_87 rfl (lv_at hl 4 rfl) ?_
                    refine lv_iload hx hb dX5_multiplyOut_88 (lv_at hl 0 rfl) ?_
                    refine k_callVr (rest := [.int (nI (vou v i)), .int (nI (mulI (vou v i) (R r).2 (vln v + (R r).1 - 1) i (mulO (vou v) (R r).2 (R r).1 (vln v + (R r).1 - 1) i) j (i + j))), .int (nI (i + j)), .ref (ad (6))]) (nL := 5) ⟨hx, hb, hml, hown, hts⟩ (c_X5_at l D cy ad hI v3 R r j hM3 (by first | assumption | omega) (by first | assumption | omega)) (cwV 2 hts gX5_multiplyOut_X5_at rfl rfl rfl (by decide +kernel) ⟨Nat.le_of_ble_eq_true rfl, Nat.le_of_ble_eq_true rfl⟩) hK hP hS (fun _ h => h) (q0 := 0) (ci := 5) rfl (by decide) mW_obj rfl rfl rfl hl.1 rfl (Nat.le_of_ble_eq_true rfl) dX5_multiplyOut_90 ⟨Nat.zero_le _, Nat.zero_le _⟩ (fun H locs hP hS => ?_)
                    have hP : va_P D vwCl (wL 9 ad (mW ad cy (v3))) H := hP
                    refine n_imul hx hb dX5_multiplyOut_93 ?_
                    refine n_iadd hx hb dX5_multiplyOut_94 ?_
                    refine lv_sipush (v := nI (257)) hx hb dX5_multiplyOut_95 rfl ?_
                    refine n_irem hx hb (by omega) (by omega) (by omega) dX5_multiplyOut_98  ?_
                    refine k_iast (q0 := 6) (j := i + j) (v := nI (((mulI (vou v i) (R r).2 (vln v + (R r).1 - 1) i (mulO (vou v) (R r).2 (R r).1 (vln v + (R r).1 - 1) i) j (i + j)) + ((vou v i) * ((R r).2 j))) % 257)) (Wd' := mW ad cy (pou v3 (va_up (vou v3) (i + j) (((mulI (vou v i) (R r).2 (vln v + (R r).1 - 1) i (mulO (vou v) (R r).2 (R r).1 (vln v + (R r).1 - 1) i) j (i + j)) + ((vou v i) * ((R r).2 j))) % 257)))) hx hb hK hI hP hS (by decide) mW_ou (by decide) (by omega) mW_up_ou dX5_multiplyOut_99 (fun H locs hP hS => ?_)
                    refine lv_iinc (v := nI (j + 1)) (lv' := [(4, .int (nI (j + 1))), (3, .int (nI (i))), (2, .int (nI (vln v))), (0, .ref (ad (0))), (1, .int (nI (r)))]) hx hb dX5_multiplyOut_100 hl (k := 0) rfl (nI_inc _) (by decide) rfl (fun ls hl => ?_)
                    refine lv_goto (tgt := 53) hx hb dX5_multiplyOut_103 (by decide) ?_
                    exact ih53 (j + 1) (pou v3 (va_up (vou v3) (i + j) (((mulI (vou v i) (R r).2 (vln v + (R r).1 - 1) i (mulO (vou v) (R r).2 (R r).1 (vln v + (R r).1 - 1) i) j (i + j)) + ((vou v i) * ((R r).2 j))) % 257))) (by omega) (by
                                  rw [hv3]
                                  rcases hij with z | z
                                  · refine congrArg (pou _) ?_
                                    show _ = va_up (mulI (vou v i) (R r).2 (vln v + (R r).1 - 1) i _ j) ((i + j) % (vln v + (R r).1 - 1)) ((mulI (vou v i) (R r).2 (vln v + (R r).1 - 1) i _ j ((i + j) % (vln v + (R r).1 - 1)) + vou v i * (R r).2 j) % 257)
                                    rw [z]
                                    rfl
                                  · omega) (by omega) _ _ hP hS _ hl
              exact lp53 (_ + 1) (0) (v2) (by omega) (by rw [hv2]; rfl) (Nat.lt_succ_self _) _ _ hP hS _ hl
        exact lp45 (_ + 1) (0) (bla v' (((vln v) + ((R r).1)) - 1)) (by omega) (by rw [hv, show k = vln v by omega]; rfl) (Nat.lt_succ_self _) _ _ hP hS _ hl
      · skip
        refine lv_aload_n hx hb dX5_multiplyOut_12 rfl (lv_at hl 2 rfl) ?_
        refine k_get (q0 := 0) (k := 9) (T := TX5) (Nf := 11) (ci := 5) (C := RX5) (v := .ref (ad (7))) hx hb hw_X5 hown hK hP (by decide) mW_obj rfl (by decide) hf_30 rfl rfl dX5_multiplyOut_13 ?_
        refine lv_iload_n hx hb dX5_multiplyOut_16 rfl (lv_at hl 0 rfl) ?_
        refine lv_aload_n hx hb dX5_multiplyOut_17 rfl (lv_at hl 2 rfl) ?_
        refine k_get (q0 := 0) (k := 7) (T := TX5) (Nf := 11) (ci := 5) (C := RX5) (v := .ref (ad (6))) hx hb hw_X5 hown hK hP (by decide) mW_obj rfl (by decide) hf_27 rfl rfl dX5_multiplyOut_18 ?_
        refine lv_iload_n hx hb dX5_multiplyOut_21 rfl (lv_at hl 0 rfl) ?_
        refine k_iald (q0 := 6) (j := k) hx hb hK hP (by decide) mW_ou (by decide) (by omega) dX5_multiplyOut_22 ?_
        refine n_same (a := vou v' k) rfl ?_
        refine n_push (a := vou v k) (by rw [hv]; rfl) ?_
        refine k_iast (q0 := 7) (j := k) (v := nI (vou v k)) (Wd' := mW ad cy (pon v' (va_up (von v') k (vou v k)))) hx hb hK hI hP hS (by decide) mW_on (by decide) (by omega) mW_up_on dX5_multiplyOut_23 (fun H locs hP hS => ?_)
        refine lv_iinc (v := nI (k + 1)) (lv' := [(3, .int (nI (k + 1))), (2, .int (nI (vln v))), (0, .ref (ad (0))), (1, .int (nI (r)))]) hx hb dX5_multiplyOut_24 hl (k := 0) rfl (nI_inc _) (by decide) rfl (fun ls hl => ?_)
        refine lv_goto (tgt := 7) hx hb dX5_multiplyOut_27 (by decide) ?_
        exact ih7 (k + 1) (pon v' (va_up (von v') k (vou v k))) (by omega) (by rw [hv]; exact congrArg (pon v) (cp1_s _ _ _)) (by omega) _ _ hP hS _ hl
  exact lp7 (_ + 1) (0) (v) (by omega) (by rw [cp1_0]; rfl) (Nat.lt_succ_self _) _ _ hP hS _ hl
set_option maxHeartbeats 4000000 in
set_option maxRecDepth 100000 in
theorem c_X5_divideRows (l : Launch) (D : va_G) (cy : Nat → ClassId) (ad : Nat → Nat) (hI : wI 9 ad) (v : kV) (dD : Nat) (d : Nat) (hD64 : dD ≤ 64) (hd64 : d < 64) (hon : ∀ k, von v k < 257) (htw : ∀ k, vtw v k < 257) : kM l yX5_divideRows wsX5_divideRows ({ frames := 3, cells := 0, slots := 0, locals := 64 } : Room) D cy 9 ad (mW ad cy) (mW ad cy (v)) [.ref (ad (0)), .int (dV dD), .int (nI (d))] (kF none (dvm v dD d)) := by
  refine k_met cX5_divideRows 7 none (by decide) rfl (Nat.le_of_ble_eq_true rfl) ?_
  intro p e s m below meth c ls hx hb hr hts hown hlocks hml hK hP hS hl
  have hl : lv_has ls 7 [(0, .ref (ad (0))), (1, .int (dV dD)), (2, .int (nI (d)))] := hl
  have hown : s.vm.findClass RX5 = some m.cls := hown
  have hf_27 := hts (.fieldLink RX5 27 "TurnedRowsModel" "out" "[I") (by decide +kernel)
  have hf_30 := hts (.fieldLink RX5 30 "TurnedRowsModel" "one" "[I") (by decide +kernel)
  have hf_33 := hts (.fieldLink RX5 33 "TurnedRowsModel" "two" "[I") (by decide +kernel)
  have hw_X5 : ∀ qw ∈ wsX50, qw.before ([.ref (ad (0)), .int (dV dD), .int (nI (d))] : List Value).toArray s = true := fun qw h => hts qw ((by decide +kernel : ∀ qw ∈ wsX50, qw ∈ wsX5_divideRows) qw h)
  have hfd := htw d
  have hw := pw_lt (vtw v d) 255
  obtain ⟨w, ew⟩ : ∃ z, z = pw (vtw v d) 255 := ⟨_, rfl⟩
  rw [← ew] at hw
  refine lv_aload_n hx hb dX5_divideRows_0 rfl (lv_at hl 0 rfl) ?_
  refine k_get (q0 := 0) (k := 10) (T := TX5) (Nf := 11) (ci := 5) (C := RX5) (v := .ref (ad (8))) hx hb hw_X5 hown hK hP (by decide) mW_obj rfl (by decide) hf_33 rfl rfl dX5_divideRows_1 ?_
  refine lv_iload_n hx hb dX5_divideRows_4 rfl (lv_at hl 2 rfl) ?_
  refine k_iald (q0 := 8) (j := d) hx hb hK hP (by decide) mW_tw (by decide) (by omega) dX5_divideRows_5 ?_
  refine n_same (a := vtw v d) rfl ?_
  refine k_callSr (rest := []) (nL := 7) ⟨hx, hb, hml, hown, hts⟩ (c_X5_over l D cy ad hI v (vtw v d) (by first | assumption | omega)) (va_cwS 1 hts gX5_divideRows_X5_over rfl rfl rfl (by decide +kernel) ⟨Nat.le_of_ble_eq_true rfl, Nat.le_of_ble_eq_true rfl⟩) hK hP hS (fun _ h => h) rfl hl.1 rfl (Nat.le_of_ble_eq_true rfl) dX5_divideRows_6 ⟨Nat.zero_le _, Nat.zero_le _⟩ (fun H locs hP hS => ?_)
  have hP : va_P D vwCl (wL 9 ad (mW ad cy (v))) H := hP
  refine n_push (a := w) (by rw [ew]) ?_
  refine lv_istore_n (lv' := [(3, .int (nI (w))), (0, .ref (ad (0))), (1, .int (dV dD)), (2, .int (nI (d)))]) hx hb dX5_divideRows_9 rfl hl (by decide) rfl (fun ls hl => ?_)
  refine lv_iload_n hx hb dX5_divideRows_10 rfl (lv_at hl 2 rfl) ?_
  refine lv_iload_n hx hb dX5_divideRows_11 rfl (lv_at hl 3 rfl) ?_
  refine lv_isub hx hb dX5_divideRows_12 ?_
  refine i_push (b := dvl dD d) rfl ?_
  refine lv_istore (lv' := [(4, .int (dvl dD d)), (3, .int (nI (w))), (0, .ref (ad (0))), (1, .int (dV dD)), (2, .int (nI (d)))]) hx hb dX5_divideRows_13 hl (by decide) rfl (fun ls hl => ?_)
  have lp15 : ∀ (fu : Nat) (t : Nat) (pl : Int32) (qf : Nat → Nat) (rf : Nat → Nat) (v' : kV), (t ≤ dD - d) → ((t = 0 ∧ pl < 0) ∨ (0 < t ∧ pl = nI t - 1)) → (∀ k, rf k < 257) → (dvO (vtw v) d w t (qf, rf) = dvO (vtw v) d w (dD - d) (vou v, von v)) → (v' = pon (pou v qf) rf) → t < fu → ∀ (H : Heap) (locs : List Loc), va_P D vwCl (wL 9 ad (mW ad cy (v'))) H → va_S (wA 9 ad) s.heap H locs → ∀ (ls : Array Slot), lv_has ls 7 [(4, .int (pl)), (3, .int (nI (w))), (2, .int (nI (d))), (0, .ref (ad (0)))] → W p l e ({ frames := 3, cells := 0, slots := 0, locals := 64 } : Room) s m ([.ref (ad (0)), .int (dV dD), .int (nI (d))] : List Value).toArray below meth c H locs 0 0 (MQ below (kQ D 9 ad (mW ad cy) (kF none (dvm v dD d))) ([.ref (ad (0)), .int (dV dD), .int (nI (d))] : List Value).toArray s 0 0 (wA 9 ad)) (F0 m 15 ls []) := by
    intro fu
    induction fu with
    | zero => intro t pl qf rf v' ht hpl hrf he hv hfu; exact absurd hfu (Nat.not_lt_zero _)
    | succ fu ih15 =>
      intro t pl qf rf v' ht hpl hrf he hv hfu H locs hP hS ls hl
      refine lv_iload hx hb dX5_divideRows_15 (lv_at hl 0 rfl) ?_
      refine lv_if_lt (tgt := 100) hx hb dX5_divideRows_17 (by decide) (fun h_1 => ?_) (fun h_1 => ?_)
      · skip
        have ht0 : t = 0 := by
          rcases hpl with z | z
          · exact z.1
          · exfalso
            obtain ⟨j, hj⟩ : ∃ j, t = j + 1 := ⟨t - 1, by omega⟩
            rw [z.2, hj, nI_pred] at h_1
            exact nI_pos (by omega) h_1
        subst ht0
        refine k_vret hx hb hr hlocks (v') hP hS dX5_divideRows_100 ?_
        exact ⟨rfl, by rw [hv]; unfold dvm; rw [← ew, ← he]; rfl⟩
      · skip
        have hz := hpl.resolve_left (fun z => h_1 z.2)
        obtain ⟨j, rfl⟩ : ∃ j, t = j + 1 := ⟨t - 1, by omega⟩
        obtain ⟨-, rfl⟩ := hz
        rw [nI_pred] at hl
        refine lv_aload_n hx hb dX5_divideRows_20 rfl (lv_at hl 3 rfl) ?_
        refine k_get (q0 := 0) (k := 9) (T := TX5) (Nf := 11) (ci := 5) (C := RX5) (v := .ref (ad (7))) hx hb hw_X5 hown hK hP (by decide) mW_obj rfl (by decide) hf_30 rfl rfl dX5_divideRows_21 ?_
        refine lv_iload hx hb dX5_divideRows_24 (lv_at hl 0 rfl) ?_
        refine lv_iload_n hx hb dX5_divideRows_26 rfl (lv_at hl 2 rfl) ?_
        refine n_iadd hx hb dX5_divideRows_27 ?_
        refine k_iald (q0 := 7) (j := j + d) hx hb hK hP (by decide) mW_on (by decide) (by omega) dX5_divideRows_28 ?_
        refine n_same (a := von v' (j + d)) rfl ?_
        refine n_push (a := rf (j + d)) (by rw [hv]; rfl) ?_
        refine lv_iload_n hx hb dX5_divideRows_29 rfl (lv_at hl 1 rfl) ?_
        refine k_callSr (rest := []) (nL := 7) ⟨hx, hb, hml, hown, hts⟩ (c_X5_times l D cy ad hI v' (rf (j + d)) w (hrf _) (by first | assumption | omega)) (va_cwS 2 hts gX5_divideRows_X5_times rfl rfl rfl (by decide +kernel) ⟨Nat.le_of_ble_eq_true rfl, Nat.le_of_ble_eq_true rfl⟩) hK hP hS (fun _ h => h) rfl hl.1 rfl (Nat.le_of_ble_eq_true rfl) dX5_divideRows_30 ⟨Nat.zero_le _, Nat.zero_le _⟩ (fun H locs hP hS => ?_)
        have hP : va_P D vwCl (wL 9 ad (mW ad cy (v'))) H := hP
        refine lv_istore (lv' := [(5, .int (nI ((rf (j + d)) * w % 257))), (4, .int (nI (j))), (3, .int (nI (w))), (2, .int (nI (d))), (0, .ref (ad (0)))]) hx hb dX5_divideRows_33 hl (by decide) rfl (fun ls hl => ?_)
        refine lv_aload_n hx hb dX5_divideRows_35 rfl (lv_at hl 4 rfl) ?_
        refine k_get (q0 := 0) (k := 7) (T := TX5) (Nf := 11) (ci := 5) (C := RX5) (v := .ref (ad (6))) hx hb hw_X5 hown hK hP (by decide) mW_obj rfl (by decide) hf_27 rfl rfl dX5_divideRows_36 ?_
        refine lv_iload hx hb dX5_divideRows_39 (lv_at hl 1 rfl) ?_
        refine lv_iload hx hb dX5_divideRows_41 (lv_at hl 0 rfl) ?_
        refine k_iast (q0 := 6) (j := j) (v := nI ((rf (j + d)) * w % 257)) (Wd' := mW ad cy (pou v' (va_up (vou v') j ((rf (j + d)) * w % 257)))) hx hb hK hI hP hS (by decide) mW_ou (by decide) (by omega) mW_up_ou dX5_divideRows_43 (fun H locs hP hS => ?_)
        refine lv_iconst (v := nI (0)) hx hb dX5_divideRows_44 rfl ?_
        refine lv_istore (lv' := [(6, .int (nI (0))), (5, .int (nI ((rf (j + d)) * w % 257))), (4, .int (nI (j))), (3, .int (nI (w))), (2, .int (nI (d))), (0, .ref (ad (0)))]) hx hb dX5_divideRows_45 hl (by decide) rfl (fun ls hl => ?_)
        have lp47 : ∀ (fu : Nat) (i : Nat) (v2 : kV), (i ≤ d + 1) → (v2 = pon (pou v (va_up qf j (rf (j + d) * w % 257))) (dvI (rf (j + d) * w % 257) (vtw v) j rf i)) → d + 1 - i < fu → ∀ (H : Heap) (locs : List Loc), va_P D vwCl (wL 9 ad (mW ad cy (v2))) H → va_S (wA 9 ad) s.heap H locs → ∀ (ls : Array Slot), lv_has ls 7 [(6, .int (nI (i))), (5, .int (nI (rf (j + d) * w % 257))), (4, .int (nI (j))), (3, .int (nI (w))), (2, .int (nI (d))), (0, .ref (ad (0)))] → W p l e ({ frames := 3, cells := 0, slots := 0, locals := 64 } : Room) s m ([.ref (ad (0)), .int (dV dD), .int (nI (d))] : List Value).toArray below meth c H locs 0 0 (MQ below (kQ D 9 ad (mW ad cy) (kF none (dvm v dD d))) ([.ref (ad (0)), .int (dV dD), .int (nI (d))] : List Value).toArray s 0 0 (wA 9 ad)) (F0 m 47 ls []) := by
          intro fu
          induction fu with
          | zero => intro i v2 hi hv2 hfu; exact absurd hfu (Nat.not_lt_zero _)
          | succ fu ih47 =>
            intro i v2 hi hv2 hfu H locs hP hS ls hl
            have hcl : rf (j + d) * w % 257 < 257 := Nat.mod_lt _ (by decide)
            have hg := dvI_lt (c := rf (j + d) * w % 257) (f := vtw v) (j := j) hrf i (j + i)
            refine lv_iload hx hb dX5_divideRows_47 (lv_at hl 0 rfl) ?_
            refine lv_iload_n hx hb dX5_divideRows_49 rfl (lv_at hl 4 rfl) ?_
            refine n_icmp_gt (tgt := 94) hx hb (by omega) (by omega) dX5_divideRows_50 (by decide) (fun h_2 => ?_) (fun h_2 => ?_)
            · skip
              refine lv_iinc (v := nI (j) - 1) (lv' := [(4, .int (nI (j) - 1)), (6, .int (nI (i))), (5, .int (nI (rf (j + d) * w % 257))), (3, .int (nI (w))), (2, .int (nI (d))), (0, .ref (ad (0)))]) hx hb dX5_divideRows_94 hl (k := 2) rfl (nI_dec' _) (by decide) rfl (fun ls hl => ?_)
              refine lv_goto (tgt := 15) hx hb dX5_divideRows_97 (by decide) ?_
              exact ih15 (j) (nI j - 1) (va_up qf j (rf (j + d) * w % 257)) (dvI (rf (j + d) * w % 257) (vtw v) j rf (d + 1)) (v2) (by omega) (by
                        rcases Nat.eq_zero_or_pos j with z | z
                        · exact Or.inl ⟨z, by rw [z]; decide⟩
                        · exact Or.inr ⟨z, rfl⟩) (fun k => dvI_lt hrf _ _) he (by rw [hv2, show i = d + 1 by omega]) (by omega) _ _ hP hS _ (lv_sub hl [0, 3, 4, 5] rfl)
            · skip
              refine lv_aload_n hx hb dX5_divideRows_53 rfl (lv_at hl 5 rfl) ?_
              refine k_get (q0 := 0) (k := 9) (T := TX5) (Nf := 11) (ci := 5) (C := RX5) (v := .ref (ad (7))) hx hb hw_X5 hown hK hP (by decide) mW_obj rfl (by decide) hf_30 rfl rfl dX5_divideRows_54 ?_
              refine lv_iload hx hb dX5_divideRows_57 (lv_at hl 2 rfl) ?_
              refine lv_iload hx hb dX5_divideRows_59 (lv_at hl 0 rfl) ?_
              refine n_iadd hx hb dX5_divideRows_61 ?_
              refine lv_aload_n hx hb dX5_divideRows_62 rfl (lv_at hl 5 rfl) ?_
              refine k_get (q0 := 0) (k := 9) (T := TX5) (Nf := 11) (ci := 5) (C := RX5) (v := .ref (ad (7))) hx hb hw_X5 hown hK hP (by decide) mW_obj rfl (by decide) hf_30 rfl rfl dX5_divideRows_63 ?_
              refine lv_iload hx hb dX5_divideRows_66 (lv_at hl 2 rfl) ?_
              refine lv_iload hx hb dX5_divideRows_68 (lv_at hl 0 rfl) ?_
              refine n_iadd hx hb dX5_divideRows_70 ?_
              refine k_iald (q0 := 7) (j := j + i) hx hb hK hP (by decide) mW_on (by decide) (by omega) dX5_divideRows_71 ?_
              refine n_same (a := von v2 (j + i)) rfl ?_
              refine n_push (a := dvI (rf (j + d) * w % 257) (vtw v) j rf i (j + i)) (by rw [hv2]; rfl) ?_
              refine lv_iload hx hb dX5_divideRows_72 (lv_at hl 1 rfl) ?_
              refine lv_aload_n hx hb dX5_divideRows_74 rfl (lv_at hl 5 rfl) ?_
              refine k_get (q0 := 0) (k := 10) (T := TX5) (Nf := 11) (ci := 5) (C := RX5) (v := .ref (ad (8))) hx hb hw_X5 hown hK hP (by decide) mW_obj rfl (by decide) hf_33 rfl rfl dX5_divideRows_75 ?_
              refine lv_iload hx hb dX5_divideRows_78 (lv_at hl 0 rfl) ?_
              refine k_iald (q0 := 8) (j := i) hx hb hK hP (by decide) mW_tw (by decide) (by omega) dX5_divideRows_80 ?_
              refine n_same (a := vtw v2 i) rfl ?_
              refine n_push (a := vtw v i) (by rw [hv2]; rfl) ?_
              refine k_callSr (rest := [.int (nI (dvI (rf (j + d) * w % 257) (vtw v) j rf i (j + i))), .int (nI (j + i)), .ref (ad (7))]) (nL := 7) ⟨hx, hb, hml, hown, hts⟩ (c_X5_times l D cy ad hI v2 (rf (j + d) * w % 257) (vtw v i) hcl (htw i)) (va_cwS 2 hts gX5_divideRows_X5_times rfl rfl rfl (by decide +kernel) ⟨Nat.le_of_ble_eq_true rfl, Nat.le_of_ble_eq_true rfl⟩) hK hP hS (fun _ h => h) rfl hl.1 rfl (Nat.le_of_ble_eq_true rfl) dX5_divideRows_81 ⟨Nat.zero_le _, Nat.zero_le _⟩ (fun H locs hP hS => ?_)
              have hP : va_P D vwCl (wL 9 ad (mW ad cy (v2))) H := hP
              refine k_callSr (rest := [.int (nI (j + i)), .ref (ad (7))]) (nL := 7) ⟨hx, hb, hml, hown, hts⟩ (c_X5_less l D cy ad hI v2 (dvI (rf (j + d) * w % 257) (vtw v) j rf i (j + i)) ((rf (j + d) * w % 257) * (vtw v i) % 257) hg (Nat.mod_lt _ (by decide))) (va_cwS 2 hts gX5_divideRows_X5_less rfl rfl rfl (by decide +kernel) ⟨Nat.le_of_ble_eq_true rfl, Nat.le_of_ble_eq_true rfl⟩) hK hP hS (fun _ h => h) rfl hl.1 rfl (Nat.le_of_ble_eq_true rfl) dX5_divideRows_84 ⟨Nat.zero_le _, Nat.zero_le _⟩ (fun H locs hP hS => ?_)
              have hP : va_P D vwCl (wL 9 ad (mW ad cy (v2))) H := hP
              refine n_push (a := sbm (dvI (rf (j + d) * w % 257) (vtw v) j rf i (j + i)) (rf (j + d) * w % 257 * vtw v i)) (congrArg nI (lss_sbm hg)) ?_
              refine k_iast (q0 := 7) (j := j + i) (v := nI (sbm (dvI (rf (j + d) * w % 257) (vtw v) j rf i (j + i)) (rf (j + d) * w % 257 * vtw v i))) (Wd' := mW ad cy (pon v2 (va_up (von v2) (j + i) (sbm (dvI (rf (j + d) * w % 257) (vtw v) j rf i (j + i)) (rf (j + d) * w % 257 * vtw v i))))) hx hb hK hI hP hS (by decide) mW_on (by decide) (by omega) mW_up_on dX5_divideRows_87 (fun H locs hP hS => ?_)
              refine lv_iinc (v := nI (i + 1)) (lv' := [(6, .int (nI (i + 1))), (5, .int (nI (rf (j + d) * w % 257))), (4, .int (nI (j))), (3, .int (nI (w))), (2, .int (nI (d))), (0, .ref (ad (0)))]) hx hb dX5_divideRows_88 hl (k := 0) rfl (nI_inc _) (by decide) rfl (fun ls hl => ?_)
              refine lv_goto (tgt := 47) hx hb dX5_divideRows_91 (by decide) ?_
              exact ih47 (i + 1) (pon v2 (va_up (von v2) (j + i) (sbm (dvI (rf (j + d) * w % 257) (vtw v) j rf i (j + i)) (rf (j + d) * w % 257 * vtw v i)))) (by omega) (by rw [hv2]; rfl) (by omega) _ _ hP hS _ hl
        exact lp47 (_ + 1) (0) (pou v' (va_up (vou v') j ((rf (j + d)) * w % 257))) (by omega) (by rw [hv]; rfl) (Nat.lt_succ_self _) _ _ hP hS _ hl
  exact lp15 (_ + 1) (dD - d) (dvl dD d) (vou v) (von v) (v) (Nat.le_refl _) (by
      by_cases z : dD ≤ d
      · exact Or.inl ⟨by omega, dvl_neg hD64 hd64 z⟩
      · exact Or.inr ⟨by omega, dvl_pos hD64 (by omega)⟩) hon rfl rfl (Nat.lt_succ_self _) _ _ hP hS _ (lv_sub hl [0, 1, 4, 2] rfl)
