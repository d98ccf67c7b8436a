set_option maxHeartbeats 4000000 in
set_option maxRecDepth 100000 in
theorem c_J9_floorMod_7cf53 (l : Launch) (D : va_G) (cy : Nat → ClassId) (ad : Nat → Nat) (N : Nat) {S : Type} (Wf : S → Nat → va_E) (u : S) (z : Int32) : kM l yJ9_floorMod_7cf53 wsJ9_floorMod_7cf53 ({ frames := 0, cells := 0, slots := 0, locals := 0 } : Room) D cy N ad Wf (Wf (u)) [.int (z), .int (nI (257))] (kF (some (.int (nI (kmod z.toInt)))) (u)) := by
  refine k_metF cJ9_floorMod_7cf53 3 (some .int) (by decide +kernel) rfl (Nat.le_of_ble_eq_true rfl) ?_
  intro p e s m below meth c ls hx hb hr hts hown hlocks hml hK hP hS hl
  have hl : lv_has ls 3 [(0, .int (z)), (1, .int (nI (257)))] := hl
  have hown : s.vm.findClass RJ9 = some m.cls := hown
  refine lv_iload_n hx hb dJ9_floorMod_7cf53_0 rfl (lv_at hl 0 rfl) ?_
  refine lv_iload_n hx hb dJ9_floorMod_7cf53_1 rfl (lv_at hl 1 rfl) ?_
  refine lv_irem hx hb dJ9_floorMod_7cf53_2 (by decide) ?_
  refine lv_istore_n (lv' := [(2, .int (z - z / (nI (257)) * (nI (257)))), (0, .int (z)), (1, .int (nI (257)))]) hx hb dJ9_floorMod_7cf53_3 rfl hl (by decide) rfl (fun ls hl => ?_)
  refine lv_iload_n hx hb dJ9_floorMod_7cf53_4 rfl (lv_at hl 1 rfl) ?_
  refine lv_iload_n hx hb dJ9_floorMod_7cf53_5 rfl (lv_at hl 2 rfl) ?_
  refine lv_ixor hx hb dJ9_floorMod_7cf53_6 ?_
  refine lv_if_ge (tgt := 18) hx hb dJ9_floorMod_7cf53_7 (by decide) (fun h_1 => ?_) (fun h_1 => ?_)
  · skip
    refine lv_iload_n hx hb dJ9_floorMod_7cf53_18 rfl (lv_at hl 0 rfl) ?_
    refine k_iret hx hb hr hlocks (u) hP hS dJ9_floorMod_7cf53_19 ?_
    exact ⟨congrArg (fun q => some (Value.int q)) (fm_a ((i_xor257 z).mp h_1)), rfl⟩
  · skip
    refine lv_iload_n hx hb dJ9_floorMod_7cf53_10 rfl (lv_at hl 0 rfl) ?_
    refine lv_if_eq (tgt := 18) hx hb dJ9_floorMod_7cf53_11 (by decide) (fun h_2 => ?_) (fun h_2 => ?_)
    · skip
      refine lv_iload_n hx hb dJ9_floorMod_7cf53_18 rfl (lv_at hl 0 rfl) ?_
      refine k_iret hx hb hr hlocks (u) hP hS dJ9_floorMod_7cf53_19 ?_
      exact ⟨congrArg (fun q => some (Value.int q)) (fm_b (fun q => h_1 ((i_xor257 z).mpr q)) h_2), rfl⟩
    · skip
      refine lv_iload_n hx hb dJ9_floorMod_7cf53_14 rfl (lv_at hl 0 rfl) ?_
      refine lv_iload_n hx hb dJ9_floorMod_7cf53_15 rfl (lv_at hl 2 rfl) ?_
      refine lv_iadd hx hb dJ9_floorMod_7cf53_16 ?_
      refine k_iret hx hb hr hlocks (u) hP hS dJ9_floorMod_7cf53_17 ?_
      exact ⟨congrArg (fun q => some (Value.int q)) (fm_c (fun q => h_1 ((i_xor257 z).mpr q)) h_2), rfl⟩
set_option maxHeartbeats 4000000 in
set_option maxRecDepth 100000 in
theorem c_X2_length (l : Launch) (D : va_G) (cy : Nat → ClassId) (ad : Nat → Nat) (hI : wI 143 ad) (ρ : Nat → kR) (x : kX) (i : Nat) (hi : i < 59) : kM l yX2_length wsX2_length ({ frames := 0, cells := 0, slots := 0, locals := 0 } : Room) D cy 143 ad (cWf ad cy) (cW ad cy (ρ) (x)) [.ref (ad (2 * i))] (kF (some (.int (nI ((ρ i).1)))) (ρ, x)) := by
  refine k_met cX2_length 1 (some .int) (by decide) rfl (Nat.le_of_ble_eq_true rfl) ?_
  intro p e s m below meth c ls hx hb hr hts hown hlocks hml hK hP hS hl
  have hl : lv_has ls 1 [(0, .ref (ad (2 * i)))] := hl
  have hown : s.vm.findClass RX2 = some m.cls := hown
  have hf_15 := hts (.fieldLink RX2 15 "TurnedRows$Row" "length" "I") (by decide +kernel)
  have hw_X2 : ∀ qw ∈ wsX20, qw.before ([.ref (ad (2 * i))] : List Value).toArray s = true := fun qw h => hts qw ((by decide +kernel : ∀ qw ∈ wsX20, qw ∈ wsX2_length) qw h)
  refine lv_aload_n hx hb dX2_length_0 rfl (lv_at hl 0 rfl) ?_
  refine k_get (q0 := 2 * i) (k := 1) (T := TX2) (Nf := 2) (ci := 2) (C := RX2) (v := .int (nI ((ρ i).1))) hx hb hw_X2 hown hK hP (by omega) (cW_row (i := i) (by omega)) rfl (by decide) hf_15 rfl rfl dX2_length_1 ?_
  refine k_iret hx hb hr hlocks (ρ, x) hP hS dX2_length_4 ?_
  exact ⟨rfl, rfl⟩
set_option maxHeartbeats 4000000 in
set_option maxRecDepth 100000 in
theorem c_X2_at (l : Launch) (D : va_G) (cy : Nat → ClassId) (ad : Nat → Nat) (hI : wI 143 ad) (ρ : Nat → kR) (x : kX) (i : Nat) (j : Nat) (hi : i < 59) (hj : j < 64) : kM l yX2_at wsX2_at ({ frames := 0, cells := 0, slots := 0, locals := 0 } : Room) D cy 143 ad (cWf ad cy) (cW ad cy (ρ) (x)) [.ref (ad (2 * i)), .int (nI (j))] (kF (some (.int (nI ((ρ i).2 j)))) (ρ, x)) := by
  refine k_met cX2_at 2 (some .int) (by decide) rfl (Nat.le_of_ble_eq_true rfl) ?_
  intro p e s m below meth c ls hx hb hr hts hown hlocks hml hK hP hS hl
  have hl : lv_has ls 2 [(0, .ref (ad (2 * i))), (1, .int (nI (j)))] := hl
  have hown : s.vm.findClass RX2 = some m.cls := hown
  have hf_9 := hts (.fieldLink RX2 9 "TurnedRows$Row" "numbers" "[I") (by decide +kernel)
  have hw_X2 : ∀ qw ∈ wsX20, qw.before ([.ref (ad (2 * i)), .int (nI (j))] : List Value).toArray s = true := fun qw h => hts qw ((by decide +kernel : ∀ qw ∈ wsX20, qw ∈ wsX2_at) qw h)
  refine lv_iload_n hx hb dX2_at_0 rfl (lv_at hl 1 rfl) ?_
  refine n_iflt (tgt := 22) hx hb (by omega) dX2_at_1 (by decide) ?_
  refine lv_iload_n hx hb dX2_at_4 rfl (lv_at hl 1 rfl) ?_
  refine lv_aload_n hx hb dX2_at_5 rfl (lv_at hl 0 rfl) ?_
  refine k_get (q0 := 2 * i) (k := 0) (T := TX2) (Nf := 2) (ci := 2) (C := RX2) (v := .ref (ad (2 * i + 1))) hx hb hw_X2 hown hK hP (by omega) (cW_row (i := i) (by omega)) rfl (by decide) hf_9 rfl rfl dX2_at_6 ?_
  refine k_alen (q0 := 2 * i + 1) hx hb hK hP 0 (by omega) (cW_num (i := i) (by omega)) rfl 64 rfl dX2_at_9 ?_
  refine n_icmp_ge (tgt := 22) hx hb (by omega) (by omega) dX2_at_10 (by decide) (fun h_1 => ?_) (fun h_1 => ?_)
  · skip
    exact absurd h_1 (by omega)
  · skip
    refine lv_aload_n hx hb dX2_at_13 rfl (lv_at hl 0 rfl) ?_
    refine k_get (q0 := 2 * i) (k := 0) (T := TX2) (Nf := 2) (ci := 2) (C := RX2) (v := .ref (ad (2 * i + 1))) hx hb hw_X2 hown hK hP (by omega) (cW_row (i := i) (by omega)) rfl (by decide) hf_9 rfl rfl dX2_at_14 ?_
    refine lv_iload_n hx hb dX2_at_17 rfl (lv_at hl 1 rfl) ?_
    refine k_iald (q0 := 2 * i + 1) (j := j) hx hb hK hP (by omega) (cW_num (i := i) (by omega)) (by decide) (by omega) dX2_at_18 ?_
    refine n_same (a := (ρ i).2 j) rfl ?_
    refine lv_goto (tgt := 23) hx hb dX2_at_19 (by decide) ?_
    refine k_iret hx hb hr hlocks (ρ, x) hP hS dX2_at_23 ?_
    exact ⟨rfl, rfl⟩
set_option maxHeartbeats 4000000 in
set_option maxRecDepth 100000 in
theorem c_X2_write (l : Launch) (D : va_G) (cy : Nat → ClassId) (ad : Nat → Nat) (hI : wI 143 ad) (ρ : Nat → kR) (x : kX) (i : Nat) (j : Nat) (w : Int32) (hi : i < 59) (hj : j < 64) : kM l yX2_write wsX2_write ({ frames := 1, cells := 0, slots := 0, locals := 22 } : Room) D cy 143 ad (cWf ad cy) (cW ad cy (ρ) (x)) [.ref (ad (2 * i)), .int (nI (j)), .int (w)] (kF none (va_up ρ i ((ρ i).1, va_up (ρ i).2 j (kmod w.toInt)), x)) := by
  refine k_met cX2_write 3 none (by decide) rfl (Nat.le_of_ble_eq_true rfl) ?_
  intro p e s m below meth c ls hx hb hr hts hown hlocks hml hK hP hS hl
  have hl : lv_has ls 3 [(0, .ref (ad (2 * i))), (1, .int (nI (j))), (2, .int (w))] := hl
  have hown : s.vm.findClass RX2 = some m.cls := hown
  have hf_9 := hts (.fieldLink RX2 9 "TurnedRows$Row" "numbers" "[I") (by decide +kernel)
  have hw_X2 : ∀ qw ∈ wsX20, qw.before ([.ref (ad (2 * i)), .int (nI (j)), .int (w)] : List Value).toArray s = true := fun qw h => hts qw ((by decide +kernel : ∀ qw ∈ wsX20, qw ∈ wsX2_write) qw h)
  refine lv_iload_n hx hb dX2_write_0 rfl (lv_at hl 1 rfl) ?_
  refine n_iflt (tgt := 26) hx hb (by omega) dX2_write_1 (by decide) ?_
  refine lv_iload_n hx hb dX2_write_4 rfl (lv_at hl 1 rfl) ?_
  refine lv_aload_n hx hb dX2_write_5 rfl (lv_at hl 0 rfl) ?_
  refine k_get (q0 := 2 * i) (k := 0) (T := TX2) (Nf := 2) (ci := 2) (C := RX2) (v := .ref (ad (2 * i + 1))) hx hb hw_X2 hown hK hP (by omega) (cW_row (i := i) (by omega)) rfl (by decide) hf_9 rfl rfl dX2_write_6 ?_
  refine k_alen (q0 := 2 * i + 1) hx hb hK hP 0 (by omega) (cW_num (i := i) (by omega)) rfl 64 rfl dX2_write_9 ?_
  refine n_icmp_ge (tgt := 26) hx hb (by omega) (by omega) dX2_write_10 (by decide) (fun h_1 => ?_) (fun h_1 => ?_)
  · skip
    exact absurd h_1 (by omega)
  · skip
    refine lv_aload_n hx hb dX2_write_13 rfl (lv_at hl 0 rfl) ?_
    refine k_get (q0 := 2 * i) (k := 0) (T := TX2) (Nf := 2) (ci := 2) (C := RX2) (v := .ref (ad (2 * i + 1))) hx hb hw_X2 hown hK hP (by omega) (cW_row (i := i) (by omega)) rfl (by decide) hf_9 rfl rfl dX2_write_14 ?_
    refine lv_iload_n hx hb dX2_write_17 rfl (lv_at hl 1 rfl) ?_
    refine lv_iload_n hx hb dX2_write_18 rfl (lv_at hl 2 rfl) ?_
    refine lv_sipush (v := nI (257)) hx hb dX2_write_19 rfl ?_
    refine k_callSr (rest := [.int (nI (j)), .ref (ad (2 * i + 1))]) (nL := 3) ⟨hx, hb, hml, hown, hts⟩ (c_J9_floorMod_7cf53 l D cy ad 143 (cWf ad cy) (ρ, x) w) (va_cwS 2 hts gX2_write_J9_floorMod_7cf53 rfl rfl rfl (by decide +kernel) ⟨Nat.le_of_ble_eq_true rfl, Nat.le_of_ble_eq_true rfl⟩) hK hP hS (fun _ h => h) rfl hl.1 rfl (Nat.le_of_ble_eq_true rfl) dX2_write_22 ⟨Nat.zero_le _, Nat.zero_le _⟩ (fun H locs hP hS => ?_)
    have hP : va_P D vwCl (wL 143 ad (cW ad cy (ρ) (x))) H := hP
    refine k_iast (q0 := 2 * i + 1) (j := j) (v := nI (kmod w.toInt)) (Wd' := cW ad cy (va_up ρ i ((ρ i).1, va_up (ρ i).2 j (kmod w.toInt))) (x)) hx hb hK hI hP hS (by omega) (cW_num (i := i) (by omega)) (by decide) (by omega) (cW_up_st (by omega)) dX2_write_25 (fun H locs hP hS => ?_)
    refine k_vret hx hb hr hlocks (va_up ρ i ((ρ i).1, va_up (ρ i).2 j (kmod w.toInt)), x) hP hS dX2_write_26 ?_
    exact ⟨rfl, rfl⟩
set_option maxHeartbeats 4000000 in
set_option maxRecDepth 100000 in
theorem c_J7_fill_53178 (l : Launch) (D : va_G) (cy : Nat → ClassId) (ad : Nat → Nat) (hI : wI 143 ad) (ρ : Nat → kR) (x : kX) (i : Nat) (hi : i < 59) : kM l yJ7_fill_53178 wsJ7_fill_53178 ({ frames := 0, cells := 0, slots := 0, locals := 0 } : Room) D cy 143 ad (cWf ad cy) (cW ad cy (ρ) (x)) [.ref (ad (2 * i + 1)), .int (nI (0))] (kF none (va_up ρ i ((ρ i).1, fun _ => 0), x)) := by
  refine k_met cJ7_fill_53178 4 none (by decide) rfl (Nat.le_of_ble_eq_true rfl) ?_
  intro p e s m below meth c ls hx hb hr hts hown hlocks hml hK hP hS hl
  have hl : lv_has ls 4 [(0, .ref (ad (2 * i + 1))), (1, .int (nI (0)))] := hl
  have hown : s.vm.findClass RJ7 = some m.cls := hown
  refine lv_iconst (v := nI (0)) hx hb dJ7_fill_53178_0 rfl ?_
  refine lv_istore_n (lv' := [(2, .int (nI (0))), (0, .ref (ad (2 * i + 1))), (1, .int (nI (0)))]) hx hb dJ7_fill_53178_1 rfl hl (by decide) rfl (fun ls hl => ?_)
  refine lv_aload_n hx hb dJ7_fill_53178_2 rfl (lv_at hl 1 rfl) ?_
  refine k_alen (q0 := 2 * i + 1) hx hb hK hP 0 (by omega) (cW_num (i := i) (by omega)) rfl 64 rfl dJ7_fill_53178_3 ?_
  refine lv_istore_n (lv' := [(3, .int (nI (64))), (2, .int (nI (0))), (0, .ref (ad (2 * i + 1))), (1, .int (nI (0)))]) hx hb dJ7_fill_53178_4 rfl hl (by decide) rfl (fun ls hl => ?_)
  have lp5 : ∀ (fu : Nat) (k : Nat) (ρ' : Nat → kR), (k ≤ 64) → (ρ' = va_up ρ i ((ρ i).1, zto (ρ i).2 k)) → 64 - k < fu → ∀ (H : Heap) (locs : List Loc), va_P D vwCl (wL 143 ad (cW ad cy (ρ') (x))) H → va_S (wA 143 ad) s.heap H locs → ∀ (ls : Array Slot), lv_has ls 4 [(2, .int (nI (k))), (0, .ref (ad (2 * i + 1))), (1, .int (nI (0))), (3, .int (nI (64)))] → W p l e ({ frames := 0, cells := 0, slots := 0, locals := 0 } : Room) s m ([.ref (ad (2 * i + 1)), .int (nI (0))] : List Value).toArray below meth c H locs 0 0 (MQ below (kQ D 143 ad (cWf ad cy) (kF none (va_up ρ i ((ρ i).1, fun _ => 0), x))) ([.ref (ad (2 * i + 1)), .int (nI (0))] : List Value).toArray s 0 0 (wA 143 ad)) (F0 m 5 ls []) := by
    intro fu
    induction fu with
    | zero => intro k ρ' hk hρ hfu; exact absurd hfu (Nat.not_lt_zero _)
    | succ fu ih5 =>
      intro k ρ' hk hρ hfu H locs hP hS ls hl
      refine lv_iload_n hx hb dJ7_fill_53178_5 rfl (lv_at hl 0 rfl) ?_
      refine lv_iload_n hx hb dJ7_fill_53178_6 rfl (lv_at hl 3 rfl) ?_
      refine n_icmp_ge (tgt := 20) hx hb (by omega) (by omega) dJ7_fill_53178_7 (by decide) (fun h_1 => ?_) (fun h_1 => ?_)
      · skip
        have hk2 : k = 64 := by omega
        subst hk2
        rw [hρ] at hP
        have hP := fill_e hP
        refine k_vret hx hb hr hlocks (va_up ρ i ((ρ i).1, fun _ => 0), x) hP hS dJ7_fill_53178_20 ?_
        exact ⟨rfl, rfl⟩
      · skip
        refine lv_aload_n hx hb dJ7_fill_53178_10 rfl (lv_at hl 1 rfl) ?_
        refine lv_iload_n hx hb dJ7_fill_53178_11 rfl (lv_at hl 0 rfl) ?_
        refine lv_iload_n hx hb dJ7_fill_53178_12 rfl (lv_at hl 2 rfl) ?_
        refine k_iast (q0 := 2 * i + 1) (j := k) (v := nI (0)) (Wd' := cW ad cy (va_up ρ' i ((ρ' i).1, va_up (ρ' i).2 k 0)) (x)) hx hb hK hI hP hS (by omega) (cW_num (i := i) (by omega)) (by decide) (by omega) (cW_up_st (by omega)) dJ7_fill_53178_13 (fun H locs hP hS => ?_)
        refine lv_iinc (v := nI (k + 1)) (lv' := [(2, .int (nI (k + 1))), (0, .ref (ad (2 * i + 1))), (1, .int (nI (0))), (3, .int (nI (64)))]) hx hb dJ7_fill_53178_14 hl (k := 0) rfl (nI_inc _) (by decide) rfl (fun ls hl => ?_)
        refine lv_goto (tgt := 5) hx hb dJ7_fill_53178_17 (by decide) ?_
        exact ih5 (k + 1) (va_up ρ' i ((ρ' i).1, va_up (ρ' i).2 k 0)) (by omega) (by rw [hρ, up_up, va_up_self, zto_s]) (by omega) _ _ hP hS _ hl
  exact lp5 (_ + 1) (0) (ρ) (by omega) (by rw [zto_0, up_same]) (Nat.lt_succ_self _) _ _ hP hS _ (lv_sub hl [1, 2, 3, 0] rfl)
