set_option maxHeartbeats 4000000 in
set_option maxRecDepth 100000 in
theorem c_X2_resize (l : Launch) (D : va_G) (cy : Nat → ClassId) (ad : Nat → Nat) (hI : wI 143 ad) (ρ : Nat → kR) (x : kX) (i : Nat) (n : Nat) (hi : i < 59) (hn : n ≤ 64) : kM l yX2_resize wsX2_resize ({ frames := 2, cells := 0, slots := 0, locals := 44 } : Room) D cy 143 ad (cWf ad cy) (cW ad cy (ρ) (x)) [.ref (ad (2 * i)), .int (nI (n))] (kF none (va_up ρ i (n, zfrom (ρ i).2 n), x)) := by
  refine k_met cX2_resize 3 none (by decide) rfl (Nat.le_of_ble_eq_true rfl) ?_
  intro p e s m below meth c ls hx hb hr hts hown hlocks hml hK hP hS hl
  have hl : lv_has ls 3 [(0, .ref (ad (2 * i))), (1, .int (nI (n)))] := hl
  have hown : s.vm.findClass RX2 = some m.cls := hown
  have hf_15 := hts (.fieldLink RX2 15 "TurnedRows$Row" "length" "I") (by decide +kernel)
  have hw_X2 : ∀ qw ∈ wsX20, qw.before ([.ref (ad (2 * i)), .int (nI (n))] : List Value).toArray s = true := fun qw h => hts qw ((by decide +kernel : ∀ qw ∈ wsX20, qw ∈ wsX2_resize) qw h)
  refine lv_iload_n hx hb dX2_resize_0 rfl (lv_at hl 1 rfl) ?_
  refine lv_istore_n (lv' := [(2, .int (nI (n))), (0, .ref (ad (2 * i))), (1, .int (nI (n)))]) hx hb dX2_resize_1 rfl hl (by decide) rfl (fun ls hl => ?_)
  have lp2 : ∀ (fu : Nat) (k : Nat) (ρ' : Nat → kR), (n ≤ k ∧ k ≤ 64) → (ρ' = va_up ρ i ((ρ i).1, zfr (ρ i).2 n k)) → 64 - k < fu → ∀ (H : Heap) (locs : List Loc), va_P D vwCl (wL 143 ad (cW ad cy (ρ') (x))) H → va_S (wA 143 ad) s.heap H locs → ∀ (ls : Array Slot), lv_has ls 3 [(2, .int (nI (k))), (0, .ref (ad (2 * i))), (1, .int (nI (n)))] → W p l e ({ frames := 2, cells := 0, slots := 0, locals := 44 } : Room) s m ([.ref (ad (2 * i)), .int (nI (n))] : List Value).toArray below meth c H locs 0 0 (MQ below (kQ D 143 ad (cWf ad cy) (kF none (va_up ρ i (n, zfrom (ρ i).2 n), x))) ([.ref (ad (2 * i)), .int (nI (n))] : List Value).toArray s 0 0 (wA 143 ad)) (F0 m 2 ls []) := by
    intro fu
    induction fu with
    | zero => intro k ρ' hk hρ hfu; exact absurd hfu (Nat.not_lt_zero _)
    | succ fu ih2 =>
      intro k ρ' hk hρ hfu H locs hP hS ls hl
      refine lv_iload_n hx hb dX2_resize_2 rfl (lv_at hl 0 rfl) ?_
      refine lv_bipush (v := nI (64)) hx hb dX2_resize_3 rfl ?_
      refine n_icmp_ge (tgt := 20) hx hb (by omega) (by omega) dX2_resize_5 (by decide) (fun h_1 => ?_) (fun h_1 => ?_)
      · skip
        refine lv_aload_n hx hb dX2_resize_20 rfl (lv_at hl 1 rfl) ?_
        refine lv_iload_n hx hb dX2_resize_21 rfl (lv_at hl 2 rfl) ?_
        refine k_put (q0 := 2 * i) (k := 1) (T := TX2) (Nf := 2) (ci := 2) (C := RX2) (v := .int (nI (n))) (Wd' := cW ad cy (va_up ρ' i (n, (ρ' i).2)) (x)) hx hb hw_X2 tyX2 tyX2_ok nmX2 hown hK hI hP hS (by omega) (cW_row (i := i) (by omega)) rfl (by decide) hf_15 rfl rfl (ty := .int) (by decide +kernel) rfl rfl (Nat.le_of_ble_eq_true rfl) (cW_up_len (by omega)) dX2_resize_22 (fun H locs hP hS => ?_)
        have hk2 : k = 64 := by omega
        subst hk2
        have hP := rsz_e hρ hP
        refine k_vret hx hb hr hlocks (va_up ρ i (n, zfrom (ρ i).2 n), x) hP hS dX2_resize_25 ?_
        exact ⟨rfl, rfl⟩
      · skip
        refine lv_aload_n hx hb dX2_resize_8 rfl (lv_at hl 1 rfl) ?_
        refine lv_iload_n hx hb dX2_resize_9 rfl (lv_at hl 0 rfl) ?_
        refine lv_iconst (v := nI (0)) hx hb dX2_resize_10 rfl ?_
        refine k_callVv (rest := []) (nL := 3) ⟨hx, hb, hml, hown, hts⟩ (c_X2_write l D cy ad hI ρ' x i k (nI (0)) (by first | assumption | omega) (by first | assumption | omega)) (cwV 2 hts gX2_resize_X2_write rfl rfl rfl (by decide +kernel) ⟨Nat.le_of_ble_eq_true rfl, Nat.le_of_ble_eq_true rfl⟩) hK hP hS (fun _ h => h) (q0 := 2 * i) (ci := 2) rfl (by omega) (cW_row (i := i) (by omega)) rfl rfl rfl hl.1 rfl (Nat.le_of_ble_eq_true rfl) dX2_resize_11 ⟨Nat.zero_le _, Nat.zero_le _⟩ (fun H locs hP hS => ?_)
        have hP : va_P D vwCl (wL 143 ad (cW ad cy (va_up ρ' i ((ρ' i).1, va_up (ρ' i).2 k (kmod (nI (0)).toInt))) (x))) H := hP
        refine lv_iinc (v := nI (k + 1)) (lv' := [(2, .int (nI (k + 1))), (0, .ref (ad (2 * i))), (1, .int (nI (n)))]) hx hb dX2_resize_14 hl (k := 0) rfl (nI_inc _) (by decide) rfl (fun ls hl => ?_)
        refine lv_goto (tgt := 2) hx hb dX2_resize_17 (by decide) ?_
        exact ih2 (k + 1) (va_up ρ' i ((ρ' i).1, va_up (ρ' i).2 k (kmod (nI (0)).toInt))) (by first | assumption | omega) (by rw [hρ, up_up, va_up_self, show kmod (nI 0).toInt = 0 from by decide, zfr_s _ hk.1]) (by omega) _ _ hP hS _ hl
  exact lp2 (_ + 1) (n) (ρ) ⟨Nat.le_refl _, hn⟩ (by rw [zfr_0, up_same]) (Nat.lt_succ_self _) _ _ hP hS _ hl
set_option maxHeartbeats 4000000 in
set_option maxRecDepth 100000 in
theorem c_X2_clear (l : Launch) (D : va_G) (cy : Nat → ClassId) (ad : Nat → Nat) (hI : wI 143 ad) (ρ : Nat → kR) (x : kX) (i : Nat) (n : Nat) (hi : i < 59) : kM l yX2_clear wsX2_clear ({ frames := 1, cells := 0, slots := 0, locals := 23 } : Room) D cy 143 ad (cWf ad cy) (cW ad cy (ρ) (x)) [.ref (ad (2 * i)), .int (nI (n))] (kF none (va_up ρ i (n, fun _ => 0), x)) := by
  refine k_met cX2_clear 2 none (by decide) rfl (Nat.le_of_ble_eq_true rfl) ?_
  intro p e s m below meth c ls hx hb hr hts hown hlocks hml hK hP hS hl
  have hl : lv_has ls 2 [(0, .ref (ad (2 * i))), (1, .int (nI (n)))] := hl
  have hown : s.vm.findClass RX2 = some m.cls := hown
  have hf_9 := hts (.fieldLink RX2 9 "TurnedRows$Row" "numbers" "[I") (by decide +kernel)
  have hf_15 := hts (.fieldLink RX2 15 "TurnedRows$Row" "length" "I") (by decide +kernel)
  have hw_X2 : ∀ qw ∈ wsX20, qw.before ([.ref (ad (2 * i)), .int (nI (n))] : List Value).toArray s = true := fun qw h => hts qw ((by decide +kernel : ∀ qw ∈ wsX20, qw ∈ wsX2_clear) qw h)
  refine lv_aload_n hx hb dX2_clear_0 rfl (lv_at hl 0 rfl) ?_
  refine k_get (q0 := 2 * i) (k := 0) (T := TX2) (Nf := 2) (ci := 2) (C := RX2) (v := .ref (ad (2 * i + 1))) hx hb hw_X2 hown hK hP (by omega) (cW_row (i := i) (by omega)) rfl (by decide) hf_9 rfl rfl dX2_clear_1 ?_
  refine lv_iconst (v := nI (0)) hx hb dX2_clear_4 rfl ?_
  refine k_callSv (rest := []) (nL := 2) ⟨hx, hb, hml, hown, hts⟩ (c_J7_fill_53178 l D cy ad hI ρ x i (by first | assumption | omega)) (va_cwS 2 hts gX2_clear_J7_fill_53178 rfl rfl rfl (by decide +kernel) ⟨Nat.le_of_ble_eq_true rfl, Nat.le_of_ble_eq_true rfl⟩) hK hP hS (fun _ h => h) rfl hl.1 rfl (Nat.le_of_ble_eq_true rfl) dX2_clear_5 ⟨Nat.zero_le _, Nat.zero_le _⟩ (fun H locs hP hS => ?_)
  have hP : va_P D vwCl (wL 143 ad (cW ad cy (va_up ρ i ((ρ i).1, fun _ => 0)) (x))) H := hP
  refine lv_aload_n hx hb dX2_clear_8 rfl (lv_at hl 0 rfl) ?_
  refine lv_iload_n hx hb dX2_clear_9 rfl (lv_at hl 1 rfl) ?_
  refine k_put (q0 := 2 * i) (k := 1) (T := TX2) (Nf := 2) (ci := 2) (C := RX2) (v := .int (nI (n))) (Wd' := cW ad cy (va_up (va_up ρ i ((ρ i).1, fun _ => 0)) i (n, ((va_up ρ i ((ρ i).1, fun _ => 0)) i).2)) (x)) hx hb hw_X2 tyX2 tyX2_ok nmX2 hown hK hI hP hS (by omega) (cW_row (i := i) (by omega)) rfl (by decide) hf_15 rfl rfl (ty := .int) (by decide +kernel) rfl rfl (Nat.le_of_ble_eq_true rfl) (cW_up_len (by omega)) dX2_clear_10 (fun H locs hP hS => ?_)
  rw [up_up, va_up_self] at hP
  refine k_vret hx hb hr hlocks (va_up ρ i (n, fun _ => 0), x) hP hS dX2_clear_13 ?_
  exact ⟨rfl, rfl⟩
set_option maxHeartbeats 4000000 in
set_option maxRecDepth 100000 in
theorem c_X2_copyFrom (l : Launch) (D : va_G) (cy : Nat → ClassId) (ad : Nat → Nat) (hI : wI 143 ad) (ρ : Nat → kR) (x : kX) (i : Nat) (j : Nat) (hi : i < 59) (hj : j < 59) (hij : j ≠ i) : kM l yX2_copyFrom wsX2_copyFrom ({ frames := 1, cells := 0, slots := 0, locals := 18 } : Room) D cy 143 ad (cWf ad cy) (cW ad cy (ρ) (x)) [.ref (ad (2 * i)), .ref (ad (2 * j))] (kF none (va_up ρ i (ρ j), x)) := by
  refine k_met cX2_copyFrom 2 none (by decide) rfl (Nat.le_of_ble_eq_true rfl) ?_
  intro p e s m below meth c ls hx hb hr hts hown hlocks hml hK hP hS hl
  have hl : lv_has ls 2 [(0, .ref (ad (2 * i))), (1, .ref (ad (2 * j)))] := hl
  have hown : s.vm.findClass RX2 = some m.cls := hown
  have hf_9 := hts (.fieldLink RX2 9 "TurnedRows$Row" "numbers" "[I") (by decide +kernel)
  have hf_15 := hts (.fieldLink RX2 15 "TurnedRows$Row" "length" "I") (by decide +kernel)
  have hw_X2 : ∀ qw ∈ wsX20, qw.before ([.ref (ad (2 * i)), .ref (ad (2 * j))] : List Value).toArray s = true := fun qw h => hts qw ((by decide +kernel : ∀ qw ∈ wsX20, qw ∈ wsX2_copyFrom) qw h)
  have hm_35 := hts (.methodLink RX2 35 arraycopyName) (by decide +kernel)
  have hcn := hts (.native arraycopyName) (by decide +kernel)
  have hcs := hts (.static arraycopyName) (by decide +kernel)
  have hci := hts (.initialized "java/lang/System") (by decide +kernel)
  refine lv_aload_n hx hb dX2_copyFrom_0 rfl (lv_at hl 1 rfl) ?_
  refine k_get (q0 := 2 * j) (k := 0) (T := TX2) (Nf := 2) (ci := 2) (C := RX2) (v := .ref (ad (2 * j + 1))) hx hb hw_X2 hown hK hP (by omega) (cW_row (i := j) (by omega)) rfl (by decide) hf_9 rfl rfl dX2_copyFrom_1 ?_
  refine lv_iconst (v := nI (0)) hx hb dX2_copyFrom_4 rfl ?_
  refine lv_aload_n hx hb dX2_copyFrom_5 rfl (lv_at hl 0 rfl) ?_
  refine k_get (q0 := 2 * i) (k := 0) (T := TX2) (Nf := 2) (ci := 2) (C := RX2) (v := .ref (ad (2 * i + 1))) hx hb hw_X2 hown hK hP (by omega) (cW_row (i := i) (by omega)) rfl (by decide) hf_9 rfl rfl dX2_copyFrom_6 ?_
  refine lv_iconst (v := nI (0)) hx hb dX2_copyFrom_9 rfl ?_
  refine lv_bipush (v := nI (64)) hx hb dX2_copyFrom_10 rfl ?_
  refine k_copy (q0 := 2 * j + 1) (q1 := 2 * i + 1) (n := 64) (Wd' := cW ad cy (va_up ρ i ((ρ i).1, fun k => if k < 64 then (ρ j).2 k else (ρ i).2 k)) (x)) hx hb (hml.trans hl.1.symm) hown hm_35 hcn hcs hci hK hI hP hS (by omega) (by omega) (cW_num (i := j) (by omega)) (cW_num (i := i) (by omega)) (by decide) (cW_up_cpy (by omega)) (by decide) (Nat.le_of_ble_eq_true rfl) dX2_copyFrom_12 (fun H locs hP hS => ?_)
  refine lv_aload_n hx hb dX2_copyFrom_15 rfl (lv_at hl 0 rfl) ?_
  refine lv_aload_n hx hb dX2_copyFrom_16 rfl (lv_at hl 1 rfl) ?_
  refine k_get (q0 := 2 * j) (k := 1) (T := TX2) (Nf := 2) (ci := 2) (C := RX2) (v := .int (nI (((va_up ρ i ((ρ i).1, fun k => if k < 64 then (ρ j).2 k else (ρ i).2 k)) j).1))) hx hb hw_X2 hown hK hP (by omega) (cW_row (i := j) (by omega)) rfl (by decide) hf_15 rfl rfl dX2_copyFrom_17 ?_
  refine k_put (q0 := 2 * i) (k := 1) (T := TX2) (Nf := 2) (ci := 2) (C := RX2) (v := .int (nI (((va_up ρ i ((ρ i).1, fun k => if k < 64 then (ρ j).2 k else (ρ i).2 k)) j).1))) (Wd' := cW ad cy (va_up (va_up ρ i ((ρ i).1, fun k => if k < 64 then (ρ j).2 k else (ρ i).2 k)) i (((va_up ρ i ((ρ i).1, fun k => if k < 64 then (ρ j).2 k else (ρ i).2 k)) j).1, ((va_up ρ i ((ρ i).1, fun k => if k < 64 then (ρ j).2 k else (ρ i).2 k)) i).2)) (x)) hx hb hw_X2 tyX2 tyX2_ok nmX2 hown hK hI hP hS (by omega) (cW_row (i := i) (by omega)) rfl (by decide) hf_15 rfl rfl (ty := .int) (by decide +kernel) rfl rfl (Nat.le_of_ble_eq_true rfl) (cW_up_len (by omega)) dX2_copyFrom_20 (fun H locs hP hS => ?_)
  have hP := cpy_e hij hP
  refine k_vret hx hb hr hlocks (va_up ρ i (ρ j), x) hP hS dX2_copyFrom_23 ?_
  exact ⟨rfl, rfl⟩
set_option maxHeartbeats 4000000 in
set_option maxRecDepth 100000 in
theorem c_X2_scale (l : Launch) (D : va_G) (cy : Nat → ClassId) (ad : Nat → Nat) (hI : wI 143 ad) (ρ : Nat → kR) (x : kX) (i : Nat) (f : Nat) (hi : i < 59) (hlen : (ρ i).1 ≤ 64) (hf : f < 257) (hrb : ∀ k, (ρ i).2 k < 257) : kM l yX2_scale wsX2_scale ({ frames := 2, cells := 0, slots := 0, locals := 44 } : Room) D cy 143 ad (cWf ad cy) (cW ad cy (ρ) (x)) [.ref (ad (2 * i)), .int (nI (f))] (kF none (va_up ρ i ((ρ i).1, scl (ρ i).2 f (ρ i).1), x)) := by
  refine k_met cX2_scale 3 none (by decide) rfl (Nat.le_of_ble_eq_true rfl) ?_
  intro p e s m below meth c ls hx hb hr hts hown hlocks hml hK hP hS hl
  have hl : lv_has ls 3 [(0, .ref (ad (2 * i))), (1, .int (nI (f)))] := hl
  have hown : s.vm.findClass RX2 = some m.cls := hown
  have hf_15 := hts (.fieldLink RX2 15 "TurnedRows$Row" "length" "I") (by decide +kernel)
  have hw_X2 : ∀ qw ∈ wsX20, qw.before ([.ref (ad (2 * i)), .int (nI (f))] : List Value).toArray s = true := fun qw h => hts qw ((by decide +kernel : ∀ qw ∈ wsX20, qw ∈ wsX2_scale) qw h)
  refine lv_iconst (v := nI (0)) hx hb dX2_scale_0 rfl ?_
  refine lv_istore_n (lv' := [(2, .int (nI (0))), (0, .ref (ad (2 * i))), (1, .int (nI (f)))]) hx hb dX2_scale_1 rfl hl (by decide) rfl (fun ls hl => ?_)
  have lp2 : ∀ (fu : Nat) (k : Nat) (ρ' : Nat → kR), (k ≤ (ρ i).1) → (ρ' = va_up ρ i ((ρ i).1, scl (ρ i).2 f k)) → (ρ i).1 - k < fu → ∀ (H : Heap) (locs : List Loc), va_P D vwCl (wL 143 ad (cW ad cy (ρ') (x))) H → va_S (wA 143 ad) s.heap H locs → ∀ (ls : Array Slot), lv_has ls 3 [(2, .int (nI (k))), (0, .ref (ad (2 * i))), (1, .int (nI (f)))] → W p l e ({ frames := 2, cells := 0, slots := 0, locals := 44 } : Room) s m ([.ref (ad (2 * i)), .int (nI (f))] : List Value).toArray below meth c H locs 0 0 (MQ below (kQ D 143 ad (cWf ad cy) (kF none (va_up ρ i ((ρ i).1, scl (ρ i).2 f (ρ i).1), x))) ([.ref (ad (2 * i)), .int (nI (f))] : List Value).toArray s 0 0 (wA 143 ad)) (F0 m 2 ls []) := by
    intro fu
    induction fu with
    | zero => intro k ρ' hk hρ hfu; exact absurd hfu (Nat.not_lt_zero _)
    | succ fu ih2 =>
      intro k ρ' hk hρ hfu H locs hP hS ls hl
      have e1 : ρ' i = ((ρ i).1, scl (ρ i).2 f k) := by rw [hρ, va_up_self]
      have hm := mul_lt_257 (hrb k) hf
      refine lv_iload_n hx hb dX2_scale_2 rfl (lv_at hl 0 rfl) ?_
      refine lv_aload_n hx hb dX2_scale_3 rfl (lv_at hl 1 rfl) ?_
      refine k_get (q0 := 2 * i) (k := 1) (T := TX2) (Nf := 2) (ci := 2) (C := RX2) (v := .int (nI ((ρ' i).1))) hx hb hw_X2 hown hK hP (by omega) (cW_row (i := i) (by omega)) rfl (by decide) hf_15 rfl rfl dX2_scale_4 ?_
      refine n_push (a := (ρ i).1) (by rw [e1]) ?_
      refine n_icmp_ge (tgt := 28) hx hb (by omega) (by omega) dX2_scale_7 (by decide) (fun h_1 => ?_) (fun h_1 => ?_)
      · skip
        have hk2 : k = (ρ i).1 := by omega
        rw [hρ, hk2] at hP
        refine k_vret hx hb hr hlocks (va_up ρ i ((ρ i).1, scl (ρ i).2 f (ρ i).1), x) hP hS dX2_scale_28 ?_
        exact ⟨rfl, rfl⟩
      · skip
        refine lv_aload_n hx hb dX2_scale_10 rfl (lv_at hl 1 rfl) ?_
        refine lv_iload_n hx hb dX2_scale_11 rfl (lv_at hl 0 rfl) ?_
        refine lv_aload_n hx hb dX2_scale_12 rfl (lv_at hl 1 rfl) ?_
        refine lv_iload_n hx hb dX2_scale_13 rfl (lv_at hl 0 rfl) ?_
        refine k_callVr (rest := [.int (nI (k)), .ref (ad (2 * i))]) (nL := 3) ⟨hx, hb, hml, hown, hts⟩ (c_X2_at l D cy ad hI ρ' x i k (by first | assumption | omega) (by first | assumption | omega)) (cwV 1 hts gX2_scale_X2_at rfl rfl rfl (by decide +kernel) ⟨Nat.le_of_ble_eq_true rfl, Nat.le_of_ble_eq_true rfl⟩) hK hP hS (fun _ h => h) (q0 := 2 * i) (ci := 2) rfl (by omega) (cW_row (i := i) (by omega)) rfl rfl rfl hl.1 rfl (Nat.le_of_ble_eq_true rfl) dX2_scale_14 ⟨Nat.zero_le _, Nat.zero_le _⟩ (fun H locs hP hS => ?_)
        have hP : va_P D vwCl (wL 143 ad (cW ad cy (ρ') (x))) H := hP
        refine n_push (a := (ρ i).2 k) (by rw [e1]; exact congrArg nI (scl_k _ _ _)) ?_
        refine lv_iload_n hx hb dX2_scale_17 rfl (lv_at hl 2 rfl) ?_
        refine n_imul hx hb dX2_scale_18 ?_
        refine k_callVv (rest := []) (nL := 3) ⟨hx, hb, hml, hown, hts⟩ (c_X2_write l D cy ad hI ρ' x i k (nI (((ρ i).2 k) * f)) (by first | assumption | omega) (by first | assumption | omega)) (cwV 2 hts gX2_scale_X2_write rfl rfl rfl (by decide +kernel) ⟨Nat.le_of_ble_eq_true rfl, Nat.le_of_ble_eq_true rfl⟩) hK hP hS (fun _ h => h) (q0 := 2 * i) (ci := 2) rfl (by omega) (cW_row (i := i) (by omega)) rfl rfl rfl hl.1 rfl (Nat.le_of_ble_eq_true rfl) dX2_scale_19 ⟨Nat.zero_le _, Nat.zero_le _⟩ (fun H locs hP hS => ?_)
        have hP : va_P D vwCl (wL 143 ad (cW ad cy (va_up ρ' i ((ρ' i).1, va_up (ρ' i).2 k (kmod (nI (((ρ i).2 k) * f)).toInt))) (x))) H := hP
        refine lv_iinc (v := nI (k + 1)) (lv' := [(2, .int (nI (k + 1))), (0, .ref (ad (2 * i))), (1, .int (nI (f)))]) hx hb dX2_scale_22 hl (k := 0) rfl (nI_inc _) (by decide) rfl (fun ls hl => ?_)
        refine lv_goto (tgt := 2) hx hb dX2_scale_25 (by decide) ?_
        exact ih2 (k + 1) (va_up ρ' i ((ρ' i).1, va_up (ρ' i).2 k (kmod (nI (((ρ i).2 k) * f)).toInt))) (by first | assumption | omega) (by rw [e1, kmod_nI (by omega), hρ, up_up, scl_s]) (by omega) _ _ hP hS _ hl
  exact lp2 (_ + 1) (0) (ρ) (Nat.zero_le _) (by rw [scl_0, up_same]) (Nat.lt_succ_self _) _ _ hP hS _ hl
set_option maxHeartbeats 4000000 in
set_option maxRecDepth 100000 in
theorem c_X2_degree (l : Launch) (D : va_G) (cy : Nat → ClassId) (ad : Nat → Nat) (hI : wI 143 ad) (ρ : Nat → kR) (x : kX) (i : Nat) (hi : i < 59) (hlen : (ρ i).1 ≤ 64) (hrb : ∀ k, (ρ i).2 k < 257) : kM l yX2_degree wsX2_degree ({ frames := 1, cells := 0, slots := 0, locals := 21 } : Room) D cy 143 ad (cWf ad cy) (cW ad cy (ρ) (x)) [.ref (ad (2 * i))] (kF (some (.int (dV (dg (ρ i).2 (ρ i).1)))) (ρ, x)) := by
  refine k_met cX2_degree 2 (some .int) (by decide) rfl (Nat.le_of_ble_eq_true rfl) ?_
  intro p e s m below meth c ls hx hb hr hts hown hlocks hml hK hP hS hl
  have hl : lv_has ls 2 [(0, .ref (ad (2 * i)))] := hl
  have hown : s.vm.findClass RX2 = some m.cls := hown
  have hf_15 := hts (.fieldLink RX2 15 "TurnedRows$Row" "length" "I") (by decide +kernel)
  have hw_X2 : ∀ qw ∈ wsX20, qw.before ([.ref (ad (2 * i))] : List Value).toArray s = true := fun qw h => hts qw ((by decide +kernel : ∀ qw ∈ wsX20, qw ∈ wsX2_degree) qw h)
  refine lv_aload_n hx hb dX2_degree_0 rfl (lv_at hl 0 rfl) ?_
  refine k_get (q0 := 2 * i) (k := 1) (T := TX2) (Nf := 2) (ci := 2) (C := RX2) (v := .int (nI ((ρ i).1))) hx hb hw_X2 hown hK hP (by omega) (cW_row (i := i) (by omega)) rfl (by decide) hf_15 rfl rfl dX2_degree_1 ?_
  refine lv_iconst (v := nI (1)) hx hb dX2_degree_4 rfl ?_
  refine lv_isub hx hb dX2_degree_5 ?_
  refine lv_istore_n (lv' := [(1, .int (nI ((ρ i).1) - 1)), (0, .ref (ad (2 * i)))]) hx hb dX2_degree_6 rfl hl (by decide) rfl (fun ls hl => ?_)
  have lp7 : ∀ (fu : Nat) (k : Nat), (k ≤ (ρ i).1) → (dg (ρ i).2 k = dg (ρ i).2 (ρ i).1) → k < fu → ∀ (H : Heap) (locs : List Loc), va_P D vwCl (wL 143 ad (cW ad cy (ρ) (x))) H → va_S (wA 143 ad) s.heap H locs → ∀ (ls : Array Slot), lv_has ls 2 [(1, .int (nI (k) - 1)), (0, .ref (ad (2 * i)))] → W p l e ({ frames := 1, cells := 0, slots := 0, locals := 21 } : Room) s m ([.ref (ad (2 * i))] : List Value).toArray below meth c H locs 0 0 (MQ below (kQ D 143 ad (cWf ad cy) (kF (some (.int (dV (dg (ρ i).2 (ρ i).1)))) (ρ, x))) ([.ref (ad (2 * i))] : List Value).toArray s 0 0 (wA 143 ad)) (F0 m 7 ls []) := by
    intro fu
    induction fu with
    | zero => intro k hk he hfu; exact absurd hfu (Nat.not_lt_zero _)
    | succ fu ih7 =>
      intro k hk he hfu H locs hP hS ls hl
      refine lv_iload_n hx hb dX2_degree_7 rfl (lv_at hl 0 rfl) ?_
      refine n_down (n := k) (tgt := 27) hx hb (by omega) dX2_degree_8 (by decide) (fun h_1 => ?_) (fun h_1 => ?_)
      · skip
        refine lv_bipush (v := (-6 : Int32)) hx hb dX2_degree_27 (by decide) ?_
        refine k_iret hx hb hr hlocks (ρ, x) hP hS dX2_degree_29 ?_
        exact ⟨congrArg (fun q => some (Value.int q)) (by rw [← he, h_1]; rfl), rfl⟩
      · skip
        obtain ⟨j, rfl⟩ : ∃ j, k = j + 1 := ⟨k - 1, by omega⟩
        rw [nI_pred] at hl
        refine lv_aload_n hx hb dX2_degree_11 rfl (lv_at hl 1 rfl) ?_
        refine lv_iload_n hx hb dX2_degree_12 rfl (lv_at hl 0 rfl) ?_
        refine k_callVr (rest := []) (nL := 2) ⟨hx, hb, hml, hown, hts⟩ (c_X2_at l D cy ad hI ρ x i j (by first | assumption | omega) (by first | assumption | omega)) (cwV 1 hts gX2_degree_X2_at rfl rfl rfl (by decide +kernel) ⟨Nat.le_of_ble_eq_true rfl, Nat.le_of_ble_eq_true rfl⟩) hK hP hS (fun _ h => h) (q0 := 2 * i) (ci := 2) rfl (by omega) (cW_row (i := i) (by omega)) rfl rfl rfl hl.1 rfl (Nat.le_of_ble_eq_true rfl) dX2_degree_13 ⟨Nat.zero_le _, Nat.zero_le _⟩ (fun H locs hP hS => ?_)
        have hP : va_P D vwCl (wL 143 ad (cW ad cy (ρ) (x))) H := hP
        have hbj := hrb j
        refine n_ifeq (tgt := 21) hx hb (by omega) dX2_degree_16 (by decide) (fun h_2 => ?_) (fun h_2 => ?_)
        · skip
          refine lv_iinc (v := nI (j) - 1) (lv' := [(1, .int (nI (j) - 1)), (0, .ref (ad (2 * i)))]) hx hb dX2_degree_21 hl (k := 0) rfl (nI_dec' _) (by decide) rfl (fun ls hl => ?_)
          refine lv_goto (tgt := 7) hx hb dX2_degree_24 (by decide) ?_
          exact ih7 (j) (by omega) (by rw [← he, dg_zero _ h_2]) (by omega) _ _ hP hS _ hl
        · skip
          refine lv_iload_n hx hb dX2_degree_19 rfl (lv_at hl 0 rfl) ?_
          refine k_iret hx hb hr hlocks (ρ, x) hP hS dX2_degree_20 ?_
          exact ⟨congrArg (fun q => some (Value.int q)) (by rw [← he, dg_nz _ h_2]; rfl), rfl⟩
  exact lp7 (_ + 1) ((ρ i).1) (Nat.le_refl _) rfl (Nat.lt_succ_self _) _ _ hP hS _ hl
set_option maxHeartbeats 4000000 in
set_option maxRecDepth 100000 in
theorem c_X2_countNotZero (l : Launch) (D : va_G) (cy : Nat → ClassId) (ad : Nat → Nat) (hI : wI 143 ad) (ρ : Nat → kR) (x : kX) (i : Nat) (hi : i < 59) (hlen : (ρ i).1 ≤ 64) (hrb : ∀ k, (ρ i).2 k < 257) : kM l yX2_countNotZero wsX2_countNotZero ({ frames := 1, cells := 0, slots := 0, locals := 21 } : Room) D cy 143 ad (cWf ad cy) (cW ad cy (ρ) (x)) [.ref (ad (2 * i))] (kF (some (.int (nI (cn (ρ i).2 (ρ i).1)))) (ρ, x)) := by
  refine k_met cX2_countNotZero 3 (some .int) (by decide) rfl (Nat.le_of_ble_eq_true rfl) ?_
  intro p e s m below meth c ls hx hb hr hts hown hlocks hml hK hP hS hl
  have hl : lv_has ls 3 [(0, .ref (ad (2 * i)))] := hl
  have hown : s.vm.findClass RX2 = some m.cls := hown
  have hf_15 := hts (.fieldLink RX2 15 "TurnedRows$Row" "length" "I") (by decide +kernel)
  have hw_X2 : ∀ qw ∈ wsX20, qw.before ([.ref (ad (2 * i))] : List Value).toArray s = true := fun qw h => hts qw ((by decide +kernel : ∀ qw ∈ wsX20, qw ∈ wsX2_countNotZero) qw h)
  refine lv_iconst (v := nI (0)) hx hb dX2_countNotZero_0 rfl ?_
  refine lv_istore_n (lv' := [(1, .int (nI (0))), (0, .ref (ad (2 * i)))]) hx hb dX2_countNotZero_1 rfl hl (by decide) rfl (fun ls hl => ?_)
  refine lv_iconst (v := nI (0)) hx hb dX2_countNotZero_2 rfl ?_
  refine lv_istore_n (lv' := [(2, .int (nI (0))), (1, .int (nI (0))), (0, .ref (ad (2 * i)))]) hx hb dX2_countNotZero_3 rfl hl (by decide) rfl (fun ls hl => ?_)
  have lp4 : ∀ (fu : Nat) (k : Nat) (t : Nat), (k ≤ (ρ i).1) → (t = cn (ρ i).2 k) → (ρ i).1 - k < fu → ∀ (H : Heap) (locs : List Loc), va_P D vwCl (wL 143 ad (cW ad cy (ρ) (x))) H → va_S (wA 143 ad) s.heap H locs → ∀ (ls : Array Slot), lv_has ls 3 [(2, .int (nI (k))), (1, .int (nI (t))), (0, .ref (ad (2 * i)))] → W p l e ({ frames := 1, cells := 0, slots := 0, locals := 21 } : Room) s m ([.ref (ad (2 * i))] : List Value).toArray below meth c H locs 0 0 (MQ below (kQ D 143 ad (cWf ad cy) (kF (some (.int (nI (cn (ρ i).2 (ρ i).1)))) (ρ, x))) ([.ref (ad (2 * i))] : List Value).toArray s 0 0 (wA 143 ad)) (F0 m 4 ls []) := by
    intro fu
    induction fu with
    | zero => intro k t hk he hfu; exact absurd hfu (Nat.not_lt_zero _)
    | succ fu ih4 =>
      intro k t hk he hfu H locs hP hS ls hl
      refine lv_iload_n hx hb dX2_countNotZero_4 rfl (lv_at hl 0 rfl) ?_
      refine lv_aload_n hx hb dX2_countNotZero_5 rfl (lv_at hl 2 rfl) ?_
      refine k_get (q0 := 2 * i) (k := 1) (T := TX2) (Nf := 2) (ci := 2) (C := RX2) (v := .int (nI ((ρ i).1))) hx hb hw_X2 hown hK hP (by omega) (cW_row (i := i) (by omega)) rfl (by decide) hf_15 rfl rfl dX2_countNotZero_6 ?_
      refine n_icmp_ge (tgt := 29) hx hb (by omega) (by omega) dX2_countNotZero_9 (by decide) (fun h_1 => ?_) (fun h_1 => ?_)
      · skip
        refine lv_iload_n hx hb dX2_countNotZero_29 rfl (lv_at hl 1 rfl) ?_
        refine k_iret hx hb hr hlocks (ρ, x) hP hS dX2_countNotZero_30 ?_
        exact ⟨rN (by rw [he, show k = (ρ i).1 by omega]), rfl⟩
      · skip
        refine lv_aload_n hx hb dX2_countNotZero_12 rfl (lv_at hl 2 rfl) ?_
        refine lv_iload_n hx hb dX2_countNotZero_13 rfl (lv_at hl 0 rfl) ?_
        refine k_callVr (rest := []) (nL := 3) ⟨hx, hb, hml, hown, hts⟩ (c_X2_at l D cy ad hI ρ x i k (by first | assumption | omega) (by first | assumption | omega)) (cwV 1 hts gX2_countNotZero_X2_at rfl rfl rfl (by decide +kernel) ⟨Nat.le_of_ble_eq_true rfl, Nat.le_of_ble_eq_true rfl⟩) hK hP hS (fun _ h => h) (q0 := 2 * i) (ci := 2) rfl (by omega) (cW_row (i := i) (by omega)) rfl rfl rfl hl.1 rfl (Nat.le_of_ble_eq_true rfl) dX2_countNotZero_14 ⟨Nat.zero_le _, Nat.zero_le _⟩ (fun H locs hP hS => ?_)
        have hP : va_P D vwCl (wL 143 ad (cW ad cy (ρ) (x))) H := hP
        have hbj := hrb k
        refine n_ifeq (tgt := 23) hx hb (by omega) dX2_countNotZero_17 (by decide) (fun h_2 => ?_) (fun h_2 => ?_)
        · skip
          refine lv_iinc (v := nI (k + 1)) (lv' := [(2, .int (nI (k + 1))), (1, .int (nI (t))), (0, .ref (ad (2 * i)))]) hx hb dX2_countNotZero_23 hl (k := 0) rfl (nI_inc _) (by decide) rfl (fun ls hl => ?_)
          refine lv_goto (tgt := 4) hx hb dX2_countNotZero_26 (by decide) ?_
          exact ih4 (k + 1) (t) (by omega) (by rw [cn_zero _ h_2]; exact he) (by omega) _ _ hP hS _ hl
        · skip
          refine lv_iinc (v := nI (t + 1)) (lv' := [(1, .int (nI (t + 1))), (2, .int (nI (k))), (0, .ref (ad (2 * i)))]) hx hb dX2_countNotZero_20 hl (k := 1) rfl (nI_inc _) (by decide) rfl (fun ls hl => ?_)
          refine lv_iinc (v := nI (k + 1)) (lv' := [(2, .int (nI (k + 1))), (1, .int (nI (t + 1))), (0, .ref (ad (2 * i)))]) hx hb dX2_countNotZero_23 hl (k := 1) rfl (nI_inc _) (by decide) rfl (fun ls hl => ?_)
          refine lv_goto (tgt := 4) hx hb dX2_countNotZero_26 (by decide) ?_
          exact ih4 (k + 1) (t + 1) (by omega) (by rw [cn_nz _ h_2, he]) (by omega) _ _ hP hS _ hl
  exact lp4 (_ + 1) (0) (0) (Nat.zero_le _) rfl (Nat.lt_succ_self _) _ _ hP hS _ hl
set_option maxHeartbeats 4000000 in
set_option maxRecDepth 100000 in
theorem c_X2_total (l : Launch) (D : va_G) (cy : Nat → ClassId) (ad : Nat → Nat) (hI : wI 143 ad) (ρ : Nat → kR) (x : kX) (i : Nat) (hi : i < 59) (hlen : (ρ i).1 ≤ 64) (hrb : ∀ k, (ρ i).2 k < 257) : kM l yX2_total wsX2_total ({ frames := 1, cells := 0, slots := 0, locals := 21 } : Room) D cy 143 ad (cWf ad cy) (cW ad cy (ρ) (x)) [.ref (ad (2 * i))] (kF (some (.int (nI (sm (ρ i).2 (ρ i).1)))) (ρ, x)) := by
  refine k_met cX2_total 3 (some .int) (by decide) rfl (Nat.le_of_ble_eq_true rfl) ?_
  intro p e s m below meth c ls hx hb hr hts hown hlocks hml hK hP hS hl
  have hl : lv_has ls 3 [(0, .ref (ad (2 * i)))] := hl
  have hown : s.vm.findClass RX2 = some m.cls := hown
  have hf_15 := hts (.fieldLink RX2 15 "TurnedRows$Row" "length" "I") (by decide +kernel)
  have hw_X2 : ∀ qw ∈ wsX20, qw.before ([.ref (ad (2 * i))] : List Value).toArray s = true := fun qw h => hts qw ((by decide +kernel : ∀ qw ∈ wsX20, qw ∈ wsX2_total) qw h)
  refine lv_iconst (v := nI (0)) hx hb dX2_total_0 rfl ?_
  refine lv_istore_n (lv' := [(1, .int (nI (0))), (0, .ref (ad (2 * i)))]) hx hb dX2_total_1 rfl hl (by decide) rfl (fun ls hl => ?_)
  refine lv_iconst (v := nI (0)) hx hb dX2_total_2 rfl ?_
  refine lv_istore_n (lv' := [(2, .int (nI (0))), (1, .int (nI (0))), (0, .ref (ad (2 * i)))]) hx hb dX2_total_3 rfl hl (by decide) rfl (fun ls hl => ?_)
  have lp4 : ∀ (fu : Nat) (k : Nat) (t : Nat), (k ≤ (ρ i).1) → (t = sm (ρ i).2 k) → (ρ i).1 - k < fu → ∀ (H : Heap) (locs : List Loc), va_P D vwCl (wL 143 ad (cW ad cy (ρ) (x))) H → va_S (wA 143 ad) s.heap H locs → ∀ (ls : Array Slot), lv_has ls 3 [(2, .int (nI (k))), (1, .int (nI (t))), (0, .ref (ad (2 * i)))] → W p l e ({ frames := 1, cells := 0, slots := 0, locals := 21 } : Room) s m ([.ref (ad (2 * i))] : List Value).toArray below meth c H locs 0 0 (MQ below (kQ D 143 ad (cWf ad cy) (kF (some (.int (nI (sm (ρ i).2 (ρ i).1)))) (ρ, x))) ([.ref (ad (2 * i))] : List Value).toArray s 0 0 (wA 143 ad)) (F0 m 4 ls []) := by
    intro fu
    induction fu with
    | zero => intro k t hk he hfu; exact absurd hfu (Nat.not_lt_zero _)
    | succ fu ih4 =>
      intro k t hk he hfu H locs hP hS ls hl
      refine lv_iload_n hx hb dX2_total_4 rfl (lv_at hl 0 rfl) ?_
      refine lv_aload_n hx hb dX2_total_5 rfl (lv_at hl 2 rfl) ?_
      refine k_get (q0 := 2 * i) (k := 1) (T := TX2) (Nf := 2) (ci := 2) (C := RX2) (v := .int (nI ((ρ i).1))) hx hb hw_X2 hown hK hP (by omega) (cW_row (i := i) (by omega)) rfl (by decide) hf_15 rfl rfl dX2_total_6 ?_
      refine n_icmp_ge (tgt := 26) hx hb (by omega) (by omega) dX2_total_9 (by decide) (fun h_1 => ?_) (fun h_1 => ?_)
      · skip
        refine lv_iload_n hx hb dX2_total_26 rfl (lv_at hl 1 rfl) ?_
        refine k_iret hx hb hr hlocks (ρ, x) hP hS dX2_total_27 ?_
        exact ⟨rN (by rw [he, show k = (ρ i).1 by omega]), rfl⟩
      · skip
        refine lv_iload_n hx hb dX2_total_12 rfl (lv_at hl 1 rfl) ?_
        refine lv_aload_n hx hb dX2_total_13 rfl (lv_at hl 2 rfl) ?_
        refine lv_iload_n hx hb dX2_total_14 rfl (lv_at hl 0 rfl) ?_
        refine k_callVr (rest := [.int (nI (t))]) (nL := 3) ⟨hx, hb, hml, hown, hts⟩ (c_X2_at l D cy ad hI ρ x i k (by first | assumption | omega) (by first | assumption | omega)) (cwV 1 hts gX2_total_X2_at rfl rfl rfl (by decide +kernel) ⟨Nat.le_of_ble_eq_true rfl, Nat.le_of_ble_eq_true rfl⟩) hK hP hS (fun _ h => h) (q0 := 2 * i) (ci := 2) rfl (by omega) (cW_row (i := i) (by omega)) rfl rfl rfl hl.1 rfl (Nat.le_of_ble_eq_true rfl) dX2_total_15 ⟨Nat.zero_le _, Nat.zero_le _⟩ (fun H locs hP hS => ?_)
        have hP : va_P D vwCl (wL 143 ad (cW ad cy (ρ) (x))) H := hP
        refine n_iadd hx hb dX2_total_18 ?_
        refine lv_istore_n (lv' := [(1, .int (nI (t + ((ρ i).2 k)))), (2, .int (nI (k))), (0, .ref (ad (2 * i)))]) hx hb dX2_total_19 rfl hl (by decide) rfl (fun ls hl => ?_)
        refine lv_iinc (v := nI (k + 1)) (lv' := [(2, .int (nI (k + 1))), (1, .int (nI (t + ((ρ i).2 k)))), (0, .ref (ad (2 * i)))]) hx hb dX2_total_20 hl (k := 1) rfl (nI_inc _) (by decide) rfl (fun ls hl => ?_)
        refine lv_goto (tgt := 4) hx hb dX2_total_23 (by decide) ?_
        exact ih4 (k + 1) (t + (ρ i).2 k) (by omega) (by rw [he]; rfl) (by omega) _ _ hP hS _ hl
  exact lp4 (_ + 1) (0) (0) (Nat.zero_le _) rfl (Nat.lt_succ_self _) _ _ hP hS _ hl
set_option maxHeartbeats 4000000 in
set_option maxRecDepth 100000 in
theorem c_X2_valueAt (l : Launch) (D : va_G) (cy : Nat → ClassId) (ad : Nat → Nat) (hI : wI 143 ad) (ρ : Nat → kR) (x : kX) (i : Nat) (z : Nat) (hi : i < 59) (hlen : (ρ i).1 ≤ 64) (hrb : ∀ k, (ρ i).2 k < 257) (hz : z < 257) : kM l yX2_valueAt wsX2_valueAt ({ frames := 1, cells := 0, slots := 0, locals := 21 } : Room) D cy 143 ad (cWf ad cy) (cW ad cy (ρ) (x)) [.ref (ad (2 * i)), .int (nI (z))] (kF (some (.int (nI (vx (ρ i) z)))) (ρ, x)) := by
  refine k_met cX2_valueAt 4 (some .int) (by decide) rfl (Nat.le_of_ble_eq_true rfl) ?_
  intro p e s m below meth c ls hx hb hr hts hown hlocks hml hK hP hS hl
  have hl : lv_has ls 4 [(0, .ref (ad (2 * i))), (1, .int (nI (z)))] := hl
  have hown : s.vm.findClass RX2 = some m.cls := hown
  have hf_15 := hts (.fieldLink RX2 15 "TurnedRows$Row" "length" "I") (by decide +kernel)
  have hw_X2 : ∀ qw ∈ wsX20, qw.before ([.ref (ad (2 * i)), .int (nI (z))] : List Value).toArray s = true := fun qw h => hts qw ((by decide +kernel : ∀ qw ∈ wsX20, qw ∈ wsX2_valueAt) qw h)
  refine lv_iconst (v := nI (0)) hx hb dX2_valueAt_0 rfl ?_
  refine lv_istore_n (lv' := [(2, .int (nI (0))), (0, .ref (ad (2 * i))), (1, .int (nI (z)))]) hx hb dX2_valueAt_1 rfl hl (by decide) rfl (fun ls hl => ?_)
  refine lv_aload_n hx hb dX2_valueAt_2 rfl (lv_at hl 1 rfl) ?_
  refine k_get (q0 := 2 * i) (k := 1) (T := TX2) (Nf := 2) (ci := 2) (C := RX2) (v := .int (nI ((ρ i).1))) hx hb hw_X2 hown hK hP (by omega) (cW_row (i := i) (by omega)) rfl (by decide) hf_15 rfl rfl dX2_valueAt_3 ?_
  refine lv_iconst (v := nI (1)) hx hb dX2_valueAt_6 rfl ?_
  refine lv_isub hx hb dX2_valueAt_7 ?_
  refine lv_istore_n (lv' := [(3, .int (nI ((ρ i).1) - 1)), (2, .int (nI (0))), (0, .ref (ad (2 * i))), (1, .int (nI (z)))]) hx hb dX2_valueAt_8 rfl hl (by decide) rfl (fun ls hl => ?_)
  have lp9 : ∀ (fu : Nat) (k : Nat) (t : Nat), (k ≤ (ρ i).1) → (t < 257) → (hn (ρ i).2 z k t = vx (ρ i) z) → k < fu → ∀ (H : Heap) (locs : List Loc), va_P D vwCl (wL 143 ad (cW ad cy (ρ) (x))) H → va_S (wA 143 ad) s.heap H locs → ∀ (ls : Array Slot), lv_has ls 4 [(3, .int (nI (k) - 1)), (2, .int (nI (t))), (0, .ref (ad (2 * i))), (1, .int (nI (z)))] → W p l e ({ frames := 1, cells := 0, slots := 0, locals := 21 } : Room) s m ([.ref (ad (2 * i)), .int (nI (z))] : List Value).toArray below meth c H locs 0 0 (MQ below (kQ D 143 ad (cWf ad cy) (kF (some (.int (nI (vx (ρ i) z)))) (ρ, x))) ([.ref (ad (2 * i)), .int (nI (z))] : List Value).toArray s 0 0 (wA 143 ad)) (F0 m 9 ls []) := by
    intro fu
    induction fu with
    | zero => intro k t hk ht he hfu; exact absurd hfu (Nat.not_lt_zero _)
    | succ fu ih9 =>
      intro k t hk ht he hfu H locs hP hS ls hl
      refine lv_iload_n hx hb dX2_valueAt_9 rfl (lv_at hl 0 rfl) ?_
      refine n_down (n := k) (tgt := 33) hx hb (by omega) dX2_valueAt_10 (by decide) (fun h_1 => ?_) (fun h_1 => ?_)
      · skip
        refine lv_iload_n hx hb dX2_valueAt_33 rfl (lv_at hl 1 rfl) ?_
        refine k_iret hx hb hr hlocks (ρ, x) hP hS dX2_valueAt_34 ?_
        exact ⟨rN (by rw [← he, h_1]; rfl), rfl⟩
      · skip
        obtain ⟨j, rfl⟩ : ∃ j, k = j + 1 := ⟨k - 1, by omega⟩
        rw [nI_pred] at hl
        refine lv_iload_n hx hb dX2_valueAt_13 rfl (lv_at hl 1 rfl) ?_
        refine lv_iload_n hx hb dX2_valueAt_14 rfl (lv_at hl 3 rfl) ?_
        refine n_imul hx hb dX2_valueAt_15 ?_
        refine lv_aload_n hx hb dX2_valueAt_16 rfl (lv_at hl 2 rfl) ?_
        refine lv_iload_n hx hb dX2_valueAt_17 rfl (lv_at hl 0 rfl) ?_
        refine k_callVr (rest := [.int (nI (t * z))]) (nL := 4) ⟨hx, hb, hml, hown, hts⟩ (c_X2_at l D cy ad hI ρ x i j (by first | assumption | omega) (by first | assumption | omega)) (cwV 1 hts gX2_valueAt_X2_at rfl rfl rfl (by decide +kernel) ⟨Nat.le_of_ble_eq_true rfl, Nat.le_of_ble_eq_true rfl⟩) hK hP hS (fun _ h => h) (q0 := 2 * i) (ci := 2) rfl (by omega) (cW_row (i := i) (by omega)) rfl rfl rfl hl.1 rfl (Nat.le_of_ble_eq_true rfl) dX2_valueAt_18 ⟨Nat.zero_le _, Nat.zero_le _⟩ (fun H locs hP hS => ?_)
        have hP : va_P D vwCl (wL 143 ad (cW ad cy (ρ) (x))) H := hP
        refine n_iadd hx hb dX2_valueAt_21 ?_
        refine lv_sipush (v := nI (257)) hx hb dX2_valueAt_22 rfl ?_
        have hbj := hrb j
        have hm := mul_lt_257 ht hz
        refine n_irem hx hb (by omega) (by omega) (by omega) dX2_valueAt_25  ?_
        refine lv_istore_n (lv' := [(2, .int (nI (((t * z) + ((ρ i).2 j)) % 257))), (3, .int (nI (j))), (0, .ref (ad (2 * i))), (1, .int (nI (z)))]) hx hb dX2_valueAt_26 rfl hl (by decide) rfl (fun ls hl => ?_)
        refine lv_iinc (v := nI (j) - 1) (lv' := [(3, .int (nI (j) - 1)), (2, .int (nI (((t * z) + ((ρ i).2 j)) % 257))), (0, .ref (ad (2 * i))), (1, .int (nI (z)))]) hx hb dX2_valueAt_27 hl (k := 1) rfl (nI_dec' _) (by decide) rfl (fun ls hl => ?_)
        refine lv_goto (tgt := 9) hx hb dX2_valueAt_30 (by decide) ?_
        exact ih9 (j) ((t * z + (ρ i).2 j) % 257) (by omega) (Nat.mod_lt _ (by decide)) he (by omega) _ _ hP hS _ hl
  exact lp9 (_ + 1) ((ρ i).1) (0) (Nat.le_refl _) (by decide) rfl (Nat.lt_succ_self _) _ _ hP hS _ hl
set_option maxHeartbeats 4000000 in
set_option maxRecDepth 100000 in
theorem c_X2_countRoots (l : Launch) (D : va_G) (cy : Nat → ClassId) (ad : Nat → Nat) (hI : wI 143 ad) (ρ : Nat → kR) (x : kX) (i : Nat) (hi : i < 59) (hlen : (ρ i).1 ≤ 64) (hrb : ∀ k, (ρ i).2 k < 257) : kM l yX2_countRoots wsX2_countRoots ({ frames := 2, cells := 0, slots := 0, locals := 44 } : Room) D cy 143 ad (cWf ad cy) (cW ad cy (ρ) (x)) [.ref (ad (2 * i))] (kF (some (.int (nI (cq (vx (ρ i)) 257)))) (ρ, x)) := by
  refine k_met cX2_countRoots 3 (some .int) (by decide) rfl (Nat.le_of_ble_eq_true rfl) ?_
  intro p e s m below meth c ls hx hb hr hts hown hlocks hml hK hP hS hl
  have hl : lv_has ls 3 [(0, .ref (ad (2 * i)))] := hl
  have hown : s.vm.findClass RX2 = some m.cls := hown
  refine lv_iconst (v := nI (0)) hx hb dX2_countRoots_0 rfl ?_
  refine lv_istore_n (lv' := [(1, .int (nI (0))), (0, .ref (ad (2 * i)))]) hx hb dX2_countRoots_1 rfl hl (by decide) rfl (fun ls hl => ?_)
  refine lv_iconst (v := nI (0)) hx hb dX2_countRoots_2 rfl ?_
  refine lv_istore_n (lv' := [(2, .int (nI (0))), (1, .int (nI (0))), (0, .ref (ad (2 * i)))]) hx hb dX2_countRoots_3 rfl hl (by decide) rfl (fun ls hl => ?_)
  have lp4 : ∀ (fu : Nat) (k : Nat) (t : Nat), (k ≤ 257) → (t = cq (vx (ρ i)) k) → 257 - k < fu → ∀ (H : Heap) (locs : List Loc), va_P D vwCl (wL 143 ad (cW ad cy (ρ) (x))) H → va_S (wA 143 ad) s.heap H locs → ∀ (ls : Array Slot), lv_has ls 3 [(2, .int (nI (k))), (1, .int (nI (t))), (0, .ref (ad (2 * i)))] → W p l e ({ frames := 2, cells := 0, slots := 0, locals := 44 } : Room) s m ([.ref (ad (2 * i))] : List Value).toArray below meth c H locs 0 0 (MQ below (kQ D 143 ad (cWf ad cy) (kF (some (.int (nI (cq (vx (ρ i)) 257)))) (ρ, x))) ([.ref (ad (2 * i))] : List Value).toArray s 0 0 (wA 143 ad)) (F0 m 4 ls []) := by
    intro fu
    induction fu with
    | zero => intro k t hk he hfu; exact absurd hfu (Nat.not_lt_zero _)
    | succ fu ih4 =>
      intro k t hk he hfu H locs hP hS ls hl
      refine lv_iload_n hx hb dX2_countRoots_4 rfl (lv_at hl 0 rfl) ?_
      refine lv_sipush (v := nI (257)) hx hb dX2_countRoots_5 rfl ?_
      refine n_icmp_ge (tgt := 28) hx hb (by omega) (by omega) dX2_countRoots_8 (by decide) (fun h_1 => ?_) (fun h_1 => ?_)
      · skip
        refine lv_iload_n hx hb dX2_countRoots_28 rfl (lv_at hl 1 rfl) ?_
        refine k_iret hx hb hr hlocks (ρ, x) hP hS dX2_countRoots_29 ?_
        exact ⟨rN (by rw [he, show k = 257 by omega]), rfl⟩
      · skip
        refine lv_aload_n hx hb dX2_countRoots_11 rfl (lv_at hl 2 rfl) ?_
        refine lv_iload_n hx hb dX2_countRoots_12 rfl (lv_at hl 0 rfl) ?_
        refine k_callVr (rest := []) (nL := 3) ⟨hx, hb, hml, hown, hts⟩ (c_X2_valueAt l D cy ad hI ρ x i k (by first | assumption | omega) (by first | assumption | omega) (by first | assumption | omega) (by first | assumption | omega)) (cwV 1 hts gX2_countRoots_X2_valueAt rfl rfl rfl (by decide +kernel) ⟨Nat.le_of_ble_eq_true rfl, Nat.le_of_ble_eq_true rfl⟩) hK hP hS (fun _ h => h) (q0 := 2 * i) (ci := 2) rfl (by omega) (cW_row (i := i) (by omega)) rfl rfl rfl hl.1 rfl (Nat.le_of_ble_eq_true rfl) dX2_countRoots_13 ⟨Nat.zero_le _, Nat.zero_le _⟩ (fun H locs hP hS => ?_)
        have hP : va_P D vwCl (wL 143 ad (cW ad cy (ρ) (x))) H := hP
        have hv := vx_lt (ρ i) k
        refine n_ifne (tgt := 22) hx hb (by omega) dX2_countRoots_16 (by decide) (fun h_2 => ?_) (fun h_2 => ?_)
        · skip
          refine lv_iinc (v := nI (k + 1)) (lv' := [(2, .int (nI (k + 1))), (1, .int (nI (t))), (0, .ref (ad (2 * i)))]) hx hb dX2_countRoots_22 hl (k := 0) rfl (nI_inc _) (by decide) rfl (fun ls hl => ?_)
          refine lv_goto (tgt := 4) hx hb dX2_countRoots_25 (by decide) ?_
          exact ih4 (k + 1) (t) (by omega) (by rw [cq_nz _ h_2]; exact he) (by omega) _ _ hP hS _ hl
        · skip
          refine lv_iinc (v := nI (t + 1)) (lv' := [(1, .int (nI (t + 1))), (2, .int (nI (k))), (0, .ref (ad (2 * i)))]) hx hb dX2_countRoots_19 hl (k := 1) rfl (nI_inc _) (by decide) rfl (fun ls hl => ?_)
          refine lv_iinc (v := nI (k + 1)) (lv' := [(2, .int (nI (k + 1))), (1, .int (nI (t + 1))), (0, .ref (ad (2 * i)))]) hx hb dX2_countRoots_22 hl (k := 1) rfl (nI_inc _) (by decide) rfl (fun ls hl => ?_)
          refine lv_goto (tgt := 4) hx hb dX2_countRoots_25 (by decide) ?_
          exact ih4 (k + 1) (t + 1) (by omega) (by rw [cq_zero _ h_2, he]) (by omega) _ _ hP hS _ hl
  exact lp4 (_ + 1) (0) (0) (by omega) rfl (Nat.lt_succ_self _) _ _ hP hS _ hl
set_option maxHeartbeats 4000000 in
set_option maxRecDepth 100000 in
theorem c_X2_leastRoot (l : Launch) (D : va_G) (cy : Nat → ClassId) (ad : Nat → Nat) (hI : wI 143 ad) (ρ : Nat → kR) (x : kX) (i : Nat) (hi : i < 59) (hlen : (ρ i).1 ≤ 64) (hrb : ∀ k, (ρ i).2 k < 257) : kM l yX2_leastRoot wsX2_leastRoot ({ frames := 2, cells := 0, slots := 0, locals := 44 } : Room) D cy 143 ad (cWf ad cy) (cW ad cy (ρ) (x)) [.ref (ad (2 * i))] (kF (some (.int (fz (vx (ρ i)) 0 257))) (ρ, x)) := by
  refine k_met cX2_leastRoot 2 (some .int) (by decide) rfl (Nat.le_of_ble_eq_true rfl) ?_
  intro p e s m below meth c ls hx hb hr hts hown hlocks hml hK hP hS hl
  have hl : lv_has ls 2 [(0, .ref (ad (2 * i)))] := hl
  have hown : s.vm.findClass RX2 = some m.cls := hown
  refine lv_iconst (v := nI (0)) hx hb dX2_leastRoot_0 rfl ?_
  refine lv_istore_n (lv' := [(1, .int (nI (0))), (0, .ref (ad (2 * i)))]) hx hb dX2_leastRoot_1 rfl hl (by decide) rfl (fun ls hl => ?_)
  have lp2 : ∀ (fu : Nat) (k : Nat), (k ≤ 257) → (fz (vx (ρ i)) k (257 - k) = fz (vx (ρ i)) 0 257) → 257 - k < fu → ∀ (H : Heap) (locs : List Loc), va_P D vwCl (wL 143 ad (cW ad cy (ρ) (x))) H → va_S (wA 143 ad) s.heap H locs → ∀ (ls : Array Slot), lv_has ls 2 [(1, .int (nI (k))), (0, .ref (ad (2 * i)))] → W p l e ({ frames := 2, cells := 0, slots := 0, locals := 44 } : Room) s m ([.ref (ad (2 * i))] : List Value).toArray below meth c H locs 0 0 (MQ below (kQ D 143 ad (cWf ad cy) (kF (some (.int (fz (vx (ρ i)) 0 257))) (ρ, x))) ([.ref (ad (2 * i))] : List Value).toArray s 0 0 (wA 143 ad)) (F0 m 2 ls []) := by
    intro fu
    induction fu with
    | zero => intro k hk he hfu; exact absurd hfu (Nat.not_lt_zero _)
    | succ fu ih2 =>
      intro k hk he hfu H locs hP hS ls hl
      refine lv_iload_n hx hb dX2_leastRoot_2 rfl (lv_at hl 0 rfl) ?_
      refine lv_sipush (v := nI (257)) hx hb dX2_leastRoot_3 rfl ?_
      refine n_icmp_ge (tgt := 25) hx hb (by omega) (by omega) dX2_leastRoot_6 (by decide) (fun h_1 => ?_) (fun h_1 => ?_)
      · skip
        refine lv_bipush (v := (-6 : Int32)) hx hb dX2_leastRoot_25 (by decide) ?_
        refine k_iret hx hb hr hlocks (ρ, x) hP hS dX2_leastRoot_27 ?_
        exact ⟨congrArg (fun q => some (Value.int q)) (by rw [← he, show k = 257 by omega]; rfl), rfl⟩
      · skip
        refine lv_aload_n hx hb dX2_leastRoot_9 rfl (lv_at hl 1 rfl) ?_
        refine lv_iload_n hx hb dX2_leastRoot_10 rfl (lv_at hl 0 rfl) ?_
        refine k_callVr (rest := []) (nL := 2) ⟨hx, hb, hml, hown, hts⟩ (c_X2_valueAt l D cy ad hI ρ x i k (by first | assumption | omega) (by first | assumption | omega) (by first | assumption | omega) (by first | assumption | omega)) (cwV 1 hts gX2_leastRoot_X2_valueAt rfl rfl rfl (by decide +kernel) ⟨Nat.le_of_ble_eq_true rfl, Nat.le_of_ble_eq_true rfl⟩) hK hP hS (fun _ h => h) (q0 := 2 * i) (ci := 2) rfl (by omega) (cW_row (i := i) (by omega)) rfl rfl rfl hl.1 rfl (Nat.le_of_ble_eq_true rfl) dX2_leastRoot_11 ⟨Nat.zero_le _, Nat.zero_le _⟩ (fun H locs hP hS => ?_)
        have hP : va_P D vwCl (wL 143 ad (cW ad cy (ρ) (x))) H := hP
        have hv := vx_lt (ρ i) k
        refine n_ifne (tgt := 19) hx hb (by omega) dX2_leastRoot_14 (by decide) (fun h_2 => ?_) (fun h_2 => ?_)
        · skip
          refine lv_iinc (v := nI (k + 1)) (lv' := [(1, .int (nI (k + 1))), (0, .ref (ad (2 * i)))]) hx hb dX2_leastRoot_19 hl (k := 0) rfl (nI_inc _) (by decide) rfl (fun ls hl => ?_)
          refine lv_goto (tgt := 2) hx hb dX2_leastRoot_22 (by decide) ?_
          exact ih2 (k + 1) (by omega) (by rw [← he, show 257 - k = (257 - (k + 1)) + 1 by omega, fz_miss _ _ _ h_2]) (by omega) _ _ hP hS _ hl
        · skip
          refine lv_iload_n hx hb dX2_leastRoot_17 rfl (lv_at hl 0 rfl) ?_
          refine k_iret hx hb hr hlocks (ρ, x) hP hS dX2_leastRoot_18 ?_
          exact ⟨congrArg (fun q => some (Value.int q)) (by rw [← he, show 257 - k = (257 - (k + 1)) + 1 by omega, fz_hit _ _ _ h_2]), rfl⟩
  exact lp2 (_ + 1) (0) (by omega) rfl (Nat.lt_succ_self _) _ _ hP hS _ hl
