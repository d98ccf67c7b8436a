set_option maxHeartbeats 4000000 in
set_option maxRecDepth 100000 in
theorem c_X4_isNumber (l : Launch) (D : va_G) (cy : Nat → ClassId) (ad : Nat → Nat) (hI : wI 143 ad) (ρ : Nat → kR) (x : kX) (r : Int32) : kM l yX4_isNumber wsX4_isNumber ({ frames := 0, cells := 0, slots := 0, locals := 0 } : Room) D cy 143 ad (cWf ad cy) (cW ad cy (ρ) (x)) [.int (r)] (kF (some (.int (kB (decide (0 ≤ r ∧ r < 257))))) (ρ, x)) := by
  refine k_met cX4_isNumber 1 (some .boolean) (by decide) rfl (Nat.le_of_ble_eq_true rfl) ?_
  intro p e s m below meth c ls hx hb hr hts hown hlocks hml hK hP hS hl
  have hl : lv_has ls 1 [(0, .int (r))] := hl
  have hown : s.vm.findClass RX4 = some m.cls := hown
  refine lv_iload_n hx hb dX4_isNumber_0 rfl (lv_at hl 0 rfl) ?_
  refine lv_if_lt (tgt := 15) hx hb dX4_isNumber_1 (by decide) (fun h_1 => ?_) (fun h_1 => ?_)
  · skip
    refine lv_iconst (v := nI (0)) hx hb dX4_isNumber_15 rfl ?_
    refine k_zret hx hb hr hlocks (by first | rfl | exact nar_kB _ | decide) (ρ, x) hP hS dX4_isNumber_16 ?_
    exact ⟨by rw [show decide (0 ≤ r ∧ r < 257) = false from decide_eq_false (fun q => absurd q.1 (Int32.not_le.mpr h_1))]; rfl, rfl⟩
  · skip
    refine lv_iload_n hx hb dX4_isNumber_4 rfl (lv_at hl 0 rfl) ?_
    refine lv_sipush (v := nI (257)) hx hb dX4_isNumber_5 rfl ?_
    refine lv_icmp_ge (tgt := 15) hx hb dX4_isNumber_8 (by decide) (fun h_2 => ?_) (fun h_2 => ?_)
    · skip
      refine lv_iconst (v := nI (0)) hx hb dX4_isNumber_15 rfl ?_
      refine k_zret hx hb hr hlocks (by first | rfl | exact nar_kB _ | decide) (ρ, x) hP hS dX4_isNumber_16 ?_
      exact ⟨by rw [show decide (0 ≤ r ∧ r < 257) = false from decide_eq_false (fun q => absurd q.2 (Int32.not_lt.mpr h_2))]; rfl, rfl⟩
    · skip
      refine lv_iconst (v := nI (1)) hx hb dX4_isNumber_11 rfl ?_
      refine lv_goto (tgt := 16) hx hb dX4_isNumber_12 (by decide) ?_
      refine k_zret hx hb hr hlocks (by first | rfl | exact nar_kB _ | decide) (ρ, x) hP hS dX4_isNumber_16 ?_
      exact ⟨by rw [show decide (0 ≤ r ∧ r < 257) = true from decide_eq_true ⟨Int32.not_lt.mp h_1, Int32.not_le.mp h_2⟩]; rfl, rfl⟩
set_option maxHeartbeats 4000000 in
set_option maxRecDepth 100000 in
theorem c_X4_raise (l : Launch) (D : va_G) (cy : Nat → ClassId) (ad : Nat → Nat) (hI : wI 143 ad) (ρ : Nat → kR) (x : kX) (a : Nat) (n : Nat) (ha : a < 257) (hn : n < 2 ^ 31) : kM l yX4_raise wsX4_raise ({ frames := 0, cells := 0, slots := 0, locals := 0 } : Room) D cy 143 ad (cWf ad cy) (cW ad cy (ρ) (x)) [.int (nI (a)), .int (nI (n))] (kF (some (.int (nI (pw a n)))) (ρ, x)) := by
  refine k_met cX4_raise 5 (some .int) (by decide) rfl (Nat.le_of_ble_eq_true rfl) ?_
  intro p e s m below meth c ls hx hb hr hts hown hlocks hml hK hP hS hl
  have hl : lv_has ls 5 [(0, .int (nI (a))), (1, .int (nI (n)))] := hl
  have hown : s.vm.findClass RX4 = some m.cls := hown
  refine lv_iconst (v := nI (1)) hx hb dX4_raise_0 rfl ?_
  refine lv_istore_n (lv' := [(2, .int (nI (1))), (0, .int (nI (a))), (1, .int (nI (n)))]) hx hb dX4_raise_1 rfl hl (by decide) rfl (fun ls hl => ?_)
  refine lv_iload_n hx hb dX4_raise_2 rfl (lv_at hl 1 rfl) ?_
  refine lv_istore_n (lv' := [(3, .int (nI (a))), (2, .int (nI (1))), (0, .int (nI (a))), (1, .int (nI (n)))]) hx hb dX4_raise_3 rfl hl (by decide) rfl (fun ls hl => ?_)
  refine lv_iload_n hx hb dX4_raise_4 rfl (lv_at hl 3 rfl) ?_
  refine lv_istore (lv' := [(4, .int (nI (n))), (3, .int (nI (a))), (2, .int (nI (1))), (0, .int (nI (a))), (1, .int (nI (n)))]) hx hb dX4_raise_5 hl (by decide) rfl (fun ls hl => ?_)
  have lp7 : ∀ (fu : Nat) (k : Nat) (t : Nat) (q : Nat), (k < 2 ^ 31) → (t < 257) → (q < 257) → (t * q ^ k % 257 = pw a n) → k < fu → ∀ (H : Heap) (locs : List Loc), va_P D vwCl (wL 143 ad (cW ad cy (ρ) (x))) H → va_S (wA 143 ad) s.heap H locs → ∀ (ls : Array Slot), lv_has ls 5 [(4, .int (nI (k))), (3, .int (nI (q))), (2, .int (nI (t))), (0, .int (nI (a))), (1, .int (nI (n)))] → W p l e ({ frames := 0, cells := 0, slots := 0, locals := 0 } : Room) s m ([.int (nI (a)), .int (nI (n))] : List Value).toArray below meth c H locs 0 0 (MQ below (kQ D 143 ad (cWf ad cy) (kF (some (.int (nI (pw a n)))) (ρ, x))) ([.int (nI (a)), .int (nI (n))] : List Value).toArray s 0 0 (wA 143 ad)) (F0 m 7 ls []) := by
    intro fu
    induction fu with
    | zero => intro k t q hk ht hq he hfu; exact absurd hfu (Nat.not_lt_zero _)
    | succ fu ih7 =>
      intro k t q hk ht hq he hfu H locs hP hS ls hl
      have hm := mul_lt_257 ht hq
      have hm2 := mul_lt_257 hq hq
      refine lv_iload hx hb dX4_raise_7 (lv_at hl 0 rfl) ?_
      refine n_ifle (tgt := 45) hx hb (by omega) dX4_raise_9 (by decide) (fun h_1 => ?_) (fun h_1 => ?_)
      · skip
        refine lv_iload_n hx hb dX4_raise_45 rfl (lv_at hl 2 rfl) ?_
        refine k_iret hx hb hr hlocks (ρ, x) hP hS dX4_raise_46 ?_
        exact ⟨rN (by rw [← he, h_1, Nat.pow_zero, Nat.mul_one, Nat.mod_eq_of_lt ht]), rfl⟩
      · skip
        refine lv_iload hx hb dX4_raise_12 (lv_at hl 0 rfl) ?_
        refine lv_iconst (v := nI (1)) hx hb dX4_raise_14 rfl ?_
        refine lv_iand hx hb dX4_raise_15 ?_
        refine n_push (a := k % 2) (nI_and1 hk) ?_
        refine lv_iconst (v := nI (1)) hx hb dX4_raise_16 rfl ?_
        refine n_icmp_ne (tgt := 28) hx hb (by omega) (by omega) dX4_raise_17 (by decide) (fun h_2 => ?_) (fun h_2 => ?_)
        · skip
          refine lv_iload_n hx hb dX4_raise_28 rfl (lv_at hl 1 rfl) ?_
          refine lv_iload_n hx hb dX4_raise_29 rfl (lv_at hl 1 rfl) ?_
          refine n_imul hx hb dX4_raise_30 ?_
          refine lv_sipush (v := nI (257)) hx hb dX4_raise_31 rfl ?_
          refine n_irem hx hb (by omega) (by omega) (by omega) dX4_raise_34  ?_
          refine lv_istore_n (lv' := [(3, .int (nI ((q * q) % 257))), (4, .int (nI (k))), (2, .int (nI (t))), (0, .int (nI (a))), (1, .int (nI (n)))]) hx hb dX4_raise_35 rfl hl (by decide) rfl (fun ls hl => ?_)
          refine lv_iload hx hb dX4_raise_36 (lv_at hl 1 rfl) ?_
          refine lv_iconst (v := nI (1)) hx hb dX4_raise_38 rfl ?_
          refine lv_ishr hx hb dX4_raise_39 ?_
          refine n_push (a := k / 2) (nI_shr1 hk) ?_
          refine lv_istore (lv' := [(4, .int (nI (k / 2))), (3, .int (nI ((q * q) % 257))), (2, .int (nI (t))), (0, .int (nI (a))), (1, .int (nI (n)))]) hx hb dX4_raise_40 hl (by decide) rfl (fun ls hl => ?_)
          refine lv_goto (tgt := 7) hx hb dX4_raise_42 (by decide) ?_
          exact ih7 (k / 2) (t) (q * q % 257) (by omega) ht (Nat.mod_lt _ (by decide)) (by rw [← he]; exact rs_even h_2) (by omega) _ _ hP hS _ hl
        · skip
          refine lv_iload_n hx hb dX4_raise_20 rfl (lv_at hl 2 rfl) ?_
          refine lv_iload_n hx hb dX4_raise_21 rfl (lv_at hl 1 rfl) ?_
          refine n_imul hx hb dX4_raise_22 ?_
          refine lv_sipush (v := nI (257)) hx hb dX4_raise_23 rfl ?_
          refine n_irem hx hb (by omega) (by omega) (by omega) dX4_raise_26  ?_
          refine lv_istore_n (lv' := [(2, .int (nI ((t * q) % 257))), (4, .int (nI (k))), (3, .int (nI (q))), (0, .int (nI (a))), (1, .int (nI (n)))]) hx hb dX4_raise_27 rfl hl (by decide) rfl (fun ls hl => ?_)
          refine lv_iload_n hx hb dX4_raise_28 rfl (lv_at hl 2 rfl) ?_
          refine lv_iload_n hx hb dX4_raise_29 rfl (lv_at hl 2 rfl) ?_
          refine n_imul hx hb dX4_raise_30 ?_
          refine lv_sipush (v := nI (257)) hx hb dX4_raise_31 rfl ?_
          refine n_irem hx hb (by omega) (by omega) (by omega) dX4_raise_34  ?_
          refine lv_istore_n (lv' := [(3, .int (nI ((q * q) % 257))), (2, .int (nI ((t * q) % 257))), (4, .int (nI (k))), (0, .int (nI (a))), (1, .int (nI (n)))]) hx hb dX4_raise_35 rfl hl (by decide) rfl (fun ls hl => ?_)
          refine lv_iload hx hb dX4_raise_36 (lv_at hl 2 rfl) ?_
          refine lv_iconst (v := nI (1)) hx hb dX4_raise_38 rfl ?_
          refine lv_ishr hx hb dX4_raise_39 ?_
          refine n_push (a := k / 2) (nI_shr1 hk) ?_
          refine lv_istore (lv' := [(4, .int (nI (k / 2))), (3, .int (nI ((q * q) % 257))), (2, .int (nI ((t * q) % 257))), (0, .int (nI (a))), (1, .int (nI (n)))]) hx hb dX4_raise_40 hl (by decide) rfl (fun ls hl => ?_)
          refine lv_goto (tgt := 7) hx hb dX4_raise_42 (by decide) ?_
          exact ih7 (k / 2) (t * q % 257) (q * q % 257) (by omega) (Nat.mod_lt _ (by decide)) (Nat.mod_lt _ (by decide)) (by rw [← he]; exact rs_odd h_2) (by omega) _ _ hP hS _ hl
  exact lp7 (_ + 1) (n) (1) (a) hn (by decide) ha (by rw [Nat.one_mul]; rfl) (Nat.lt_succ_self _) _ _ hP hS _ hl
set_option maxHeartbeats 4000000 in
set_option maxRecDepth 100000 in
theorem c_X4_inverseOf (l : Launch) (D : va_G) (cy : Nat → ClassId) (ad : Nat → Nat) (hI : wI 143 ad) (ρ : Nat → kR) (x : kX) (a : Nat) (ha : a < 257) : kM l yX4_inverseOf wsX4_inverseOf ({ frames := 1, cells := 0, slots := 0, locals := 24 } : Room) D cy 143 ad (cWf ad cy) (cW ad cy (ρ) (x)) [.int (nI (a))] (kF (some (.int (nI (pw a 255)))) (ρ, x)) := by
  refine k_met cX4_inverseOf 1 (some .int) (by decide) rfl (Nat.le_of_ble_eq_true rfl) ?_
  intro p e s m below meth c ls hx hb hr hts hown hlocks hml hK hP hS hl
  have hl : lv_has ls 1 [(0, .int (nI (a)))] := hl
  have hown : s.vm.findClass RX4 = some m.cls := hown
  refine lv_iload_n hx hb dX4_inverseOf_0 rfl (lv_at hl 0 rfl) ?_
  refine lv_sipush (v := nI (255)) hx hb dX4_inverseOf_1 rfl ?_
  refine k_callSr (rest := []) (nL := 1) ⟨hx, hb, hml, hown, hts⟩ (c_X4_raise l D cy ad hI ρ x a 255 (by first | assumption | omega) (by first | assumption | omega)) (va_cwS 2 hts gX4_inverseOf_X4_raise rfl rfl rfl (by decide +kernel) ⟨Nat.le_of_ble_eq_true rfl, Nat.le_of_ble_eq_true rfl⟩) hK hP hS (fun _ h => h) rfl hl.1 rfl (Nat.le_of_ble_eq_true rfl) dX4_inverseOf_4 ⟨Nat.zero_le _, Nat.zero_le _⟩ (fun H locs hP hS => ?_)
  have hP : va_P D vwCl (wL 143 ad (cW ad cy (ρ) (x))) H := hP
  refine k_iret hx hb hr hlocks (ρ, x) hP hS dX4_inverseOf_7 ?_
  exact ⟨rfl, rfl⟩
set_option maxHeartbeats 4000000 in
set_option maxRecDepth 100000 in
theorem c_X4_pointOf (l : Launch) (D : va_G) (cy : Nat → ClassId) (ad : Nat → Nat) (hI : wI 143 ad) (ρ : Nat → kR) (x : kX) (r : Int32) : kM l yX4_pointOf wsX4_pointOf ({ frames := 1, cells := 0, slots := 0, locals := 24 } : Room) D cy 143 ad (cWf ad cy) (cW ad cy (ρ) (x)) [.int (r)] (kF (some (.int (ptV r))) (ρ, x)) := by
  refine k_met cX4_pointOf 1 (some .int) (by decide) rfl (Nat.le_of_ble_eq_true rfl) ?_
  intro p e s m below meth c ls hx hb hr hts hown hlocks hml hK hP hS hl
  have hl : lv_has ls 1 [(0, .int (r))] := hl
  have hown : s.vm.findClass RX4 = some m.cls := hown
  refine lv_iload_n hx hb dX4_pointOf_0 rfl (lv_at hl 0 rfl) ?_
  refine lv_iconst (v := nI (1)) hx hb dX4_pointOf_1 rfl ?_
  refine lv_icmp_lt (tgt := 19) hx hb dX4_pointOf_2 (by decide) (fun h_1 => ?_) (fun h_1 => ?_)
  · skip
    have hz : isZ r = false := isZ_lo h_1
    refine lv_bipush (v := (-6 : Int32)) hx hb dX4_pointOf_19 (by decide) ?_
    refine k_iret hx hb hr hlocks (ρ, x) hP hS dX4_pointOf_21 ?_
    exact ⟨by unfold ptV; rw [hz]; rfl, rfl⟩
  · skip
    refine lv_iload_n hx hb dX4_pointOf_5 rfl (lv_at hl 0 rfl) ?_
    refine lv_bipush (v := nI (64)) hx hb dX4_pointOf_6 rfl ?_
    refine lv_icmp_gt (tgt := 19) hx hb dX4_pointOf_8 (by decide) (fun h_2 => ?_) (fun h_2 => ?_)
    · skip
      have hz : isZ r = false := isZ_hi h_2
      refine lv_bipush (v := (-6 : Int32)) hx hb dX4_pointOf_19 (by decide) ?_
      refine k_iret hx hb hr hlocks (ρ, x) hP hS dX4_pointOf_21 ?_
      exact ⟨by unfold ptV; rw [hz]; rfl, rfl⟩
    · skip
      obtain ⟨k, hk, rfl⟩ : ∃ k : Nat, k < 65 ∧ r = nI k := by
        rcases kin_cases r 65 (by decide) with q | ⟨k, hk, e⟩
        · exact absurd ⟨Int32.le_trans (by decide) (Int32.not_lt.mp h_1), Int32.lt_of_le_of_lt (Int32.not_lt.mp h_2) (by decide)⟩ q
        · exact ⟨k, hk, e⟩
      have hk1 : 1 ≤ k := by
        rcases Nat.eq_zero_or_pos k with q | q
        · subst q; exact absurd (by decide) h_1
        · exact q
      have hzz := isZ_and k hk hk1
      refine lv_iload_n hx hb dX4_pointOf_11 rfl (lv_at hl 0 rfl) ?_
      refine lv_iload_n hx hb dX4_pointOf_12 rfl (lv_at hl 0 rfl) ?_
      refine lv_iconst (v := nI (1)) hx hb dX4_pointOf_13 rfl ?_
      refine lv_isub hx hb dX4_pointOf_14 ?_
      refine lv_iand hx hb dX4_pointOf_15 ?_
      refine lv_if_eq (tgt := 22) hx hb dX4_pointOf_16 (by decide) (fun h_3 => ?_) (fun h_3 => ?_)
      · skip
        have hz : isZ (nI k) = true := by rw [hzz]; exact decide_eq_true h_3
        refine lv_iconst (v := nI (3)) hx hb dX4_pointOf_22 rfl ?_
        refine lv_sipush (v := nI (256)) hx hb dX4_pointOf_23 rfl ?_
        refine lv_iload_n hx hb dX4_pointOf_26 rfl (lv_at hl 0 rfl) ?_
        refine n_idiv hx hb (by omega) (by omega) (by omega) dX4_pointOf_27 ?_
        refine k_callSr (rest := []) (nL := 1) ⟨hx, hb, hml, hown, hts⟩ (c_X4_raise l D cy ad hI ρ x 3 (256 / k) (by first | assumption | omega) (Nat.lt_of_le_of_lt (Nat.div_le_self _ _) (by decide))) (va_cwS 2 hts gX4_pointOf_X4_raise rfl rfl rfl (by decide +kernel) ⟨Nat.le_of_ble_eq_true rfl, Nat.le_of_ble_eq_true rfl⟩) hK hP hS (fun _ h => h) rfl hl.1 rfl (Nat.le_of_ble_eq_true rfl) dX4_pointOf_28 ⟨Nat.zero_le _, Nat.zero_le _⟩ (fun H locs hP hS => ?_)
        have hP : va_P D vwCl (wL 143 ad (cW ad cy (ρ) (x))) H := hP
        refine k_iret hx hb hr hlocks (ρ, x) hP hS dX4_pointOf_31 ?_
        exact ⟨by unfold ptV; rw [if_pos hz, nI_clamp (by omega)]; rfl, rfl⟩
      · skip
        have hz : isZ (nI k) = false := by rw [hzz]; exact decide_eq_false h_3
        refine lv_bipush (v := (-6 : Int32)) hx hb dX4_pointOf_19 (by decide) ?_
        refine k_iret hx hb hr hlocks (ρ, x) hP hS dX4_pointOf_21 ?_
        exact ⟨by unfold ptV; rw [hz]; rfl, rfl⟩
set_option maxHeartbeats 4000000 in
set_option maxRecDepth 100000 in
theorem c_X4_productLength (l : Launch) (D : va_G) (cy : Nat → ClassId) (ad : Nat → Nat) (hI : wI 143 ad) (ρ : Nat → kR) (x : kX) (a : Nat) (b : Nat) (ha : a < 59) (hb2 : b < 59) (hla : (ρ a).1 ≤ 64 ∧ 1 ≤ (ρ a).1) (hlb : (ρ b).1 ≤ 64) : kM l yX4_productLength wsX4_productLength ({ frames := 1, cells := 0, slots := 0, locals := 20 } : Room) D cy 143 ad (cWf ad cy) (cW ad cy (ρ) (x)) [.ref (ad (2 * a)), .ref (ad (2 * b))] (kF (some (.int (nI ((ρ a).1 + (ρ b).1 - 1)))) (ρ, x)) := by
  refine k_met cX4_productLength 2 (some .int) (by decide) rfl (Nat.le_of_ble_eq_true rfl) ?_
  intro p e s m below meth c ls hx hb hr hts hown hlocks hml hK hP hS hl
  have hl : lv_has ls 2 [(0, .ref (ad (2 * a))), (1, .ref (ad (2 * b)))] := hl
  have hown : s.vm.findClass RX4 = some m.cls := hown
  refine lv_aload_n hx hb dX4_productLength_0 rfl (lv_at hl 0 rfl) ?_
  refine k_callVr (rest := []) (nL := 2) ⟨hx, hb, hml, hown, hts⟩ (c_X2_length l D cy ad hI ρ x a (by first | assumption | omega)) (cwV 0 hts gX4_productLength_X2_length rfl rfl rfl (by decide +kernel) ⟨Nat.le_of_ble_eq_true rfl, Nat.le_of_ble_eq_true rfl⟩) hK hP hS (fun _ h => h) (q0 := 2 * a) (ci := 2) rfl (by omega) (cW_row (i := a) (by omega)) rfl rfl rfl hl.1 rfl (Nat.le_of_ble_eq_true rfl) dX4_productLength_1 ⟨Nat.zero_le _, Nat.zero_le _⟩ (fun H locs hP hS => ?_)
  have hP : va_P D vwCl (wL 143 ad (cW ad cy (ρ) (x))) H := hP
  refine lv_aload_n hx hb dX4_productLength_4 rfl (lv_at hl 1 rfl) ?_
  refine k_callVr (rest := [.int (nI ((ρ a).1))]) (nL := 2) ⟨hx, hb, hml, hown, hts⟩ (c_X2_length l D cy ad hI ρ x b (by first | assumption | omega)) (cwV 0 hts gX4_productLength_X2_length rfl rfl rfl (by decide +kernel) ⟨Nat.le_of_ble_eq_true rfl, Nat.le_of_ble_eq_true rfl⟩) hK hP hS (fun _ h => h) (q0 := 2 * b) (ci := 2) rfl (by omega) (cW_row (i := b) (by omega)) rfl rfl rfl hl.1 rfl (Nat.le_of_ble_eq_true rfl) dX4_productLength_5 ⟨Nat.zero_le _, Nat.zero_le _⟩ (fun H locs hP hS => ?_)
  have hP : va_P D vwCl (wL 143 ad (cW ad cy (ρ) (x))) H := hP
  refine n_iadd hx hb dX4_productLength_8 ?_
  refine lv_iconst (v := nI (1)) hx hb dX4_productLength_9 rfl ?_
  refine n_isub hx hb (by omega) dX4_productLength_10 ?_
  refine k_iret hx hb hr hlocks (ρ, x) hP hS dX4_productLength_11 ?_
  exact ⟨rfl, rfl⟩
set_option maxHeartbeats 4000000 in
set_option maxRecDepth 100000 in
theorem c_X4_nextPlace (l : Launch) (D : va_G) (cy : Nat → ClassId) (ad : Nat → Nat) (hI : wI 143 ad) (ρ : Nat → kR) (x : kX) (q : Nat) (sz : Nat) (hs : q < sz) (hs2 : sz ≤ 64) : kM l yX4_nextPlace wsX4_nextPlace ({ frames := 0, cells := 0, slots := 0, locals := 0 } : Room) D cy 143 ad (cWf ad cy) (cW ad cy (ρ) (x)) [.int (nI (q)), .int (nI (sz))] (kF (some (.int (nI ((q + 1) % sz)))) (ρ, x)) := by
  refine k_met cX4_nextPlace 2 (some .int) (by decide) rfl (Nat.le_of_ble_eq_true rfl) ?_
  intro p e s m below meth c ls hx hb hr hts hown hlocks hml hK hP hS hl
  have hl : lv_has ls 2 [(0, .int (nI (q))), (1, .int (nI (sz)))] := hl
  have hown : s.vm.findClass RX4 = some m.cls := hown
  refine lv_iload_n hx hb dX4_nextPlace_0 rfl (lv_at hl 0 rfl) ?_
  refine lv_iconst (v := nI (1)) hx hb dX4_nextPlace_1 rfl ?_
  refine n_iadd hx hb dX4_nextPlace_2 ?_
  refine lv_iload_n hx hb dX4_nextPlace_3 rfl (lv_at hl 1 rfl) ?_
  refine n_icmp_ge (tgt := 13) hx hb (by omega) (by omega) dX4_nextPlace_4 (by decide) (fun h_1 => ?_) (fun h_1 => ?_)
  · skip
    refine lv_iconst (v := nI (0)) hx hb dX4_nextPlace_13 rfl ?_
    refine k_iret hx hb hr hlocks (ρ, x) hP hS dX4_nextPlace_14 ?_
    exact ⟨rN (by rw [show q + 1 = sz by omega, Nat.mod_self]), rfl⟩
  · skip
    refine lv_iload_n hx hb dX4_nextPlace_7 rfl (lv_at hl 0 rfl) ?_
    refine lv_iconst (v := nI (1)) hx hb dX4_nextPlace_8 rfl ?_
    refine n_iadd hx hb dX4_nextPlace_9 ?_
    refine lv_goto (tgt := 14) hx hb dX4_nextPlace_10 (by decide) ?_
    refine k_iret hx hb hr hlocks (ρ, x) hP hS dX4_nextPlace_14 ?_
    exact ⟨rN (by rw [Nat.mod_eq_of_lt h_1]), rfl⟩
set_option maxHeartbeats 4000000 in
set_option maxRecDepth 100000 in
theorem c_X4_multiply (l : Launch) (D : va_G) (cy : Nat → ClassId) (ad : Nat → Nat) (hI : wI 143 ad) (ρ : Nat → kR) (x : kX) (a : Nat) (b : Nat) (o : Nat) (sz : Nat) (ha : a < 59) (hb2 : b < 59) (ho : o < 59) (hao : a ≠ o) (hbo : b ≠ o) (hra : rK (ρ a)) (hrb : rK (ρ b)) (hs : 1 ≤ sz ∧ sz ≤ 64) : kM l yX4_multiply wsX4_multiply ({ frames := 2, cells := 0, slots := 0, locals := 44 } : Room) D cy 143 ad (cWf ad cy) (cW ad cy (ρ) (x)) [.ref (ad (2 * a)), .ref (ad (2 * b)), .int (nI (sz)), .ref (ad (2 * o))] (kF none (va_up ρ o (mulR (ρ a) (ρ b) sz), x)) := by
  refine k_met cX4_multiply 8 none (by decide) rfl (Nat.le_of_ble_eq_true rfl) ?_
  intro p e s m below meth c ls hx hb hr hts hown hlocks hml hK hP hS hl
  have hl : lv_has ls 8 [(0, .ref (ad (2 * a))), (1, .ref (ad (2 * b))), (2, .int (nI (sz))), (3, .ref (ad (2 * o)))] := hl
  have hown : s.vm.findClass RX4 = some m.cls := hown
  obtain ⟨hla, hfa⟩ := hra
  obtain ⟨hlb, hfb⟩ := hrb
  refine lv_aload_n hx hb dX4_multiply_0 rfl (lv_at hl 3 rfl) ?_
  refine lv_iload_n hx hb dX4_multiply_1 rfl (lv_at hl 2 rfl) ?_
  refine k_callVv (rest := []) (nL := 8) ⟨hx, hb, hml, hown, hts⟩ (c_X2_clear l D cy ad hI ρ x o sz (by first | assumption | omega)) (cwV 1 hts gX4_multiply_X2_clear rfl rfl rfl (by decide +kernel) ⟨Nat.le_of_ble_eq_true rfl, Nat.le_of_ble_eq_true rfl⟩) hK hP hS (fun _ h => h) (q0 := 2 * o) (ci := 2) rfl (by omega) (cW_row (i := o) (by omega)) rfl rfl rfl hl.1 rfl (Nat.le_of_ble_eq_true rfl) dX4_multiply_2 ⟨Nat.zero_le _, Nat.zero_le _⟩ (fun H locs hP hS => ?_)
  have hP : va_P D vwCl (wL 143 ad (cW ad cy (va_up ρ o (sz, fun _ => 0)) (x))) H := hP
  refine lv_iconst (v := nI (0)) hx hb dX4_multiply_5 rfl ?_
  refine lv_istore (lv' := [(4, .int (nI (0))), (0, .ref (ad (2 * a))), (1, .ref (ad (2 * b))), (2, .int (nI (sz))), (3, .ref (ad (2 * o)))]) hx hb dX4_multiply_6 hl (by decide) rfl (fun ls hl => ?_)
  refine lv_iconst (v := nI (0)) hx hb dX4_multiply_8 rfl ?_
  refine lv_istore (lv' := [(5, .int (nI (0))), (4, .int (nI (0))), (0, .ref (ad (2 * a))), (1, .ref (ad (2 * b))), (2, .int (nI (sz))), (3, .ref (ad (2 * o)))]) hx hb dX4_multiply_9 hl (by decide) rfl (fun ls hl => ?_)
  have lp11 : ∀ (fu : Nat) (k : Nat) (ρ' : Nat → kR), (k ≤ (ρ a).1) → (ρ' = va_up ρ o (sz, mulO (ρ a).2 (ρ b).2 (ρ b).1 sz k)) → (ρ a).1 - k < fu → ∀ (H : Heap) (locs : List Loc), va_P D vwCl (wL 143 ad (cW ad cy (ρ') (x))) H → va_S (wA 143 ad) s.heap H locs → ∀ (ls : Array Slot), lv_has ls 8 [(5, .int (nI (k))), (4, .int (nI (k % sz))), (0, .ref (ad (2 * a))), (1, .ref (ad (2 * b))), (2, .int (nI (sz))), (3, .ref (ad (2 * o)))] → W p l e ({ frames := 2, cells := 0, slots := 0, locals := 44 } : Room) s m ([.ref (ad (2 * a)), .ref (ad (2 * b)), .int (nI (sz)), .ref (ad (2 * o))] : List Value).toArray below meth c H locs 0 0 (MQ below (kQ D 143 ad (cWf ad cy) (kF none (va_up ρ o (mulR (ρ a) (ρ b) sz), x))) ([.ref (ad (2 * a)), .ref (ad (2 * b)), .int (nI (sz)), .ref (ad (2 * o))] : List Value).toArray s 0 0 (wA 143 ad)) (F0 m 11 ls []) := by
    intro fu
    induction fu with
    | zero => intro k ρ' hk hρ hfu; exact absurd hfu (Nat.not_lt_zero _)
    | succ fu ih11 =>
      intro k ρ' hk hρ hfu H locs hP hS ls hl
      have ea : ρ' a = ρ a := by rw [hρ, va_up_ne _ _ hao]
      refine lv_iload hx hb dX4_multiply_11 (lv_at hl 0 rfl) ?_
      refine lv_aload_n hx hb dX4_multiply_13 rfl (lv_at hl 2 rfl) ?_
      refine k_callVr (rest := [.int (nI (k))]) (nL := 8) ⟨hx, hb, hml, hown, hts⟩ (c_X2_length l D cy ad hI ρ' x a (by first | assumption | omega)) (cwV 0 hts gX4_multiply_X2_length rfl rfl rfl (by decide +kernel) ⟨Nat.le_of_ble_eq_true rfl, Nat.le_of_ble_eq_true rfl⟩) hK hP hS (fun _ h => h) (q0 := 2 * a) (ci := 2) rfl (by omega) (cW_row (i := a) (by omega)) rfl rfl rfl hl.1 rfl (Nat.le_of_ble_eq_true rfl) dX4_multiply_14 ⟨Nat.zero_le _, Nat.zero_le _⟩ (fun H locs hP hS => ?_)
      have hP : va_P D vwCl (wL 143 ad (cW ad cy (ρ') (x))) H := hP
      refine n_push (a := (ρ a).1) (by rw [ea]) ?_
      refine n_icmp_ge (tgt := 90) hx hb (by omega) (by omega) dX4_multiply_17 (by decide) (fun h_1 => ?_) (fun h_1 => ?_)
      · skip
        rw [hρ, show k = (ρ a).1 by omega] at hP
        refine k_vret hx hb hr hlocks (va_up ρ o (mulR (ρ a) (ρ b) sz), x) hP hS dX4_multiply_90 ?_
        exact ⟨rfl, rfl⟩
      · skip
        refine lv_iload hx hb dX4_multiply_20 (lv_at hl 1 rfl) ?_
        refine lv_istore (lv' := [(6, .int (nI (k % sz))), (5, .int (nI (k))), (4, .int (nI (k % sz))), (0, .ref (ad (2 * a))), (1, .ref (ad (2 * b))), (2, .int (nI (sz))), (3, .ref (ad (2 * o)))]) hx hb dX4_multiply_22 hl (by decide) rfl (fun ls hl => ?_)
        refine lv_iconst (v := nI (0)) hx hb dX4_multiply_24 rfl ?_
        refine lv_istore (lv' := [(7, .int (nI (0))), (6, .int (nI (k % sz))), (5, .int (nI (k))), (4, .int (nI (k % sz))), (0, .ref (ad (2 * a))), (1, .ref (ad (2 * b))), (2, .int (nI (sz))), (3, .ref (ad (2 * o)))]) hx hb dX4_multiply_25 hl (by decide) rfl (fun ls hl => ?_)
        have lp27 : ∀ (fu : Nat) (j : Nat) (ρ'' : Nat → kR), (j ≤ (ρ b).1) → (ρ'' = va_up ρ o (sz, mulI ((ρ a).2 k) (ρ b).2 sz k (mulO (ρ a).2 (ρ b).2 (ρ b).1 sz k) j)) → (ρ b).1 - j < fu → ∀ (H : Heap) (locs : List Loc), va_P D vwCl (wL 143 ad (cW ad cy (ρ'') (x))) H → va_S (wA 143 ad) s.heap H locs → ∀ (ls : Array Slot), lv_has ls 8 [(7, .int (nI (j))), (6, .int (nI ((k + j) % sz))), (5, .int (nI (k))), (4, .int (nI (k % sz))), (0, .ref (ad (2 * a))), (1, .ref (ad (2 * b))), (2, .int (nI (sz))), (3, .ref (ad (2 * o)))] → W p l e ({ frames := 2, cells := 0, slots := 0, locals := 44 } : Room) s m ([.ref (ad (2 * a)), .ref (ad (2 * b)), .int (nI (sz)), .ref (ad (2 * o))] : List Value).toArray below meth c H locs 0 0 (MQ below (kQ D 143 ad (cWf ad cy) (kF none (va_up ρ o (mulR (ρ a) (ρ b) sz), x))) ([.ref (ad (2 * a)), .ref (ad (2 * b)), .int (nI (sz)), .ref (ad (2 * o))] : List Value).toArray s 0 0 (wA 143 ad)) (F0 m 27 ls []) := by
          intro fu
          induction fu with
          | zero => intro j ρ'' hj hρ2 hfu; exact absurd hfu (Nat.not_lt_zero _)
          | succ fu ih27 =>
            intro j ρ'' hj hρ2 hfu H locs hP hS ls hl
            have ea2 : ρ'' a = ρ a := by rw [hρ2, va_up_ne _ _ hao]
            have eb2 : ρ'' b = ρ b := by rw [hρ2, va_up_ne _ _ hbo]
            have eo2 : ρ'' o = (sz, mulI ((ρ a).2 k) (ρ b).2 sz k (mulO (ρ a).2 (ρ b).2 (ρ b).1 sz k) j) := by rw [hρ2, va_up_self]
            have hm := mul_lt_257 (hfa k) (hfb j)
            have hg := mulI_lt (c := (ρ a).2 k) (f := (ρ b).2) (s := sz) (i := k) (mulO_lt (f1 := (ρ a).2) (f2 := (ρ b).2) (l2 := (ρ b).1) (s := sz) k) j ((k + j) % sz)
            have hp : (k + j) % sz < sz := Nat.mod_lt _ (by omega)
            have hp0 : k % sz < sz := Nat.mod_lt _ (by omega)
            refine lv_iload hx hb dX4_multiply_27 (lv_at hl 0 rfl) ?_
            refine lv_aload_n hx hb dX4_multiply_29 rfl (lv_at hl 5 rfl) ?_
            refine k_callVr (rest := [.int (nI (j))]) (nL := 8) ⟨hx, hb, hml, hown, hts⟩ (c_X2_length l D cy ad hI ρ'' x b (by first | assumption | omega)) (cwV 0 hts gX4_multiply_X2_length rfl rfl rfl (by decide +kernel) ⟨Nat.le_of_ble_eq_true rfl, Nat.le_of_ble_eq_true rfl⟩) hK hP hS (fun _ h => h) (q0 := 2 * b) (ci := 2) rfl (by omega) (cW_row (i := b) (by omega)) rfl rfl rfl hl.1 rfl (Nat.le_of_ble_eq_true rfl) dX4_multiply_30 ⟨Nat.zero_le _, Nat.zero_le _⟩ (fun H locs hP hS => ?_)
            have hP : va_P D vwCl (wL 143 ad (cW ad cy (ρ'') (x))) H := hP
            refine n_push (a := (ρ b).1) (by rw [eb2]) ?_
            refine n_icmp_ge (tgt := 76) hx hb (by omega) (by omega) dX4_multiply_33 (by decide) (fun h_2 => ?_) (fun h_2 => ?_)
            · skip
              refine lv_iload hx hb dX4_multiply_76 (lv_at hl 3 rfl) ?_
              refine lv_iload_n hx hb dX4_multiply_78 rfl (lv_at hl 6 rfl) ?_
              refine k_callSr (rest := []) (nL := 8) ⟨hx, hb, hml, hown, hts⟩ (c_X4_nextPlace l D cy ad hI ρ'' x (k % sz) sz (by first | assumption | omega) (by first | assumption | omega)) (va_cwS 2 hts gX4_multiply_X4_nextPlace rfl rfl rfl (by decide +kernel) ⟨Nat.le_of_ble_eq_true rfl, Nat.le_of_ble_eq_true rfl⟩) hK hP hS (fun _ h => h) rfl hl.1 rfl (Nat.le_of_ble_eq_true rfl) dX4_multiply_79 ⟨Nat.zero_le _, Nat.zero_le _⟩ (fun H locs hP hS => ?_)
              have hP : va_P D vwCl (wL 143 ad (cW ad cy (ρ'') (x))) H := hP
              refine n_push (a := (k + 1) % sz) (by rw [Nat.mod_add_mod]) ?_
              refine lv_istore (lv' := [(4, .int (nI ((k + 1) % sz))), (7, .int (nI (j))), (6, .int (nI ((k + j) % sz))), (5, .int (nI (k))), (0, .ref (ad (2 * a))), (1, .ref (ad (2 * b))), (2, .int (nI (sz))), (3, .ref (ad (2 * o)))]) hx hb dX4_multiply_82 hl (by decide) rfl (fun ls hl => ?_)
              refine lv_iinc (v := nI (k + 1)) (lv' := [(5, .int (nI (k + 1))), (4, .int (nI ((k + 1) % sz))), (7, .int (nI (j))), (6, .int (nI ((k + j) % sz))), (0, .ref (ad (2 * a))), (1, .ref (ad (2 * b))), (2, .int (nI (sz))), (3, .ref (ad (2 * o)))]) hx hb dX4_multiply_84 hl (k := 3) rfl (nI_inc _) (by decide) rfl (fun ls hl => ?_)
              refine lv_goto (tgt := 11) hx hb dX4_multiply_87 (by decide) ?_
              exact ih11 (k + 1) (ρ'') (by omega) (by rw [hρ2, show j = (ρ b).1 by omega]; rfl) (by omega) _ _ hP hS _ (lv_sub hl [0, 1, 4, 5, 6, 7] rfl)
            · skip
              refine lv_aload_n hx hb dX4_multiply_36 rfl (lv_at hl 7 rfl) ?_
              refine lv_iload hx hb dX4_multiply_37 (lv_at hl 1 rfl) ?_
              refine lv_aload_n hx hb dX4_multiply_39 rfl (lv_at hl 7 rfl) ?_
              refine lv_iload hx hb dX4_multiply_40 (lv_at hl 1 rfl) ?_
              refine k_callVr (rest := [.int (nI ((k + j) % sz)), .ref (ad (2 * o))]) (nL := 8) ⟨hx, hb, hml, hown, hts⟩ (c_X2_at l D cy ad hI ρ'' x o ((k + j) % sz) (by first | assumption | omega) (by first | assumption | omega)) (cwV 1 hts gX4_multiply_X2_at rfl rfl rfl (by decide +kernel) ⟨Nat.le_of_ble_eq_true rfl, Nat.le_of_ble_eq_true rfl⟩) hK hP hS (fun _ h => h) (q0 := 2 * o) (ci := 2) rfl (by omega) (cW_row (i := o) (by omega)) rfl rfl rfl hl.1 rfl (Nat.le_of_ble_eq_true rfl) dX4_multiply_42 ⟨Nat.zero_le _, Nat.zero_le _⟩ (fun H locs hP hS => ?_)
              have hP : va_P D vwCl (wL 143 ad (cW ad cy (ρ'') (x))) H := hP
              refine n_push (a := mulI ((ρ a).2 k) (ρ b).2 sz k (mulO (ρ a).2 (ρ b).2 (ρ b).1 sz k) j ((k + j) % sz)) (by rw [eo2]) ?_
              refine lv_aload_n hx hb dX4_multiply_45 rfl (lv_at hl 4 rfl) ?_
              refine lv_iload hx hb dX4_multiply_46 (lv_at hl 2 rfl) ?_
              refine k_callVr (rest := [.int (nI (mulI ((ρ a).2 k) (ρ b).2 sz k (mulO (ρ a).2 (ρ b).2 (ρ b).1 sz k) j ((k + j) % sz))), .int (nI ((k + j) % sz)), .ref (ad (2 * o))]) (nL := 8) ⟨hx, hb, hml, hown, hts⟩ (c_X2_at l D cy ad hI ρ'' x a k (by first | assumption | omega) (by first | assumption | omega)) (cwV 1 hts gX4_multiply_X2_at rfl rfl rfl (by decide +kernel) ⟨Nat.le_of_ble_eq_true rfl, Nat.le_of_ble_eq_true rfl⟩) hK hP hS (fun _ h => h) (q0 := 2 * a) (ci := 2) rfl (by omega) (cW_row (i := a) (by omega)) rfl rfl rfl hl.1 rfl (Nat.le_of_ble_eq_true rfl) dX4_multiply_48 ⟨Nat.zero_le _, Nat.zero_le _⟩ (fun H locs hP hS => ?_)
              have hP : va_P D vwCl (wL 143 ad (cW ad cy (ρ'') (x))) H := hP
              refine n_push (a := (ρ a).2 k) (by rw [ea2]) ?_
              refine lv_aload_n hx hb dX4_multiply_51 rfl (lv_at hl 5 rfl) ?_
              refine lv_iload hx hb dX4_multiply_52 (lv_at hl 0 rfl) ?_
              refine k_callVr (rest := [.int (nI ((ρ a).2 k)), .int (nI (mulI ((ρ a).2 k) (ρ b).2 sz k (mulO (ρ a).2 (ρ b).2 (ρ b).1 sz k) j ((k + j) % sz))), .int (nI ((k + j) % sz)), .ref (ad (2 * o))]) (nL := 8) ⟨hx, hb, hml, hown, hts⟩ (c_X2_at l D cy ad hI ρ'' x b j (by first | assumption | omega) (by first | assumption | omega)) (cwV 1 hts gX4_multiply_X2_at rfl rfl rfl (by decide +kernel) ⟨Nat.le_of_ble_eq_true rfl, Nat.le_of_ble_eq_true rfl⟩) hK hP hS (fun _ h => h) (q0 := 2 * b) (ci := 2) rfl (by omega) (cW_row (i := b) (by omega)) rfl rfl rfl hl.1 rfl (Nat.le_of_ble_eq_true rfl) dX4_multiply_54 ⟨Nat.zero_le _, Nat.zero_le _⟩ (fun H locs hP hS => ?_)
              have hP : va_P D vwCl (wL 143 ad (cW ad cy (ρ'') (x))) H := hP
              refine n_push (a := (ρ b).2 j) (by rw [eb2]) ?_
              refine n_imul hx hb dX4_multiply_57 ?_
              refine n_iadd hx hb dX4_multiply_58 ?_
              refine k_callVv (rest := []) (nL := 8) ⟨hx, hb, hml, hown, hts⟩ (c_X2_write l D cy ad hI ρ'' x o ((k + j) % sz) (nI ((mulI ((ρ a).2 k) (ρ b).2 sz k (mulO (ρ a).2 (ρ b).2 (ρ b).1 sz k) j ((k + j) % sz)) + (((ρ a).2 k) * ((ρ b).2 j)))) (by first | assumption | omega) (by first | assumption | omega)) (cwV 2 hts gX4_multiply_X2_write rfl rfl rfl (by decide +kernel) ⟨Nat.le_of_ble_eq_true rfl, Nat.le_of_ble_eq_true rfl⟩) hK hP hS (fun _ h => h) (q0 := 2 * o) (ci := 2) rfl (by omega) (cW_row (i := o) (by omega)) rfl rfl rfl hl.1 rfl (Nat.le_of_ble_eq_true rfl) dX4_multiply_59 ⟨Nat.zero_le _, Nat.zero_le _⟩ (fun H locs hP hS => ?_)
              have hP : va_P D vwCl (wL 143 ad (cW ad cy (va_up ρ'' o ((ρ'' o).1, va_up (ρ'' o).2 ((k + j) % sz) (kmod (nI ((mulI ((ρ a).2 k) (ρ b).2 sz k (mulO (ρ a).2 (ρ b).2 (ρ b).1 sz k) j ((k + j) % sz)) + (((ρ a).2 k) * ((ρ b).2 j)))).toInt))) (x))) H := hP
              refine lv_iload hx hb dX4_multiply_62 (lv_at hl 1 rfl) ?_
              refine lv_iload_n hx hb dX4_multiply_64 rfl (lv_at hl 6 rfl) ?_
              refine k_callSr (rest := []) (nL := 8) ⟨hx, hb, hml, hown, hts⟩ (c_X4_nextPlace l D cy ad hI (va_up ρ'' o ((ρ'' o).1, va_up (ρ'' o).2 ((k + j) % sz) (kmod (nI ((mulI ((ρ a).2 k) (ρ b).2 sz k (mulO (ρ a).2 (ρ b).2 (ρ b).1 sz k) j ((k + j) % sz)) + (((ρ a).2 k) * ((ρ b).2 j)))).toInt))) x ((k + j) % sz) sz (by first | assumption | omega) (by first | assumption | omega)) (va_cwS 2 hts gX4_multiply_X4_nextPlace rfl rfl rfl (by decide +kernel) ⟨Nat.le_of_ble_eq_true rfl, Nat.le_of_ble_eq_true rfl⟩) hK hP hS (fun _ h => h) rfl hl.1 rfl (Nat.le_of_ble_eq_true rfl) dX4_multiply_65 ⟨Nat.zero_le _, Nat.zero_le _⟩ (fun H locs hP hS => ?_)
              have hP : va_P D vwCl (wL 143 ad (cW ad cy (va_up ρ'' o ((ρ'' o).1, va_up (ρ'' o).2 ((k + j) % sz) (kmod (nI ((mulI ((ρ a).2 k) (ρ b).2 sz k (mulO (ρ a).2 (ρ b).2 (ρ b).1 sz k) j ((k + j) % sz)) + (((ρ a).2 k) * ((ρ b).2 j)))).toInt))) (x))) H := hP
              refine n_push (a := (k + (j + 1)) % sz) (by rw [Nat.mod_add_mod]; rfl) ?_
              refine lv_istore (lv' := [(6, .int (nI ((k + (j + 1)) % sz))), (7, .int (nI (j))), (5, .int (nI (k))), (4, .int (nI (k % sz))), (0, .ref (ad (2 * a))), (1, .ref (ad (2 * b))), (2, .int (nI (sz))), (3, .ref (ad (2 * o)))]) hx hb dX4_multiply_68 hl (by decide) rfl (fun ls hl => ?_)
              refine lv_iinc (v := nI (j + 1)) (lv' := [(7, .int (nI (j + 1))), (6, .int (nI ((k + (j + 1)) % sz))), (5, .int (nI (k))), (4, .int (nI (k % sz))), (0, .ref (ad (2 * a))), (1, .ref (ad (2 * b))), (2, .int (nI (sz))), (3, .ref (ad (2 * o)))]) hx hb dX4_multiply_70 hl (k := 1) rfl (nI_inc _) (by decide) rfl (fun ls hl => ?_)
              refine lv_goto (tgt := 27) hx hb dX4_multiply_73 (by decide) ?_
              exact ih27 (j + 1) (va_up ρ'' o ((ρ'' o).1, va_up (ρ'' o).2 ((k + j) % sz) (kmod (nI ((mulI ((ρ a).2 k) (ρ b).2 sz k (mulO (ρ a).2 (ρ b).2 (ρ b).1 sz k) j ((k + j) % sz)) + (((ρ a).2 k) * ((ρ b).2 j)))).toInt))) (by omega) (by rw [kmod_nI (by omega), eo2, hρ2, up_up]; rfl) (by omega) _ _ hP hS _ hl
        exact lp27 (_ + 1) (0) (ρ') (by omega) hρ (Nat.lt_succ_self _) _ _ hP hS _ hl
  exact lp11 (_ + 1) (0) (va_up ρ o (sz, fun _ => 0)) (by omega) rfl (Nat.lt_succ_self _) _ _ hP hS _ hl
set_option maxHeartbeats 4000000 in
set_option maxRecDepth 100000 in
theorem c_X4_turnAround (l : Launch) (D : va_G) (cy : Nat → ClassId) (ad : Nat → Nat) (hI : wI 143 ad) (ρ : Nat → kR) (x : kX) (a : Nat) (sz : Nat) (q : Nat) (o : Nat) (ha : a < 59) (ho : o < 59) (hao : a ≠ o) (hra : rK (ρ a)) (hs : sz ≤ 64) (hq : q < 257) : kM l yX4_turnAround wsX4_turnAround ({ frames := 2, cells := 0, slots := 0, locals := 44 } : Room) D cy 143 ad (cWf ad cy) (cW ad cy (ρ) (x)) [.ref (ad (2 * a)), .int (nI (sz)), .int (nI (q)), .ref (ad (2 * o))] (kF none (va_up ρ o (sz, tur (ρ a) q sz), x)) := by
  refine k_met cX4_turnAround 6 none (by decide) rfl (Nat.le_of_ble_eq_true rfl) ?_
  intro p e s m below meth c ls hx hb hr hts hown hlocks hml hK hP hS hl
  have hl : lv_has ls 6 [(0, .ref (ad (2 * a))), (1, .int (nI (sz))), (2, .int (nI (q))), (3, .ref (ad (2 * o)))] := hl
  have hown : s.vm.findClass RX4 = some m.cls := hown
  obtain ⟨hla, hfa⟩ := hra
  refine lv_aload_n hx hb dX4_turnAround_0 rfl (lv_at hl 3 rfl) ?_
  refine lv_iload_n hx hb dX4_turnAround_1 rfl (lv_at hl 1 rfl) ?_
  refine k_callVv (rest := []) (nL := 6) ⟨hx, hb, hml, hown, hts⟩ (c_X2_clear l D cy ad hI ρ x o sz (by first | assumption | omega)) (cwV 1 hts gX4_turnAround_X2_clear rfl rfl rfl (by decide +kernel) ⟨Nat.le_of_ble_eq_true rfl, Nat.le_of_ble_eq_true rfl⟩) hK hP hS (fun _ h => h) (q0 := 2 * o) (ci := 2) rfl (by omega) (cW_row (i := o) (by omega)) rfl rfl rfl hl.1 rfl (Nat.le_of_ble_eq_true rfl) dX4_turnAround_2 ⟨Nat.zero_le _, Nat.zero_le _⟩ (fun H locs hP hS => ?_)
  have hP : va_P D vwCl (wL 143 ad (cW ad cy (va_up ρ o (sz, fun _ => 0)) (x))) H := hP
  refine lv_iconst (v := nI (1)) hx hb dX4_turnAround_5 rfl ?_
  refine lv_istore (lv' := [(4, .int (nI (1))), (0, .ref (ad (2 * a))), (1, .int (nI (sz))), (2, .int (nI (q))), (3, .ref (ad (2 * o)))]) hx hb dX4_turnAround_6 hl (by decide) rfl (fun ls hl => ?_)
  refine lv_iconst (v := nI (0)) hx hb dX4_turnAround_8 rfl ?_
  refine lv_istore (lv' := [(5, .int (nI (0))), (4, .int (nI (1))), (0, .ref (ad (2 * a))), (1, .int (nI (sz))), (2, .int (nI (q))), (3, .ref (ad (2 * o)))]) hx hb dX4_turnAround_9 hl (by decide) rfl (fun ls hl => ?_)
  have lp11 : ∀ (fu : Nat) (k : Nat) (ρ' : Nat → kR), (k ≤ sz) → (ρ' = va_up ρ o (sz, tur (ρ a) q k)) → sz - k < fu → ∀ (H : Heap) (locs : List Loc), va_P D vwCl (wL 143 ad (cW ad cy (ρ') (x))) H → va_S (wA 143 ad) s.heap H locs → ∀ (ls : Array Slot), lv_has ls 6 [(5, .int (nI (k))), (4, .int (nI (pw q k))), (0, .ref (ad (2 * a))), (1, .int (nI (sz))), (2, .int (nI (q))), (3, .ref (ad (2 * o)))] → W p l e ({ frames := 2, cells := 0, slots := 0, locals := 44 } : Room) s m ([.ref (ad (2 * a)), .int (nI (sz)), .int (nI (q)), .ref (ad (2 * o))] : List Value).toArray below meth c H locs 0 0 (MQ below (kQ D 143 ad (cWf ad cy) (kF none (va_up ρ o (sz, tur (ρ a) q sz), x))) ([.ref (ad (2 * a)), .int (nI (sz)), .int (nI (q)), .ref (ad (2 * o))] : List Value).toArray s 0 0 (wA 143 ad)) (F0 m 11 ls []) := by
    intro fu
    induction fu with
    | zero => intro k ρ' hk hρ hfu; exact absurd hfu (Nat.not_lt_zero _)
    | succ fu ih11 =>
      intro k ρ' hk hρ hfu H locs hP hS ls hl
      have ea : ρ' a = ρ a := by rw [hρ, va_up_ne _ _ hao]
      have eo : ρ' o = (sz, tur (ρ a) q k) := by rw [hρ, va_up_self]
      have hpk := pw_lt q k
      have hv := vx_lt (ρ a) (pw q k)
      have hm := mul_lt_257 hpk hq
      refine lv_iload hx hb dX4_turnAround_11 (lv_at hl 0 rfl) ?_
      refine lv_iload_n hx hb dX4_turnAround_13 rfl (lv_at hl 3 rfl) ?_
      refine n_icmp_ge (tgt := 45) hx hb (by omega) (by omega) dX4_turnAround_14 (by decide) (fun h_1 => ?_) (fun h_1 => ?_)
      · skip
        rw [hρ, show k = sz by omega] at hP
        refine k_vret hx hb hr hlocks (va_up ρ o (sz, tur (ρ a) q sz), x) hP hS dX4_turnAround_45 ?_
        exact ⟨rfl, rfl⟩
      · skip
        refine lv_aload_n hx hb dX4_turnAround_17 rfl (lv_at hl 5 rfl) ?_
        refine lv_iload hx hb dX4_turnAround_18 (lv_at hl 0 rfl) ?_
        refine lv_aload_n hx hb dX4_turnAround_20 rfl (lv_at hl 2 rfl) ?_
        refine lv_iload hx hb dX4_turnAround_21 (lv_at hl 1 rfl) ?_
        refine k_callVr (rest := [.int (nI (k)), .ref (ad (2 * o))]) (nL := 6) ⟨hx, hb, hml, hown, hts⟩ (c_X2_valueAt l D cy ad hI ρ' x a (pw q k) (by first | assumption | omega) (by rw [ea]; exact hla) (by rw [ea]; exact hfa) (by first | assumption | omega)) (cwV 1 hts gX4_turnAround_X2_valueAt rfl rfl rfl (by decide +kernel) ⟨Nat.le_of_ble_eq_true rfl, Nat.le_of_ble_eq_true rfl⟩) hK hP hS (fun _ h => h) (q0 := 2 * a) (ci := 2) rfl (by omega) (cW_row (i := a) (by omega)) rfl rfl rfl hl.1 rfl (Nat.le_of_ble_eq_true rfl) dX4_turnAround_23 ⟨Nat.zero_le _, Nat.zero_le _⟩ (fun H locs hP hS => ?_)
        have hP : va_P D vwCl (wL 143 ad (cW ad cy (ρ') (x))) H := hP
        refine n_push (a := vx (ρ a) (pw q k)) (by rw [ea]) ?_
        refine k_callVv (rest := []) (nL := 6) ⟨hx, hb, hml, hown, hts⟩ (c_X2_write l D cy ad hI ρ' x o k (nI (vx (ρ a) (pw q k))) (by first | assumption | omega) (by first | assumption | omega)) (cwV 2 hts gX4_turnAround_X2_write rfl rfl rfl (by decide +kernel) ⟨Nat.le_of_ble_eq_true rfl, Nat.le_of_ble_eq_true rfl⟩) hK hP hS (fun _ h => h) (q0 := 2 * o) (ci := 2) rfl (by omega) (cW_row (i := o) (by omega)) rfl rfl rfl hl.1 rfl (Nat.le_of_ble_eq_true rfl) dX4_turnAround_26 ⟨Nat.zero_le _, Nat.zero_le _⟩ (fun H locs hP hS => ?_)
        have hP : va_P D vwCl (wL 143 ad (cW ad cy (va_up ρ' o ((ρ' o).1, va_up (ρ' o).2 k (kmod (nI (vx (ρ a) (pw q k))).toInt))) (x))) H := hP
        refine lv_iload hx hb dX4_turnAround_29 (lv_at hl 1 rfl) ?_
        refine lv_iload_n hx hb dX4_turnAround_31 rfl (lv_at hl 4 rfl) ?_
        refine n_imul hx hb dX4_turnAround_32 ?_
        refine lv_sipush (v := nI (257)) hx hb dX4_turnAround_33 rfl ?_
        refine n_irem hx hb (by omega) (by omega) (by omega) dX4_turnAround_36  ?_
        refine n_push (a := pw q (k + 1)) (by rw [pw_s]) ?_
        refine lv_istore (lv' := [(4, .int (nI (pw q (k + 1)))), (5, .int (nI (k))), (0, .ref (ad (2 * a))), (1, .int (nI (sz))), (2, .int (nI (q))), (3, .ref (ad (2 * o)))]) hx hb dX4_turnAround_37 hl (by decide) rfl (fun ls hl => ?_)
        refine lv_iinc (v := nI (k + 1)) (lv' := [(5, .int (nI (k + 1))), (4, .int (nI (pw q (k + 1)))), (0, .ref (ad (2 * a))), (1, .int (nI (sz))), (2, .int (nI (q))), (3, .ref (ad (2 * o)))]) hx hb dX4_turnAround_39 hl (k := 1) rfl (nI_inc _) (by decide) rfl (fun ls hl => ?_)
        refine lv_goto (tgt := 11) hx hb dX4_turnAround_42 (by decide) ?_
        exact ih11 (k + 1) (va_up ρ' o ((ρ' o).1, va_up (ρ' o).2 k (kmod (nI (vx (ρ a) (pw q k))).toInt))) (by omega) (by rw [kmod_nI (by omega), Nat.mod_eq_of_lt hv, eo, hρ, up_up, tur_s]) (by omega) _ _ hP hS _ hl
  exact lp11 (_ + 1) (0) (va_up ρ o (sz, fun _ => 0)) (by omega) (by rw [tur_0]) (Nat.lt_succ_self _) _ _ hP hS _ hl
