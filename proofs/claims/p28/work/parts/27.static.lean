set_option maxHeartbeats 4000000 in
set_option maxRecDepth 100000 in
theorem c_X4_countCharacters (l : Launch) (D : va_G) (cy : Nat → ClassId) (ad : Nat → Nat) (hI : wI 143 ad) (ρ : Nat → kR) (x : kX) (n : Nat) (hn : n < 2 ^ 64) : kM l yX4_countCharacters wsX4_countCharacters ({ frames := 0, cells := 0, slots := 0, locals := 0 } : Room) D cy 143 ad (cWf ad cy) (cW ad cy (ρ) (x)) [.long (lN n)] (kF (some (.int (nI (chr 8 0 n)))) (ρ, x)) := by
  refine k_met cX4_countCharacters 6 (some .int) (by decide) rfl (Nat.le_of_ble_eq_true rfl) ?_
  intro p e s m below meth c ls hx hb hr hts hown hlocks hml hK hP hS hl
  have hl : lv_has ls 6 [(0, .long (lN n))] := hl
  have hown : s.vm.findClass RX4 = some m.cls := hown
  refine lv_iconst (v := nI (0)) hx hb dX4_countCharacters_0 rfl ?_
  refine lv_istore_n (lv' := [(2, .int (nI (0))), (0, .long (lN n))]) hx hb dX4_countCharacters_1 rfl hl (by decide) rfl (fun ls hl => ?_)
  refine lv_lload_n hx hb dX4_countCharacters_2 rfl (lv_at hl 1 rfl) ?_
  refine lv_lstore_n (lv' := [(3, .long (lN n)), (2, .int (nI (0))), (0, .long (lN n))]) hx hb dX4_countCharacters_3 rfl hl (by decide) rfl (fun ls hl => ?_)
  have lp4 : ∀ (fu : Nat) (k : Nat) (t : Nat), (k ≤ 8) → (t < 2 ^ 64) → (chr (8 - k) k t = chr 8 0 n) → 8 - k < fu → ∀ (H : Heap) (locs : List Loc), va_P D vwCl (wL 143 ad (cW ad cy (ρ) (x))) H → va_S (wA 143 ad) s.heap H locs → ∀ (ls : Array Slot), lv_has ls 6 [(3, .long (lN t)), (2, .int (nI (k))), (0, .long (lN n))] → W p l e ({ frames := 0, cells := 0, slots := 0, locals := 0 } : Room) s m ([.long (lN n)] : List Value).toArray below meth c H locs 0 0 (MQ below (kQ D 143 ad (cWf ad cy) (kF (some (.int (nI (chr 8 0 n)))) (ρ, x))) ([.long (lN n)] : List Value).toArray s 0 0 (wA 143 ad)) (F0 m 4 ls []) := by
    intro fu
    induction fu with
    | zero => intro k t hk ht he hfu; exact absurd hfu (Nat.not_lt_zero _)
    | succ fu ih4 =>
      intro k t hk ht he hfu H locs hP hS ls hl
      refine lv_iload_n hx hb dX4_countCharacters_4 rfl (lv_at hl 1 rfl) ?_
      refine lv_bipush (v := nI (8)) hx hb dX4_countCharacters_5 rfl ?_
      refine n_icmp_ge (tgt := 51) hx hb (by omega) (by omega) dX4_countCharacters_7 (by decide) (fun h_1 => ?_) (fun h_1 => ?_)
      · skip
        refine lv_iload_n hx hb dX4_countCharacters_51 rfl (lv_at hl 1 rfl) ?_
        refine k_iret hx hb hr hlocks (ρ, x) hP hS dX4_countCharacters_52 ?_
        exact ⟨rN (by rw [← he, show 8 - k = 0 by omega]; rfl), rfl⟩
      · skip
        refine lv_lload_n hx hb dX4_countCharacters_10 rfl (lv_at hl 0 rfl) ?_
        refine lv_lconst (v := lN 0) hx hb dX4_countCharacters_11 rfl ?_
        refine W.lcmp hx hb dX4_countCharacters_12 ?_
        refine lv_if_eq (tgt := 51) hx hb dX4_countCharacters_13 (by decide) (fun h_2 => ?_) (fun h_2 => ?_)
        · skip
          refine lv_iload_n hx hb dX4_countCharacters_51 rfl (lv_at hl 1 rfl) ?_
          refine k_iret hx hb hr hlocks (ρ, x) hP hS dX4_countCharacters_52 ?_
          exact ⟨rN (by rw [← he, (lN_eq0 ht).mp ((lg_eq0 _ _).mp h_2), chr_0]), rfl⟩
        · skip
          refine lv_lload_n hx hb dX4_countCharacters_16 rfl (lv_at hl 0 rfl) ?_
          refine lv_ldc2 hx hb hown (hts (.constantLong RX4 215 (255)) (by decide +kernel)) dX4_countCharacters_17 ?_
          refine lv_land hx hb dX4_countCharacters_20 ?_
          refine l_push (b := lN (t % 256)) (lN_and255 ht) ?_
          refine lv_l2i hx hb dX4_countCharacters_21 rfl ?_
          refine n_push (a := t % 256) (lN_toI _) ?_
          refine lv_istore (lv' := [(5, .int (nI (t % 256))), (3, .long (lN t)), (2, .int (nI (k))), (0, .long (lN n))]) hx hb dX4_countCharacters_22 hl (by decide) rfl (fun ls hl => ?_)
          refine lv_iload hx hb dX4_countCharacters_24 (lv_at hl 0 rfl) ?_
          refine lv_bipush (v := nI (33)) hx hb dX4_countCharacters_26 rfl ?_
          refine n_icmp_lt (tgt := 38) hx hb (by omega) (by omega) dX4_countCharacters_28 (by decide) (fun h_3 => ?_) (fun h_3 => ?_)
          · skip
            refine lv_iconst (v := nI (0)) hx hb dX4_countCharacters_38 rfl ?_
            refine k_iret hx hb hr hlocks (ρ, x) hP hS dX4_countCharacters_39 ?_
            exact ⟨rN (by rw [← he, show 8 - k = (8 - (k + 1)) + 1 by omega, chr_bad (fun q => h_2 ((lg_eq0 _ _).mpr ((lN_eq0 ht).mpr q))) (by omega)]), rfl⟩
          · skip
            refine lv_iload hx hb dX4_countCharacters_31 (lv_at hl 0 rfl) ?_
            refine lv_bipush (v := nI (126)) hx hb dX4_countCharacters_33 rfl ?_
            refine n_icmp_le (tgt := 40) hx hb (by omega) (by omega) dX4_countCharacters_35 (by decide) (fun h_4 => ?_) (fun h_4 => ?_)
            · skip
              refine lv_iinc (v := nI (k + 1)) (lv' := [(2, .int (nI (k + 1))), (5, .int (nI (t % 256))), (3, .long (lN t)), (0, .long (lN n))]) hx hb dX4_countCharacters_40 hl (k := 2) rfl (nI_inc _) (by decide) rfl (fun ls hl => ?_)
              refine lv_lload_n hx hb dX4_countCharacters_43 rfl (lv_at hl 2 rfl) ?_
              refine lv_bipush (v := nI (8)) hx hb dX4_countCharacters_44 rfl ?_
              refine lv_lushr hx hb dX4_countCharacters_46 rfl ?_
              refine l_push (b := lN (t / 256)) (lN_ushr8 ht) ?_
              refine lv_lstore_n (lv' := [(3, .long (lN (t / 256))), (2, .int (nI (k + 1))), (5, .int (nI (t % 256))), (0, .long (lN n))]) hx hb dX4_countCharacters_47 rfl hl (by decide) rfl (fun ls hl => ?_)
              refine lv_goto (tgt := 4) hx hb dX4_countCharacters_48 (by decide) ?_
              exact ih4 (k + 1) (t / 256) (by omega) (by omega) (by rw [← he, show 8 - k = (8 - (k + 1)) + 1 by omega, chr_ok (fun q => h_2 ((lg_eq0 _ _).mpr ((lN_eq0 ht).mpr q))) ⟨h_3, h_4⟩]) (by omega) _ _ hP hS _ (lv_sub hl [0, 1, 3] rfl)
            · skip
              refine lv_iconst (v := nI (0)) hx hb dX4_countCharacters_38 rfl ?_
              refine k_iret hx hb hr hlocks (ρ, x) hP hS dX4_countCharacters_39 ?_
              exact ⟨rN (by rw [← he, show 8 - k = (8 - (k + 1)) + 1 by omega, chr_bad (fun q => h_2 ((lg_eq0 _ _).mpr ((lN_eq0 ht).mpr q))) (by omega)]), rfl⟩
  exact lp4 (_ + 1) (0) (n) (by omega) hn rfl (Nat.lt_succ_self _) _ _ hP hS _ hl
set_option maxHeartbeats 4000000 in
set_option maxRecDepth 100000 in
theorem c_X4_invertRow (l : Launch) (D : va_G) (cy : Nat → ClassId) (ad : Nat → Nat) (hI : wI 143 ad) (ρ : Nat → kR) (x : kX) (a : Nat) (n : Nat) (o : Nat) (ha : a < 59) (ho : o < 59) (hao : a ≠ o) (hra : rK (ρ a)) (hn : 1 ≤ n ∧ n ≤ 64) : kM l yX4_invertRow wsX4_invertRow ({ frames := 2, cells := 0, slots := 0, locals := 44 } : Room) D cy 143 ad (cWf ad cy) (cW ad cy (ρ) (x)) [.ref (ad (2 * a)), .int (nI (n)), .ref (ad (2 * o))] (kF none (va_up ρ o (n, inv (ρ a).2 (pw ((ρ a).2 0) 255) n), x)) := by
  refine k_met cX4_invertRow 7 none (by decide) rfl (Nat.le_of_ble_eq_true rfl) ?_
  intro p e s m below meth c ls hx hb hr hts hown hlocks hml hK hP hS hl
  have hl : lv_has ls 7 [(0, .ref (ad (2 * a))), (1, .int (nI (n))), (2, .ref (ad (2 * o)))] := hl
  have hown : s.vm.findClass RX4 = some m.cls := hown
  obtain ⟨hla, hfa⟩ := hra
  have hf0 := hfa 0
  have hw := pw_lt ((ρ a).2 0) 255
  obtain ⟨w, ew⟩ : ∃ w, w = pw ((ρ a).2 0) 255 := ⟨_, rfl⟩
  rw [← ew] at hw
  refine lv_aload_n hx hb dX4_invertRow_0 rfl (lv_at hl 0 rfl) ?_
  refine lv_iconst (v := nI (0)) hx hb dX4_invertRow_1 rfl ?_
  refine k_callVr (rest := []) (nL := 7) ⟨hx, hb, hml, hown, hts⟩ (c_X2_at l D cy ad hI ρ x a 0 (by first | assumption | omega) (by first | assumption | omega)) (cwV 1 hts gX4_invertRow_X2_at rfl rfl rfl (by decide +kernel) ⟨Nat.le_of_ble_eq_true rfl, Nat.le_of_ble_eq_true rfl⟩) hK hP hS (fun _ h => h) (q0 := 2 * a) (ci := 2) rfl (by omega) (cW_row (i := a) (by omega)) rfl rfl rfl hl.1 rfl (Nat.le_of_ble_eq_true rfl) dX4_invertRow_2 ⟨Nat.zero_le _, Nat.zero_le _⟩ (fun H locs hP hS => ?_)
  have hP : va_P D vwCl (wL 143 ad (cW ad cy (ρ) (x))) H := hP
  refine k_callSr (rest := []) (nL := 7) ⟨hx, hb, hml, hown, hts⟩ (c_X4_inverseOf l D cy ad hI ρ x ((ρ a).2 0) (by first | assumption | omega)) (va_cwS 1 hts gX4_invertRow_X4_inverseOf rfl rfl rfl (by decide +kernel) ⟨Nat.le_of_ble_eq_true rfl, Nat.le_of_ble_eq_true rfl⟩) hK hP hS (fun _ h => h) rfl hl.1 rfl (Nat.le_of_ble_eq_true rfl) dX4_invertRow_5 ⟨Nat.zero_le _, Nat.zero_le _⟩ (fun H locs hP hS => ?_)
  have hP : va_P D vwCl (wL 143 ad (cW ad cy (ρ) (x))) H := hP
  refine lv_istore_n (lv' := [(3, .int (nI (pw ((ρ a).2 0) 255))), (0, .ref (ad (2 * a))), (1, .int (nI (n))), (2, .ref (ad (2 * o)))]) hx hb dX4_invertRow_8 rfl hl (by decide) rfl (fun ls hl => ?_)
  refine lv_aload_n hx hb dX4_invertRow_9 rfl (lv_at hl 3 rfl) ?_
  refine lv_iload_n hx hb dX4_invertRow_10 rfl (lv_at hl 2 rfl) ?_
  refine k_callVv (rest := []) (nL := 7) ⟨hx, hb, hml, hown, hts⟩ (c_X2_clear l D cy ad hI ρ x o n (by first | assumption | omega)) (cwV 1 hts gX4_invertRow_X2_clear rfl rfl rfl (by decide +kernel) ⟨Nat.le_of_ble_eq_true rfl, Nat.le_of_ble_eq_true rfl⟩) hK hP hS (fun _ h => h) (q0 := 2 * o) (ci := 2) rfl (by omega) (cW_row (i := o) (by omega)) rfl rfl rfl hl.1 rfl (Nat.le_of_ble_eq_true rfl) dX4_invertRow_11 ⟨Nat.zero_le _, Nat.zero_le _⟩ (fun H locs hP hS => ?_)
  have hP : va_P D vwCl (wL 143 ad (cW ad cy (va_up ρ o (n, fun _ => 0)) (x))) H := hP
  refine lv_aload_n hx hb dX4_invertRow_14 rfl (lv_at hl 3 rfl) ?_
  refine lv_iconst (v := nI (0)) hx hb dX4_invertRow_15 rfl ?_
  refine lv_iload_n hx hb dX4_invertRow_16 rfl (lv_at hl 0 rfl) ?_
  refine k_callVv (rest := []) (nL := 7) ⟨hx, hb, hml, hown, hts⟩ (c_X2_write l D cy ad hI (va_up ρ o (n, fun _ => 0)) x o 0 (nI (pw ((ρ a).2 0) 255)) (by first | assumption | omega) (by first | assumption | omega)) (cwV 2 hts gX4_invertRow_X2_write rfl rfl rfl (by decide +kernel) ⟨Nat.le_of_ble_eq_true rfl, Nat.le_of_ble_eq_true rfl⟩) hK hP hS (fun _ h => h) (q0 := 2 * o) (ci := 2) rfl (by omega) (cW_row (i := o) (by omega)) rfl rfl rfl hl.1 rfl (Nat.le_of_ble_eq_true rfl) dX4_invertRow_17 ⟨Nat.zero_le _, Nat.zero_le _⟩ (fun H locs hP hS => ?_)
  have hP : va_P D vwCl (wL 143 ad (cW ad cy (va_up (va_up ρ o (n, fun _ => 0)) o (((va_up ρ o (n, fun _ => 0)) o).1, va_up ((va_up ρ o (n, fun _ => 0)) o).2 0 (kmod (nI (pw ((ρ a).2 0) 255)).toInt))) (x))) H := hP
  refine lv_iconst (v := nI (1)) hx hb dX4_invertRow_20 rfl ?_
  refine lv_istore (lv' := [(4, .int (nI (1))), (3, .int (nI (pw ((ρ a).2 0) 255))), (0, .ref (ad (2 * a))), (1, .int (nI (n))), (2, .ref (ad (2 * o)))]) hx hb dX4_invertRow_21 hl (by decide) rfl (fun ls hl => ?_)
  have lp23 : ∀ (fu : Nat) (k : Nat) (ρ' : Nat → kR), (1 ≤ k ∧ k ≤ n) → (ρ' = va_up ρ o (n, inv (ρ a).2 w k)) → n - k < fu → ∀ (H : Heap) (locs : List Loc), va_P D vwCl (wL 143 ad (cW ad cy (ρ') (x))) H → va_S (wA 143 ad) s.heap H locs → ∀ (ls : Array Slot), lv_has ls 7 [(4, .int (nI (k))), (3, .int (nI (w))), (0, .ref (ad (2 * a))), (1, .int (nI (n))), (2, .ref (ad (2 * o)))] → W p l e ({ frames := 2, cells := 0, slots := 0, locals := 44 } : Room) s m ([.ref (ad (2 * a)), .int (nI (n)), .ref (ad (2 * o))] : List Value).toArray below meth c H locs 0 0 (MQ below (kQ D 143 ad (cWf ad cy) (kF none (va_up ρ o (n, inv (ρ a).2 (pw ((ρ a).2 0) 255) n), x))) ([.ref (ad (2 * a)), .int (nI (n)), .ref (ad (2 * o))] : List Value).toArray s 0 0 (wA 143 ad)) (F0 m 23 ls []) := by
    intro fu
    induction fu with
    | zero => intro k ρ' hk hρ hfu; exact absurd hfu (Nat.not_lt_zero _)
    | succ fu ih23 =>
      intro k ρ' hk hρ hfu H locs hP hS ls hl
      have ea : ρ' a = ρ a := by rw [hρ, va_up_ne _ _ hao]
      have eo : ρ' o = (n, inv (ρ a).2 w k) := by rw [hρ, va_up_self]
      have hg := inv_lt (f := (ρ a).2) hw k
      have hk0 : ¬ k = 0 := by omega
      refine lv_iload hx hb dX4_invertRow_23 (lv_at hl 0 rfl) ?_
      refine lv_iload_n hx hb dX4_invertRow_25 rfl (lv_at hl 3 rfl) ?_
      refine n_icmp_ge (tgt := 90) hx hb (by omega) (by omega) dX4_invertRow_26 (by decide) (fun h_1 => ?_) (fun h_1 => ?_)
      · skip
        rw [hρ, show k = n by omega] at hP
        subst ew
        refine k_vret hx hb hr hlocks (va_up ρ o (n, inv (ρ a).2 (pw ((ρ a).2 0) 255) n), x) hP hS dX4_invertRow_90 ?_
        exact ⟨rfl, rfl⟩
      · skip
        refine lv_iconst (v := nI (0)) hx hb dX4_invertRow_29 rfl ?_
        refine lv_istore (lv' := [(5, .int (nI (0))), (4, .int (nI (k))), (3, .int (nI (w))), (0, .ref (ad (2 * a))), (1, .int (nI (n))), (2, .ref (ad (2 * o)))]) hx hb dX4_invertRow_30 hl (by decide) rfl (fun ls hl => ?_)
        refine lv_iconst (v := nI (1)) hx hb dX4_invertRow_32 rfl ?_
        refine lv_istore (lv' := [(6, .int (nI (1))), (5, .int (nI (0))), (4, .int (nI (k))), (3, .int (nI (w))), (0, .ref (ad (2 * a))), (1, .int (nI (n))), (2, .ref (ad (2 * o)))]) hx hb dX4_invertRow_33 hl (by decide) rfl (fun ls hl => ?_)
        have lp35 : ∀ (fu : Nat) (i : Nat) (t : Nat), (1 ≤ i ∧ i ≤ k + 1) → (t = conv (ρ a).2 (inv (ρ a).2 w k) k (i - 1)) → k + 1 - i < fu → ∀ (H : Heap) (locs : List Loc), va_P D vwCl (wL 143 ad (cW ad cy (ρ') (x))) H → va_S (wA 143 ad) s.heap H locs → ∀ (ls : Array Slot), lv_has ls 7 [(6, .int (nI (i))), (5, .int (nI (t))), (4, .int (nI (k))), (3, .int (nI (w))), (0, .ref (ad (2 * a))), (1, .int (nI (n))), (2, .ref (ad (2 * o)))] → W p l e ({ frames := 2, cells := 0, slots := 0, locals := 44 } : Room) s m ([.ref (ad (2 * a)), .int (nI (n)), .ref (ad (2 * o))] : List Value).toArray below meth c H locs 0 0 (MQ below (kQ D 143 ad (cWf ad cy) (kF none (va_up ρ o (n, inv (ρ a).2 (pw ((ρ a).2 0) 255) n), x))) ([.ref (ad (2 * a)), .int (nI (n)), .ref (ad (2 * o))] : List Value).toArray s 0 0 (wA 143 ad)) (F0 m 35 ls []) := by
          intro fu
          induction fu with
          | zero => intro i t hi ht hfu; exact absurd hfu (Nat.not_lt_zero _)
          | succ fu ih35 =>
            intro i t hi ht hfu H locs hP hS ls hl
            have hcv := conv_le (k := k) hfa hg (i - 1)
            have hm := mul_lt_257 (hfa i) (hg (k - i))
            have hc2 : 65536 * (i - 1) ≤ 65536 * 64 := Nat.mul_le_mul_left _ (by omega)
            rw [← ht] at hcv
            refine lv_iload hx hb dX4_invertRow_35 (lv_at hl 0 rfl) ?_
            refine lv_iload hx hb dX4_invertRow_37 (lv_at hl 2 rfl) ?_
            refine n_icmp_gt (tgt := 69) hx hb (by omega) (by omega) dX4_invertRow_39 (by decide) (fun h_2 => ?_) (fun h_2 => ?_)
            · skip
              refine lv_aload_n hx hb dX4_invertRow_69 rfl (lv_at hl 6 rfl) ?_
              refine lv_iload hx hb dX4_invertRow_70 (lv_at hl 2 rfl) ?_
              refine lv_iload hx hb dX4_invertRow_72 (lv_at hl 1 rfl) ?_
              refine lv_sipush (v := nI (257)) hx hb dX4_invertRow_74 rfl ?_
              refine n_irem hx hb (by omega) (by omega) (by omega) dX4_invertRow_77  ?_
              refine n_push (a := conv (ρ a).2 (inv (ρ a).2 w k) k (i - 1) % 257) (by rw [ht]) ?_
              refine lv_ineg hx hb dX4_invertRow_78 ?_
              refine lv_iload_n hx hb dX4_invertRow_79 rfl (lv_at hl 3 rfl) ?_
              refine lv_imul hx hb dX4_invertRow_80 ?_
              refine k_callVv (rest := []) (nL := 7) ⟨hx, hb, hml, hown, hts⟩ (c_X2_write l D cy ad hI ρ' x o k ((-(nI (conv (ρ a).2 (inv (ρ a).2 w k) k (i - 1) % 257))) * (nI (w))) (by first | assumption | omega) (by first | assumption | omega)) (cwV 2 hts gX4_invertRow_X2_write rfl rfl rfl (by decide +kernel) ⟨Nat.le_of_ble_eq_true rfl, Nat.le_of_ble_eq_true rfl⟩) hK hP hS (fun _ h => h) (q0 := 2 * o) (ci := 2) rfl (by omega) (cW_row (i := o) (by omega)) rfl rfl rfl hl.1 rfl (Nat.le_of_ble_eq_true rfl) dX4_invertRow_81 ⟨Nat.zero_le _, Nat.zero_le _⟩ (fun H locs hP hS => ?_)
              have hP : va_P D vwCl (wL 143 ad (cW ad cy (va_up ρ' o ((ρ' o).1, va_up (ρ' o).2 k (kmod ((-(nI (conv (ρ a).2 (inv (ρ a).2 w k) k (i - 1) % 257))) * (nI (w))).toInt))) (x))) H := hP
              refine lv_iinc (v := nI (k + 1)) (lv' := [(4, .int (nI (k + 1))), (6, .int (nI (i))), (5, .int (nI (t))), (3, .int (nI (w))), (0, .ref (ad (2 * a))), (1, .int (nI (n))), (2, .ref (ad (2 * o)))]) hx hb dX4_invertRow_84 hl (k := 2) rfl (nI_inc _) (by decide) rfl (fun ls hl => ?_)
              refine lv_goto (tgt := 23) hx hb dX4_invertRow_87 (by decide) ?_
              exact ih23 (k + 1) (va_up ρ' o ((ρ' o).1, va_up (ρ' o).2 k (kmod ((-(nI (conv (ρ a).2 (inv (ρ a).2 w k) k (i - 1) % 257))) * (nI (w))).toInt))) (by omega) (by rw [ngm_e (Nat.mod_lt _ (by decide)) hw, eo, hρ, up_up, show i - 1 = k by omega]; exact congrArg (fun z => va_up ρ o (n, va_up (inv (ρ a).2 w k) k z)) (if_neg hk0).symm) (by omega) _ _ hP hS _ (lv_sub hl [0, 3, 4, 5, 6] rfl)
            · skip
              refine lv_iload hx hb dX4_invertRow_42 (lv_at hl 1 rfl) ?_
              refine lv_aload_n hx hb dX4_invertRow_44 rfl (lv_at hl 4 rfl) ?_
              refine lv_iload hx hb dX4_invertRow_45 (lv_at hl 0 rfl) ?_
              refine k_callVr (rest := [.int (nI (t))]) (nL := 7) ⟨hx, hb, hml, hown, hts⟩ (c_X2_at l D cy ad hI ρ' x a i (by first | assumption | omega) (by first | assumption | omega)) (cwV 1 hts gX4_invertRow_X2_at rfl rfl rfl (by decide +kernel) ⟨Nat.le_of_ble_eq_true rfl, Nat.le_of_ble_eq_true rfl⟩) hK hP hS (fun _ h => h) (q0 := 2 * a) (ci := 2) rfl (by omega) (cW_row (i := a) (by omega)) rfl rfl rfl hl.1 rfl (Nat.le_of_ble_eq_true rfl) dX4_invertRow_47 ⟨Nat.zero_le _, Nat.zero_le _⟩ (fun H locs hP hS => ?_)
              have hP : va_P D vwCl (wL 143 ad (cW ad cy (ρ') (x))) H := hP
              refine n_push (a := (ρ a).2 i) (by rw [ea]) ?_
              refine lv_aload_n hx hb dX4_invertRow_50 rfl (lv_at hl 6 rfl) ?_
              refine lv_iload hx hb dX4_invertRow_51 (lv_at hl 2 rfl) ?_
              refine lv_iload hx hb dX4_invertRow_53 (lv_at hl 0 rfl) ?_
              refine n_isub hx hb (by omega) dX4_invertRow_55 ?_
              refine k_callVr (rest := [.int (nI ((ρ a).2 i)), .int (nI (t))]) (nL := 7) ⟨hx, hb, hml, hown, hts⟩ (c_X2_at l D cy ad hI ρ' x o (k - i) (by first | assumption | omega) (by first | assumption | omega)) (cwV 1 hts gX4_invertRow_X2_at rfl rfl rfl (by decide +kernel) ⟨Nat.le_of_ble_eq_true rfl, Nat.le_of_ble_eq_true rfl⟩) hK hP hS (fun _ h => h) (q0 := 2 * o) (ci := 2) rfl (by omega) (cW_row (i := o) (by omega)) rfl rfl rfl hl.1 rfl (Nat.le_of_ble_eq_true rfl) dX4_invertRow_56 ⟨Nat.zero_le _, Nat.zero_le _⟩ (fun H locs hP hS => ?_)
              have hP : va_P D vwCl (wL 143 ad (cW ad cy (ρ') (x))) H := hP
              refine n_push (a := inv (ρ a).2 w k (k - i)) (by rw [eo]) ?_
              refine n_imul hx hb dX4_invertRow_59 ?_
              refine n_iadd hx hb dX4_invertRow_60 ?_
              refine lv_istore (lv' := [(5, .int (nI (t + (((ρ a).2 i) * (inv (ρ a).2 w k (k - i)))))), (6, .int (nI (i))), (4, .int (nI (k))), (3, .int (nI (w))), (0, .ref (ad (2 * a))), (1, .int (nI (n))), (2, .ref (ad (2 * o)))]) hx hb dX4_invertRow_61 hl (by decide) rfl (fun ls hl => ?_)
              refine lv_iinc (v := nI (i + 1)) (lv' := [(6, .int (nI (i + 1))), (5, .int (nI (t + (((ρ a).2 i) * (inv (ρ a).2 w k (k - i)))))), (4, .int (nI (k))), (3, .int (nI (w))), (0, .ref (ad (2 * a))), (1, .int (nI (n))), (2, .ref (ad (2 * o)))]) hx hb dX4_invertRow_63 hl (k := 1) rfl (nI_inc _) (by decide) rfl (fun ls hl => ?_)
              refine lv_goto (tgt := 35) hx hb dX4_invertRow_66 (by decide) ?_
              exact ih35 (i + 1) (t + (ρ a).2 i * inv (ρ a).2 w k (k - i)) (by omega) (by rw [ht]; obtain ⟨j, rfl⟩ : ∃ j, i = j + 1 := ⟨i - 1, by omega⟩; rfl) (by omega) _ _ hP hS _ hl
        exact lp35 (_ + 1) (1) (0) (by omega) rfl (Nat.lt_succ_self _) _ _ hP hS _ hl
  rw [← ew] at hl hP
  exact lp23 (_ + 1) (1) (va_up (va_up ρ o (n, fun _ => 0)) o ((va_up ρ o (n, fun _ => 0) o).1, va_up (va_up ρ o (n, fun _ => 0) o).2 0 (kmod (nI w).toInt))) (by omega) (by rw [up_up, va_up_self, kmod_nI (by omega), Nat.mod_eq_of_lt hw]; rfl) (Nat.lt_succ_self _) _ _ hP hS _ hl
