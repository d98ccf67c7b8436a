set_option maxHeartbeats 4000000 in
set_option maxRecDepth 100000 in
theorem c_X1_withDigit (l : Launch) (D : va_G) (cy : Nat → ClassId) (ad : Nat → Nat) (hI : wI 143 ad) (ρ : Nat → kR) (x : kX) (u : Option Nat) (c1 : Nat) (hu : ∀ v, u = some v → v < 257) (hc : c1 < 128) : kM l yX1_withDigit wsX1_withDigit ({ frames := 1, cells := 0, slots := 0, locals := 19 } : Room) D cy 143 ad (cWf ad cy) (cW ad cy (ρ) (x)) [.int (nv u), .int (nI (c1))] (kF (some (.int (wdV (wdg u c1)))) (ρ, x)) := by
  refine k_met cX1_withDigit 3 (some .int) (by decide) rfl (Nat.le_of_ble_eq_true rfl) ?_
  intro p e s m below meth c ls hx hb hr hts hown hlocks hml hK hP hS hl
  have hl : lv_has ls 3 [(0, .int (nv u)), (1, .int (nI (c1)))] := hl
  have hown : s.vm.findClass RX1 = some m.cls := hown
  have hm_33 := hts (.methodLink RX1 33 Lib.Math.max.name) (by decide +kernel)
  have hms := hts (.static Lib.Math.max.name) (by decide +kernel)
  have hmi := hts (.initialized "java/lang/Math") (by decide +kernel)
  have hmc := hts (.code Lib.Math.max.name Lib.Math.max.code 2 (some .int)) (by decide +kernel)
  have hg : u.getD 0 < 257 := by
    cases u with
    | none => exact (by decide : 0 < 257)
    | some v => exact hu v rfl
  have hno : ¬ (48 ≤ c1 ∧ c1 ≤ 57 ∧ u ≠ some 0 ∧ u.getD 0 * 10 + c1 - 48 < 257) → wdg u c1 = none := fun h => if_neg h
  refine lv_iload_n hx hb dX1_withDigit_0 rfl (lv_at hl 1 rfl) ?_
  refine lv_bipush (v := nI (48)) hx hb dX1_withDigit_1 rfl ?_
  refine n_icmp_lt (tgt := 16) hx hb (by omega) (by omega) dX1_withDigit_3 (by decide) (fun h_1 => ?_) (fun h_1 => ?_)
  · skip
    refine lv_bipush (v := (-3 : Int32)) hx hb dX1_withDigit_16 (by decide) ?_
    refine k_iret hx hb hr hlocks (ρ, x) hP hS dX1_withDigit_18 ?_
    exact ⟨by rw [hno (fun q => by omega)]; rfl, rfl⟩
  · skip
    refine lv_iload_n hx hb dX1_withDigit_6 rfl (lv_at hl 1 rfl) ?_
    refine lv_bipush (v := nI (57)) hx hb dX1_withDigit_7 rfl ?_
    refine n_icmp_gt (tgt := 16) hx hb (by omega) (by omega) dX1_withDigit_9 (by decide) (fun h_2 => ?_) (fun h_2 => ?_)
    · skip
      refine lv_bipush (v := (-3 : Int32)) hx hb dX1_withDigit_16 (by decide) ?_
      refine k_iret hx hb hr hlocks (ρ, x) hP hS dX1_withDigit_18 ?_
      exact ⟨by rw [hno (fun q => by omega)]; rfl, rfl⟩
    · skip
      refine lv_iload_n hx hb dX1_withDigit_12 rfl (lv_at hl 0 rfl) ?_
      refine lv_if_ne (tgt := 19) hx hb dX1_withDigit_13 (by decide) (fun h_3 => ?_) (fun h_3 => ?_)
      · skip
        have hu0 : u ≠ some 0 := fun q => h_3 ((nv_zero hu).mpr q)
        refine lv_iload_n hx hb dX1_withDigit_19 rfl (lv_at hl 0 rfl) ?_
        refine lv_iconst (v := nI (0)) hx hb dX1_withDigit_20 rfl ?_
        refine va_mmax hx hb (hml.trans hl.1.symm) hown hm_33 hms hmi hmc (by decide) (Nat.le_of_ble_eq_true rfl) (Nat.zero_le _) (Nat.zero_le _) dX1_withDigit_21 ?_
        refine n_push (a := u.getD 0) (nv_max hu) ?_
        refine lv_bipush (v := nI (10)) hx hb dX1_withDigit_24 rfl ?_
        refine n_imul hx hb dX1_withDigit_26 ?_
        refine lv_iload_n hx hb dX1_withDigit_27 rfl (lv_at hl 1 rfl) ?_
        refine n_iadd hx hb dX1_withDigit_28 ?_
        refine lv_bipush (v := nI (48)) hx hb dX1_withDigit_29 rfl ?_
        refine n_isub hx hb (by omega) dX1_withDigit_31 ?_
        refine lv_istore_n (lv' := [(2, .int (nI ((((u.getD 0) * 10) + c1) - 48))), (0, .int (nv u)), (1, .int (nI (c1)))]) hx hb dX1_withDigit_32 rfl hl (by decide) rfl (fun ls hl => ?_)
        refine lv_iload_n hx hb dX1_withDigit_33 rfl (lv_at hl 0 rfl) ?_
        refine lv_sipush (v := nI (257)) hx hb dX1_withDigit_34 rfl ?_
        refine n_icmp_ge (tgt := 44) hx hb (by omega) (by omega) dX1_withDigit_37 (by decide) (fun h_4 => ?_) (fun h_4 => ?_)
        · skip
          refine lv_bipush (v := (-3 : Int32)) hx hb dX1_withDigit_44 (by decide) ?_
          refine k_iret hx hb hr hlocks (ρ, x) hP hS dX1_withDigit_46 ?_
          exact ⟨by rw [hno (fun q => by omega)]; rfl, rfl⟩
        · skip
          refine lv_iload_n hx hb dX1_withDigit_40 rfl (lv_at hl 0 rfl) ?_
          refine lv_goto (tgt := 46) hx hb dX1_withDigit_41 (by decide) ?_
          refine k_iret hx hb hr hlocks (ρ, x) hP hS dX1_withDigit_46 ?_
          exact ⟨by rw [show wdg u c1 = some (u.getD 0 * 10 + c1 - 48) from if_pos ⟨by omega, by omega, hu0, by omega⟩]; rfl, rfl⟩
      · skip
        have hu0 : u = some 0 := (nv_zero hu).mp h_3
        refine lv_bipush (v := (-3 : Int32)) hx hb dX1_withDigit_16 (by decide) ?_
        refine k_iret hx hb hr hlocks (ρ, x) hP hS dX1_withDigit_18 ?_
        exact ⟨by rw [hno (fun q => q.2.2.1 hu0)]; rfl, rfl⟩
set_option maxHeartbeats 4000000 in
set_option maxRecDepth 100000 in
theorem c_X1_scan (l : Launch) (D : va_G) (cy : Nat → ClassId) (ad : Nat → Nat) (hI : wI 143 ad) (ρ : Nat → kR) (x : kX) (g : Nat) (hg : g < 59) (hpl : x.2.2.1 ≤ 80) (hpd : ∀ j, j < x.2.2.1 → x.2.2.2.1 j < 127) : kM l yX1_scan wsX1_scan ({ frames := 3, cells := 0, slots := 0, locals := 66 } : Room) D cy 143 ad (cWf ad cy) (cW ad cy (ρ) (x)) [.ref (ad (139)), .ref (ad (2 * g))] (fun o u => o = some (.int (psA x.2.2.2.1 x.2.2.1).1) ∧ u.2 = x ∧ (∀ i, i ≠ g → u.1 i = ρ i) ∧ ((psA x.2.2.2.1 x.2.2.1).1 = -6 → u.1 g = (psA x.2.2.2.1 x.2.2.1).2)) := by
  refine k_met cX1_scan 5 (some .int) (by decide) rfl (Nat.le_of_ble_eq_true rfl) ?_
  intro p e s m below meth c ls hx hb hr hts hown hlocks hml hK hP hS hl
  have hl : lv_has ls 5 [(0, .ref (ad (139))), (1, .ref (ad (2 * g)))] := hl
  have hown : s.vm.findClass RX1 = some m.cls := hown
  have hf_9 := hts (.fieldLink RX1 9 "TurnedRows$Pad" "codes" "[I") (by decide +kernel)
  have hf_15 := hts (.fieldLink RX1 15 "TurnedRows$Pad" "length" "I") (by decide +kernel)
  have hw_X1 : ∀ qw ∈ wsX10, qw.before ([.ref (ad (139)), .ref (ad (2 * g))] : List Value).toArray s = true := fun qw h => hts qw ((by decide +kernel : ∀ qw ∈ wsX10, qw ∈ wsX1_scan) qw h)
  refine lv_iconst (v := nI (0)) hx hb dX1_scan_0 rfl ?_
  refine lv_istore_n (lv' := [(2, .int (nI (0))), (0, .ref (ad (139))), (1, .ref (ad (2 * g)))]) hx hb dX1_scan_1 rfl hl (by decide) rfl (fun ls hl => ?_)
  refine lv_bipush (v := (-6 : Int32)) hx hb dX1_scan_2 (by decide) ?_
  refine lv_istore_n (lv' := [(3, .int (-6)), (2, .int (nI (0))), (0, .ref (ad (139))), (1, .ref (ad (2 * g)))]) hx hb dX1_scan_4 rfl hl (by decide) rfl (fun ls hl => ?_)
  refine lv_iconst (v := nI (0)) hx hb dX1_scan_5 rfl ?_
  refine lv_istore (lv' := [(4, .int (nI (0))), (3, .int (-6)), (2, .int (nI (0))), (0, .ref (ad (139))), (1, .ref (ad (2 * g)))]) hx hb dX1_scan_6 hl (by decide) rfl (fun ls hl => ?_)
  have lp8 : ∀ (fu : Nat) (i : Nat) (k : Nat) (u : Option Nat) (F : Nat → Nat) (ρ' : Nat → kR), (i ≤ x.2.2.1) → (2 * k ≤ i) → (u ≠ none → 2 * k + 1 ≤ i) → (∀ v, u = some v → v < 257) → (∀ t, t < k → (ρ' g).2 t = F t) → (∀ t, k ≤ t → F t = 0) → (∀ t, t ≠ g → ρ' t = ρ t) → (psr x.2.2.2.1 (x.2.2.1 - i) i k u F = psA x.2.2.2.1 x.2.2.1) → x.2.2.1 - i < fu → ∀ (H : Heap) (locs : List Loc), va_P D vwCl (wL 143 ad (cW ad cy (ρ') (x))) H → va_S (wA 143 ad) s.heap H locs → ∀ (ls : Array Slot), lv_has ls 5 [(4, .int (nI (i))), (3, .int (nv u)), (2, .int (nI (k))), (0, .ref (ad (139))), (1, .ref (ad (2 * g)))] → W p l e ({ frames := 3, cells := 0, slots := 0, locals := 66 } : Room) s m ([.ref (ad (139)), .ref (ad (2 * g))] : List Value).toArray below meth c H locs 0 0 (MQ below (kQ D 143 ad (cWf ad cy) (fun o u => o = some (.int (psA x.2.2.2.1 x.2.2.1).1) ∧ u.2 = x ∧ (∀ i, i ≠ g → u.1 i = ρ i) ∧ ((psA x.2.2.2.1 x.2.2.1).1 = -6 → u.1 g = (psA x.2.2.2.1 x.2.2.1).2))) ([.ref (ad (139)), .ref (ad (2 * g))] : List Value).toArray s 0 0 (wA 143 ad)) (F0 m 8 ls []) := by
    intro fu
    induction fu with
    | zero => intro i k u F ρ' hi hk hk1 hu hF hF0 hfr he hfu; exact absurd hfu (Nat.not_lt_zero _)
    | succ fu ih8 =>
      intro i k u F ρ' hi hk hk1 hu hF hF0 hfr he hfu H locs hP hS ls hl
      refine lv_iload hx hb dX1_scan_8 (lv_at hl 0 rfl) ?_
      refine lv_aload_n hx hb dX1_scan_10 rfl (lv_at hl 3 rfl) ?_
      refine k_get (q0 := 139) (k := 0) (T := TX1) (Nf := 2) (ci := 1) (C := RX1) (v := .ref (ad (140))) hx hb hw_X1 hown hK hP (by decide) cW_pad rfl (by decide) hf_9 rfl rfl dX1_scan_11 ?_
      refine k_alen (q0 := 140) hx hb hK hP 0 (by decide) cW_pc rfl 80 rfl dX1_scan_14 ?_
      have hex : x.2.2.1 ≤ i → x.2.2.1 - i = 0 := fun z => by omega
      refine n_icmp_ge (tgt := 87) hx hb (by omega) (by omega) dX1_scan_15 (by decide) (fun h_1 => ?_) (fun h_1 => ?_)
      · skip
        refine lv_iload_n hx hb dX1_scan_87 rfl (lv_at hl 1 rfl) ?_
        refine lv_bipush (v := (-6 : Int32)) hx hb dX1_scan_88 (by decide) ?_
        have hz0 : x.2.2.1 - i = 0 := by omega
        have hii : i = x.2.2.1 := by omega
        rw [hz0] at he
        refine lv_icmp_ne (tgt := 98) hx hb dX1_scan_90 (by decide) (fun h_2 => ?_) (fun h_2 => ?_)
        · skip
          obtain ⟨v, rfl⟩ : ∃ v, u = some v := by
            cases u with
            | none => exact absurd rfl h_2
            | some v => exact ⟨v, rfl⟩
          have hv := hu v rfl
          have hkk := hk1 (fun z => by cases z)
          refine lv_aload_n hx hb dX1_scan_98 rfl (lv_at hl 4 rfl) ?_
          refine lv_iload_n hx hb dX1_scan_99 rfl (lv_at hl 2 rfl) ?_
          refine lv_iconst (v := nI (1)) hx hb dX1_scan_100 rfl ?_
          refine n_iadd hx hb dX1_scan_101 ?_
          refine k_callVv (rest := []) (nL := 5) ⟨hx, hb, hml, hown, hts⟩ (c_X2_resize l D cy ad hI ρ' x g (k + 1) (by first | assumption | omega) (by first | assumption | omega)) (cwV 1 hts gX1_scan_X2_resize rfl rfl rfl (by decide +kernel) ⟨Nat.le_of_ble_eq_true rfl, Nat.le_of_ble_eq_true rfl⟩) hK hP hS (fun _ h => h) (q0 := 2 * g) (ci := 2) rfl (by omega) (cW_row (i := g) (by omega)) rfl rfl rfl hl.1 rfl (Nat.le_of_ble_eq_true rfl) dX1_scan_102 ⟨Nat.zero_le _, Nat.zero_le _⟩ (fun H locs hP hS => ?_)
          have hP : va_P D vwCl (wL 143 ad (cW ad cy (va_up ρ' g ((k + 1), zfrom (ρ' g).2 (k + 1))) (x))) H := hP
          refine lv_aload_n hx hb dX1_scan_105 rfl (lv_at hl 4 rfl) ?_
          refine lv_iload_n hx hb dX1_scan_106 rfl (lv_at hl 2 rfl) ?_
          refine lv_iload_n hx hb dX1_scan_107 rfl (lv_at hl 1 rfl) ?_
          refine k_callVv (rest := []) (nL := 5) ⟨hx, hb, hml, hown, hts⟩ (c_X2_write l D cy ad hI (va_up ρ' g ((k + 1), zfrom (ρ' g).2 (k + 1))) x g k (nI (v)) (by first | assumption | omega) (by first | assumption | omega)) (cwV 2 hts gX1_scan_X2_write rfl rfl rfl (by decide +kernel) ⟨Nat.le_of_ble_eq_true rfl, Nat.le_of_ble_eq_true rfl⟩) hK hP hS (fun _ h => h) (q0 := 2 * g) (ci := 2) rfl (by omega) (cW_row (i := g) (by omega)) rfl rfl rfl hl.1 rfl (Nat.le_of_ble_eq_true rfl) dX1_scan_108 ⟨Nat.zero_le _, Nat.zero_le _⟩ (fun H locs hP hS => ?_)
          have hP : va_P D vwCl (wL 143 ad (cW ad cy (va_up (va_up ρ' g ((k + 1), zfrom (ρ' g).2 (k + 1))) g (((va_up ρ' g ((k + 1), zfrom (ρ' g).2 (k + 1))) g).1, va_up ((va_up ρ' g ((k + 1), zfrom (ρ' g).2 (k + 1))) g).2 k (kmod (nI (v)).toInt))) (x))) H := hP
          refine lv_bipush (v := (-6 : Int32)) hx hb dX1_scan_111 (by decide) ?_
          refine k_iret hx hb hr hlocks (va_up (va_up ρ' g ((k + 1), zfrom (ρ' g).2 (k + 1))) g (((va_up ρ' g ((k + 1), zfrom (ρ' g).2 (k + 1))) g).1, va_up ((va_up ρ' g ((k + 1), zfrom (ρ' g).2 (k + 1))) g).2 k (kmod (nI (v)).toInt)), x) hP hS dX1_scan_113 ?_
          refine ⟨by rw [← he]; rfl, rfl, fun t ht => ?_, fun _ => ?_⟩
          · show va_up _ g _ t = _
            rw [va_up_ne _ _ ht, va_up_ne _ _ ht]; exact hfr t ht
          · rw [← he]
            show va_up _ g _ g = (k + 1, va_up F k v)
            rw [va_up_self, va_up_self]
            refine congrArg (fun z => (k + 1, z)) ?_
            funext t
            by_cases q : t = k
            · rw [q, va_up_self, va_up_self, kmod_nI (by omega), Nat.mod_eq_of_lt hv]
            · rw [va_up_ne _ _ q, va_up_ne _ _ q]
              show zfrom _ (k + 1) t = F t
              unfold zfrom
              by_cases r : k + 1 ≤ t
              · rw [if_pos r, hF0 t (by omega)]
              · rw [if_neg r, hF t (by omega)]
        · skip
          have hu0 : u = none := (nv_none hu).mp h_2
          subst hu0
          rw [hii] at he
          refine lv_aload_n hx hb dX1_scan_93 rfl (lv_at hl 3 rfl) ?_
          refine k_get (q0 := 139) (k := 1) (T := TX1) (Nf := 2) (ci := 1) (C := RX1) (v := .int (nI (x.2.2.1))) hx hb hw_X1 hown hK hP (by decide) cW_pad rfl (by decide) hf_15 rfl rfl dX1_scan_94 ?_
          refine k_iret hx hb hr hlocks (ρ', x) hP hS dX1_scan_97 ?_
          exact ⟨by rw [← he]; rfl, rfl, hfr, fun q => absurd (q.symm.trans (by rw [← he]; rfl)) (nI_ne6 (by omega))⟩
      · skip
        refine lv_iload hx hb dX1_scan_18 (lv_at hl 0 rfl) ?_
        refine lv_aload_n hx hb dX1_scan_20 rfl (lv_at hl 3 rfl) ?_
        refine k_get (q0 := 139) (k := 1) (T := TX1) (Nf := 2) (ci := 1) (C := RX1) (v := .int (nI (x.2.2.1))) hx hb hw_X1 hown hK hP (by decide) cW_pad rfl (by decide) hf_15 rfl rfl dX1_scan_21 ?_
        refine n_icmp_ge (tgt := 87) hx hb (by omega) (by omega) dX1_scan_24 (by decide) (fun h_3 => ?_) (fun h_3 => ?_)
        · skip
          refine lv_iload_n hx hb dX1_scan_87 rfl (lv_at hl 1 rfl) ?_
          refine lv_bipush (v := (-6 : Int32)) hx hb dX1_scan_88 (by decide) ?_
          have hz0 : x.2.2.1 - i = 0 := by omega
          have hii : i = x.2.2.1 := by omega
          rw [hz0] at he
          refine lv_icmp_ne (tgt := 98) hx hb dX1_scan_90 (by decide) (fun h_4 => ?_) (fun h_4 => ?_)
          · skip
            obtain ⟨v, rfl⟩ : ∃ v, u = some v := by
              cases u with
              | none => exact absurd rfl h_4
              | some v => exact ⟨v, rfl⟩
            have hv := hu v rfl
            have hkk := hk1 (fun z => by cases z)
            refine lv_aload_n hx hb dX1_scan_98 rfl (lv_at hl 4 rfl) ?_
            refine lv_iload_n hx hb dX1_scan_99 rfl (lv_at hl 2 rfl) ?_
            refine lv_iconst (v := nI (1)) hx hb dX1_scan_100 rfl ?_
            refine n_iadd hx hb dX1_scan_101 ?_
            refine k_callVv (rest := []) (nL := 5) ⟨hx, hb, hml, hown, hts⟩ (c_X2_resize l D cy ad hI ρ' x g (k + 1) (by first | assumption | omega) (by first | assumption | omega)) (cwV 1 hts gX1_scan_X2_resize rfl rfl rfl (by decide +kernel) ⟨Nat.le_of_ble_eq_true rfl, Nat.le_of_ble_eq_true rfl⟩) hK hP hS (fun _ h => h) (q0 := 2 * g) (ci := 2) rfl (by omega) (cW_row (i := g) (by omega)) rfl rfl rfl hl.1 rfl (Nat.le_of_ble_eq_true rfl) dX1_scan_102 ⟨Nat.zero_le _, Nat.zero_le _⟩ (fun H locs hP hS => ?_)
            have hP : va_P D vwCl (wL 143 ad (cW ad cy (va_up ρ' g ((k + 1), zfrom (ρ' g).2 (k + 1))) (x))) H := hP
            refine lv_aload_n hx hb dX1_scan_105 rfl (lv_at hl 4 rfl) ?_
            refine lv_iload_n hx hb dX1_scan_106 rfl (lv_at hl 2 rfl) ?_
            refine lv_iload_n hx hb dX1_scan_107 rfl (lv_at hl 1 rfl) ?_
            refine k_callVv (rest := []) (nL := 5) ⟨hx, hb, hml, hown, hts⟩ (c_X2_write l D cy ad hI (va_up ρ' g ((k + 1), zfrom (ρ' g).2 (k + 1))) x g k (nI (v)) (by first | assumption | omega) (by first | assumption | omega)) (cwV 2 hts gX1_scan_X2_write rfl rfl rfl (by decide +kernel) ⟨Nat.le_of_ble_eq_true rfl, Nat.le_of_ble_eq_true rfl⟩) hK hP hS (fun _ h => h) (q0 := 2 * g) (ci := 2) rfl (by omega) (cW_row (i := g) (by omega)) rfl rfl rfl hl.1 rfl (Nat.le_of_ble_eq_true rfl) dX1_scan_108 ⟨Nat.zero_le _, Nat.zero_le _⟩ (fun H locs hP hS => ?_)
            have hP : va_P D vwCl (wL 143 ad (cW ad cy (va_up (va_up ρ' g ((k + 1), zfrom (ρ' g).2 (k + 1))) g (((va_up ρ' g ((k + 1), zfrom (ρ' g).2 (k + 1))) g).1, va_up ((va_up ρ' g ((k + 1), zfrom (ρ' g).2 (k + 1))) g).2 k (kmod (nI (v)).toInt))) (x))) H := hP
            refine lv_bipush (v := (-6 : Int32)) hx hb dX1_scan_111 (by decide) ?_
            refine k_iret hx hb hr hlocks (va_up (va_up ρ' g ((k + 1), zfrom (ρ' g).2 (k + 1))) g (((va_up ρ' g ((k + 1), zfrom (ρ' g).2 (k + 1))) g).1, va_up ((va_up ρ' g ((k + 1), zfrom (ρ' g).2 (k + 1))) g).2 k (kmod (nI (v)).toInt)), x) hP hS dX1_scan_113 ?_
            refine ⟨by rw [← he]; rfl, rfl, fun t ht => ?_, fun _ => ?_⟩
            · show va_up _ g _ t = _
              rw [va_up_ne _ _ ht, va_up_ne _ _ ht]; exact hfr t ht
            · rw [← he]
              show va_up _ g _ g = (k + 1, va_up F k v)
              rw [va_up_self, va_up_self]
              refine congrArg (fun z => (k + 1, z)) ?_
              funext t
              by_cases q : t = k
              · rw [q, va_up_self, va_up_self, kmod_nI (by omega), Nat.mod_eq_of_lt hv]
              · rw [va_up_ne _ _ q, va_up_ne _ _ q]
                show zfrom _ (k + 1) t = F t
                unfold zfrom
                by_cases r : k + 1 ≤ t
                · rw [if_pos r, hF0 t (by omega)]
                · rw [if_neg r, hF t (by omega)]
          · skip
            have hu0 : u = none := (nv_none hu).mp h_4
            subst hu0
            rw [hii] at he
            refine lv_aload_n hx hb dX1_scan_93 rfl (lv_at hl 3 rfl) ?_
            refine k_get (q0 := 139) (k := 1) (T := TX1) (Nf := 2) (ci := 1) (C := RX1) (v := .int (nI (x.2.2.1))) hx hb hw_X1 hown hK hP (by decide) cW_pad rfl (by decide) hf_15 rfl rfl dX1_scan_94 ?_
            refine k_iret hx hb hr hlocks (ρ', x) hP hS dX1_scan_97 ?_
            exact ⟨by rw [← he]; rfl, rfl, hfr, fun q => absurd (q.symm.trans (by rw [← he]; rfl)) (nI_ne6 (by omega))⟩
        · skip
          have hn1 : x.2.2.1 - i = (x.2.2.1 - (i + 1)) + 1 := by omega
          have hpi := hpd i (by omega)
          refine lv_aload_n hx hb dX1_scan_27 rfl (lv_at hl 3 rfl) ?_
          refine k_get (q0 := 139) (k := 0) (T := TX1) (Nf := 2) (ci := 1) (C := RX1) (v := .ref (ad (140))) hx hb hw_X1 hown hK hP (by decide) cW_pad rfl (by decide) hf_9 rfl rfl dX1_scan_28 ?_
          refine lv_iload hx hb dX1_scan_31 (lv_at hl 0 rfl) ?_
          refine k_iald (q0 := 140) (j := i) hx hb hK hP (by decide) cW_pc (by decide) (by omega) dX1_scan_33 ?_
          refine n_same (a := x.2.2.2.1 i) rfl ?_
          refine lv_bipush (v := nI (44)) hx hb dX1_scan_34 rfl ?_
          refine n_icmp_eq (tgt := 60) hx hb (by omega) (by omega) dX1_scan_36 (by decide) (fun h_5 => ?_) (fun h_5 => ?_)
          · skip
            have h44 := h_5
            refine lv_iload_n hx hb dX1_scan_60 rfl (lv_at hl 1 rfl) ?_
            refine lv_bipush (v := (-6 : Int32)) hx hb dX1_scan_61 (by decide) ?_
            refine lv_icmp_ne (tgt := 69) hx hb dX1_scan_63 (by decide) (fun h_6 => ?_) (fun h_6 => ?_)
            · skip
              obtain ⟨v, rfl⟩ : ∃ v, u = some v := by
                cases u with
                | none => exact absurd rfl h_6
                | some v => exact ⟨v, rfl⟩
              have hv := hu v rfl
              have hkk := hk1 (fun z => by cases z)
              refine lv_aload_n hx hb dX1_scan_69 rfl (lv_at hl 4 rfl) ?_
              refine lv_iload_n hx hb dX1_scan_70 rfl (lv_at hl 2 rfl) ?_
              refine lv_iload_n hx hb dX1_scan_71 rfl (lv_at hl 1 rfl) ?_
              refine k_callVv (rest := []) (nL := 5) ⟨hx, hb, hml, hown, hts⟩ (c_X2_write l D cy ad hI ρ' x g k (nI (v)) (by first | assumption | omega) (by first | assumption | omega)) (cwV 2 hts gX1_scan_X2_write rfl rfl rfl (by decide +kernel) ⟨Nat.le_of_ble_eq_true rfl, Nat.le_of_ble_eq_true rfl⟩) hK hP hS (fun _ h => h) (q0 := 2 * g) (ci := 2) rfl (by omega) (cW_row (i := g) (by omega)) rfl rfl rfl hl.1 rfl (Nat.le_of_ble_eq_true rfl) dX1_scan_72 ⟨Nat.zero_le _, Nat.zero_le _⟩ (fun H locs hP hS => ?_)
              have hP : va_P D vwCl (wL 143 ad (cW ad cy (va_up ρ' g ((ρ' g).1, va_up (ρ' g).2 k (kmod (nI (v)).toInt))) (x))) H := hP
              refine lv_iinc (v := nI (k + 1)) (lv' := [(2, .int (nI (k + 1))), (4, .int (nI (i))), (3, .int (nI (v))), (0, .ref (ad (139))), (1, .ref (ad (2 * g)))]) hx hb dX1_scan_75 hl (k := 2) rfl (nI_inc _) (by decide) rfl (fun ls hl => ?_)
              refine lv_bipush (v := (-6 : Int32)) hx hb dX1_scan_78 (by decide) ?_
              refine lv_istore_n (lv' := [(3, .int (-6)), (2, .int (nI (k + 1))), (4, .int (nI (i))), (0, .ref (ad (139))), (1, .ref (ad (2 * g)))]) hx hb dX1_scan_80 rfl hl (by decide) rfl (fun ls hl => ?_)
              refine lv_iinc (v := nI (i + 1)) (lv' := [(4, .int (nI (i + 1))), (3, .int (-6)), (2, .int (nI (k + 1))), (0, .ref (ad (139))), (1, .ref (ad (2 * g)))]) hx hb dX1_scan_81 hl (k := 2) rfl (nI_inc _) (by decide) rfl (fun ls hl => ?_)
              refine lv_goto (tgt := 8) hx hb dX1_scan_84 (by decide) ?_
              exact ih8 (i + 1) (k + 1) (none) (va_up F k v) (va_up ρ' g ((ρ' g).1, va_up (ρ' g).2 k (kmod (nI (v)).toInt))) (by omega) (by have := hk1 (fun z => by cases z); omega) (fun z => absurd rfl z) (fun z hz => by cases hz) (fun t ht => by
                              rw [va_up_self]
                              show va_up _ k _ t = _
                              by_cases q : t = k
                              · rw [q, va_up_self, va_up_self, kmod_nI (by omega), Nat.mod_eq_of_lt hv]
                              · rw [va_up_ne _ _ q, va_up_ne _ _ q]; exact hF t (by omega)) (fun t ht => by rw [va_up_ne _ _ (by omega)]; exact hF0 t (by omega)) (fun t ht => by rw [va_up_ne _ _ ht]; exact hfr t ht) (by rw [← he, hn1, psr_c1 h44]) (by omega) _ _ hP hS _ hl
            · skip
              have hu0 : u = none := (nv_none hu).mp h_6
              subst hu0
              refine lv_iload hx hb dX1_scan_66 (lv_at hl 0 rfl) ?_
              refine k_iret hx hb hr hlocks (ρ', x) hP hS dX1_scan_68 ?_
              exact ⟨by rw [← he, hn1, psr_c0 h44], rfl, hfr, fun q => absurd (q.symm.trans (by rw [← he, hn1, psr_c0 h44])) (nI_ne6 (by omega))⟩
          · skip
            have h44 := h_5
            refine lv_iload_n hx hb dX1_scan_39 rfl (lv_at hl 1 rfl) ?_
            refine lv_aload_n hx hb dX1_scan_40 rfl (lv_at hl 3 rfl) ?_
            refine k_get (q0 := 139) (k := 0) (T := TX1) (Nf := 2) (ci := 1) (C := RX1) (v := .ref (ad (140))) hx hb hw_X1 hown hK hP (by decide) cW_pad rfl (by decide) hf_9 rfl rfl dX1_scan_41 ?_
            refine lv_iload hx hb dX1_scan_44 (lv_at hl 0 rfl) ?_
            refine k_iald (q0 := 140) (j := i) hx hb hK hP (by decide) cW_pc (by decide) (by omega) dX1_scan_46 ?_
            refine n_same (a := x.2.2.2.1 i) rfl ?_
            refine k_callSr (rest := []) (nL := 5) ⟨hx, hb, hml, hown, hts⟩ (c_X1_withDigit l D cy ad hI ρ' x u (x.2.2.2.1 i) (by first | assumption | omega) (by first | assumption | omega)) (va_cwS 2 hts gX1_scan_X1_withDigit rfl rfl rfl (by decide +kernel) ⟨Nat.le_of_ble_eq_true rfl, Nat.le_of_ble_eq_true rfl⟩) hK hP hS (fun _ h => h) rfl hl.1 rfl (Nat.le_of_ble_eq_true rfl) dX1_scan_47 ⟨Nat.zero_le _, Nat.zero_le _⟩ (fun H locs hP hS => ?_)
            have hP : va_P D vwCl (wL 143 ad (cW ad cy (ρ') (x))) H := hP
            refine lv_istore_n (lv' := [(3, .int (wdV (wdg u (x.2.2.2.1 i)))), (4, .int (nI (i))), (2, .int (nI (k))), (0, .ref (ad (139))), (1, .ref (ad (2 * g)))]) hx hb dX1_scan_50 rfl hl (by decide) rfl (fun ls hl => ?_)
            refine lv_iload_n hx hb dX1_scan_51 rfl (lv_at hl 0 rfl) ?_
            refine lv_bipush (v := (-3 : Int32)) hx hb dX1_scan_52 (by decide) ?_
            refine lv_icmp_ne (tgt := 81) hx hb dX1_scan_54 (by decide) (fun h_7 => ?_) (fun h_7 => ?_)
            · skip
              obtain ⟨v, hw⟩ : ∃ v, wdg u (x.2.2.2.1 i) = some v := by
                cases hq : wdg u (x.2.2.2.1 i) with
                | none => rw [hq] at h_7; exact absurd rfl h_7
                | some v => exact ⟨v, rfl⟩
              rw [hw] at hl
              refine lv_iinc (v := nI (i + 1)) (lv' := [(4, .int (nI (i + 1))), (3, .int (nv (some v))), (2, .int (nI (k))), (0, .ref (ad (139))), (1, .ref (ad (2 * g)))]) hx hb dX1_scan_81 hl (k := 1) rfl (nI_inc _) (by decide) rfl (fun ls hl => ?_)
              refine lv_goto (tgt := 8) hx hb dX1_scan_84 (by decide) ?_
              exact ih8 (i + 1) (k) (some v) (F) (ρ') (by omega) (by omega) (fun _ => by omega) (fun z hz => by cases hz; exact wdg_lt hw) hF hF0 hfr (by rw [← he, hn1, psr_d1 h44 hw]) (by omega) _ _ hP hS _ hl
            · skip
              have hw : wdg u (x.2.2.2.1 i) = none := (wdV_none (fun v hv => wdg_lt hv)).mp h_7
              refine lv_iload hx hb dX1_scan_57 (lv_at hl 1 rfl) ?_
              refine k_iret hx hb hr hlocks (ρ', x) hP hS dX1_scan_59 ?_
              exact ⟨by rw [← he, hn1, psr_d0 h44 hw], rfl, hfr, fun q => absurd (q.symm.trans (by rw [← he, hn1, psr_d0 h44 hw])) (nI_ne6 (by omega))⟩
  exact lp8 (_ + 1) (0) (0) (none) (fun _ => 0) (ρ) (Nat.zero_le _) (Nat.le_refl _) (fun h => absurd rfl h) (fun v h => by cases h) (fun t h => absurd h (Nat.not_lt_zero _)) (fun t _ => rfl) (fun t _ => rfl) rfl (Nat.lt_succ_self _) _ _ hP hS _ hl
