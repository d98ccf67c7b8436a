set_option maxHeartbeats 4000000 in
set_option maxRecDepth 100000 in
theorem c_X5_readPad (l : Launch) (D : va_G) (cy : Nat → ClassId) (ad : Nat → Nat) (hI : wI 9 ad) (v : kV) (hty80 : vty v ≤ 80) (hpd : ∀ j, j < vty v → vpd v j < 127) : kM l yX5_readPad wsX5_readPad ({ frames := 1, cells := 0, slots := 0, locals := 22 } : Room) D cy 9 ad (mW ad cy) (mW ad cy (v)) [.ref (ad (0))] (fun o u => o = some (.int (psA (vpd v) (vty v)).1) ∧ vz u = vz v ∧ vpm u = vpm v ∧ vpa u = vpa v ∧ vsl u = vsl v ∧ vsv u = vsv v ∧ vty u = vty v ∧ vpd u = vpd v ∧ ((psA (vpd v) (vty v)).1 = -6 → vln u = (psA (vpd v) (vty v)).2.1 ∧ ∀ k, k < 64 → (if k < (psA (vpd v) (vty v)).2.1 then vou u k else 0) = (psA (vpd v) (vty v)).2.2 k)) := by
  refine k_met cX5_readPad 6 (some .int) (by decide) rfl (Nat.le_of_ble_eq_true rfl) ?_
  intro p e s m below meth c ls hx hb hr hts hown hlocks hml hK hP hS hl
  have hl : lv_has ls 6 [(0, .ref (ad (0)))] := hl
  have hown : s.vm.findClass RX5 = some m.cls := hown
  have hf_23 := hts (.fieldLink RX5 23 "TurnedRowsModel" "pad" "[C") (by decide +kernel)
  have hf_27 := hts (.fieldLink RX5 27 "TurnedRowsModel" "out" "[I") (by decide +kernel)
  have hf_62 := hts (.fieldLink RX5 62 "TurnedRowsModel" "length" "I") (by decide +kernel)
  have hf_124 := hts (.fieldLink RX5 124 "TurnedRowsModel" "typed" "I") (by decide +kernel)
  have hw_X5 : ∀ qw ∈ wsX50, qw.before ([.ref (ad (0))] : List Value).toArray s = true := fun qw h => hts qw ((by decide +kernel : ∀ qw ∈ wsX50, qw ∈ wsX5_readPad) qw h)
  refine lv_aload_n hx hb dX5_readPad_0 rfl (lv_at hl 0 rfl) ?_
  refine lv_iconst (v := nI (0)) hx hb dX5_readPad_1 rfl ?_
  refine k_callVv (rest := []) (nL := 6) ⟨hx, hb, hml, hown, hts⟩ (c_X5_blank l D cy ad hI v 0) (cwV 1 hts gX5_readPad_X5_blank rfl rfl rfl (by decide +kernel) ⟨Nat.le_of_ble_eq_true rfl, Nat.le_of_ble_eq_true rfl⟩) hK hP hS (fun _ h => h) (q0 := 0) (ci := 5) rfl (by decide) mW_obj rfl rfl rfl hl.1 rfl (Nat.le_of_ble_eq_true rfl) dX5_readPad_2 ⟨Nat.zero_le _, Nat.zero_le _⟩ (fun H locs hP hS => ?_)
  have hP : va_P D vwCl (wL 9 ad (mW ad cy (bla v 0))) H := hP
  refine lv_iconst (v := nI (1)) hx hb dX5_readPad_5 rfl ?_
  refine lv_istore_n (lv' := [(1, .int (nI (1))), (0, .ref (ad (0)))]) hx hb dX5_readPad_6 rfl hl (by decide) rfl (fun ls hl => ?_)
  refine lv_iconst (v := nI (0)) hx hb dX5_readPad_7 rfl ?_
  refine lv_istore_n (lv' := [(2, .int (nI (0))), (1, .int (nI (1))), (0, .ref (ad (0)))]) hx hb dX5_readPad_8 rfl hl (by decide) rfl (fun ls hl => ?_)
  have lp9 : ∀ (fu : Nat) (i : Nat) (k : Nat) (u : Option Nat) (F : Nat → Nat) (v' : kV), (i ≤ vty v) → (2 * k ≤ i) → (u ≠ none → 2 * k + 1 ≤ i) → (∀ w, u = some w → w < 257) → (∀ t, t < k → vou v' t = F t) → (∀ t, k ≤ t → F t = 0) → (∀ w, u = some w → vou v' k = w) → (vln v' = k + (if u.isNone then 0 else 1)) → (v' = pou (pln v (vln v')) (vou v')) → (psr (vpd v) (vty v - i) i k u F = psA (vpd v) (vty v)) → vty v - i < fu → ∀ (H : Heap) (locs : List Loc), va_P D vwCl (wL 9 ad (mW ad cy (v'))) H → va_S (wA 9 ad) s.heap H locs → ∀ (ls : Array Slot), lv_has ls 6 [(2, .int (nI (i))), (1, .int (kB (u.isNone))), (0, .ref (ad (0)))] → W p l e ({ frames := 1, cells := 0, slots := 0, locals := 22 } : Room) s m ([.ref (ad (0))] : List Value).toArray below meth c H locs 0 0 (MQ below (kQ D 9 ad (mW ad cy) (fun o u => o = some (.int (psA (vpd v) (vty v)).1) ∧ vz u = vz v ∧ vpm u = vpm v ∧ vpa u = vpa v ∧ vsl u = vsl v ∧ vsv u = vsv v ∧ vty u = vty v ∧ vpd u = vpd v ∧ ((psA (vpd v) (vty v)).1 = -6 → vln u = (psA (vpd v) (vty v)).2.1 ∧ ∀ k, k < 64 → (if k < (psA (vpd v) (vty v)).2.1 then vou u k else 0) = (psA (vpd v) (vty v)).2.2 k))) ([.ref (ad (0))] : List Value).toArray s 0 0 (wA 9 ad)) (F0 m 9 ls []) := by
    intro fu
    induction fu with
    | zero => intro i k u F v' hi hk hk1 hu hF hF0 hw hln hfr he hfu; exact absurd hfu (Nat.not_lt_zero _)
    | succ fu ih9 =>
      intro i k u F v' hi hk hk1 hu hF hF0 hw hln hfr he hfu H locs hP hS ls hl
      have hpd2 : vpd v' = vpd v := by rw [hfr]; rfl
      have hty2 : vty v' = vty v := by rw [hfr]; rfl
      refine lv_iload_n hx hb dX5_readPad_9 rfl (lv_at hl 0 rfl) ?_
      refine lv_aload_n hx hb dX5_readPad_10 rfl (lv_at hl 2 rfl) ?_
      refine k_get (q0 := 0) (k := 6) (T := TX5) (Nf := 11) (ci := 5) (C := RX5) (v := .int (nI (vty v'))) hx hb hw_X5 hown hK hP (by decide) mW_obj rfl (by decide) hf_124 rfl rfl dX5_readPad_11 ?_
      refine n_push (a := vty v) (by rw [hty2]) ?_
      refine n_icmp_ge (tgt := 152) hx hb (by omega) (by omega) dX5_readPad_14 (by decide) (fun h_1 => ?_) (fun h_1 => ?_)
      · skip
        refine lv_iload_n hx hb dX5_readPad_152 rfl (lv_at hl 1 rfl) ?_
        have hz0 : vty v - i = 0 := by omega
        have hii : i = vty v := by omega
        rw [hz0] at he
        refine b_ifeq (tgt := 163) hx hb dX5_readPad_153 (by decide) (fun h_2 => ?_) (fun h_2 => ?_)
        · skip
          obtain ⟨w, rfl⟩ : ∃ w, u = some w := by
            cases u with
            | none => cases h_2
            | some w => exact ⟨w, rfl⟩
          have hkk := hk1 (fun z => by cases z)
          have hlk : vln v' = k + 1 := hln
          refine lv_bipush (v := (-6 : Int32)) hx hb dX5_readPad_163 (by decide) ?_
          refine k_iret hx hb hr hlocks (v') hP hS dX5_readPad_165 ?_
          refine ⟨by rw [← he]; rfl, by rw [hfr]; rfl, by rw [hfr]; rfl, by rw [hfr]; rfl, by rw [hfr]; rfl, by rw [hfr]; rfl, by rw [hfr]; rfl, by rw [hfr]; rfl, fun _ => ?_⟩
          rw [← he]
          refine ⟨hlk, fun t ht => ?_⟩
          show (if t < k + 1 then vou v' t else 0) = va_up F k w t
          by_cases q : t = k
          · rw [q, va_up_self, if_pos (by omega)]; exact hw w rfl
          · rw [va_up_ne _ _ q]
            by_cases z : t < k
            · rw [if_pos (by omega)]; exact hF t z
            · rw [if_neg (by omega), hF0 t (by omega)]
        · skip
          have hu0 : u = none := Option.isNone_iff_eq_none.mp h_2
          subst hu0
          rw [hii] at he
          refine lv_aload_n hx hb dX5_readPad_156 rfl (lv_at hl 2 rfl) ?_
          refine k_get (q0 := 0) (k := 6) (T := TX5) (Nf := 11) (ci := 5) (C := RX5) (v := .int (nI (vty v'))) hx hb hw_X5 hown hK hP (by decide) mW_obj rfl (by decide) hf_124 rfl rfl dX5_readPad_157 ?_
          refine n_push (a := vty v) (by rw [hty2]) ?_
          refine lv_goto (tgt := 165) hx hb dX5_readPad_160 (by decide) ?_
          refine k_iret hx hb hr hlocks (v') hP hS dX5_readPad_165 ?_
          exact ⟨by rw [← he]; rfl, by rw [hfr]; rfl, by rw [hfr]; rfl, by rw [hfr]; rfl, by rw [hfr]; rfl, by rw [hfr]; rfl, by rw [hfr]; rfl, by rw [hfr]; rfl, fun q => absurd (q.symm.trans (show (psA (vpd v) (vty v)).1 = nI (vty v) by rw [← he]; rfl)) (nI_ne6 (by omega))⟩
      · skip
        have hn1 : vty v - i = (vty v - (i + 1)) + 1 := by omega
        have hpi := hpd i (by omega)
        refine lv_aload_n hx hb dX5_readPad_17 rfl (lv_at hl 2 rfl) ?_
        refine k_get (q0 := 0) (k := 5) (T := TX5) (Nf := 11) (ci := 5) (C := RX5) (v := .ref (ad (5))) hx hb hw_X5 hown hK hP (by decide) mW_obj rfl (by decide) hf_23 rfl rfl dX5_readPad_18 ?_
        refine lv_iload_n hx hb dX5_readPad_21 rfl (lv_at hl 0 rfl) ?_
        refine k_cald (q0 := 5) (j := i) hx hb hK hP (by decide) mW_pd (by decide) (by omega) dX5_readPad_22 ?_
        refine n_same (a := vpd v' i) rfl ?_
        refine n_push (a := vpd v i) (by rw [hpd2]) ?_
        refine lv_istore_n (lv' := [(3, .int (nI (vpd v i))), (2, .int (nI (i))), (1, .int (kB (u.isNone))), (0, .ref (ad (0)))]) hx hb dX5_readPad_23 rfl hl (by decide) rfl (fun ls hl => ?_)
        refine lv_iload_n hx hb dX5_readPad_24 rfl (lv_at hl 0 rfl) ?_
        refine lv_bipush (v := nI (48)) hx hb dX5_readPad_25 rfl ?_
        refine lv_bipush (v := nI (57)) hx hb dX5_readPad_27 rfl ?_
        refine k_callSr (rest := []) (nL := 6) ⟨hx, hb, hml, hown, hts⟩ (c_X5_in l D cy ad hI v' (nI (vpd v i)) (nI (48)) (nI (57))) (va_cwS 3 hts gX5_readPad_X5_in rfl rfl rfl (by decide +kernel) ⟨Nat.le_of_ble_eq_true rfl, Nat.le_of_ble_eq_true rfl⟩) hK hP hS (fun _ h => h) rfl hl.1 rfl (Nat.le_of_ble_eq_true rfl) dX5_readPad_29 ⟨Nat.zero_le _, Nat.zero_le _⟩ (fun H locs hP hS => ?_)
        have hP : va_P D vwCl (wL 9 ad (mW ad cy (v'))) H := hP
        refine lv_istore (lv' := [(4, .int (kB (decide ((nI (48)) ≤ (nI (vpd v i)) ∧ (nI (vpd v i)) ≤ (nI (57)))))), (3, .int (nI (vpd v i))), (2, .int (nI (i))), (1, .int (kB (u.isNone))), (0, .ref (ad (0)))]) hx hb dX5_readPad_32 hl (by decide) rfl (fun ls hl => ?_)
        refine lv_iload_n hx hb dX5_readPad_34 rfl (lv_at hl 3 rfl) ?_
        refine b_ifeq (tgt := 73) hx hb dX5_readPad_35 (by decide) (fun h_3 => ?_) (fun h_3 => ?_)
        · skip
          obtain ⟨w, rfl⟩ : ∃ w, u = some w := by
            cases u with
            | none => cases h_3
            | some w => exact ⟨w, rfl⟩
          have hw257 := hu w rfl
          have hkk := hk1 (fun z => by cases z)
          have hlk : vln v' - 1 = k := by rw [hln]; rfl
          have hlk1 : 1 ≤ vln v' := by rw [hln]; exact Nat.le_add_left _ _
          refine lv_iload_n hx hb dX5_readPad_73 rfl (lv_at hl 1 rfl) ?_
          refine lv_bipush (v := nI (44)) hx hb dX5_readPad_74 rfl ?_
          refine n_icmp_ne (tgt := 84) hx hb (by omega) (by omega) dX5_readPad_76 (by decide) (fun h_4 => ?_) (fun h_4 => ?_)
          · skip
            have h44 : vpd v i ≠ 44 := h_4
            refine lv_aload_n hx hb dX5_readPad_84 rfl (lv_at hl 4 rfl) ?_
            refine k_get (q0 := 0) (k := 7) (T := TX5) (Nf := 11) (ci := 5) (C := RX5) (v := .ref (ad (6))) hx hb hw_X5 hown hK hP (by decide) mW_obj rfl (by decide) hf_27 rfl rfl dX5_readPad_85 ?_
            refine lv_aload_n hx hb dX5_readPad_88 rfl (lv_at hl 4 rfl) ?_
            refine k_get (q0 := 0) (k := 8) (T := TX5) (Nf := 11) (ci := 5) (C := RX5) (v := .int (nI (vln v'))) hx hb hw_X5 hown hK hP (by decide) mW_obj rfl (by decide) hf_62 rfl rfl dX5_readPad_89 ?_
            refine lv_iconst (v := nI (1)) hx hb dX5_readPad_92 rfl ?_
            refine n_isub hx hb hlk1 dX5_readPad_93 ?_
            refine k_iald (q0 := 6) (j := (vln v') - 1) hx hb hK hP (by decide) mW_ou (by decide) (by rw [hlk]; omega) dX5_readPad_94 ?_
            refine n_same (a := vou v' ((vln v') - 1)) rfl ?_
            refine n_push (a := w) (by rw [hlk, hw w rfl]) ?_
            refine lv_istore (lv' := [(5, .int (nI (w))), (4, .int (kB (decide ((nI (48)) ≤ (nI (vpd v i)) ∧ (nI (vpd v i)) ≤ (nI (57)))))), (3, .int (nI (vpd v i))), (2, .int (nI (i))), (1, .int (kB ((some w).isNone))), (0, .ref (ad (0)))]) hx hb dX5_readPad_95 hl (by decide) rfl (fun ls hl => ?_)
            refine lv_iload hx hb dX5_readPad_97 (lv_at hl 1 rfl) ?_
            refine b_ifeq (tgt := 123) hx hb dX5_readPad_99 (by decide) (fun h_5 => ?_) (fun h_5 => ?_)
            · skip
              have hnd : ¬ (48 ≤ vpd v i ∧ vpd v i ≤ 57) := fun q => absurd ((dig_iff (by omega)).mpr q) (of_decide_eq_false h_5)
              have hwd : wdg (some w) (vpd v i) = none := wdg_no (fun q => hnd ⟨q.1, q.2.1⟩)
              refine lv_iload_n hx hb dX5_readPad_123 rfl (lv_at hl 3 rfl) ?_
              refine k_iret hx hb hr hlocks (v') hP hS dX5_readPad_124 ?_
              exact ⟨by rw [← he, hn1, psr_d0 h44 hwd], by rw [hfr]; rfl, by rw [hfr]; rfl, by rw [hfr]; rfl, by rw [hfr]; rfl, by rw [hfr]; rfl, by rw [hfr]; rfl, by rw [hfr]; rfl, fun q => absurd (q.symm.trans (show (psA (vpd v) (vty v)).1 = nI i by rw [← he, hn1, psr_d0 h44 hwd])) (nI_ne6 (by omega))⟩
            · skip
              have hdg : 48 ≤ vpd v i ∧ vpd v i ≤ 57 := (dig_iff (by omega)).mp (of_decide_eq_true h_5)
              refine lv_iload hx hb dX5_readPad_102 (lv_at hl 0 rfl) ?_
              refine n_ifeq (tgt := 123) hx hb (by omega) dX5_readPad_104 (by decide) (fun h_6 => ?_) (fun h_6 => ?_)
              · skip
                have hwd : wdg (some w) (vpd v i) = none := wdg_no (fun q => q.2.2.1 (by rw [h_6]))
                refine lv_iload_n hx hb dX5_readPad_123 rfl (lv_at hl 3 rfl) ?_
                refine k_iret hx hb hr hlocks (v') hP hS dX5_readPad_124 ?_
                exact ⟨by rw [← he, hn1, psr_d0 h44 hwd], by rw [hfr]; rfl, by rw [hfr]; rfl, by rw [hfr]; rfl, by rw [hfr]; rfl, by rw [hfr]; rfl, by rw [hfr]; rfl, by rw [hfr]; rfl, fun q => absurd (q.symm.trans (show (psA (vpd v) (vty v)).1 = nI i by rw [← he, hn1, psr_d0 h44 hwd])) (nI_ne6 (by omega))⟩
              · skip
                have hw0 : w ≠ 0 := h_6
                refine lv_bipush (v := nI (10)) hx hb dX5_readPad_107 rfl ?_
                refine lv_iload hx hb dX5_readPad_109 (lv_at hl 0 rfl) ?_
                refine n_imul hx hb dX5_readPad_111 ?_
                refine lv_iload_n hx hb dX5_readPad_112 rfl (lv_at hl 2 rfl) ?_
                refine n_iadd hx hb dX5_readPad_113 ?_
                refine lv_bipush (v := nI (48)) hx hb dX5_readPad_114 rfl ?_
                refine n_isub hx hb (by omega) dX5_readPad_116 ?_
                refine lv_sipush (v := nI (257)) hx hb dX5_readPad_117 rfl ?_
                refine n_icmp_lt (tgt := 125) hx hb (by omega) (by omega) dX5_readPad_120 (by decide) (fun h_7 => ?_) (fun h_7 => ?_)
                · skip
                  have hwd : wdg (some w) (vpd v i) = some (10 * w + vpd v i - 48) := by
                    have := wdg_ok (u := some w) hdg (by intro q; cases q; exact hw0 rfl) (by show w * 10 + vpd v i - 48 < 257; omega)
                    rw [this]
                    show some (w * 10 + vpd v i - 48) = _
                    rw [Nat.mul_comm w 10]
                  refine lv_aload_n hx hb dX5_readPad_125 rfl (lv_at hl 5 rfl) ?_
                  refine k_get (q0 := 0) (k := 7) (T := TX5) (Nf := 11) (ci := 5) (C := RX5) (v := .ref (ad (6))) hx hb hw_X5 hown hK hP (by decide) mW_obj rfl (by decide) hf_27 rfl rfl dX5_readPad_126 ?_
                  refine lv_aload_n hx hb dX5_readPad_129 rfl (lv_at hl 5 rfl) ?_
                  refine k_get (q0 := 0) (k := 8) (T := TX5) (Nf := 11) (ci := 5) (C := RX5) (v := .int (nI (vln v'))) hx hb hw_X5 hown hK hP (by decide) mW_obj rfl (by decide) hf_62 rfl rfl dX5_readPad_130 ?_
                  refine lv_iconst (v := nI (1)) hx hb dX5_readPad_133 rfl ?_
                  refine n_isub hx hb hlk1 dX5_readPad_134 ?_
                  refine lv_bipush (v := nI (10)) hx hb dX5_readPad_135 rfl ?_
                  refine lv_iload hx hb dX5_readPad_137 (lv_at hl 0 rfl) ?_
                  refine n_imul hx hb dX5_readPad_139 ?_
                  refine lv_iload_n hx hb dX5_readPad_140 rfl (lv_at hl 2 rfl) ?_
                  refine n_iadd hx hb dX5_readPad_141 ?_
                  refine lv_bipush (v := nI (48)) hx hb dX5_readPad_142 rfl ?_
                  refine n_isub hx hb (by omega) dX5_readPad_144 ?_
                  refine k_iast (q0 := 6) (j := (vln v') - 1) (v := nI (((10 * w) + (vpd v i)) - 48)) (Wd' := mW ad cy (pou v' (va_up (vou v') ((vln v') - 1) (((10 * w) + (vpd v i)) - 48)))) hx hb hK hI hP hS (by decide) mW_ou (by decide) (by rw [hlk]; omega) mW_up_ou dX5_readPad_145 (fun H locs hP hS => ?_)
                  refine lv_iinc (v := nI (i + 1)) (lv' := [(2, .int (nI (i + 1))), (5, .int (nI (w))), (4, .int (kB (decide ((nI (48)) ≤ (nI (vpd v i)) ∧ (nI (vpd v i)) ≤ (nI (57)))))), (3, .int (nI (vpd v i))), (1, .int (kB ((some w).isNone))), (0, .ref (ad (0)))]) hx hb dX5_readPad_146 hl (k := 3) rfl (nI_inc _) (by decide) rfl (fun ls hl => ?_)
                  refine lv_goto (tgt := 9) hx hb dX5_readPad_149 (by decide) ?_
                  exact ih9 (i + 1) (k) (some (10 * w + vpd v i - 48)) (F) (pou v' (va_up (vou v') ((vln v') - 1) (((10 * w) + (vpd v i)) - 48))) (by omega) (by omega) (fun _ => by omega) (fun z hz => by cases hz; omega) (fun t ht => by show va_up (vou v') (vln v' - 1) _ t = F t; rw [hlk, va_up_ne _ _ (by omega)]; exact hF t ht) hF0 (fun z hz => by cases hz; show va_up (vou v') (vln v' - 1) _ k = _; rw [hlk]; exact va_up_self _ _ _) hln (by rw [hfr]; rfl) (by rw [← he, hn1, psr_d1 h44 hwd]) (by omega) _ _ hP hS _ (lv_sub hl [0, 4, 5] rfl)
                · skip
                  have hwd : wdg (some w) (vpd v i) = none := wdg_no (fun q => by have q3 : w * 10 + vpd v i - 48 < 257 := q.2.2.2; omega)
                  refine lv_iload_n hx hb dX5_readPad_123 rfl (lv_at hl 3 rfl) ?_
                  refine k_iret hx hb hr hlocks (v') hP hS dX5_readPad_124 ?_
                  exact ⟨by rw [← he, hn1, psr_d0 h44 hwd], by rw [hfr]; rfl, by rw [hfr]; rfl, by rw [hfr]; rfl, by rw [hfr]; rfl, by rw [hfr]; rfl, by rw [hfr]; rfl, by rw [hfr]; rfl, fun q => absurd (q.symm.trans (show (psA (vpd v) (vty v)).1 = nI i by rw [← he, hn1, psr_d0 h44 hwd])) (nI_ne6 (by omega))⟩
          · skip
            have h44 : vpd v i = 44 := h_4
            refine lv_iconst (v := nI (1)) hx hb dX5_readPad_79 rfl ?_
            refine lv_istore_n (lv' := [(1, .int (nI (1))), (4, .int (kB (decide ((nI (48)) ≤ (nI (vpd v i)) ∧ (nI (vpd v i)) ≤ (nI (57)))))), (3, .int (nI (vpd v i))), (2, .int (nI (i))), (0, .ref (ad (0)))]) hx hb dX5_readPad_80 rfl hl (by decide) rfl (fun ls hl => ?_)
            refine lv_goto (tgt := 146) hx hb dX5_readPad_81 (by decide) ?_
            refine lv_iinc (v := nI (i + 1)) (lv' := [(2, .int (nI (i + 1))), (1, .int (nI (1))), (4, .int (kB (decide ((nI (48)) ≤ (nI (vpd v i)) ∧ (nI (vpd v i)) ≤ (nI (57)))))), (3, .int (nI (vpd v i))), (0, .ref (ad (0)))]) hx hb dX5_readPad_146 hl (k := 3) rfl (nI_inc _) (by decide) rfl (fun ls hl => ?_)
            refine lv_goto (tgt := 9) hx hb dX5_readPad_149 (by decide) ?_
            exact ih9 (i + 1) (k + 1) (none) (va_up F k w) (v') (by omega) (by omega) (fun z => absurd rfl z) (fun z hz => by cases hz) (fun t ht => by
                              by_cases q : t = k
                              · rw [q, va_up_self]; exact hw w rfl
                              · rw [va_up_ne _ _ q]; exact hF t (by omega)) (fun t ht => by rw [va_up_ne _ _ (by omega)]; exact hF0 t (by omega)) (fun z hz => by cases hz) (by rw [hln]; rfl) hfr (by rw [← he, hn1, psr_c1 h44]) (by omega) _ _ hP hS _ (lv_sub hl [0, 1, 4] rfl)
        · skip
          have hu0 : u = none := Option.isNone_iff_eq_none.mp h_3
          subst hu0
          have hlk : vln v' = k := hln
          refine lv_iload hx hb dX5_readPad_38 (lv_at hl 0 rfl) ?_
          refine b_ifne (tgt := 45) hx hb dX5_readPad_40 (by decide) (fun h_8 => ?_) (fun h_8 => ?_)
          · skip
            have hdg : 48 ≤ vpd v i ∧ vpd v i ≤ 57 := (dig_iff (by omega)).mp (of_decide_eq_true h_8)
            have h44 : vpd v i ≠ 44 := by omega
            have hwd : wdg none (vpd v i) = some (vpd v i - 48) := by
              have := wdg_ok (u := none) hdg (by intro q; cases q) (by show 0 * 10 + vpd v i - 48 < 257; omega)
              rw [this]
              show some (0 * 10 + vpd v i - 48) = _
              rw [Nat.zero_mul, Nat.zero_add]
            refine lv_aload_n hx hb dX5_readPad_45 rfl (lv_at hl 4 rfl) ?_
            refine k_get (q0 := 0) (k := 7) (T := TX5) (Nf := 11) (ci := 5) (C := RX5) (v := .ref (ad (6))) hx hb hw_X5 hown hK hP (by decide) mW_obj rfl (by decide) hf_27 rfl rfl dX5_readPad_46 ?_
            refine lv_aload_n hx hb dX5_readPad_49 rfl (lv_at hl 4 rfl) ?_
            refine k_get (q0 := 0) (k := 8) (T := TX5) (Nf := 11) (ci := 5) (C := RX5) (v := .int (nI (vln v'))) hx hb hw_X5 hown hK hP (by decide) mW_obj rfl (by decide) hf_62 rfl rfl dX5_readPad_50 ?_
            refine lv_iload_n hx hb dX5_readPad_53 rfl (lv_at hl 1 rfl) ?_
            refine lv_bipush (v := nI (48)) hx hb dX5_readPad_54 rfl ?_
            refine n_isub hx hb (by omega) dX5_readPad_56 ?_
            refine k_iast (q0 := 6) (j := vln v') (v := nI ((vpd v i) - 48)) (Wd' := mW ad cy (pou v' (va_up (vou v') (vln v') ((vpd v i) - 48)))) hx hb hK hI hP hS (by decide) mW_ou (by decide) (by rw [hlk]; omega) mW_up_ou dX5_readPad_57 (fun H locs hP hS => ?_)
            refine lv_aload_n hx hb dX5_readPad_58 rfl (lv_at hl 4 rfl) ?_
            refine lv_dup hx hb dX5_readPad_59 rfl ?_
            refine k_get (q0 := 0) (k := 8) (T := TX5) (Nf := 11) (ci := 5) (C := RX5) (v := .int (nI (vln (pou v' (va_up (vou v') (vln v') ((vpd v i) - 48)))))) hx hb hw_X5 hown hK hP (by decide) mW_obj rfl (by decide) hf_62 rfl rfl dX5_readPad_60 ?_
            refine lv_iconst (v := nI (1)) hx hb dX5_readPad_63 rfl ?_
            refine n_iadd hx hb dX5_readPad_64 ?_
            refine k_put (q0 := 0) (k := 8) (T := TX5) (Nf := 11) (ci := 5) (C := RX5) (v := .int (nI ((vln (pou v' (va_up (vou v') (vln v') ((vpd v i) - 48)))) + 1))) (Wd' := mW ad cy (pln (pou v' (va_up (vou v') (vln v') ((vpd v i) - 48))) ((vln (pou v' (va_up (vou v') (vln v') ((vpd v i) - 48)))) + 1))) hx hb hw_X5 tyX5 tyX5_ok nmX5 hown hK hI hP hS (by decide) mW_obj rfl (by decide) hf_62 rfl rfl (ty := .int) (by decide +kernel) rfl rfl (Nat.le_of_ble_eq_true rfl) mW_up_ln dX5_readPad_65 (fun H locs hP hS => ?_)
            refine lv_iconst (v := nI (0)) hx hb dX5_readPad_68 rfl ?_
            refine lv_istore_n (lv' := [(1, .int (nI (0))), (4, .int (kB (decide ((nI (48)) ≤ (nI (vpd v i)) ∧ (nI (vpd v i)) ≤ (nI (57)))))), (3, .int (nI (vpd v i))), (2, .int (nI (i))), (0, .ref (ad (0)))]) hx hb dX5_readPad_69 rfl hl (by decide) rfl (fun ls hl => ?_)
            refine lv_goto (tgt := 146) hx hb dX5_readPad_70 (by decide) ?_
            refine lv_iinc (v := nI (i + 1)) (lv' := [(2, .int (nI (i + 1))), (1, .int (nI (0))), (4, .int (kB (decide ((nI (48)) ≤ (nI (vpd v i)) ∧ (nI (vpd v i)) ≤ (nI (57)))))), (3, .int (nI (vpd v i))), (0, .ref (ad (0)))]) hx hb dX5_readPad_146 hl (k := 3) rfl (nI_inc _) (by decide) rfl (fun ls hl => ?_)
            refine lv_goto (tgt := 9) hx hb dX5_readPad_149 (by decide) ?_
            exact ih9 (i + 1) (k) (some (vpd v i - 48)) (F) (pln (pou v' (va_up (vou v') (vln v') ((vpd v i) - 48))) ((vln (pou v' (va_up (vou v') (vln v') ((vpd v i) - 48)))) + 1)) (by omega) (by omega) (fun _ => by omega) (fun z hz => by cases hz; omega) (fun t ht => by show va_up (vou v') (vln v') _ t = F t; rw [hlk, va_up_ne _ _ (by omega)]; exact hF t ht) hF0 (fun z hz => by cases hz; show va_up (vou v') (vln v') _ k = _; rw [hlk, va_up_self]) (by show vln v' + 1 = k + 1; rw [hlk]) (by rw [hfr]; rfl) (by rw [← he, hn1, psr_d1 h44 hwd]) (by omega) _ _ hP hS _ (lv_sub hl [0, 1, 4] rfl)
          · skip
            have hnd : ¬ (48 ≤ vpd v i ∧ vpd v i ≤ 57) := fun q => absurd ((dig_iff (by omega)).mpr q) (of_decide_eq_false h_8)
            refine lv_iload_n hx hb dX5_readPad_43 rfl (lv_at hl 2 rfl) ?_
            refine k_iret hx hb hr hlocks (v') hP hS dX5_readPad_44 ?_
            exact ⟨by rw [← he, hn1]; by_cases q : vpd v i = 44; rw [psr_c0 q]; rw [psr_d0 q (wdg_no (fun z => hnd ⟨z.1, z.2.1⟩))], by rw [hfr]; rfl, by rw [hfr]; rfl, by rw [hfr]; rfl, by rw [hfr]; rfl, by rw [hfr]; rfl, by rw [hfr]; rfl, by rw [hfr]; rfl, fun q => absurd (q.symm.trans (show (psA (vpd v) (vty v)).1 = nI i by rw [← he, hn1]; by_cases z : vpd v i = 44; rw [psr_c0 z]; rw [psr_d0 z (wdg_no (fun z => hnd ⟨z.1, z.2.1⟩))])) (nI_ne6 (by omega))⟩
  exact lp9 (_ + 1) (0) (0) (none) (fun _ => 0) (bla v 0) (Nat.zero_le _) (Nat.le_refl _) (fun h => absurd rfl h) (fun w h => by cases h) (fun t h => absurd h (Nat.not_lt_zero _)) (fun t _ => rfl) (fun w h => by cases h) rfl rfl rfl (Nat.lt_succ_self _) _ _ hP hS _ hl
