set_option maxHeartbeats 4000000 in
set_option maxRecDepth 100000 in
theorem c_X5_found (l : Launch) (D : va_G) (cy : Nat → ClassId) (ad : Nat → Nat) (hI : wI 9 ad) (v : kV) (S : kSt) (ra : Int32) (rb : Int32) (rwh : Int32) (hSI : kInv S) (hR : mRep S v) : kM l yX5_found wsX5_found ({ frames := 3, cells := 0, slots := 0, locals := 71 } : Room) D cy 9 ad (mW ad cy) (mW ad cy (v)) [.ref (ad (0)), .int (ra), .int (rb), .int (rwh)] (fun o u => o = some (.int (op_found S ra rb rwh).1) ∧ mRep (op_found S ra rb rwh).2 u) := by
  refine k_met cX5_found 13 (some .int) (by decide) rfl (Nat.le_of_ble_eq_true rfl) ?_
  intro p e s m below meth c ls hx hb hr hts hown hlocks hml hK hP hS hl
  have hl : lv_has ls 13 [(0, .ref (ad (0))), (1, .int (ra)), (2, .int (rb)), (3, .int (rwh))] := hl
  have hown : s.vm.findClass RX5 = some m.cls := hown
  have hM : mReg S.1 v := hR.reg hSI
  have hrow : ∀ j, j < 6 → rO (S.1 j) := hSI.1
  have hpm6 : vpm v ≤ 6 := by rw [hR.2.1.1]; exact hR.2.1.2
  have hplS : vty v = S.2.2.2.2.2.1 := hR.2.2.2.2.1
  have hty80 : vty v ≤ 80 := by rw [hplS]; exact hSI.2.2.2.2.2.1
  have hpdS : ∀ j, j < S.2.2.2.2.2.1 → vpd v j = S.2.2.2.2.2.2 j := hR.2.2.2.2.2.1
  have hpd : ∀ j, j < vty v → vpd v j < 127 := fun j hj => by rw [hpdS j (by omega)]; have := (hSI.2.2.2.2.2.2 j (by omega)).2; omega
  refine lv_iload_n hx hb dX5_found_0 rfl (lv_at hl 1 rfl) ?_
  refine k_callSr (rest := []) (nL := 13) ⟨hx, hb, hml, hown, hts⟩ (c_X5_isRegister l D cy ad hI v ra) (va_cwS 1 hts gX5_found_X5_isRegister rfl rfl rfl (by decide +kernel) ⟨Nat.le_of_ble_eq_true rfl, Nat.le_of_ble_eq_true rfl⟩) hK hP hS (fun _ h => h) rfl hl.1 rfl (Nat.le_of_ble_eq_true rfl) dX5_found_1 ⟨Nat.zero_le _, Nat.zero_le _⟩ (fun H locs hP hS => ?_)
  have hP : va_P D vwCl (wL 9 ad (mW ad cy (v))) H := hP
  refine b_ifeq (tgt := 14) hx hb dX5_found_4 (by decide) (fun h_1 => ?_) (fun h_1 => ?_)
  · skip
    have hjra : ¬ isR ra := of_decide_eq_false h_1
    refine lv_iconst (v := (-1 : Int32)) hx hb dX5_found_14 (by decide) ?_
    refine k_iret hx hb hr hlocks (v) hP hS dX5_found_15 ?_
    rw [show op_found S ra rb rwh = (-1, S) from if_pos (by first | exact Or.inl hjra | exact Or.inr (hjrb))]
    exact ⟨rfl, hR⟩
  · skip
    obtain ⟨jra, hjra, ejra⟩ := (kreg_cases ra).resolve_left (fun q => q (of_decide_eq_true h_1))
    rw [ejra] at hl
    refine lv_iload_n hx hb dX5_found_7 rfl (lv_at hl 2 rfl) ?_
    refine k_callSr (rest := []) (nL := 13) ⟨hx, hb, hml, hown, hts⟩ (c_X5_isRegister l D cy ad hI v rb) (va_cwS 1 hts gX5_found_X5_isRegister rfl rfl rfl (by decide +kernel) ⟨Nat.le_of_ble_eq_true rfl, Nat.le_of_ble_eq_true rfl⟩) hK hP hS (fun _ h => h) rfl hl.1 rfl (Nat.le_of_ble_eq_true rfl) dX5_found_8 ⟨Nat.zero_le _, Nat.zero_le _⟩ (fun H locs hP hS => ?_)
    have hP : va_P D vwCl (wL 9 ad (mW ad cy (v))) H := hP
    refine b_ifne (tgt := 16) hx hb dX5_found_11 (by decide) (fun h_2 => ?_) (fun h_2 => ?_)
    · skip
      obtain ⟨jrb, hjrb, ejrb⟩ := (kreg_cases rb).resolve_left (fun q => q (of_decide_eq_true h_2))
      rw [ejrb] at hl
      refine lv_aload_n hx hb dX5_found_16 rfl (lv_at hl 0 rfl) ?_
      refine lv_iload_n hx hb dX5_found_17 rfl (lv_at hl 1 rfl) ?_
      refine lv_iload_n hx hb dX5_found_18 rfl (lv_at hl 2 rfl) ?_
      have hoa := hrow jra hjra
      have hob := hrow jrb hjrb
      have hla := hoa.2.1
      have hla1 := hoa.1
      have hlb := hob.2.1
      have hlb1 := hob.1
      have hpb : plc (S.1 jra).1 (S.1 jrb).1 ≤ 65 := by unfold plc; omega
      refine k_callVr (rest := []) (nL := 13) ⟨hx, hb, hml, hown, hts⟩ (c_X5_places l D cy ad hI v S.1 jra jrb hM (by first | assumption | omega) (by first | assumption | omega)) (cwV 2 hts gX5_found_X5_places rfl rfl rfl (by decide +kernel) ⟨Nat.le_of_ble_eq_true rfl, Nat.le_of_ble_eq_true rfl⟩) hK hP hS (fun _ h => h) (q0 := 0) (ci := 5) rfl (by decide) mW_obj rfl rfl rfl hl.1 rfl (Nat.le_of_ble_eq_true rfl) dX5_found_19 ⟨Nat.zero_le _, Nat.zero_le _⟩ (fun H locs hP hS => ?_)
      have hP : va_P D vwCl (wL 9 ad (mW ad cy (v))) H := hP
      refine lv_istore (lv' := [(4, .int (nI (plc (S.1 jra).1 (S.1 jrb).1))), (0, .ref (ad (0))), (1, .int (nI (jra))), (2, .int (nI (jrb))), (3, .int (rwh))]) hx hb dX5_found_22 hl (by decide) rfl (fun ls hl => ?_)
      refine lv_iload hx hb dX5_found_24 (lv_at hl 0 rfl) ?_
      refine n_ifne (tgt := 32) hx hb (by omega) dX5_found_26 (by decide) (fun h_3 => ?_) (fun h_3 => ?_)
      · skip
        have hp0 : plc (S.1 jra).1 (S.1 jrb).1 ≠ 0 := h_3
        obtain ⟨hge, hpe⟩ := plc_e hp0
        refine lv_iload_n hx hb dX5_found_32 rfl (lv_at hl 4 rfl) ?_
        refine lv_iconst (v := nI (0)) hx hb dX5_found_33 rfl ?_
        refine lv_iconst (v := nI (3)) hx hb dX5_found_34 rfl ?_
        refine k_callSr (rest := []) (nL := 13) ⟨hx, hb, hml, hown, hts⟩ (c_X5_in l D cy ad hI v rwh (nI (0)) (nI (3))) (va_cwS 3 hts gX5_found_X5_in rfl rfl rfl (by decide +kernel) ⟨Nat.le_of_ble_eq_true rfl, Nat.le_of_ble_eq_true rfl⟩) hK hP hS (fun _ h => h) rfl hl.1 rfl (Nat.le_of_ble_eq_true rfl) dX5_found_35 ⟨Nat.zero_le _, Nat.zero_le _⟩ (fun H locs hP hS => ?_)
        have hP : va_P D vwCl (wL 9 ad (mW ad cy (v))) H := hP
        refine b_ifne (tgt := 44) hx hb dX5_found_38 (by decide) (fun h_4 => ?_) (fun h_4 => ?_)
        · skip
          obtain ⟨kw, hkw, ekw⟩ := (kin_cases rwh 4 (by decide)).resolve_left (fun q => q ((in_len (n := 4) (by decide) (by decide)).mp (of_decide_eq_true h_4)))
          rw [ekw] at hl
          refine lv_iconst (v := nI (0)) hx hb dX5_found_44 rfl ?_
          refine lv_istore (lv' := [(5, .int (nI (0))), (4, .int (nI (plc (S.1 jra).1 (S.1 jrb).1))), (0, .ref (ad (0))), (1, .int (nI (jra))), (2, .int (nI (jrb))), (3, .int (nI (kw)))]) hx hb dX5_found_45 hl (by decide) rfl (fun ls hl => ?_)
          refine lv_iconst (v := nI (0)) hx hb dX5_found_47 rfl ?_
          refine lv_istore (lv' := [(6, .int (nI (0))), (5, .int (nI (0))), (4, .int (nI (plc (S.1 jra).1 (S.1 jrb).1))), (0, .ref (ad (0))), (1, .int (nI (jra))), (2, .int (nI (jrb))), (3, .int (nI (kw)))]) hx hb dX5_found_48 hl (by decide) rfl (fun ls hl => ?_)
          refine lv_bipush (v := (-6 : Int32)) hx hb dX5_found_50 (by decide) ?_
          refine lv_istore (lv' := [(7, .int (-6)), (6, .int (nI (0))), (5, .int (nI (0))), (4, .int (nI (plc (S.1 jra).1 (S.1 jrb).1))), (0, .ref (ad (0))), (1, .int (nI (jra))), (2, .int (nI (jrb))), (3, .int (nI (kw)))]) hx hb dX5_found_52 hl (by decide) rfl (fun ls hl => ?_)
          refine lv_iconst (v := nI (0)) hx hb dX5_found_54 rfl ?_
          refine lv_istore (lv' := [(8, .int (nI (0))), (7, .int (-6)), (6, .int (nI (0))), (5, .int (nI (0))), (4, .int (nI (plc (S.1 jra).1 (S.1 jrb).1))), (0, .ref (ad (0))), (1, .int (nI (jra))), (2, .int (nI (jrb))), (3, .int (nI (kw)))]) hx hb dX5_found_55 hl (by decide) rfl (fun ls hl => ?_)
          refine lv_iload hx hb dX5_found_57 (lv_at hl 4 rfl) ?_
          refine lv_iconst (v := nI (1)) hx hb dX5_found_59 rfl ?_
          refine lv_isub hx hb dX5_found_60 ?_
          refine lv_istore (lv' := [(9, .int (nI (plc (S.1 jra).1 (S.1 jrb).1) - 1)), (8, .int (nI (0))), (7, .int (-6)), (6, .int (nI (0))), (5, .int (nI (0))), (4, .int (nI (plc (S.1 jra).1 (S.1 jrb).1))), (0, .ref (ad (0))), (1, .int (nI (jra))), (2, .int (nI (jrb))), (3, .int (nI (kw)))]) hx hb dX5_found_61 hl (by decide) rfl (fun ls hl => ?_)
          have lp63 : ∀ (fu : Nat) (k : Nat) (t5 : Nat) (t6 : Nat) (le : Int32) (t8 : Nat), (k ≤ plc (S.1 jra).1 (S.1 jrb).1) → (t5 + cb (fitB (S.1 jra) (S.1 jrb)) k = cb (fitB (S.1 jra) (S.1 jrb)) (plc (S.1 jra).1 (S.1 jrb).1)) → (t6 + cb (isF (S.1 jrb).2 (S.1 jra).2 (S.1 jrb).1) k = cb (isF (S.1 jrb).2 (S.1 jra).2 (S.1 jrb).1) (plc (S.1 jra).1 (S.1 jrb).1)) → (le = fb (isF (S.1 jrb).2 (S.1 jra).2 (S.1 jrb).1) k (plc (S.1 jra).1 (S.1 jrb).1 - k)) → (max t8 (mxS (fun pl => sumS (S.1 jrb).2 (S.1 jra).2 pl (S.1 jrb).1) k) = mxS (fun pl => sumS (S.1 jrb).2 (S.1 jra).2 pl (S.1 jrb).1) (plc (S.1 jra).1 (S.1 jrb).1)) → (t8 < 257) → k < fu → ∀ (H : Heap) (locs : List Loc), va_P D vwCl (wL 9 ad (mW ad cy (v))) H → va_S (wA 9 ad) s.heap H locs → ∀ (ls : Array Slot), lv_has ls 13 [(9, .int (nI (k) - 1)), (8, .int (nI (t8))), (7, .int (le)), (6, .int (nI (t6))), (5, .int (nI (t5))), (4, .int (nI (plc (S.1 jra).1 (S.1 jrb).1))), (0, .ref (ad (0))), (1, .int (nI (jra))), (2, .int (nI (jrb))), (3, .int (nI (kw)))] → W p l e ({ frames := 3, cells := 0, slots := 0, locals := 71 } : Room) s m ([.ref (ad (0)), .int (ra), .int (rb), .int (rwh)] : List Value).toArray below meth c H locs 0 0 (MQ below (kQ D 9 ad (mW ad cy) (fun o u => o = some (.int (op_found S ra rb rwh).1) ∧ mRep (op_found S ra rb rwh).2 u)) ([.ref (ad (0)), .int (ra), .int (rb), .int (rwh)] : List Value).toArray s 0 0 (wA 9 ad)) (F0 m 63 ls []) := by
            intro fu
            induction fu with
            | zero => intro k t5 t6 le t8 hk h5 h6 h7 h8 h8b hfu; exact absurd hfu (Nat.not_lt_zero _)
            | succ fu ih63 =>
              intro k t5 t6 le t8 hk h5 h6 h7 h8 h8b hfu H locs hP hS ls hl
              refine lv_iload hx hb dX5_found_63 (lv_at hl 0 rfl) ?_
              refine n_down (n := k) (tgt := 171) hx hb (by omega) dX5_found_65 (by decide) (fun h_5 => ?_) (fun h_5 => ?_)
              · skip
                have hk0 : k = 0 := by omega
                refine lv_iload_n hx hb dX5_found_171 rfl (lv_at hl 9 rfl) ?_
                refine n_ifne (tgt := 180) hx hb (by omega) dX5_found_172 (by decide) (fun h_6 => ?_) (fun h_6 => ?_)
                · skip
                  refine lv_iload_n hx hb dX5_found_180 rfl (lv_at hl 9 rfl) ?_
                  refine lv_iconst (v := nI (1)) hx hb dX5_found_181 rfl ?_
                  refine n_icmp_ne (tgt := 190) hx hb (by omega) (by omega) dX5_found_182 (by decide) (fun h_7 => ?_) (fun h_7 => ?_)
                  · skip
                    refine lv_iload_n hx hb dX5_found_190 rfl (lv_at hl 9 rfl) ?_
                    refine lv_iconst (v := nI (2)) hx hb dX5_found_191 rfl ?_
                    refine n_icmp_ne (tgt := 200) hx hb (by omega) (by omega) dX5_found_192 (by decide) (fun h_8 => ?_) (fun h_8 => ?_)
                    · skip
                      refine lv_iload hx hb dX5_found_200 (lv_at hl 1 rfl) ?_
                      refine k_iret hx hb hr hlocks (v) hP hS dX5_found_202 ?_
                      have hw9 : kw = 3 := by omega
                      rw [ejra, ejrb, ekw, hw9, op_found_x hjra hjrb, if_neg (by omega), if_neg (by decide), if_neg (by decide), if_neg (by decide), if_pos (by decide)]
                      exact ⟨rN (by rw [← hpe]; rw [hk0] at h8; exact (Nat.max_zero _).symm.trans h8), hR⟩
                    · skip
                      refine lv_iload hx hb dX5_found_195 (lv_at hl 2 rfl) ?_
                      refine lv_goto (tgt := 202) hx hb dX5_found_197 (by decide) ?_
                      refine k_iret hx hb hr hlocks (v) hP hS dX5_found_202 ?_
                      have hw9 : kw = 2 := by omega
                      rw [ejra, ejrb, ekw, hw9, op_found_x hjra hjrb, if_neg (by omega), if_neg (by decide), if_neg (by decide), if_pos (by decide)]
                      exact ⟨(by rw [h7, hk0, Nat.sub_zero, hpe]), hR⟩
                  · skip
                    refine lv_iload hx hb dX5_found_185 (lv_at hl 3 rfl) ?_
                    refine lv_goto (tgt := 202) hx hb dX5_found_187 (by decide) ?_
                    refine k_iret hx hb hr hlocks (v) hP hS dX5_found_202 ?_
                    have hw9 : kw = 1 := by omega
                    rw [ejra, ejrb, ekw, hw9, op_found_x hjra hjrb, if_neg (by omega), if_neg (by decide), if_pos (by decide)]
                    exact ⟨rN (by rw [← hpe, ← h6, hk0]; rfl), hR⟩
                · skip
                  refine lv_iload hx hb dX5_found_175 (lv_at hl 4 rfl) ?_
                  refine lv_goto (tgt := 202) hx hb dX5_found_177 (by decide) ?_
                  refine k_iret hx hb hr hlocks (v) hP hS dX5_found_202 ?_
                  have hw9 : kw = 0 := by omega
                  rw [ejra, ejrb, ekw, hw9, op_found_x hjra hjrb, if_neg (by omega), if_pos (by decide)]
                  exact ⟨rN (by rw [← hpe, ← h5, hk0]; rfl), hR⟩
              · skip
                obtain ⟨j, rfl⟩ : ∃ j, k = j + 1 := ⟨k - 1, by omega⟩
                rw [nI_pred] at hl
                have hsl : sumS (S.1 jrb).2 (S.1 jra).2 j (S.1 jrb).1 < 257 := sumS_lt _ _ _ _
                refine lv_aload_n hx hb dX5_found_68 rfl (lv_at hl 6 rfl) ?_
                refine lv_iload_n hx hb dX5_found_69 rfl (lv_at hl 7 rfl) ?_
                refine lv_iload_n hx hb dX5_found_70 rfl (lv_at hl 8 rfl) ?_
                refine lv_iload hx hb dX5_found_71 (lv_at hl 0 rfl) ?_
                refine k_callVr (rest := []) (nL := 13) ⟨hx, hb, hml, hown, hts⟩ (c_X5_fitsAt l D cy ad hI v S.1 jra jrb j hM (by first | assumption | omega) (by first | assumption | omega) (by first | assumption | omega)) (cwV 3 hts gX5_found_X5_fitsAt rfl rfl rfl (by decide +kernel) ⟨Nat.le_of_ble_eq_true rfl, Nat.le_of_ble_eq_true rfl⟩) hK hP hS (fun _ h => h) (q0 := 0) (ci := 5) rfl (by decide) mW_obj rfl rfl rfl hl.1 rfl (Nat.le_of_ble_eq_true rfl) dX5_found_73 ⟨Nat.zero_le _, Nat.zero_le _⟩ (fun H locs hP hS => ?_)
                have hP : va_P D vwCl (wL 9 ad (mW ad cy (v))) H := hP
                refine lv_istore (lv' := [(10, .int (kB (fitA (S.1 jrb).2 (S.1 jra).2 j (S.1 jrb).1))), (9, .int (nI (j))), (8, .int (nI (t8))), (7, .int (le)), (6, .int (nI (t6))), (5, .int (nI (t5))), (4, .int (nI (plc (S.1 jra).1 (S.1 jrb).1))), (0, .ref (ad (0))), (1, .int (nI (jra))), (2, .int (nI (jrb))), (3, .int (nI (kw)))]) hx hb dX5_found_76 hl (by decide) rfl (fun ls hl => ?_)
                refine lv_aload_n hx hb dX5_found_78 rfl (lv_at hl 7 rfl) ?_
                refine lv_iload_n hx hb dX5_found_79 rfl (lv_at hl 8 rfl) ?_
                refine lv_iload_n hx hb dX5_found_80 rfl (lv_at hl 9 rfl) ?_
                refine lv_iload hx hb dX5_found_81 (lv_at hl 1 rfl) ?_
                refine k_callVr (rest := []) (nL := 13) ⟨hx, hb, hml, hown, hts⟩ (c_X5_sumAt l D cy ad hI v S.1 jra jrb j hM (by first | assumption | omega) (by first | assumption | omega) (by first | assumption | omega)) (cwV 3 hts gX5_found_X5_sumAt rfl rfl rfl (by decide +kernel) ⟨Nat.le_of_ble_eq_true rfl, Nat.le_of_ble_eq_true rfl⟩) hK hP hS (fun _ h => h) (q0 := 0) (ci := 5) rfl (by decide) mW_obj rfl rfl rfl hl.1 rfl (Nat.le_of_ble_eq_true rfl) dX5_found_83 ⟨Nat.zero_le _, Nat.zero_le _⟩ (fun H locs hP hS => ?_)
                have hP : va_P D vwCl (wL 9 ad (mW ad cy (v))) H := hP
                refine lv_istore (lv' := [(11, .int (nI (sumS (S.1 jrb).2 (S.1 jra).2 j (S.1 jrb).1))), (10, .int (kB (fitA (S.1 jrb).2 (S.1 jra).2 j (S.1 jrb).1))), (9, .int (nI (j))), (8, .int (nI (t8))), (7, .int (le)), (6, .int (nI (t6))), (5, .int (nI (t5))), (4, .int (nI (plc (S.1 jra).1 (S.1 jrb).1))), (0, .ref (ad (0))), (1, .int (nI (jra))), (2, .int (nI (jrb))), (3, .int (nI (kw)))]) hx hb dX5_found_86 hl (by decide) rfl (fun ls hl => ?_)
                refine lv_iload hx hb dX5_found_88 (lv_at hl 0 rfl) ?_
                refine n_ifne (tgt := 102) hx hb (by omega) dX5_found_90 (by decide) (fun h_9 => ?_) (fun h_9 => ?_)
                · skip
                  have hs := h_9
                  have hpi : (isF (S.1 jrb).2 (S.1 jra).2 (S.1 jrb).1) j = false := by unfold isF; rw [decide_eq_false hs]; rfl
                  refine lv_iconst (v := nI (0)) hx hb dX5_found_102 rfl ?_
                  refine lv_istore (lv' := [(12, .int (nI (0))), (11, .int (nI (sumS (S.1 jrb).2 (S.1 jra).2 j (S.1 jrb).1))), (10, .int (kB (fitA (S.1 jrb).2 (S.1 jra).2 j (S.1 jrb).1))), (9, .int (nI (j))), (8, .int (nI (t8))), (7, .int (le)), (6, .int (nI (t6))), (5, .int (nI (t5))), (4, .int (nI (plc (S.1 jra).1 (S.1 jrb).1))), (0, .ref (ad (0))), (1, .int (nI (jra))), (2, .int (nI (jrb))), (3, .int (nI (kw)))]) hx hb dX5_found_103 hl (by decide) rfl (fun ls hl => ?_)
                  refine lv_iload hx hb dX5_found_105 (lv_at hl 7 rfl) ?_
                  refine lv_iload hx hb dX5_found_107 (lv_at hl 2 rfl) ?_
                  refine b_ifeq (tgt := 116) hx hb dX5_found_109 (by decide) (fun h_10 => ?_) (fun h_10 => ?_)
                  · skip
                    have hf2 : (fitB (S.1 jra) (S.1 jrb)) j = false := h_10
                    refine lv_iconst (v := nI (0)) hx hb dX5_found_116 rfl ?_
                    refine n_iadd hx hb dX5_found_117 ?_
                    refine lv_istore (lv' := [(5, .int (nI (t5 + 0))), (12, .int (nI (0))), (11, .int (nI (sumS (S.1 jrb).2 (S.1 jra).2 j (S.1 jrb).1))), (10, .int (kB (fitA (S.1 jrb).2 (S.1 jra).2 j (S.1 jrb).1))), (9, .int (nI (j))), (8, .int (nI (t8))), (7, .int (le)), (6, .int (nI (t6))), (4, .int (nI (plc (S.1 jra).1 (S.1 jrb).1))), (0, .ref (ad (0))), (1, .int (nI (jra))), (2, .int (nI (jrb))), (3, .int (nI (kw)))]) hx hb dX5_found_118 hl (by decide) rfl (fun ls hl => ?_)
                    refine lv_iload hx hb dX5_found_120 (lv_at hl 7 rfl) ?_
                    refine lv_iload hx hb dX5_found_122 (lv_at hl 1 rfl) ?_
                    refine n_ifeq (tgt := 131) hx hb (by omega) dX5_found_124 (by decide) (fun h_11 => ?_) (fun h_11 => absurd rfl h_11)
                    refine lv_iconst (v := nI (0)) hx hb dX5_found_131 rfl ?_
                    refine n_iadd hx hb dX5_found_132 ?_
                    refine lv_istore (lv' := [(6, .int (nI (t6 + 0))), (5, .int (nI (t5 + 0))), (12, .int (nI (0))), (11, .int (nI (sumS (S.1 jrb).2 (S.1 jra).2 j (S.1 jrb).1))), (10, .int (kB (fitA (S.1 jrb).2 (S.1 jra).2 j (S.1 jrb).1))), (9, .int (nI (j))), (8, .int (nI (t8))), (7, .int (le)), (4, .int (nI (plc (S.1 jra).1 (S.1 jrb).1))), (0, .ref (ad (0))), (1, .int (nI (jra))), (2, .int (nI (jrb))), (3, .int (nI (kw)))]) hx hb dX5_found_133 hl (by decide) rfl (fun ls hl => ?_)
                    refine lv_iload hx hb dX5_found_135 (lv_at hl 2 rfl) ?_
                    refine n_ifeq (tgt := 145) hx hb (by omega) dX5_found_137 (by decide) (fun h_12 => ?_) (fun h_12 => absurd rfl h_12)
                    refine lv_iload hx hb dX5_found_145 (lv_at hl 7 rfl) ?_
                    refine lv_istore (lv' := [(7, .int (le)), (6, .int (nI (t6 + 0))), (5, .int (nI (t5 + 0))), (12, .int (nI (0))), (11, .int (nI (sumS (S.1 jrb).2 (S.1 jra).2 j (S.1 jrb).1))), (10, .int (kB (fitA (S.1 jrb).2 (S.1 jra).2 j (S.1 jrb).1))), (9, .int (nI (j))), (8, .int (nI (t8))), (4, .int (nI (plc (S.1 jra).1 (S.1 jrb).1))), (0, .ref (ad (0))), (1, .int (nI (jra))), (2, .int (nI (jrb))), (3, .int (nI (kw)))]) hx hb dX5_found_147 hl (by decide) rfl (fun ls hl => ?_)
                    refine lv_iload hx hb dX5_found_149 (lv_at hl 4 rfl) ?_
                    refine lv_iload hx hb dX5_found_151 (lv_at hl 7 rfl) ?_
                    refine n_icmp_le (tgt := 161) hx hb (by omega) (by omega) dX5_found_153 (by decide) (fun h_13 => ?_) (fun h_13 => ?_)
                    · skip
                      refine lv_iload hx hb dX5_found_161 (lv_at hl 7 rfl) ?_
                      refine lv_istore (lv' := [(8, .int (nI (t8))), (7, .int (le)), (6, .int (nI (t6 + 0))), (5, .int (nI (t5 + 0))), (12, .int (nI (0))), (11, .int (nI (sumS (S.1 jrb).2 (S.1 jra).2 j (S.1 jrb).1))), (10, .int (kB (fitA (S.1 jrb).2 (S.1 jra).2 j (S.1 jrb).1))), (9, .int (nI (j))), (4, .int (nI (plc (S.1 jra).1 (S.1 jrb).1))), (0, .ref (ad (0))), (1, .int (nI (jra))), (2, .int (nI (jrb))), (3, .int (nI (kw)))]) hx hb dX5_found_163 hl (by decide) rfl (fun ls hl => ?_)
                      refine lv_iinc (v := nI (j) - 1) (lv' := [(9, .int (nI (j) - 1)), (8, .int (nI (t8))), (7, .int (le)), (6, .int (nI (t6 + 0))), (5, .int (nI (t5 + 0))), (12, .int (nI (0))), (11, .int (nI (sumS (S.1 jrb).2 (S.1 jra).2 j (S.1 jrb).1))), (10, .int (kB (fitA (S.1 jrb).2 (S.1 jra).2 j (S.1 jrb).1))), (4, .int (nI (plc (S.1 jra).1 (S.1 jrb).1))), (0, .ref (ad (0))), (1, .int (nI (jra))), (2, .int (nI (jrb))), (3, .int (nI (kw)))]) hx hb dX5_found_165 hl (k := 7) rfl (nI_dec' _) (by decide) rfl (fun ls hl => ?_)
                      refine lv_goto (tgt := 63) hx hb dX5_found_168 (by decide) ?_
                      exact ih63 (j) (t5 + 0) (t6 + 0) (le) (t8) (by omega) (by first | (rw [← h5, cb_f hf2]; omega) | (rw [← h5, cb_t hf2]; omega)) (by first | exact absurd hf2 (by rw [hf1]; decide) | (rw [← h6, cb_f hpi]; omega) | (rw [← h6, cb_t hpi]; omega)) (by first | exact absurd hf2 (by rw [hf1]; decide) | (rw [show plc (S.1 jra).1 (S.1 jrb).1 - j = (plc (S.1 jra).1 (S.1 jrb).1 - (j + 1)) + 1 by omega, fb_f hpi]; exact h7) | (rw [show plc (S.1 jra).1 (S.1 jrb).1 - j = (plc (S.1 jra).1 (S.1 jrb).1 - (j + 1)) + 1 by omega, fb_t hpi])) (by rw [← h8]; show max _ (mxS (fun pl => sumS (S.1 jrb).2 (S.1 jra).2 pl (S.1 jrb).1) j) = max t8 (max (mxS (fun pl => sumS (S.1 jrb).2 (S.1 jra).2 pl (S.1 jrb).1) j) (sumS (S.1 jrb).2 (S.1 jra).2 j (S.1 jrb).1)); omega) (by first | assumption | omega) (by omega) _ _ hP hS _ (lv_sub hl [0, 1, 2, 3, 4, 8, 9, 10, 11, 12] rfl)
                    · skip
                      refine lv_iload hx hb dX5_found_156 (lv_at hl 4 rfl) ?_
                      refine lv_goto (tgt := 163) hx hb dX5_found_158 (by decide) ?_
                      refine lv_istore (lv' := [(8, .int (nI (sumS (S.1 jrb).2 (S.1 jra).2 j (S.1 jrb).1))), (7, .int (le)), (6, .int (nI (t6 + 0))), (5, .int (nI (t5 + 0))), (12, .int (nI (0))), (11, .int (nI (sumS (S.1 jrb).2 (S.1 jra).2 j (S.1 jrb).1))), (10, .int (kB (fitA (S.1 jrb).2 (S.1 jra).2 j (S.1 jrb).1))), (9, .int (nI (j))), (4, .int (nI (plc (S.1 jra).1 (S.1 jrb).1))), (0, .ref (ad (0))), (1, .int (nI (jra))), (2, .int (nI (jrb))), (3, .int (nI (kw)))]) hx hb dX5_found_163 hl (by decide) rfl (fun ls hl => ?_)
                      refine lv_iinc (v := nI (j) - 1) (lv' := [(9, .int (nI (j) - 1)), (8, .int (nI (sumS (S.1 jrb).2 (S.1 jra).2 j (S.1 jrb).1))), (7, .int (le)), (6, .int (nI (t6 + 0))), (5, .int (nI (t5 + 0))), (12, .int (nI (0))), (11, .int (nI (sumS (S.1 jrb).2 (S.1 jra).2 j (S.1 jrb).1))), (10, .int (kB (fitA (S.1 jrb).2 (S.1 jra).2 j (S.1 jrb).1))), (4, .int (nI (plc (S.1 jra).1 (S.1 jrb).1))), (0, .ref (ad (0))), (1, .int (nI (jra))), (2, .int (nI (jrb))), (3, .int (nI (kw)))]) hx hb dX5_found_165 hl (k := 7) rfl (nI_dec' _) (by decide) rfl (fun ls hl => ?_)
                      refine lv_goto (tgt := 63) hx hb dX5_found_168 (by decide) ?_
                      exact ih63 (j) (t5 + 0) (t6 + 0) (le) (sumS (S.1 jrb).2 (S.1 jra).2 j (S.1 jrb).1) (by omega) (by first | (rw [← h5, cb_f hf2]; omega) | (rw [← h5, cb_t hf2]; omega)) (by first | exact absurd hf2 (by rw [hf1]; decide) | (rw [← h6, cb_f hpi]; omega) | (rw [← h6, cb_t hpi]; omega)) (by first | exact absurd hf2 (by rw [hf1]; decide) | (rw [show plc (S.1 jra).1 (S.1 jrb).1 - j = (plc (S.1 jra).1 (S.1 jrb).1 - (j + 1)) + 1 by omega, fb_f hpi]; exact h7) | (rw [show plc (S.1 jra).1 (S.1 jrb).1 - j = (plc (S.1 jra).1 (S.1 jrb).1 - (j + 1)) + 1 by omega, fb_t hpi])) (by rw [← h8]; show max _ (mxS (fun pl => sumS (S.1 jrb).2 (S.1 jra).2 pl (S.1 jrb).1) j) = max t8 (max (mxS (fun pl => sumS (S.1 jrb).2 (S.1 jra).2 pl (S.1 jrb).1) j) (sumS (S.1 jrb).2 (S.1 jra).2 j (S.1 jrb).1)); omega) (by first | assumption | omega) (by omega) _ _ hP hS _ (lv_sub hl [0, 1, 2, 3, 4, 8, 9, 10, 11, 12] rfl)
                  · skip
                    have hf2 : (fitB (S.1 jra) (S.1 jrb)) j = true := h_10
                    refine lv_iconst (v := nI (1)) hx hb dX5_found_112 rfl ?_
                    refine lv_goto (tgt := 117) hx hb dX5_found_113 (by decide) ?_
                    refine n_iadd hx hb dX5_found_117 ?_
                    refine lv_istore (lv' := [(5, .int (nI (t5 + 1))), (12, .int (nI (0))), (11, .int (nI (sumS (S.1 jrb).2 (S.1 jra).2 j (S.1 jrb).1))), (10, .int (kB (fitA (S.1 jrb).2 (S.1 jra).2 j (S.1 jrb).1))), (9, .int (nI (j))), (8, .int (nI (t8))), (7, .int (le)), (6, .int (nI (t6))), (4, .int (nI (plc (S.1 jra).1 (S.1 jrb).1))), (0, .ref (ad (0))), (1, .int (nI (jra))), (2, .int (nI (jrb))), (3, .int (nI (kw)))]) hx hb dX5_found_118 hl (by decide) rfl (fun ls hl => ?_)
                    refine lv_iload hx hb dX5_found_120 (lv_at hl 7 rfl) ?_
                    refine lv_iload hx hb dX5_found_122 (lv_at hl 1 rfl) ?_
                    refine n_ifeq (tgt := 131) hx hb (by omega) dX5_found_124 (by decide) (fun h_14 => ?_) (fun h_14 => absurd rfl h_14)
                    refine lv_iconst (v := nI (0)) hx hb dX5_found_131 rfl ?_
                    refine n_iadd hx hb dX5_found_132 ?_
                    refine lv_istore (lv' := [(6, .int (nI (t6 + 0))), (5, .int (nI (t5 + 1))), (12, .int (nI (0))), (11, .int (nI (sumS (S.1 jrb).2 (S.1 jra).2 j (S.1 jrb).1))), (10, .int (kB (fitA (S.1 jrb).2 (S.1 jra).2 j (S.1 jrb).1))), (9, .int (nI (j))), (8, .int (nI (t8))), (7, .int (le)), (4, .int (nI (plc (S.1 jra).1 (S.1 jrb).1))), (0, .ref (ad (0))), (1, .int (nI (jra))), (2, .int (nI (jrb))), (3, .int (nI (kw)))]) hx hb dX5_found_133 hl (by decide) rfl (fun ls hl => ?_)
                    refine lv_iload hx hb dX5_found_135 (lv_at hl 2 rfl) ?_
                    refine n_ifeq (tgt := 145) hx hb (by omega) dX5_found_137 (by decide) (fun h_15 => ?_) (fun h_15 => absurd rfl h_15)
                    refine lv_iload hx hb dX5_found_145 (lv_at hl 7 rfl) ?_
                    refine lv_istore (lv' := [(7, .int (le)), (6, .int (nI (t6 + 0))), (5, .int (nI (t5 + 1))), (12, .int (nI (0))), (11, .int (nI (sumS (S.1 jrb).2 (S.1 jra).2 j (S.1 jrb).1))), (10, .int (kB (fitA (S.1 jrb).2 (S.1 jra).2 j (S.1 jrb).1))), (9, .int (nI (j))), (8, .int (nI (t8))), (4, .int (nI (plc (S.1 jra).1 (S.1 jrb).1))), (0, .ref (ad (0))), (1, .int (nI (jra))), (2, .int (nI (jrb))), (3, .int (nI (kw)))]) hx hb dX5_found_147 hl (by decide) rfl (fun ls hl => ?_)
                    refine lv_iload hx hb dX5_found_149 (lv_at hl 4 rfl) ?_
                    refine lv_iload hx hb dX5_found_151 (lv_at hl 7 rfl) ?_
                    refine n_icmp_le (tgt := 161) hx hb (by omega) (by omega) dX5_found_153 (by decide) (fun h_16 => ?_) (fun h_16 => ?_)
                    · skip
                      refine lv_iload hx hb dX5_found_161 (lv_at hl 7 rfl) ?_
                      refine lv_istore (lv' := [(8, .int (nI (t8))), (7, .int (le)), (6, .int (nI (t6 + 0))), (5, .int (nI (t5 + 1))), (12, .int (nI (0))), (11, .int (nI (sumS (S.1 jrb).2 (S.1 jra).2 j (S.1 jrb).1))), (10, .int (kB (fitA (S.1 jrb).2 (S.1 jra).2 j (S.1 jrb).1))), (9, .int (nI (j))), (4, .int (nI (plc (S.1 jra).1 (S.1 jrb).1))), (0, .ref (ad (0))), (1, .int (nI (jra))), (2, .int (nI (jrb))), (3, .int (nI (kw)))]) hx hb dX5_found_163 hl (by decide) rfl (fun ls hl => ?_)
                      refine lv_iinc (v := nI (j) - 1) (lv' := [(9, .int (nI (j) - 1)), (8, .int (nI (t8))), (7, .int (le)), (6, .int (nI (t6 + 0))), (5, .int (nI (t5 + 1))), (12, .int (nI (0))), (11, .int (nI (sumS (S.1 jrb).2 (S.1 jra).2 j (S.1 jrb).1))), (10, .int (kB (fitA (S.1 jrb).2 (S.1 jra).2 j (S.1 jrb).1))), (4, .int (nI (plc (S.1 jra).1 (S.1 jrb).1))), (0, .ref (ad (0))), (1, .int (nI (jra))), (2, .int (nI (jrb))), (3, .int (nI (kw)))]) hx hb dX5_found_165 hl (k := 7) rfl (nI_dec' _) (by decide) rfl (fun ls hl => ?_)
                      refine lv_goto (tgt := 63) hx hb dX5_found_168 (by decide) ?_
                      exact ih63 (j) (t5 + 1) (t6 + 0) (le) (t8) (by omega) (by first | (rw [← h5, cb_f hf2]; omega) | (rw [← h5, cb_t hf2]; omega)) (by first | exact absurd hf2 (by rw [hf1]; decide) | (rw [← h6, cb_f hpi]; omega) | (rw [← h6, cb_t hpi]; omega)) (by first | exact absurd hf2 (by rw [hf1]; decide) | (rw [show plc (S.1 jra).1 (S.1 jrb).1 - j = (plc (S.1 jra).1 (S.1 jrb).1 - (j + 1)) + 1 by omega, fb_f hpi]; exact h7) | (rw [show plc (S.1 jra).1 (S.1 jrb).1 - j = (plc (S.1 jra).1 (S.1 jrb).1 - (j + 1)) + 1 by omega, fb_t hpi])) (by rw [← h8]; show max _ (mxS (fun pl => sumS (S.1 jrb).2 (S.1 jra).2 pl (S.1 jrb).1) j) = max t8 (max (mxS (fun pl => sumS (S.1 jrb).2 (S.1 jra).2 pl (S.1 jrb).1) j) (sumS (S.1 jrb).2 (S.1 jra).2 j (S.1 jrb).1)); omega) (by first | assumption | omega) (by omega) _ _ hP hS _ (lv_sub hl [0, 1, 2, 3, 4, 8, 9, 10, 11, 12] rfl)
                    · skip
                      refine lv_iload hx hb dX5_found_156 (lv_at hl 4 rfl) ?_
                      refine lv_goto (tgt := 163) hx hb dX5_found_158 (by decide) ?_
                      refine lv_istore (lv' := [(8, .int (nI (sumS (S.1 jrb).2 (S.1 jra).2 j (S.1 jrb).1))), (7, .int (le)), (6, .int (nI (t6 + 0))), (5, .int (nI (t5 + 1))), (12, .int (nI (0))), (11, .int (nI (sumS (S.1 jrb).2 (S.1 jra).2 j (S.1 jrb).1))), (10, .int (kB (fitA (S.1 jrb).2 (S.1 jra).2 j (S.1 jrb).1))), (9, .int (nI (j))), (4, .int (nI (plc (S.1 jra).1 (S.1 jrb).1))), (0, .ref (ad (0))), (1, .int (nI (jra))), (2, .int (nI (jrb))), (3, .int (nI (kw)))]) hx hb dX5_found_163 hl (by decide) rfl (fun ls hl => ?_)
                      refine lv_iinc (v := nI (j) - 1) (lv' := [(9, .int (nI (j) - 1)), (8, .int (nI (sumS (S.1 jrb).2 (S.1 jra).2 j (S.1 jrb).1))), (7, .int (le)), (6, .int (nI (t6 + 0))), (5, .int (nI (t5 + 1))), (12, .int (nI (0))), (11, .int (nI (sumS (S.1 jrb).2 (S.1 jra).2 j (S.1 jrb).1))), (10, .int (kB (fitA (S.1 jrb).2 (S.1 jra).2 j (S.1 jrb).1))), (4, .int (nI (plc (S.1 jra).1 (S.1 jrb).1))), (0, .ref (ad (0))), (1, .int (nI (jra))), (2, .int (nI (jrb))), (3, .int (nI (kw)))]) hx hb dX5_found_165 hl (k := 7) rfl (nI_dec' _) (by decide) rfl (fun ls hl => ?_)
                      refine lv_goto (tgt := 63) hx hb dX5_found_168 (by decide) ?_
                      exact ih63 (j) (t5 + 1) (t6 + 0) (le) (sumS (S.1 jrb).2 (S.1 jra).2 j (S.1 jrb).1) (by omega) (by first | (rw [← h5, cb_f hf2]; omega) | (rw [← h5, cb_t hf2]; omega)) (by first | exact absurd hf2 (by rw [hf1]; decide) | (rw [← h6, cb_f hpi]; omega) | (rw [← h6, cb_t hpi]; omega)) (by first | exact absurd hf2 (by rw [hf1]; decide) | (rw [show plc (S.1 jra).1 (S.1 jrb).1 - j = (plc (S.1 jra).1 (S.1 jrb).1 - (j + 1)) + 1 by omega, fb_f hpi]; exact h7) | (rw [show plc (S.1 jra).1 (S.1 jrb).1 - j = (plc (S.1 jra).1 (S.1 jrb).1 - (j + 1)) + 1 by omega, fb_t hpi])) (by rw [← h8]; show max _ (mxS (fun pl => sumS (S.1 jrb).2 (S.1 jra).2 pl (S.1 jrb).1) j) = max t8 (max (mxS (fun pl => sumS (S.1 jrb).2 (S.1 jra).2 pl (S.1 jrb).1) j) (sumS (S.1 jrb).2 (S.1 jra).2 j (S.1 jrb).1)); omega) (by first | assumption | omega) (by omega) _ _ hP hS _ (lv_sub hl [0, 1, 2, 3, 4, 8, 9, 10, 11, 12] rfl)
                · skip
                  have hs : sumS (S.1 jrb).2 (S.1 jra).2 j (S.1 jrb).1 = 0 := h_9
                  refine lv_iload hx hb dX5_found_93 (lv_at hl 1 rfl) ?_
                  refine b_ifne (tgt := 102) hx hb dX5_found_95 (by decide) (fun h_17 => ?_) (fun h_17 => ?_)
                  · skip
                    have hf1 : (fitB (S.1 jra) (S.1 jrb)) j = true := h_17
                    have hpi : (isF (S.1 jrb).2 (S.1 jra).2 (S.1 jrb).1) j = false := by unfold isF; rw [decide_eq_true hs, show fitA (S.1 jrb).2 (S.1 jra).2 j (S.1 jrb).1 = true from hf1]; rfl
                    refine lv_iconst (v := nI (0)) hx hb dX5_found_102 rfl ?_
                    refine lv_istore (lv' := [(12, .int (nI (0))), (11, .int (nI (sumS (S.1 jrb).2 (S.1 jra).2 j (S.1 jrb).1))), (10, .int (kB (fitA (S.1 jrb).2 (S.1 jra).2 j (S.1 jrb).1))), (9, .int (nI (j))), (8, .int (nI (t8))), (7, .int (le)), (6, .int (nI (t6))), (5, .int (nI (t5))), (4, .int (nI (plc (S.1 jra).1 (S.1 jrb).1))), (0, .ref (ad (0))), (1, .int (nI (jra))), (2, .int (nI (jrb))), (3, .int (nI (kw)))]) hx hb dX5_found_103 hl (by decide) rfl (fun ls hl => ?_)
                    refine lv_iload hx hb dX5_found_105 (lv_at hl 7 rfl) ?_
                    refine lv_iload hx hb dX5_found_107 (lv_at hl 2 rfl) ?_
                    refine b_ifeq (tgt := 116) hx hb dX5_found_109 (by decide) (fun h_18 => ?_) (fun h_18 => ?_)
                    · skip
                      have hf2 : (fitB (S.1 jra) (S.1 jrb)) j = false := h_18
                      refine lv_iconst (v := nI (0)) hx hb dX5_found_116 rfl ?_
                      refine n_iadd hx hb dX5_found_117 ?_
                      refine lv_istore (lv' := [(5, .int (nI (t5 + 0))), (12, .int (nI (0))), (11, .int (nI (sumS (S.1 jrb).2 (S.1 jra).2 j (S.1 jrb).1))), (10, .int (kB (fitA (S.1 jrb).2 (S.1 jra).2 j (S.1 jrb).1))), (9, .int (nI (j))), (8, .int (nI (t8))), (7, .int (le)), (6, .int (nI (t6))), (4, .int (nI (plc (S.1 jra).1 (S.1 jrb).1))), (0, .ref (ad (0))), (1, .int (nI (jra))), (2, .int (nI (jrb))), (3, .int (nI (kw)))]) hx hb dX5_found_118 hl (by decide) rfl (fun ls hl => ?_)
                      refine lv_iload hx hb dX5_found_120 (lv_at hl 7 rfl) ?_
                      refine lv_iload hx hb dX5_found_122 (lv_at hl 1 rfl) ?_
                      refine n_ifeq (tgt := 131) hx hb (by omega) dX5_found_124 (by decide) (fun h_19 => ?_) (fun h_19 => absurd rfl h_19)
                      refine lv_iconst (v := nI (0)) hx hb dX5_found_131 rfl ?_
                      refine n_iadd hx hb dX5_found_132 ?_
                      refine lv_istore (lv' := [(6, .int (nI (t6 + 0))), (5, .int (nI (t5 + 0))), (12, .int (nI (0))), (11, .int (nI (sumS (S.1 jrb).2 (S.1 jra).2 j (S.1 jrb).1))), (10, .int (kB (fitA (S.1 jrb).2 (S.1 jra).2 j (S.1 jrb).1))), (9, .int (nI (j))), (8, .int (nI (t8))), (7, .int (le)), (4, .int (nI (plc (S.1 jra).1 (S.1 jrb).1))), (0, .ref (ad (0))), (1, .int (nI (jra))), (2, .int (nI (jrb))), (3, .int (nI (kw)))]) hx hb dX5_found_133 hl (by decide) rfl (fun ls hl => ?_)
                      refine lv_iload hx hb dX5_found_135 (lv_at hl 2 rfl) ?_
                      refine n_ifeq (tgt := 145) hx hb (by omega) dX5_found_137 (by decide) (fun h_20 => ?_) (fun h_20 => absurd rfl h_20)
                      refine lv_iload hx hb dX5_found_145 (lv_at hl 7 rfl) ?_
                      refine lv_istore (lv' := [(7, .int (le)), (6, .int (nI (t6 + 0))), (5, .int (nI (t5 + 0))), (12, .int (nI (0))), (11, .int (nI (sumS (S.1 jrb).2 (S.1 jra).2 j (S.1 jrb).1))), (10, .int (kB (fitA (S.1 jrb).2 (S.1 jra).2 j (S.1 jrb).1))), (9, .int (nI (j))), (8, .int (nI (t8))), (4, .int (nI (plc (S.1 jra).1 (S.1 jrb).1))), (0, .ref (ad (0))), (1, .int (nI (jra))), (2, .int (nI (jrb))), (3, .int (nI (kw)))]) hx hb dX5_found_147 hl (by decide) rfl (fun ls hl => ?_)
                      refine lv_iload hx hb dX5_found_149 (lv_at hl 4 rfl) ?_
                      refine lv_iload hx hb dX5_found_151 (lv_at hl 7 rfl) ?_
                      refine n_icmp_le (tgt := 161) hx hb (by omega) (by omega) dX5_found_153 (by decide) (fun h_21 => ?_) (fun h_21 => ?_)
                      · skip
                        refine lv_iload hx hb dX5_found_161 (lv_at hl 7 rfl) ?_
                        refine lv_istore (lv' := [(8, .int (nI (t8))), (7, .int (le)), (6, .int (nI (t6 + 0))), (5, .int (nI (t5 + 0))), (12, .int (nI (0))), (11, .int (nI (sumS (S.1 jrb).2 (S.1 jra).2 j (S.1 jrb).1))), (10, .int (kB (fitA (S.1 jrb).2 (S.1 jra).2 j (S.1 jrb).1))), (9, .int (nI (j))), (4, .int (nI (plc (S.1 jra).1 (S.1 jrb).1))), (0, .ref (ad (0))), (1, .int (nI (jra))), (2, .int (nI (jrb))), (3, .int (nI (kw)))]) hx hb dX5_found_163 hl (by decide) rfl (fun ls hl => ?_)
                        refine lv_iinc (v := nI (j) - 1) (lv' := [(9, .int (nI (j) - 1)), (8, .int (nI (t8))), (7, .int (le)), (6, .int (nI (t6 + 0))), (5, .int (nI (t5 + 0))), (12, .int (nI (0))), (11, .int (nI (sumS (S.1 jrb).2 (S.1 jra).2 j (S.1 jrb).1))), (10, .int (kB (fitA (S.1 jrb).2 (S.1 jra).2 j (S.1 jrb).1))), (4, .int (nI (plc (S.1 jra).1 (S.1 jrb).1))), (0, .ref (ad (0))), (1, .int (nI (jra))), (2, .int (nI (jrb))), (3, .int (nI (kw)))]) hx hb dX5_found_165 hl (k := 7) rfl (nI_dec' _) (by decide) rfl (fun ls hl => ?_)
                        refine lv_goto (tgt := 63) hx hb dX5_found_168 (by decide) ?_
                        exact ih63 (j) (t5 + 0) (t6 + 0) (le) (t8) (by omega) (by first | (rw [← h5, cb_f hf2]; omega) | (rw [← h5, cb_t hf2]; omega)) (by first | exact absurd hf2 (by rw [hf1]; decide) | (rw [← h6, cb_f hpi]; omega) | (rw [← h6, cb_t hpi]; omega)) (by first | exact absurd hf2 (by rw [hf1]; decide) | (rw [show plc (S.1 jra).1 (S.1 jrb).1 - j = (plc (S.1 jra).1 (S.1 jrb).1 - (j + 1)) + 1 by omega, fb_f hpi]; exact h7) | (rw [show plc (S.1 jra).1 (S.1 jrb).1 - j = (plc (S.1 jra).1 (S.1 jrb).1 - (j + 1)) + 1 by omega, fb_t hpi])) (by rw [← h8]; show max _ (mxS (fun pl => sumS (S.1 jrb).2 (S.1 jra).2 pl (S.1 jrb).1) j) = max t8 (max (mxS (fun pl => sumS (S.1 jrb).2 (S.1 jra).2 pl (S.1 jrb).1) j) (sumS (S.1 jrb).2 (S.1 jra).2 j (S.1 jrb).1)); omega) (by first | assumption | omega) (by omega) _ _ hP hS _ (lv_sub hl [0, 1, 2, 3, 4, 8, 9, 10, 11, 12] rfl)
                      · skip
                        refine lv_iload hx hb dX5_found_156 (lv_at hl 4 rfl) ?_
                        refine lv_goto (tgt := 163) hx hb dX5_found_158 (by decide) ?_
                        refine lv_istore (lv' := [(8, .int (nI (sumS (S.1 jrb).2 (S.1 jra).2 j (S.1 jrb).1))), (7, .int (le)), (6, .int (nI (t6 + 0))), (5, .int (nI (t5 + 0))), (12, .int (nI (0))), (11, .int (nI (sumS (S.1 jrb).2 (S.1 jra).2 j (S.1 jrb).1))), (10, .int (kB (fitA (S.1 jrb).2 (S.1 jra).2 j (S.1 jrb).1))), (9, .int (nI (j))), (4, .int (nI (plc (S.1 jra).1 (S.1 jrb).1))), (0, .ref (ad (0))), (1, .int (nI (jra))), (2, .int (nI (jrb))), (3, .int (nI (kw)))]) hx hb dX5_found_163 hl (by decide) rfl (fun ls hl => ?_)
                        refine lv_iinc (v := nI (j) - 1) (lv' := [(9, .int (nI (j) - 1)), (8, .int (nI (sumS (S.1 jrb).2 (S.1 jra).2 j (S.1 jrb).1))), (7, .int (le)), (6, .int (nI (t6 + 0))), (5, .int (nI (t5 + 0))), (12, .int (nI (0))), (11, .int (nI (sumS (S.1 jrb).2 (S.1 jra).2 j (S.1 jrb).1))), (10, .int (kB (fitA (S.1 jrb).2 (S.1 jra).2 j (S.1 jrb).1))), (4, .int (nI (plc (S.1 jra).1 (S.1 jrb).1))), (0, .ref (ad (0))), (1, .int (nI (jra))), (2, .int (nI (jrb))), (3, .int (nI (kw)))]) hx hb dX5_found_165 hl (k := 7) rfl (nI_dec' _) (by decide) rfl (fun ls hl => ?_)
                        refine lv_goto (tgt := 63) hx hb dX5_found_168 (by decide) ?_
                        exact ih63 (j) (t5 + 0) (t6 + 0) (le) (sumS (S.1 jrb).2 (S.1 jra).2 j (S.1 jrb).1) (by omega) (by first | (rw [← h5, cb_f hf2]; omega) | (rw [← h5, cb_t hf2]; omega)) (by first | exact absurd hf2 (by rw [hf1]; decide) | (rw [← h6, cb_f hpi]; omega) | (rw [← h6, cb_t hpi]; omega)) (by first | exact absurd hf2 (by rw [hf1]; decide) | (rw [show plc (S.1 jra).1 (S.1 jrb).1 - j = (plc (S.1 jra).1 (S.1 jrb).1 - (j + 1)) + 1 by omega, fb_f hpi]; exact h7) | (rw [show plc (S.1 jra).1 (S.1 jrb).1 - j = (plc (S.1 jra).1 (S.1 jrb).1 - (j + 1)) + 1 by omega, fb_t hpi])) (by rw [← h8]; show max _ (mxS (fun pl => sumS (S.1 jrb).2 (S.1 jra).2 pl (S.1 jrb).1) j) = max t8 (max (mxS (fun pl => sumS (S.1 jrb).2 (S.1 jra).2 pl (S.1 jrb).1) j) (sumS (S.1 jrb).2 (S.1 jra).2 j (S.1 jrb).1)); omega) (by first | assumption | omega) (by omega) _ _ hP hS _ (lv_sub hl [0, 1, 2, 3, 4, 8, 9, 10, 11, 12] rfl)
                    · skip
                      have hf2 : (fitB (S.1 jra) (S.1 jrb)) j = true := h_18
                      refine lv_iconst (v := nI (1)) hx hb dX5_found_112 rfl ?_
                      refine lv_goto (tgt := 117) hx hb dX5_found_113 (by decide) ?_
                      refine n_iadd hx hb dX5_found_117 ?_
                      refine lv_istore (lv' := [(5, .int (nI (t5 + 1))), (12, .int (nI (0))), (11, .int (nI (sumS (S.1 jrb).2 (S.1 jra).2 j (S.1 jrb).1))), (10, .int (kB (fitA (S.1 jrb).2 (S.1 jra).2 j (S.1 jrb).1))), (9, .int (nI (j))), (8, .int (nI (t8))), (7, .int (le)), (6, .int (nI (t6))), (4, .int (nI (plc (S.1 jra).1 (S.1 jrb).1))), (0, .ref (ad (0))), (1, .int (nI (jra))), (2, .int (nI (jrb))), (3, .int (nI (kw)))]) hx hb dX5_found_118 hl (by decide) rfl (fun ls hl => ?_)
                      refine lv_iload hx hb dX5_found_120 (lv_at hl 7 rfl) ?_
                      refine lv_iload hx hb dX5_found_122 (lv_at hl 1 rfl) ?_
                      refine n_ifeq (tgt := 131) hx hb (by omega) dX5_found_124 (by decide) (fun h_22 => ?_) (fun h_22 => absurd rfl h_22)
                      refine lv_iconst (v := nI (0)) hx hb dX5_found_131 rfl ?_
                      refine n_iadd hx hb dX5_found_132 ?_
                      refine lv_istore (lv' := [(6, .int (nI (t6 + 0))), (5, .int (nI (t5 + 1))), (12, .int (nI (0))), (11, .int (nI (sumS (S.1 jrb).2 (S.1 jra).2 j (S.1 jrb).1))), (10, .int (kB (fitA (S.1 jrb).2 (S.1 jra).2 j (S.1 jrb).1))), (9, .int (nI (j))), (8, .int (nI (t8))), (7, .int (le)), (4, .int (nI (plc (S.1 jra).1 (S.1 jrb).1))), (0, .ref (ad (0))), (1, .int (nI (jra))), (2, .int (nI (jrb))), (3, .int (nI (kw)))]) hx hb dX5_found_133 hl (by decide) rfl (fun ls hl => ?_)
                      refine lv_iload hx hb dX5_found_135 (lv_at hl 2 rfl) ?_
                      refine n_ifeq (tgt := 145) hx hb (by omega) dX5_found_137 (by decide) (fun h_23 => ?_) (fun h_23 => absurd rfl h_23)
                      refine lv_iload hx hb dX5_found_145 (lv_at hl 7 rfl) ?_
                      refine lv_istore (lv' := [(7, .int (le)), (6, .int (nI (t6 + 0))), (5, .int (nI (t5 + 1))), (12, .int (nI (0))), (11, .int (nI (sumS (S.1 jrb).2 (S.1 jra).2 j (S.1 jrb).1))), (10, .int (kB (fitA (S.1 jrb).2 (S.1 jra).2 j (S.1 jrb).1))), (9, .int (nI (j))), (8, .int (nI (t8))), (4, .int (nI (plc (S.1 jra).1 (S.1 jrb).1))), (0, .ref (ad (0))), (1, .int (nI (jra))), (2, .int (nI (jrb))), (3, .int (nI (kw)))]) hx hb dX5_found_147 hl (by decide) rfl (fun ls hl => ?_)
                      refine lv_iload hx hb dX5_found_149 (lv_at hl 4 rfl) ?_
                      refine lv_iload hx hb dX5_found_151 (lv_at hl 7 rfl) ?_
                      refine n_icmp_le (tgt := 161) hx hb (by omega) (by omega) dX5_found_153 (by decide) (fun h_24 => ?_) (fun h_24 => ?_)
                      · skip
                        refine lv_iload hx hb dX5_found_161 (lv_at hl 7 rfl) ?_
                        refine lv_istore (lv' := [(8, .int (nI (t8))), (7, .int (le)), (6, .int (nI (t6 + 0))), (5, .int (nI (t5 + 1))), (12, .int (nI (0))), (11, .int (nI (sumS (S.1 jrb).2 (S.1 jra).2 j (S.1 jrb).1))), (10, .int (kB (fitA (S.1 jrb).2 (S.1 jra).2 j (S.1 jrb).1))), (9, .int (nI (j))), (4, .int (nI (plc (S.1 jra).1 (S.1 jrb).1))), (0, .ref (ad (0))), (1, .int (nI (jra))), (2, .int (nI (jrb))), (3, .int (nI (kw)))]) hx hb dX5_found_163 hl (by decide) rfl (fun ls hl => ?_)
                        refine lv_iinc (v := nI (j) - 1) (lv' := [(9, .int (nI (j) - 1)), (8, .int (nI (t8))), (7, .int (le)), (6, .int (nI (t6 + 0))), (5, .int (nI (t5 + 1))), (12, .int (nI (0))), (11, .int (nI (sumS (S.1 jrb).2 (S.1 jra).2 j (S.1 jrb).1))), (10, .int (kB (fitA (S.1 jrb).2 (S.1 jra).2 j (S.1 jrb).1))), (4, .int (nI (plc (S.1 jra).1 (S.1 jrb).1))), (0, .ref (ad (0))), (1, .int (nI (jra))), (2, .int (nI (jrb))), (3, .int (nI (kw)))]) hx hb dX5_found_165 hl (k := 7) rfl (nI_dec' _) (by decide) rfl (fun ls hl => ?_)
                        refine lv_goto (tgt := 63) hx hb dX5_found_168 (by decide) ?_
                        exact ih63 (j) (t5 + 1) (t6 + 0) (le) (t8) (by omega) (by first | (rw [← h5, cb_f hf2]; omega) | (rw [← h5, cb_t hf2]; omega)) (by first | exact absurd hf2 (by rw [hf1]; decide) | (rw [← h6, cb_f hpi]; omega) | (rw [← h6, cb_t hpi]; omega)) (by first | exact absurd hf2 (by rw [hf1]; decide) | (rw [show plc (S.1 jra).1 (S.1 jrb).1 - j = (plc (S.1 jra).1 (S.1 jrb).1 - (j + 1)) + 1 by omega, fb_f hpi]; exact h7) | (rw [show plc (S.1 jra).1 (S.1 jrb).1 - j = (plc (S.1 jra).1 (S.1 jrb).1 - (j + 1)) + 1 by omega, fb_t hpi])) (by rw [← h8]; show max _ (mxS (fun pl => sumS (S.1 jrb).2 (S.1 jra).2 pl (S.1 jrb).1) j) = max t8 (max (mxS (fun pl => sumS (S.1 jrb).2 (S.1 jra).2 pl (S.1 jrb).1) j) (sumS (S.1 jrb).2 (S.1 jra).2 j (S.1 jrb).1)); omega) (by first | assumption | omega) (by omega) _ _ hP hS _ (lv_sub hl [0, 1, 2, 3, 4, 8, 9, 10, 11, 12] rfl)
                      · skip
                        refine lv_iload hx hb dX5_found_156 (lv_at hl 4 rfl) ?_
                        refine lv_goto (tgt := 163) hx hb dX5_found_158 (by decide) ?_
                        refine lv_istore (lv' := [(8, .int (nI (sumS (S.1 jrb).2 (S.1 jra).2 j (S.1 jrb).1))), (7, .int (le)), (6, .int (nI (t6 + 0))), (5, .int (nI (t5 + 1))), (12, .int (nI (0))), (11, .int (nI (sumS (S.1 jrb).2 (S.1 jra).2 j (S.1 jrb).1))), (10, .int (kB (fitA (S.1 jrb).2 (S.1 jra).2 j (S.1 jrb).1))), (9, .int (nI (j))), (4, .int (nI (plc (S.1 jra).1 (S.1 jrb).1))), (0, .ref (ad (0))), (1, .int (nI (jra))), (2, .int (nI (jrb))), (3, .int (nI (kw)))]) hx hb dX5_found_163 hl (by decide) rfl (fun ls hl => ?_)
                        refine lv_iinc (v := nI (j) - 1) (lv' := [(9, .int (nI (j) - 1)), (8, .int (nI (sumS (S.1 jrb).2 (S.1 jra).2 j (S.1 jrb).1))), (7, .int (le)), (6, .int (nI (t6 + 0))), (5, .int (nI (t5 + 1))), (12, .int (nI (0))), (11, .int (nI (sumS (S.1 jrb).2 (S.1 jra).2 j (S.1 jrb).1))), (10, .int (kB (fitA (S.1 jrb).2 (S.1 jra).2 j (S.1 jrb).1))), (4, .int (nI (plc (S.1 jra).1 (S.1 jrb).1))), (0, .ref (ad (0))), (1, .int (nI (jra))), (2, .int (nI (jrb))), (3, .int (nI (kw)))]) hx hb dX5_found_165 hl (k := 7) rfl (nI_dec' _) (by decide) rfl (fun ls hl => ?_)
                        refine lv_goto (tgt := 63) hx hb dX5_found_168 (by decide) ?_
                        exact ih63 (j) (t5 + 1) (t6 + 0) (le) (sumS (S.1 jrb).2 (S.1 jra).2 j (S.1 jrb).1) (by omega) (by first | (rw [← h5, cb_f hf2]; omega) | (rw [← h5, cb_t hf2]; omega)) (by first | exact absurd hf2 (by rw [hf1]; decide) | (rw [← h6, cb_f hpi]; omega) | (rw [← h6, cb_t hpi]; omega)) (by first | exact absurd hf2 (by rw [hf1]; decide) | (rw [show plc (S.1 jra).1 (S.1 jrb).1 - j = (plc (S.1 jra).1 (S.1 jrb).1 - (j + 1)) + 1 by omega, fb_f hpi]; exact h7) | (rw [show plc (S.1 jra).1 (S.1 jrb).1 - j = (plc (S.1 jra).1 (S.1 jrb).1 - (j + 1)) + 1 by omega, fb_t hpi])) (by rw [← h8]; show max _ (mxS (fun pl => sumS (S.1 jrb).2 (S.1 jra).2 pl (S.1 jrb).1) j) = max t8 (max (mxS (fun pl => sumS (S.1 jrb).2 (S.1 jra).2 pl (S.1 jrb).1) j) (sumS (S.1 jrb).2 (S.1 jra).2 j (S.1 jrb).1)); omega) (by first | assumption | omega) (by omega) _ _ hP hS _ (lv_sub hl [0, 1, 2, 3, 4, 8, 9, 10, 11, 12] rfl)
                  · skip
                    have hf1 : (fitB (S.1 jra) (S.1 jrb)) j = false := h_17
                    have hpi : (isF (S.1 jrb).2 (S.1 jra).2 (S.1 jrb).1) j = true := by unfold isF; rw [decide_eq_true hs, show fitA (S.1 jrb).2 (S.1 jra).2 j (S.1 jrb).1 = false from hf1]; rfl
                    refine lv_iconst (v := nI (1)) hx hb dX5_found_98 rfl ?_
                    refine lv_goto (tgt := 103) hx hb dX5_found_99 (by decide) ?_
                    refine lv_istore (lv' := [(12, .int (nI (1))), (11, .int (nI (sumS (S.1 jrb).2 (S.1 jra).2 j (S.1 jrb).1))), (10, .int (kB (fitA (S.1 jrb).2 (S.1 jra).2 j (S.1 jrb).1))), (9, .int (nI (j))), (8, .int (nI (t8))), (7, .int (le)), (6, .int (nI (t6))), (5, .int (nI (t5))), (4, .int (nI (plc (S.1 jra).1 (S.1 jrb).1))), (0, .ref (ad (0))), (1, .int (nI (jra))), (2, .int (nI (jrb))), (3, .int (nI (kw)))]) hx hb dX5_found_103 hl (by decide) rfl (fun ls hl => ?_)
                    refine lv_iload hx hb dX5_found_105 (lv_at hl 7 rfl) ?_
                    refine lv_iload hx hb dX5_found_107 (lv_at hl 2 rfl) ?_
                    refine b_ifeq (tgt := 116) hx hb dX5_found_109 (by decide) (fun h_25 => ?_) (fun h_25 => ?_)
                    · skip
                      have hf2 : (fitB (S.1 jra) (S.1 jrb)) j = false := h_25
                      refine lv_iconst (v := nI (0)) hx hb dX5_found_116 rfl ?_
                      refine n_iadd hx hb dX5_found_117 ?_
                      refine lv_istore (lv' := [(5, .int (nI (t5 + 0))), (12, .int (nI (1))), (11, .int (nI (sumS (S.1 jrb).2 (S.1 jra).2 j (S.1 jrb).1))), (10, .int (kB (fitA (S.1 jrb).2 (S.1 jra).2 j (S.1 jrb).1))), (9, .int (nI (j))), (8, .int (nI (t8))), (7, .int (le)), (6, .int (nI (t6))), (4, .int (nI (plc (S.1 jra).1 (S.1 jrb).1))), (0, .ref (ad (0))), (1, .int (nI (jra))), (2, .int (nI (jrb))), (3, .int (nI (kw)))]) hx hb dX5_found_118 hl (by decide) rfl (fun ls hl => ?_)
                      refine lv_iload hx hb dX5_found_120 (lv_at hl 7 rfl) ?_
                      refine lv_iload hx hb dX5_found_122 (lv_at hl 1 rfl) ?_
                      refine n_ifeq (tgt := 131) hx hb (by omega) dX5_found_124 (by decide) (fun h_26 => absurd h_26 (by decide)) (fun h_26 => ?_)
                      refine lv_iconst (v := nI (1)) hx hb dX5_found_127 rfl ?_
                      refine lv_goto (tgt := 132) hx hb dX5_found_128 (by decide) ?_
                      refine n_iadd hx hb dX5_found_132 ?_
                      refine lv_istore (lv' := [(6, .int (nI (t6 + 1))), (5, .int (nI (t5 + 0))), (12, .int (nI (1))), (11, .int (nI (sumS (S.1 jrb).2 (S.1 jra).2 j (S.1 jrb).1))), (10, .int (kB (fitA (S.1 jrb).2 (S.1 jra).2 j (S.1 jrb).1))), (9, .int (nI (j))), (8, .int (nI (t8))), (7, .int (le)), (4, .int (nI (plc (S.1 jra).1 (S.1 jrb).1))), (0, .ref (ad (0))), (1, .int (nI (jra))), (2, .int (nI (jrb))), (3, .int (nI (kw)))]) hx hb dX5_found_133 hl (by decide) rfl (fun ls hl => ?_)
                      refine lv_iload hx hb dX5_found_135 (lv_at hl 2 rfl) ?_
                      refine n_ifeq (tgt := 145) hx hb (by omega) dX5_found_137 (by decide) (fun h_27 => absurd h_27 (by decide)) (fun h_27 => ?_)
                      refine lv_iload hx hb dX5_found_140 (lv_at hl 5 rfl) ?_
                      refine lv_goto (tgt := 147) hx hb dX5_found_142 (by decide) ?_
                      refine lv_istore (lv' := [(7, .int (nI (j))), (6, .int (nI (t6 + 1))), (5, .int (nI (t5 + 0))), (12, .int (nI (1))), (11, .int (nI (sumS (S.1 jrb).2 (S.1 jra).2 j (S.1 jrb).1))), (10, .int (kB (fitA (S.1 jrb).2 (S.1 jra).2 j (S.1 jrb).1))), (9, .int (nI (j))), (8, .int (nI (t8))), (4, .int (nI (plc (S.1 jra).1 (S.1 jrb).1))), (0, .ref (ad (0))), (1, .int (nI (jra))), (2, .int (nI (jrb))), (3, .int (nI (kw)))]) hx hb dX5_found_147 hl (by decide) rfl (fun ls hl => ?_)
                      refine lv_iload hx hb dX5_found_149 (lv_at hl 4 rfl) ?_
                      refine lv_iload hx hb dX5_found_151 (lv_at hl 7 rfl) ?_
                      refine n_icmp_le (tgt := 161) hx hb (by omega) (by omega) dX5_found_153 (by decide) (fun h_28 => ?_) (fun h_28 => ?_)
                      · skip
                        refine lv_iload hx hb dX5_found_161 (lv_at hl 7 rfl) ?_
                        refine lv_istore (lv' := [(8, .int (nI (t8))), (7, .int (nI (j))), (6, .int (nI (t6 + 1))), (5, .int (nI (t5 + 0))), (12, .int (nI (1))), (11, .int (nI (sumS (S.1 jrb).2 (S.1 jra).2 j (S.1 jrb).1))), (10, .int (kB (fitA (S.1 jrb).2 (S.1 jra).2 j (S.1 jrb).1))), (9, .int (nI (j))), (4, .int (nI (plc (S.1 jra).1 (S.1 jrb).1))), (0, .ref (ad (0))), (1, .int (nI (jra))), (2, .int (nI (jrb))), (3, .int (nI (kw)))]) hx hb dX5_found_163 hl (by decide) rfl (fun ls hl => ?_)
                        refine lv_iinc (v := nI (j) - 1) (lv' := [(9, .int (nI (j) - 1)), (8, .int (nI (t8))), (7, .int (nI (j))), (6, .int (nI (t6 + 1))), (5, .int (nI (t5 + 0))), (12, .int (nI (1))), (11, .int (nI (sumS (S.1 jrb).2 (S.1 jra).2 j (S.1 jrb).1))), (10, .int (kB (fitA (S.1 jrb).2 (S.1 jra).2 j (S.1 jrb).1))), (4, .int (nI (plc (S.1 jra).1 (S.1 jrb).1))), (0, .ref (ad (0))), (1, .int (nI (jra))), (2, .int (nI (jrb))), (3, .int (nI (kw)))]) hx hb dX5_found_165 hl (k := 7) rfl (nI_dec' _) (by decide) rfl (fun ls hl => ?_)
                        refine lv_goto (tgt := 63) hx hb dX5_found_168 (by decide) ?_
                        exact ih63 (j) (t5 + 0) (t6 + 1) (nI j) (t8) (by omega) (by first | (rw [← h5, cb_f hf2]; omega) | (rw [← h5, cb_t hf2]; omega)) (by first | exact absurd hf2 (by rw [hf1]; decide) | (rw [← h6, cb_f hpi]; omega) | (rw [← h6, cb_t hpi]; omega)) (by first | exact absurd hf2 (by rw [hf1]; decide) | (rw [show plc (S.1 jra).1 (S.1 jrb).1 - j = (plc (S.1 jra).1 (S.1 jrb).1 - (j + 1)) + 1 by omega, fb_f hpi]; exact h7) | (rw [show plc (S.1 jra).1 (S.1 jrb).1 - j = (plc (S.1 jra).1 (S.1 jrb).1 - (j + 1)) + 1 by omega, fb_t hpi])) (by rw [← h8]; show max _ (mxS (fun pl => sumS (S.1 jrb).2 (S.1 jra).2 pl (S.1 jrb).1) j) = max t8 (max (mxS (fun pl => sumS (S.1 jrb).2 (S.1 jra).2 pl (S.1 jrb).1) j) (sumS (S.1 jrb).2 (S.1 jra).2 j (S.1 jrb).1)); omega) (by first | assumption | omega) (by omega) _ _ hP hS _ (lv_sub hl [0, 1, 2, 3, 4, 8, 9, 10, 11, 12] rfl)
                      · skip
                        refine lv_iload hx hb dX5_found_156 (lv_at hl 4 rfl) ?_
                        refine lv_goto (tgt := 163) hx hb dX5_found_158 (by decide) ?_
                        refine lv_istore (lv' := [(8, .int (nI (sumS (S.1 jrb).2 (S.1 jra).2 j (S.1 jrb).1))), (7, .int (nI (j))), (6, .int (nI (t6 + 1))), (5, .int (nI (t5 + 0))), (12, .int (nI (1))), (11, .int (nI (sumS (S.1 jrb).2 (S.1 jra).2 j (S.1 jrb).1))), (10, .int (kB (fitA (S.1 jrb).2 (S.1 jra).2 j (S.1 jrb).1))), (9, .int (nI (j))), (4, .int (nI (plc (S.1 jra).1 (S.1 jrb).1))), (0, .ref (ad (0))), (1, .int (nI (jra))), (2, .int (nI (jrb))), (3, .int (nI (kw)))]) hx hb dX5_found_163 hl (by decide) rfl (fun ls hl => ?_)
                        refine lv_iinc (v := nI (j) - 1) (lv' := [(9, .int (nI (j) - 1)), (8, .int (nI (sumS (S.1 jrb).2 (S.1 jra).2 j (S.1 jrb).1))), (7, .int (nI (j))), (6, .int (nI (t6 + 1))), (5, .int (nI (t5 + 0))), (12, .int (nI (1))), (11, .int (nI (sumS (S.1 jrb).2 (S.1 jra).2 j (S.1 jrb).1))), (10, .int (kB (fitA (S.1 jrb).2 (S.1 jra).2 j (S.1 jrb).1))), (4, .int (nI (plc (S.1 jra).1 (S.1 jrb).1))), (0, .ref (ad (0))), (1, .int (nI (jra))), (2, .int (nI (jrb))), (3, .int (nI (kw)))]) hx hb dX5_found_165 hl (k := 7) rfl (nI_dec' _) (by decide) rfl (fun ls hl => ?_)
                        refine lv_goto (tgt := 63) hx hb dX5_found_168 (by decide) ?_
                        exact ih63 (j) (t5 + 0) (t6 + 1) (nI j) (sumS (S.1 jrb).2 (S.1 jra).2 j (S.1 jrb).1) (by omega) (by first | (rw [← h5, cb_f hf2]; omega) | (rw [← h5, cb_t hf2]; omega)) (by first | exact absurd hf2 (by rw [hf1]; decide) | (rw [← h6, cb_f hpi]; omega) | (rw [← h6, cb_t hpi]; omega)) (by first | exact absurd hf2 (by rw [hf1]; decide) | (rw [show plc (S.1 jra).1 (S.1 jrb).1 - j = (plc (S.1 jra).1 (S.1 jrb).1 - (j + 1)) + 1 by omega, fb_f hpi]; exact h7) | (rw [show plc (S.1 jra).1 (S.1 jrb).1 - j = (plc (S.1 jra).1 (S.1 jrb).1 - (j + 1)) + 1 by omega, fb_t hpi])) (by rw [← h8]; show max _ (mxS (fun pl => sumS (S.1 jrb).2 (S.1 jra).2 pl (S.1 jrb).1) j) = max t8 (max (mxS (fun pl => sumS (S.1 jrb).2 (S.1 jra).2 pl (S.1 jrb).1) j) (sumS (S.1 jrb).2 (S.1 jra).2 j (S.1 jrb).1)); omega) (by first | assumption | omega) (by omega) _ _ hP hS _ (lv_sub hl [0, 1, 2, 3, 4, 8, 9, 10, 11, 12] rfl)
                    · skip
                      have hf2 : (fitB (S.1 jra) (S.1 jrb)) j = true := h_25
                      refine lv_iconst (v := nI (1)) hx hb dX5_found_112 rfl ?_
                      refine lv_goto (tgt := 117) hx hb dX5_found_113 (by decide) ?_
                      refine n_iadd hx hb dX5_found_117 ?_
                      refine lv_istore (lv' := [(5, .int (nI (t5 + 1))), (12, .int (nI (1))), (11, .int (nI (sumS (S.1 jrb).2 (S.1 jra).2 j (S.1 jrb).1))), (10, .int (kB (fitA (S.1 jrb).2 (S.1 jra).2 j (S.1 jrb).1))), (9, .int (nI (j))), (8, .int (nI (t8))), (7, .int (le)), (6, .int (nI (t6))), (4, .int (nI (plc (S.1 jra).1 (S.1 jrb).1))), (0, .ref (ad (0))), (1, .int (nI (jra))), (2, .int (nI (jrb))), (3, .int (nI (kw)))]) hx hb dX5_found_118 hl (by decide) rfl (fun ls hl => ?_)
                      refine lv_iload hx hb dX5_found_120 (lv_at hl 7 rfl) ?_
                      refine lv_iload hx hb dX5_found_122 (lv_at hl 1 rfl) ?_
                      refine n_ifeq (tgt := 131) hx hb (by omega) dX5_found_124 (by decide) (fun h_29 => absurd h_29 (by decide)) (fun h_29 => ?_)
                      refine lv_iconst (v := nI (1)) hx hb dX5_found_127 rfl ?_
                      refine lv_goto (tgt := 132) hx hb dX5_found_128 (by decide) ?_
                      refine n_iadd hx hb dX5_found_132 ?_
                      refine lv_istore (lv' := [(6, .int (nI (t6 + 1))), (5, .int (nI (t5 + 1))), (12, .int (nI (1))), (11, .int (nI (sumS (S.1 jrb).2 (S.1 jra).2 j (S.1 jrb).1))), (10, .int (kB (fitA (S.1 jrb).2 (S.1 jra).2 j (S.1 jrb).1))), (9, .int (nI (j))), (8, .int (nI (t8))), (7, .int (le)), (4, .int (nI (plc (S.1 jra).1 (S.1 jrb).1))), (0, .ref (ad (0))), (1, .int (nI (jra))), (2, .int (nI (jrb))), (3, .int (nI (kw)))]) hx hb dX5_found_133 hl (by decide) rfl (fun ls hl => ?_)
                      refine lv_iload hx hb dX5_found_135 (lv_at hl 2 rfl) ?_
                      refine n_ifeq (tgt := 145) hx hb (by omega) dX5_found_137 (by decide) (fun h_30 => absurd h_30 (by decide)) (fun h_30 => ?_)
                      refine lv_iload hx hb dX5_found_140 (lv_at hl 5 rfl) ?_
                      refine lv_goto (tgt := 147) hx hb dX5_found_142 (by decide) ?_
                      refine lv_istore (lv' := [(7, .int (nI (j))), (6, .int (nI (t6 + 1))), (5, .int (nI (t5 + 1))), (12, .int (nI (1))), (11, .int (nI (sumS (S.1 jrb).2 (S.1 jra).2 j (S.1 jrb).1))), (10, .int (kB (fitA (S.1 jrb).2 (S.1 jra).2 j (S.1 jrb).1))), (9, .int (nI (j))), (8, .int (nI (t8))), (4, .int (nI (plc (S.1 jra).1 (S.1 jrb).1))), (0, .ref (ad (0))), (1, .int (nI (jra))), (2, .int (nI (jrb))), (3, .int (nI (kw)))]) hx hb dX5_found_147 hl (by decide) rfl (fun ls hl => ?_)
                      refine lv_iload hx hb dX5_found_149 (lv_at hl 4 rfl) ?_
                      refine lv_iload hx hb dX5_found_151 (lv_at hl 7 rfl) ?_
                      refine n_icmp_le (tgt := 161) hx hb (by omega) (by omega) dX5_found_153 (by decide) (fun h_31 => ?_) (fun h_31 => ?_)
                      · skip
                        refine lv_iload hx hb dX5_found_161 (lv_at hl 7 rfl) ?_
                        refine lv_istore (lv' := [(8, .int (nI (t8))), (7, .int (nI (j))), (6, .int (nI (t6 + 1))), (5, .int (nI (t5 + 1))), (12, .int (nI (1))), (11, .int (nI (sumS (S.1 jrb).2 (S.1 jra).2 j (S.1 jrb).1))), (10, .int (kB (fitA (S.1 jrb).2 (S.1 jra).2 j (S.1 jrb).1))), (9, .int (nI (j))), (4, .int (nI (plc (S.1 jra).1 (S.1 jrb).1))), (0, .ref (ad (0))), (1, .int (nI (jra))), (2, .int (nI (jrb))), (3, .int (nI (kw)))]) hx hb dX5_found_163 hl (by decide) rfl (fun ls hl => ?_)
                        refine lv_iinc (v := nI (j) - 1) (lv' := [(9, .int (nI (j) - 1)), (8, .int (nI (t8))), (7, .int (nI (j))), (6, .int (nI (t6 + 1))), (5, .int (nI (t5 + 1))), (12, .int (nI (1))), (11, .int (nI (sumS (S.1 jrb).2 (S.1 jra).2 j (S.1 jrb).1))), (10, .int (kB (fitA (S.1 jrb).2 (S.1 jra).2 j (S.1 jrb).1))), (4, .int (nI (plc (S.1 jra).1 (S.1 jrb).1))), (0, .ref (ad (0))), (1, .int (nI (jra))), (2, .int (nI (jrb))), (3, .int (nI (kw)))]) hx hb dX5_found_165 hl (k := 7) rfl (nI_dec' _) (by decide) rfl (fun ls hl => ?_)
                        refine lv_goto (tgt := 63) hx hb dX5_found_168 (by decide) ?_
                        exact ih63 (j) (t5 + 1) (t6 + 1) (nI j) (t8) (by omega) (by first | (rw [← h5, cb_f hf2]; omega) | (rw [← h5, cb_t hf2]; omega)) (by first | exact absurd hf2 (by rw [hf1]; decide) | (rw [← h6, cb_f hpi]; omega) | (rw [← h6, cb_t hpi]; omega)) (by first | exact absurd hf2 (by rw [hf1]; decide) | (rw [show plc (S.1 jra).1 (S.1 jrb).1 - j = (plc (S.1 jra).1 (S.1 jrb).1 - (j + 1)) + 1 by omega, fb_f hpi]; exact h7) | (rw [show plc (S.1 jra).1 (S.1 jrb).1 - j = (plc (S.1 jra).1 (S.1 jrb).1 - (j + 1)) + 1 by omega, fb_t hpi])) (by rw [← h8]; show max _ (mxS (fun pl => sumS (S.1 jrb).2 (S.1 jra).2 pl (S.1 jrb).1) j) = max t8 (max (mxS (fun pl => sumS (S.1 jrb).2 (S.1 jra).2 pl (S.1 jrb).1) j) (sumS (S.1 jrb).2 (S.1 jra).2 j (S.1 jrb).1)); omega) (by first | assumption | omega) (by omega) _ _ hP hS _ (lv_sub hl [0, 1, 2, 3, 4, 8, 9, 10, 11, 12] rfl)
                      · skip
                        refine lv_iload hx hb dX5_found_156 (lv_at hl 4 rfl) ?_
                        refine lv_goto (tgt := 163) hx hb dX5_found_158 (by decide) ?_
                        refine lv_istore (lv' := [(8, .int (nI (sumS (S.1 jrb).2 (S.1 jra).2 j (S.1 jrb).1))), (7, .int (nI (j))), (6, .int (nI (t6 + 1))), (5, .int (nI (t5 + 1))), (12, .int (nI (1))), (11, .int (nI (sumS (S.1 jrb).2 (S.1 jra).2 j (S.1 jrb).1))), (10, .int (kB (fitA (S.1 jrb).2 (S.1 jra).2 j (S.1 jrb).1))), (9, .int (nI (j))), (4, .int (nI (plc (S.1 jra).1 (S.1 jrb).1))), (0, .ref (ad (0))), (1, .int (nI (jra))), (2, .int (nI (jrb))), (3, .int (nI (kw)))]) hx hb dX5_found_163 hl (by decide) rfl (fun ls hl => ?_)
                        refine lv_iinc (v := nI (j) - 1) (lv' := [(9, .int (nI (j) - 1)), (8, .int (nI (sumS (S.1 jrb).2 (S.1 jra).2 j (S.1 jrb).1))), (7, .int (nI (j))), (6, .int (nI (t6 + 1))), (5, .int (nI (t5 + 1))), (12, .int (nI (1))), (11, .int (nI (sumS (S.1 jrb).2 (S.1 jra).2 j (S.1 jrb).1))), (10, .int (kB (fitA (S.1 jrb).2 (S.1 jra).2 j (S.1 jrb).1))), (4, .int (nI (plc (S.1 jra).1 (S.1 jrb).1))), (0, .ref (ad (0))), (1, .int (nI (jra))), (2, .int (nI (jrb))), (3, .int (nI (kw)))]) hx hb dX5_found_165 hl (k := 7) rfl (nI_dec' _) (by decide) rfl (fun ls hl => ?_)
                        refine lv_goto (tgt := 63) hx hb dX5_found_168 (by decide) ?_
                        exact ih63 (j) (t5 + 1) (t6 + 1) (nI j) (sumS (S.1 jrb).2 (S.1 jra).2 j (S.1 jrb).1) (by omega) (by first | (rw [← h5, cb_f hf2]; omega) | (rw [← h5, cb_t hf2]; omega)) (by first | exact absurd hf2 (by rw [hf1]; decide) | (rw [← h6, cb_f hpi]; omega) | (rw [← h6, cb_t hpi]; omega)) (by first | exact absurd hf2 (by rw [hf1]; decide) | (rw [show plc (S.1 jra).1 (S.1 jrb).1 - j = (plc (S.1 jra).1 (S.1 jrb).1 - (j + 1)) + 1 by omega, fb_f hpi]; exact h7) | (rw [show plc (S.1 jra).1 (S.1 jrb).1 - j = (plc (S.1 jra).1 (S.1 jrb).1 - (j + 1)) + 1 by omega, fb_t hpi])) (by rw [← h8]; show max _ (mxS (fun pl => sumS (S.1 jrb).2 (S.1 jra).2 pl (S.1 jrb).1) j) = max t8 (max (mxS (fun pl => sumS (S.1 jrb).2 (S.1 jra).2 pl (S.1 jrb).1) j) (sumS (S.1 jrb).2 (S.1 jra).2 j (S.1 jrb).1)); omega) (by first | assumption | omega) (by omega) _ _ hP hS _ (lv_sub hl [0, 1, 2, 3, 4, 8, 9, 10, 11, 12] rfl)
          exact lp63 (_ + 1) (plc (S.1 jra).1 (S.1 jrb).1) (0) (0) (-6) (0) (Nat.le_refl _) (Nat.zero_add _) (Nat.zero_add _) (by rw [Nat.sub_self]; rfl) (Nat.zero_max _) (by decide) (Nat.lt_succ_self _) _ _ hP hS _ hl
        · skip
          have hnw : ¬ (0 ≤ rwh ∧ rwh < nI 4) := fun q => of_decide_eq_false h_4 ((in_len (n := 4) (by decide) (by decide)).mpr q)
          refine lv_bipush (v := (-2 : Int32)) hx hb dX5_found_41 (by decide) ?_
          refine k_iret hx hb hr hlocks (v) hP hS dX5_found_43 ?_
          rw [ejra, ejrb, op_found_x hjra hjrb, if_neg (by omega), if_neg (fun q => hnw (by rw [q]; decide)), if_neg (fun q => hnw (by rw [q]; decide)), if_neg (fun q => hnw (by rw [q]; decide)), if_neg (fun q => hnw (by rw [q]; decide))]
          exact ⟨rfl, hR⟩
      · skip
        have hlt := plc_z (show plc (S.1 jra).1 (S.1 jrb).1 = 0 from h_3)
        refine lv_bipush (v := (-5 : Int32)) hx hb dX5_found_29 (by decide) ?_
        refine k_iret hx hb hr hlocks (v) hP hS dX5_found_31 ?_
        rw [ejra, ejrb, op_found_x hjra hjrb, if_pos hlt]
        exact ⟨rfl, hR⟩
    · skip
      have hjrb : ¬ isR rb := of_decide_eq_false h_2
      refine lv_iconst (v := (-1 : Int32)) hx hb dX5_found_14 (by decide) ?_
      refine k_iret hx hb hr hlocks (v) hP hS dX5_found_15 ?_
      rw [show op_found S ra rb rwh = (-1, S) from if_pos (by first | exact Or.inl hjra | exact Or.inr (hjrb))]
      exact ⟨rfl, hR⟩
