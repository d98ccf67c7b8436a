set_option maxHeartbeats 4000000 in
set_option maxRecDepth 100000 in
theorem c_X5_put (l : Launch) (D : va_G) (cy : Nat → ClassId) (ad : Nat → Nat) (hI : wI 9 ad) (v : kV) (S : kSt) (u1 : Nat) (hSI : kInv S) (hR : mRep S v) (hu : u1 < 2 ^ 64) : kM l yX5_put wsX5_put ({ frames := 1, cells := 0, slots := 0, locals := 22 } : Room) D cy 9 ad (mW ad cy) (mW ad cy (v)) [.ref (ad (0)), .long (lN u1)] (fun o u => o = some (.int (op_put S u1).1) ∧ mRep (op_put S u1).2 u) := by
  refine k_met cX5_put 8 (some .int) (by decide) rfl (Nat.le_of_ble_eq_true rfl) ?_
  intro p e s m below meth c ls hx hb hr hts hown hlocks hml hK hP hS hl
  have hl : lv_has ls 8 [(0, .ref (ad (0))), (1, .long (lN u1))] := hl
  have hown : s.vm.findClass RX5 = some m.cls := hown
  have hf_23 := hts (.fieldLink RX5 23 "TurnedRowsModel" "pad" "[C") (by decide +kernel)
  have hf_124 := hts (.fieldLink RX5 124 "TurnedRowsModel" "typed" "I") (by decide +kernel)
  have hw_X5 : ∀ qw ∈ wsX50, qw.before ([.ref (ad (0)), .long (lN u1)] : List Value).toArray s = true := fun qw h => hts qw ((by decide +kernel : ∀ qw ∈ wsX50, qw ∈ wsX5_put) qw h)
  have hM : mReg S.1 v := hR.reg hSI
  have hrow : ∀ j, j < 6 → rO (S.1 j) := hSI.1
  have hpm6 : vpm v ≤ 6 := by rw [hR.2.1.1]; exact hR.2.1.2
  have hplS : vty v = S.2.2.2.2.2.1 := hR.2.2.2.2.1
  have hty80 : vty v ≤ 80 := by rw [hplS]; exact hSI.2.2.2.2.2.1
  have hpdS : ∀ j, j < S.2.2.2.2.2.1 → vpd v j = S.2.2.2.2.2.2 j := hR.2.2.2.2.2.1
  have hpd : ∀ j, j < vty v → vpd v j < 127 := fun j hj => by rw [hpdS j (by omega)]; have := (hSI.2.2.2.2.2.2 j (by omega)).2; omega
  have hcl := chr_le 8 0 u1
  refine lv_iconst (v := nI (0)) hx hb dX5_put_0 rfl ?_
  refine lv_istore_n (lv' := [(3, .int (nI (0))), (0, .ref (ad (0))), (1, .long (lN u1))]) hx hb dX5_put_1 rfl hl (by decide) rfl (fun ls hl => ?_)
  refine lv_lload_n hx hb dX5_put_2 rfl (lv_at hl 2 rfl) ?_
  refine lv_lstore (lv' := [(4, .long (lN u1)), (3, .int (nI (0))), (0, .ref (ad (0))), (1, .long (lN u1))]) hx hb dX5_put_3 hl (by decide) rfl (fun ls hl => ?_)
  refine lv_iconst (v := nI (1)) hx hb dX5_put_5 rfl ?_
  refine lv_istore (lv' := [(6, .int (nI (1))), (4, .long (lN u1)), (3, .int (nI (0))), (0, .ref (ad (0))), (1, .long (lN u1))]) hx hb dX5_put_6 hl (by decide) rfl (fun ls hl => ?_)
  have lp8 : ∀ (fu : Nat) (k : Nat) (t : Nat) (g : Bool), (k ≤ 8) → (t < 256 ^ (8 - k)) → (t < 2 ^ 64) → (g = true → chr (8 - k) k t = chr 8 0 u1) → (g = false → chr 8 0 u1 = 0) → t < fu → ∀ (H : Heap) (locs : List Loc), va_P D vwCl (wL 9 ad (mW ad cy (v))) H → va_S (wA 9 ad) s.heap H locs → ∀ (ls : Array Slot), lv_has ls 8 [(6, .int (kB (g))), (4, .long (lN t)), (3, .int (nI (k))), (0, .ref (ad (0))), (1, .long (lN u1))] → W p l e ({ frames := 1, cells := 0, slots := 0, locals := 22 } : Room) s m ([.ref (ad (0)), .long (lN u1)] : List Value).toArray below meth c H locs 0 0 (MQ below (kQ D 9 ad (mW ad cy) (fun o u => o = some (.int (op_put S u1).1) ∧ mRep (op_put S u1).2 u)) ([.ref (ad (0)), .long (lN u1)] : List Value).toArray s 0 0 (wA 9 ad)) (F0 m 8 ls []) := by
    intro fu
    induction fu with
    | zero => intro k t g hk ht ht64 he1 he2 hfu; exact absurd hfu (Nat.not_lt_zero _)
    | succ fu ih8 =>
      intro k t g hk ht ht64 he1 he2 hfu H locs hP hS ls hl
      refine lv_lload hx hb dX5_put_8 (lv_at hl 1 rfl) ?_
      refine lv_lconst (v := lN 0) hx hb dX5_put_10 rfl ?_
      refine W.lcmp hx hb dX5_put_11 ?_
      refine lv_if_eq (tgt := 49) hx hb dX5_put_12 (by decide) (fun h_1 => ?_) (fun h_1 => ?_)
      · skip
        have h0 : t = 0 := (lN_eq0 ht64).mp ((lg_eq0 _ _).mp h_1)
        refine lv_iload_n hx hb dX5_put_49 rfl (lv_at hl 2 rfl) ?_
        refine n_ifeq (tgt := 58) hx hb (by omega) dX5_put_50 (by decide) (fun h_2 => ?_) (fun h_2 => ?_)
        · skip
          have hk0 : k = 0 := h_2
          refine lv_bipush (v := (-2 : Int32)) hx hb dX5_put_58 (by decide) ?_
          refine k_iret hx hb hr hlocks (v) hP hS dX5_put_60 ?_
          have hc0 : chr 8 0 u1 = 0 := by
            by_cases z : g = true
            · rw [← he1 z, h0, chr_0]; exact hk0
            · exact he2 (Bool.eq_false_iff.mpr z)
          rw [show op_put S u1 = (-2, S) from if_pos hc0]
          exact ⟨rfl, hR⟩
        · skip
          have hk0 : k ≠ 0 := h_2
          refine lv_iload hx hb dX5_put_53 (lv_at hl 0 rfl) ?_
          refine b_ifne (tgt := 61) hx hb dX5_put_55 (by decide) (fun h_3 => ?_) (fun h_3 => ?_)
          · skip
            have hg9 : g = true := h_3
            refine lv_aload_n hx hb dX5_put_61 rfl (lv_at hl 3 rfl) ?_
            refine k_get (q0 := 0) (k := 6) (T := TX5) (Nf := 11) (ci := 5) (C := RX5) (v := .int (nI (vty v))) hx hb hw_X5 hown hK hP (by decide) mW_obj rfl (by decide) hf_124 rfl rfl dX5_put_62 ?_
            refine lv_iload_n hx hb dX5_put_65 rfl (lv_at hl 2 rfl) ?_
            refine n_iadd hx hb dX5_put_66 ?_
            refine lv_bipush (v := nI (80)) hx hb dX5_put_67 rfl ?_
            have hck : chr 8 0 u1 = k := by rw [← he1 hg9, h0, chr_0]
            refine n_icmp_le (tgt := 75) hx hb (by omega) (by omega) dX5_put_69 (by decide) (fun h_4 => ?_) (fun h_4 => ?_)
            · skip
              refine lv_iload_n hx hb dX5_put_75 rfl (lv_at hl 2 rfl) ?_
              refine lv_iconst (v := nI (1)) hx hb dX5_put_76 rfl ?_
              refine lv_isub hx hb dX5_put_77 ?_
              refine lv_istore (lv' := [(7, .int (nI (k) - 1)), (6, .int (kB (g))), (4, .long (lN t)), (3, .int (nI (k))), (0, .ref (ad (0))), (1, .long (lN u1))]) hx hb dX5_put_78 hl (by decide) rfl (fun ls hl => ?_)
              have lp80 : ∀ (fu : Nat) (q : Nat) (v' : kV), (q ≤ k) → (v' = pty (ppd v (app (vpd v) (vty v) u1 k (k - q))) (vty v + (k - q))) → q < fu → ∀ (H : Heap) (locs : List Loc), va_P D vwCl (wL 9 ad (mW ad cy (v'))) H → va_S (wA 9 ad) s.heap H locs → ∀ (ls : Array Slot), lv_has ls 8 [(7, .int (nI (q) - 1)), (3, .int (nI (k))), (0, .ref (ad (0))), (1, .long (lN u1))] → W p l e ({ frames := 1, cells := 0, slots := 0, locals := 22 } : Room) s m ([.ref (ad (0)), .long (lN u1)] : List Value).toArray below meth c H locs 0 0 (MQ below (kQ D 9 ad (mW ad cy) (fun o u => o = some (.int (op_put S u1).1) ∧ mRep (op_put S u1).2 u)) ([.ref (ad (0)), .long (lN u1)] : List Value).toArray s 0 0 (wA 9 ad)) (F0 m 80 ls []) := by
                intro fu
                induction fu with
                | zero => intro q v' hq hv hfu; exact absurd hfu (Nat.not_lt_zero _)
                | succ fu ih80 =>
                  intro q v' hq hv hfu H locs hP hS ls hl
                  have hty2 : vty v' = vty v + (k - q) := by rw [hv]; rfl
                  refine lv_iload hx hb dX5_put_80 (lv_at hl 0 rfl) ?_
                  refine n_down (n := q) (tgt := 123) hx hb (by omega) dX5_put_82 (by decide) (fun h_5 => ?_) (fun h_5 => ?_)
                  · skip
                    have hq0 : q = 0 := h_5
                    refine lv_aload_n hx hb dX5_put_123 rfl (lv_at hl 2 rfl) ?_
                    refine k_get (q0 := 0) (k := 6) (T := TX5) (Nf := 11) (ci := 5) (C := RX5) (v := .int (nI (vty v'))) hx hb hw_X5 hown hK hP (by decide) mW_obj rfl (by decide) hf_124 rfl rfl dX5_put_124 ?_
                    refine k_iret hx hb hr hlocks (v') hP hS dX5_put_127 ?_
                    have hop : op_put S u1 = (nI (S.2.2.2.2.2.1 + k), padS S (S.2.2.2.2.2.1 + k) (app S.2.2.2.2.2.2 S.2.2.2.2.2.1 u1 k k)) := by
                      unfold op_put
                      rw [hck, if_neg hk0, if_neg (by omega)]
                    rw [hop]
                    rw [show k - q = k by omega] at hv
                    refine ⟨rN (by rw [hv, ← hplS]; rfl), mRep_pad hR (by rw [hv]; rfl) (by rw [hv]; rfl) (by rw [hv]; rfl) (by rw [hv]; rfl) (by rw [hv]; rfl) (by rw [hv, ← hplS]; rfl) (fun j hj => ?_)⟩
                    rw [hv, ← hplS]
                    exact app_congr (fun i hi => hpdS i (by omega)) k j (by omega)
                  · skip
                    obtain ⟨j, rfl⟩ : ∃ j, q = j + 1 := ⟨q - 1, by omega⟩
                    rw [nI_pred] at hl
                    refine lv_aload_n hx hb dX5_put_85 rfl (lv_at hl 2 rfl) ?_
                    refine k_get (q0 := 0) (k := 5) (T := TX5) (Nf := 11) (ci := 5) (C := RX5) (v := .ref (ad (5))) hx hb hw_X5 hown hK hP (by decide) mW_obj rfl (by decide) hf_23 rfl rfl dX5_put_86 ?_
                    refine lv_aload_n hx hb dX5_put_89 rfl (lv_at hl 2 rfl) ?_
                    refine k_get (q0 := 0) (k := 6) (T := TX5) (Nf := 11) (ci := 5) (C := RX5) (v := .int (nI (vty v'))) hx hb hw_X5 hown hK hP (by decide) mW_obj rfl (by decide) hf_124 rfl rfl dX5_put_90 ?_
                    refine n_push (a := vty v + (k - (j + 1))) (by rw [hty2]) ?_
                    refine lv_lload_n hx hb dX5_put_93 rfl (lv_at hl 3 rfl) ?_
                    refine lv_bipush (v := nI (8)) hx hb dX5_put_94 rfl ?_
                    refine lv_iload hx hb dX5_put_96 (lv_at hl 0 rfl) ?_
                    refine n_imul hx hb dX5_put_98 ?_
                    refine lv_lushr hx hb dX5_put_99 rfl ?_
                    refine l_push (b := lN (u1 / 2 ^ (8 * j))) (wb_shr hu (by omega)) ?_
                    refine lv_ldc2 hx hb hown (hts (.constantLong RX5 141 (255)) (by decide +kernel)) dX5_put_100 ?_
                    refine lv_land hx hb dX5_put_103 ?_
                    refine l_push (b := lN (u1 / 2 ^ (8 * j) % 256)) (lN_and255 (Nat.lt_of_le_of_lt (Nat.div_le_self _ _) hu)) ?_
                    refine lv_l2i hx hb dX5_put_104 rfl ?_
                    refine n_push (a := u1 / 2 ^ (8 * j) % 256) (lN_toI _) ?_
                    refine lv_i2c hx hb dX5_put_105 rfl ?_
                    refine n_push (a := u1 / 2 ^ (8 * j) % 256) (put_i2c _ (Nat.mod_lt _ (by decide))) ?_
                    refine k_cast (q0 := 5) (j := vty v + (k - (j + 1))) (v := nI (u1 / 2 ^ (8 * j) % 256)) (Wd' := mW ad cy (ppd v' (va_up (vpd v') (vty v + (k - (j + 1))) (u1 / 2 ^ (8 * j) % 256)))) hx hb hK hI hP hS (by decide) mW_pd (by decide) (by omega) (put_nar _ (Nat.mod_lt _ (by decide))) mW_up_pd dX5_put_106 (fun H locs hP hS => ?_)
                    refine lv_aload_n hx hb dX5_put_107 rfl (lv_at hl 2 rfl) ?_
                    refine lv_dup hx hb dX5_put_108 rfl ?_
                    refine k_get (q0 := 0) (k := 6) (T := TX5) (Nf := 11) (ci := 5) (C := RX5) (v := .int (nI (vty (ppd v' (va_up (vpd v') (vty v + (k - (j + 1))) (u1 / 2 ^ (8 * j) % 256)))))) hx hb hw_X5 hown hK hP (by decide) mW_obj rfl (by decide) hf_124 rfl rfl dX5_put_109 ?_
                    refine n_push (a := vty v + (k - (j + 1))) (by show nI (vty v') = _; rw [hty2]) ?_
                    refine lv_iconst (v := nI (1)) hx hb dX5_put_112 rfl ?_
                    refine n_iadd hx hb dX5_put_113 ?_
                    refine k_put (q0 := 0) (k := 6) (T := TX5) (Nf := 11) (ci := 5) (C := RX5) (v := .int (nI ((vty v + (k - (j + 1))) + 1))) (Wd' := mW ad cy (pty (ppd v' (va_up (vpd v') (vty v + (k - (j + 1))) (u1 / 2 ^ (8 * j) % 256))) ((vty v + (k - (j + 1))) + 1))) hx hb hw_X5 tyX5 tyX5_ok nmX5 hown hK hI hP hS (by decide) mW_obj rfl (by decide) hf_124 rfl rfl (ty := .int) (by decide +kernel) rfl rfl (Nat.le_of_ble_eq_true rfl) mW_up_ty dX5_put_114 (fun H locs hP hS => ?_)
                    refine lv_iinc (v := nI (j) - 1) (lv' := [(7, .int (nI (j) - 1)), (3, .int (nI (k))), (0, .ref (ad (0))), (1, .long (lN u1))]) hx hb dX5_put_117 hl (k := 0) rfl (nI_dec' _) (by decide) rfl (fun ls hl => ?_)
                    refine lv_goto (tgt := 80) hx hb dX5_put_120 (by decide) ?_
                    exact ih80 (j) (pty (ppd v' (va_up (vpd v') (vty v + (k - (j + 1))) (u1 / 2 ^ (8 * j) % 256))) ((vty v + (k - (j + 1))) + 1)) (by omega) (by rw [hv, show k - j = (k - (j + 1)) + 1 by omega, app, show k - 1 - (k - (j + 1)) = j by omega]; rfl) (by omega) _ _ hP hS _ hl
              exact lp80 (_ + 1) (k) (v) (Nat.le_refl _) (by rw [Nat.sub_self]; rfl) (Nat.lt_succ_self _) _ _ hP hS _ (lv_sub hl [0, 3, 4, 5] rfl)
            · skip
              refine lv_bipush (v := (-4 : Int32)) hx hb dX5_put_72 (by decide) ?_
              refine k_iret hx hb hr hlocks (v) hP hS dX5_put_74 ?_
              rw [show op_put S u1 = (-4, S) from (if_neg (by rw [hck]; exact hk0)).trans (if_pos (by rw [hck, ← hplS]; omega))]
              exact ⟨rfl, hR⟩
          · skip
            have hg9 : g = false := h_3
            refine lv_bipush (v := (-2 : Int32)) hx hb dX5_put_58 (by decide) ?_
            refine k_iret hx hb hr hlocks (v) hP hS dX5_put_60 ?_
            have hc0 : chr 8 0 u1 = 0 := he2 hg9
            rw [show op_put S u1 = (-2, S) from if_pos hc0]
            exact ⟨rfl, hR⟩
      · skip
        have h0 : t ≠ 0 := fun q => h_1 ((lg_eq0 _ _).mpr ((lN_eq0 ht64).mpr q))
        refine lv_iload hx hb dX5_put_15 (lv_at hl 0 rfl) ?_
        refine b_ifeq (tgt := 49) hx hb dX5_put_17 (by decide) (fun h_6 => ?_) (fun h_6 => ?_)
        · skip
          have hgf : g = false := h_6
          refine lv_iload_n hx hb dX5_put_49 rfl (lv_at hl 2 rfl) ?_
          refine n_ifeq (tgt := 58) hx hb (by omega) dX5_put_50 (by decide) (fun h_7 => ?_) (fun h_7 => ?_)
          · skip
            have hk0 : k = 0 := h_7
            refine lv_bipush (v := (-2 : Int32)) hx hb dX5_put_58 (by decide) ?_
            refine k_iret hx hb hr hlocks (v) hP hS dX5_put_60 ?_
            have hc0 : chr 8 0 u1 = 0 := he2 hgf
            rw [show op_put S u1 = (-2, S) from if_pos hc0]
            exact ⟨rfl, hR⟩
          · skip
            have hk0 : k ≠ 0 := h_7
            refine lv_iload hx hb dX5_put_53 (lv_at hl 0 rfl) ?_
            refine b_ifne (tgt := 61) hx hb dX5_put_55 (by decide) (fun h_8 => ?_) (fun h_8 => ?_)
            · skip
              exact absurd h_8 (by rw [hgf]; decide)
            · skip
              have hg9 : g = false := h_8
              refine lv_bipush (v := (-2 : Int32)) hx hb dX5_put_58 (by decide) ?_
              refine k_iret hx hb hr hlocks (v) hP hS dX5_put_60 ?_
              have hc0 : chr 8 0 u1 = 0 := he2 hgf
              rw [show op_put S u1 = (-2, S) from if_pos hc0]
              exact ⟨rfl, hR⟩
        · skip
          have hgt : g = true := h_6
          refine lv_lload hx hb dX5_put_20 (lv_at hl 1 rfl) ?_
          refine lv_ldc2 hx hb hown (hts (.constantLong RX5 141 (255)) (by decide +kernel)) dX5_put_22 ?_
          refine lv_land hx hb dX5_put_25 ?_
          refine l_push (b := lN (t % 256)) (lN_and255 ht64) ?_
          refine lv_l2i hx hb dX5_put_26 rfl ?_
          refine n_push (a := t % 256) (lN_toI _) ?_
          refine lv_bipush (v := nI (33)) hx hb dX5_put_27 rfl ?_
          refine lv_bipush (v := nI (126)) hx hb dX5_put_29 rfl ?_
          refine k_callSr (rest := []) (nL := 8) ⟨hx, hb, hml, hown, hts⟩ (c_X5_in l D cy ad hI v (nI (t % 256)) (nI (33)) (nI (126))) (va_cwS 3 hts gX5_put_X5_in rfl rfl rfl (by decide +kernel) ⟨Nat.le_of_ble_eq_true rfl, Nat.le_of_ble_eq_true rfl⟩) hK hP hS (fun _ h => h) rfl hl.1 rfl (Nat.le_of_ble_eq_true rfl) dX5_put_31 ⟨Nat.zero_le _, Nat.zero_le _⟩ (fun H locs hP hS => ?_)
          have hP : va_P D vwCl (wL 9 ad (mW ad cy (v))) H := hP
          refine lv_istore (lv' := [(6, .int (kB (decide ((nI (33)) ≤ (nI (t % 256)) ∧ (nI (t % 256)) ≤ (nI (126)))))), (4, .long (lN t)), (3, .int (nI (k))), (0, .ref (ad (0))), (1, .long (lN u1))]) hx hb dX5_put_34 hl (by decide) rfl (fun ls hl => ?_)
          refine lv_lload hx hb dX5_put_36 (lv_at hl 1 rfl) ?_
          refine lv_bipush (v := nI (8)) hx hb dX5_put_38 rfl ?_
          refine lv_lushr hx hb dX5_put_40 rfl ?_
          refine l_push (b := lN (t / 256)) (lN_ushr8 ht64) ?_
          refine lv_lstore (lv' := [(4, .long (lN (t / 256))), (6, .int (kB (decide ((nI (33)) ≤ (nI (t % 256)) ∧ (nI (t % 256)) ≤ (nI (126)))))), (3, .int (nI (k))), (0, .ref (ad (0))), (1, .long (lN u1))]) hx hb dX5_put_41 hl (by decide) rfl (fun ls hl => ?_)
          refine lv_iinc (v := nI (k + 1)) (lv' := [(3, .int (nI (k + 1))), (4, .long (lN (t / 256))), (6, .int (kB (decide ((nI (33)) ≤ (nI (t % 256)) ∧ (nI (t % 256)) ≤ (nI (126)))))), (0, .ref (ad (0))), (1, .long (lN u1))]) hx hb dX5_put_43 hl (k := 2) rfl (nI_inc _) (by decide) rfl (fun ls hl => ?_)
          refine lv_goto (tgt := 8) hx hb dX5_put_46 (by decide) ?_
          exact ih8 (k + 1) (t / 256) (decide (nI 33 ≤ nI (t % 256) ∧ nI (t % 256) ≤ nI 126)) (put_k hk ht h0).1 (put_k hk ht h0).2 (Nat.lt_of_le_of_lt (Nat.div_le_self _ _) ht64) (fun q => (put_t h0 (of_decide_eq_true q) (put_k hk ht h0).1).trans (he1 hgt)) (fun q => (he1 hgt).symm.trans (put_f h0 (of_decide_eq_false q) (put_k hk ht h0).1)) (by omega) _ _ hP hS _ (lv_sub hl [2, 1, 0, 3, 4] rfl)
  exact lp8 (_ + 1) (0) (u1) (true) (by omega) (Nat.lt_of_lt_of_eq hu (by decide +kernel)) hu (fun _ => rfl) (fun q => by cases q) (Nat.lt_succ_self _) _ _ hP hS _ hl
