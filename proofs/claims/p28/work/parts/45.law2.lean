theorem dV_lt {D d : Nat} (h : D ≤ d) (hd : d < 2 ^ 31) : dV D < nI d := by
  rcases Nat.eq_zero_or_pos D with q | q
  · rw [q]
    show (-6 : Int32) < nI d
    rw [Int32.lt_iff_toInt_lt, nI_toInt hd, show (-6 : Int32).toInt = -6 by decide]
    omega
  · obtain ⟨k, rfl⟩ : ∃ k, D = k + 1 := ⟨D - 1, by omega⟩
    rw [dV_s]
    exact nI_lt (by omega) hd
theorem m6_lt {d : Nat} (hd : d < 2 ^ 31) : (-6 : Int32) < nI d := dV_lt (Nat.zero_le d) hd
set_option maxHeartbeats 4000000 in
set_option maxRecDepth 100000 in
theorem a_L_products (l : Launch) (D : va_G) (cy : Nat → ClassId) (ad : Nat → Nat) (hI : wI 143 ad) (S : kSt) (times : Nat) (ht : times < 257) : aM l yL_products wsL_products ({ frames := 6, cells := 0, slots := 0, locals := 131 } : Room) D cy ad S [.ref (ad (136)), .int (nI (times))] (fun o S' => o = some (.int (nI 1)) ∧ S'.1 0 = S.1 0 ∧ S'.1 1 = S.1 1) := by
  refine g_met cL_products 7 (some .boolean) (by decide) rfl (Nat.le_of_ble_eq_true rfl) ?_
  intro p e s m below meth c ls hx hb hret hts hown hlocks hml hK hP hS hl
  have hl : lv_has ls 7 [(0, .ref (ad (136))), (1, .int (nI (times)))] := hl
  have hown : s.vm.findClass RL = some m.cls := hown
  have hrow : ∀ r, r < 6 → rO (S.1 r) := hP.row
  have ha := hrow 0 (by decide)
  have hb1 := hrow 1 (by decide)
  have hal := ha.2.1
  have hal1 := ha.1
  have hbl := hb1.2.1
  have hbl1 := hb1.1
  refine lv_aload_n hx hb dL_products_0 rfl (lv_at hl 0 rfl) ?_
  refine lv_iconst (v := nI (0)) hx hb dL_products_1 rfl ?_
  refine lv_iconst (v := nI (0)) hx hb dL_products_2 rfl ?_
  refine a_callVr (rest := []) (nL := 7) ⟨hx, hb, hml, hown, hts⟩ (a_of0 l D cy ad hI S 0 (by first | assumption | decide | omega)) (cwV 2 hts gL_products_X4_of rfl rfl rfl (by decide +kernel) ⟨Nat.le_of_ble_eq_true rfl, Nat.le_of_ble_eq_true rfl⟩) hK hP hS (fun _ h => h) rfl hl.1 rfl (Nat.le_of_ble_eq_true rfl) dL_products_3 ⟨Nat.zero_le _, Nat.zero_le _⟩ (fun H locs hP hS => ?_)
  have hP : aP D cy ad S H := hP
  refine lv_istore_n (lv' := [(2, .int (nI ((S.1 0).1))), (0, .ref (ad (136))), (1, .int (nI (times)))]) hx hb dL_products_6 rfl hl (by decide) rfl (fun ls hl => ?_)
  refine lv_aload_n hx hb dL_products_7 rfl (lv_at hl 1 rfl) ?_
  refine lv_iconst (v := nI (1)) hx hb dL_products_8 rfl ?_
  refine lv_iconst (v := nI (0)) hx hb dL_products_9 rfl ?_
  refine a_callVr (rest := []) (nL := 7) ⟨hx, hb, hml, hown, hts⟩ (a_of0 l D cy ad hI S 1 (by first | assumption | decide | omega)) (cwV 2 hts gL_products_X4_of rfl rfl rfl (by decide +kernel) ⟨Nat.le_of_ble_eq_true rfl, Nat.le_of_ble_eq_true rfl⟩) hK hP hS (fun _ h => h) rfl hl.1 rfl (Nat.le_of_ble_eq_true rfl) dL_products_10 ⟨Nat.zero_le _, Nat.zero_le _⟩ (fun H locs hP hS => ?_)
  have hP : aP D cy ad S H := hP
  refine lv_istore_n (lv' := [(3, .int (nI ((S.1 1).1))), (2, .int (nI ((S.1 0).1))), (0, .ref (ad (136))), (1, .int (nI (times)))]) hx hb dL_products_13 rfl hl (by decide) rfl (fun ls hl => ?_)
  refine lv_iload_n hx hb dL_products_14 rfl (lv_at hl 1 rfl) ?_
  refine lv_iload_n hx hb dL_products_15 rfl (lv_at hl 0 rfl) ?_
  refine n_iadd hx hb dL_products_16 ?_
  refine lv_iconst (v := nI (1)) hx hb dL_products_17 rfl ?_
  refine n_isub hx hb (by omega) dL_products_18 ?_
  refine lv_bipush (v := nI (64)) hx hb dL_products_19 rfl ?_
  refine n_icmp_le (tgt := 42) hx hb (by omega) (by omega) dL_products_21 (by decide) (fun h_1 => ?_) (fun h_1 => ?_)
  · skip
    have hle := h_1
    refine lv_aload_n hx hb dL_products_42 rfl (lv_at hl 2 rfl) ?_
    refine lv_iconst (v := nI (0)) hx hb dL_products_43 rfl ?_
    refine lv_iconst (v := nI (1)) hx hb dL_products_44 rfl ?_
    refine lv_iconst (v := nI (2)) hx hb dL_products_45 rfl ?_
    refine a_callV (rest := []) (nL := 7) ⟨hx, hb, hml, hown, hts⟩ (a_product l D cy ad hI S 0 1 2 (by first | assumption | decide | omega) (by first | assumption | decide | omega) (by first | assumption | decide | omega) hle) (cwV 3 hts gL_products_X4_product rfl rfl rfl (by decide +kernel) ⟨Nat.le_of_ble_eq_true rfl, Nat.le_of_ble_eq_true rfl⟩) hK hP hS (fun _ h => h) rfl hl.1 rfl (Nat.le_of_ble_eq_true rfl) dL_products_46 ⟨Nat.zero_le _, Nat.zero_le _⟩ (fun o S1 H locs hpost hP hS => ?_)
    obtain ⟨ho, hS1_a, hS1_b⟩ := hpost
    subst ho
    have hP : aP D cy ad S1 H := hP
    have e10 : S1.1 0 = S.1 0 := hS1_b 0 (by decide)
    have e11 : S1.1 1 = S.1 1 := hS1_b 1 (by decide)
    refine lv_iload_n hx hb dL_products_49 rfl (lv_at hl 1 rfl) ?_
    refine lv_iload_n hx hb dL_products_50 rfl (lv_at hl 0 rfl) ?_
    refine n_iadd hx hb dL_products_51 ?_
    refine lv_iconst (v := nI (1)) hx hb dL_products_52 rfl ?_
    refine n_isub hx hb (by omega) dL_products_53 ?_
    refine n_icmp_ne (tgt := 78) hx hb (by omega) (by omega) dL_products_54 (by decide) (fun h_2 => ?_) (fun h_2 => ?_)
    · skip
      exact absurd rfl h_2
    · skip
      refine lv_aload_n hx hb dL_products_57 rfl (lv_at hl 2 rfl) ?_
      refine lv_iconst (v := nI (0)) hx hb dL_products_58 rfl ?_
      refine lv_iconst (v := nI (1)) hx hb dL_products_59 rfl ?_
      refine lv_iload_n hx hb dL_products_60 rfl (lv_at hl 3 rfl) ?_
      refine lv_iconst (v := nI (3)) hx hb dL_products_61 rfl ?_
      refine a_callV (rest := []) (nL := 7) ⟨hx, hb, hml, hown, hts⟩ (a_add l D cy ad hI S1 0 1 times 3 (by first | assumption | decide | omega) (by first | assumption | decide | omega) (by first | assumption | decide | omega) (by first | assumption | decide | omega)) (cwV 4 hts gL_products_X4_add rfl rfl rfl (by decide +kernel) ⟨Nat.le_of_ble_eq_true rfl, Nat.le_of_ble_eq_true rfl⟩) hK hP hS (fun _ h => h) rfl hl.1 rfl (Nat.le_of_ble_eq_true rfl) dL_products_62 ⟨Nat.zero_le _, Nat.zero_le _⟩ (fun o S2 H locs hpost hP hS => ?_)
      obtain ⟨ho, hS2_a, hS2_b⟩ := hpost
      subst ho
      have hP : aP D cy ad S2 H := hP
      have e0 : S2.1 0 = S.1 0 := by rw [hS2_b 0 (by decide), e10]
      have e1 : S2.1 1 = S.1 1 := by rw [hS2_b 1 (by decide), e11]
      have e2 : S2.1 2 = mulR (S.1 0) (S.1 1) ((S.1 0).1 + (S.1 1).1 - 1) := by rw [hS2_b 2 (by decide)]; exact hS1_a
      have e3 : S2.1 3 = addR (S.1 0) (S.1 1) times := by rw [hS2_a, e10, e11]
      refine n_push (a := max (S.1 0).1 (S.1 1).1) (by rw [e10, e11]) ?_
      refine lv_iload_n hx hb dL_products_65 rfl (lv_at hl 1 rfl) ?_
      refine lv_iload_n hx hb dL_products_66 rfl (lv_at hl 0 rfl) ?_
      refine n_icmp_le (tgt := 74) hx hb (by omega) (by omega) dL_products_67 (by decide) (fun h_3 => ?_) (fun h_3 => ?_)
      · skip
        have hc9 := h_3
        refine lv_iload_n hx hb dL_products_74 rfl (lv_at hl 0 rfl) ?_
        refine n_icmp_eq (tgt := 80) hx hb (by omega) (by omega) dL_products_75 (by decide) (fun h_4 => ?_) (fun h_4 => ?_)
        · skip
          refine lv_iconst (v := nI (0)) hx hb dL_products_80 rfl ?_
          refine lv_istore (lv' := [(4, .int (nI (0))), (3, .int (nI ((S.1 1).1))), (2, .int (nI ((S.1 0).1))), (0, .ref (ad (136))), (1, .int (nI (times)))]) hx hb dL_products_81 hl (by decide) rfl (fun ls hl => ?_)
          have lp83 : ∀ (fu : Nat) (k : Nat), (k ≤ 257) → 257 - k < fu → ∀ (H : Heap) (locs : List Loc), aP D cy ad S2 H → va_S (wA 143 ad) s.heap H locs → ∀ (ls : Array Slot), lv_has ls 7 [(4, .int (nI (k))), (0, .ref (ad (136))), (1, .int (nI (times))), (2, .int (nI ((S.1 0).1))), (3, .int (nI ((S.1 1).1)))] → W p l e ({ frames := 6, cells := 0, slots := 0, locals := 131 } : Room) s m ([.ref (ad (136)), .int (nI (times))] : List Value).toArray below meth c H locs 0 0 (MQ below (gQ (wA 143 ad) (fun o H => ∃ S' : kSt, (fun o S' => o = some (.int (nI 1)) ∧ S'.1 0 = S.1 0 ∧ S'.1 1 = S.1 1) o S' ∧ aP D cy ad S' H)) ([.ref (ad (136)), .int (nI (times))] : List Value).toArray s 0 0 (wA 143 ad)) (F0 m 83 ls []) := by
            intro fu
            induction fu with
            | zero => intro k hk hfu; exact absurd hfu (Nat.not_lt_zero _)
            | succ fu ih83 =>
              intro k hk hfu H locs hP hS ls hl
              have hv0 := vx_lt (S2.1 0) k
              have hm := mul_lt_257 hv0 (vx_lt (S2.1 1) k)
              have hm2 := mul_lt_257 ht (vx_lt (S2.1 1) k)
              have hv2 := vx_lt (S2.1 2) k
              have hv3 := vx_lt (S2.1 3) k
              refine lv_iload hx hb dL_products_83 (lv_at hl 0 rfl) ?_
              refine lv_sipush (v := nI (257)) hx hb dL_products_85 rfl ?_
              refine n_icmp_ge (tgt := 167) hx hb (by omega) (by omega) dL_products_88 (by decide) (fun h_5 => ?_) (fun h_5 => ?_)
              · skip
                rcases Nat.eq_zero_or_pos (rD (S.1 0)) with hz0 | hp0
                · skip
                  have hz0' : rD (S2.1 0) = 0 := by rw [e0]; exact hz0
                  refine lv_aload_n hx hb dL_products_167 rfl (lv_at hl 1 rfl) ?_
                  refine lv_iconst (v := nI (0)) hx hb dL_products_168 rfl ?_
                  refine a_callSr (rest := []) (nL := 7) ⟨hx, hb, hml, hown, hts⟩ (a_L_degree0 l D cy ad hI S2 0 (by first | assumption | decide | omega) (by first | assumption | decide | omega)) (va_cwS 2 hts gL_products_L_degree rfl rfl rfl (by decide +kernel) ⟨Nat.le_of_ble_eq_true rfl, Nat.le_of_ble_eq_true rfl⟩) hK hP hS (fun _ h => h) rfl hl.1 rfl (Nat.le_of_ble_eq_true rfl) dL_products_169 ⟨Nat.zero_le _, Nat.zero_le _⟩ (fun H locs hP hS => ?_)
                  have hP : aP D cy ad S2 H := hP
                  refine lv_if_lt (tgt := 183) hx hb dL_products_172 (by decide) (fun h_6 => ?_) (fun h_6 => ?_)
                  · skip
                    refine lv_bipush (v := (-6 : Int32)) hx hb dL_products_183 (by decide) ?_
                    refine lv_goto (tgt := 199) hx hb dL_products_185 (by decide) ?_
                    refine lv_istore (lv' := [(4, .int (-6)), (0, .ref (ad (136))), (1, .int (nI (times))), (2, .int (nI ((S.1 0).1))), (3, .int (nI ((S.1 1).1)))]) hx hb dL_products_199 hl (by decide) rfl (fun ls hl => ?_)
                    refine lv_aload_n hx hb dL_products_201 rfl (lv_at hl 1 rfl) ?_
                    refine lv_iconst (v := nI (2)) hx hb dL_products_202 rfl ?_
                    refine lv_iconst (v := nI (1)) hx hb dL_products_203 rfl ?_
                    refine a_callVr (rest := []) (nL := 7) ⟨hx, hb, hml, hown, hts⟩ (a_of1 l D cy ad hI S2 2 (by first | assumption | decide | omega)) (cwV 2 hts gL_products_X4_of rfl rfl rfl (by decide +kernel) ⟨Nat.le_of_ble_eq_true rfl, Nat.le_of_ble_eq_true rfl⟩) hK hP hS (fun _ h => h) rfl hl.1 rfl (Nat.le_of_ble_eq_true rfl) dL_products_204 ⟨Nat.zero_le _, Nat.zero_le _⟩ (fun H locs hP hS => ?_)
                    have hP : aP D cy ad S2 H := hP
                    refine lv_iload hx hb dL_products_207 (lv_at hl 0 rfl) ?_
                    refine lv_icmp_ne (tgt := 246) hx hb dL_products_209 (by decide) (fun h_7 => ?_) (fun h_7 => ?_)
                    · skip
                      exact absurd (by rw [e2, prod_dg0 ha hb1 hle (Or.inl hz0)]; rfl) h_7
                    · skip
                      refine lv_aload_n hx hb dL_products_212 rfl (lv_at hl 1 rfl) ?_
                      refine lv_iconst (v := nI (1)) hx hb dL_products_213 rfl ?_
                      refine lv_iconst (v := nI (0)) hx hb dL_products_214 rfl ?_
                      refine lv_iconst (v := nI (4)) hx hb dL_products_215 rfl ?_
                      refine a_callV (rest := []) (nL := 7) ⟨hx, hb, hml, hown, hts⟩ (a_product l D cy ad hI S2 1 0 4 (by first | assumption | decide | omega) (by first | assumption | decide | omega) (by first | assumption | decide | omega) (by rw [e0, e1]; omega)) (cwV 3 hts gL_products_X4_product rfl rfl rfl (by decide +kernel) ⟨Nat.le_of_ble_eq_true rfl, Nat.le_of_ble_eq_true rfl⟩) hK hP hS (fun _ h => h) rfl hl.1 rfl (Nat.le_of_ble_eq_true rfl) dL_products_216 ⟨Nat.zero_le _, Nat.zero_le _⟩ (fun o S3 H locs hpost hP hS => ?_)
                      obtain ⟨ho, hS3_a, hS3_b⟩ := hpost
                      subst ho
                      have hP : aP D cy ad S3 H := hP
                      have e4 : S3.1 4 = S3.1 2 := by rw [hS3_a, hS3_b 2 (by decide), e2, e0, e1]; exact prod_comm ha hb1 hle
                      have hs4 := sm_le (S3.1 4).2 (S3.1 4).1 (hP.row 4 (by decide)).2.2.1
                      have hs2 := sm_le (S3.1 2).2 (S3.1 2).1 (hP.row 2 (by decide)).2.2.1
                      have hl4 := (hP.row 4 (by decide)).2.1
                      have hl2 := (hP.row 2 (by decide)).2.1
                      refine n_push (a := (S.1 1).1 + (S.1 0).1 - 1) (by rw [e0, e1]) ?_
                      refine lv_iload_n hx hb dL_products_219 rfl (lv_at hl 3 rfl) ?_
                      refine lv_iload_n hx hb dL_products_220 rfl (lv_at hl 4 rfl) ?_
                      refine n_iadd hx hb dL_products_221 ?_
                      refine lv_iconst (v := nI (1)) hx hb dL_products_222 rfl ?_
                      refine n_isub hx hb (by omega) dL_products_223 ?_
                      refine n_icmp_ne (tgt := 246) hx hb (by omega) (by omega) dL_products_224 (by decide) (fun h_8 => ?_) (fun h_8 => ?_)
                      · skip
                        exact absurd h_8 (by omega)
                      · skip
                        refine lv_aload_n hx hb dL_products_227 rfl (lv_at hl 1 rfl) ?_
                        refine lv_iconst (v := nI (4)) hx hb dL_products_228 rfl ?_
                        refine lv_iconst (v := nI (3)) hx hb dL_products_229 rfl ?_
                        refine a_callVr (rest := []) (nL := 7) ⟨hx, hb, hml, hown, hts⟩ (a_of3 l D cy ad hI S3 4 (by first | assumption | decide | omega)) (cwV 2 hts gL_products_X4_of rfl rfl rfl (by decide +kernel) ⟨Nat.le_of_ble_eq_true rfl, Nat.le_of_ble_eq_true rfl⟩) hK hP hS (fun _ h => h) rfl hl.1 rfl (Nat.le_of_ble_eq_true rfl) dL_products_230 ⟨Nat.zero_le _, Nat.zero_le _⟩ (fun H locs hP hS => ?_)
                        have hP : aP D cy ad S3 H := hP
                        refine lv_aload_n hx hb dL_products_233 rfl (lv_at hl 1 rfl) ?_
                        refine lv_iconst (v := nI (2)) hx hb dL_products_234 rfl ?_
                        refine lv_iconst (v := nI (3)) hx hb dL_products_235 rfl ?_
                        refine a_callVr (rest := [.int (nI (sm (S3.1 4).2 (S3.1 4).1))]) (nL := 7) ⟨hx, hb, hml, hown, hts⟩ (a_of3 l D cy ad hI S3 2 (by first | assumption | decide | omega)) (cwV 2 hts gL_products_X4_of rfl rfl rfl (by decide +kernel) ⟨Nat.le_of_ble_eq_true rfl, Nat.le_of_ble_eq_true rfl⟩) hK hP hS (fun _ h => h) rfl hl.1 rfl (Nat.le_of_ble_eq_true rfl) dL_products_236 ⟨Nat.zero_le _, Nat.zero_le _⟩ (fun H locs hP hS => ?_)
                        have hP : aP D cy ad S3 H := hP
                        refine n_icmp_ne (tgt := 246) hx hb (by omega) (by omega) dL_products_239 (by decide) (fun h_9 => ?_) (fun h_9 => ?_)
                        · skip
                          exact absurd (by rw [e4]) h_9
                        · skip
                          refine lv_iconst (v := nI (1)) hx hb dL_products_242 rfl ?_
                          refine lv_goto (tgt := 247) hx hb dL_products_243 (by decide) ?_
                          refine a_zret hx hb hret hlocks (by rfl) hP hS dL_products_247 ?_
                          exact ⟨rfl, (hS3_b 0 (by decide)).trans e0, (hS3_b 1 (by decide)).trans e1⟩
                  · skip
                    exact absurd (by decide) h_6
                · skip
                  obtain ⟨da, hda⟩ : ∃ d, rD (S.1 0) = d + 1 := ⟨rD (S.1 0) - 1, by omega⟩
                  have hda' : rD (S2.1 0) = da + 1 := by rw [e0]; exact hda
                  have hdal := (rD_le ha).2
                  refine lv_aload_n hx hb dL_products_167 rfl (lv_at hl 1 rfl) ?_
                  refine lv_iconst (v := nI (0)) hx hb dL_products_168 rfl ?_
                  refine a_callSr (rest := []) (nL := 7) ⟨hx, hb, hml, hown, hts⟩ (a_L_degreeS l D cy ad hI S2 0 da (by first | assumption | decide | omega) (by first | assumption | decide | omega)) (va_cwS 2 hts gL_products_L_degree rfl rfl rfl (by decide +kernel) ⟨Nat.le_of_ble_eq_true rfl, Nat.le_of_ble_eq_true rfl⟩) hK hP hS (fun _ h => h) rfl hl.1 rfl (Nat.le_of_ble_eq_true rfl) dL_products_169 ⟨Nat.zero_le _, Nat.zero_le _⟩ (fun H locs hP hS => ?_)
                  have hP : aP D cy ad S2 H := hP
                  refine n_iflt (tgt := 183) hx hb (by omega) dL_products_172 (by decide) ?_
                  rcases Nat.eq_zero_or_pos (rD (S.1 1)) with hz1 | hp1
                  · skip
                    have hz1' : rD (S2.1 1) = 0 := by rw [e1]; exact hz1
                    refine lv_aload_n hx hb dL_products_175 rfl (lv_at hl 1 rfl) ?_
                    refine lv_iconst (v := nI (1)) hx hb dL_products_176 rfl ?_
                    refine a_callSr (rest := []) (nL := 7) ⟨hx, hb, hml, hown, hts⟩ (a_L_degree0 l D cy ad hI S2 1 (by first | assumption | decide | omega) (by first | assumption | decide | omega)) (va_cwS 2 hts gL_products_L_degree rfl rfl rfl (by decide +kernel) ⟨Nat.le_of_ble_eq_true rfl, Nat.le_of_ble_eq_true rfl⟩) hK hP hS (fun _ h => h) rfl hl.1 rfl (Nat.le_of_ble_eq_true rfl) dL_products_177 ⟨Nat.zero_le _, Nat.zero_le _⟩ (fun H locs hP hS => ?_)
                    have hP : aP D cy ad S2 H := hP
                    refine lv_if_ge (tgt := 188) hx hb dL_products_180 (by decide) (fun h_10 => ?_) (fun h_10 => ?_)
                    · skip
                      exact absurd h_10 (by decide)
                    · skip
                      refine lv_bipush (v := (-6 : Int32)) hx hb dL_products_183 (by decide) ?_
                      refine lv_goto (tgt := 199) hx hb dL_products_185 (by decide) ?_
                      refine lv_istore (lv' := [(4, .int (-6)), (0, .ref (ad (136))), (1, .int (nI (times))), (2, .int (nI ((S.1 0).1))), (3, .int (nI ((S.1 1).1)))]) hx hb dL_products_199 hl (by decide) rfl (fun ls hl => ?_)
                      refine lv_aload_n hx hb dL_products_201 rfl (lv_at hl 1 rfl) ?_
                      refine lv_iconst (v := nI (2)) hx hb dL_products_202 rfl ?_
                      refine lv_iconst (v := nI (1)) hx hb dL_products_203 rfl ?_
                      refine a_callVr (rest := []) (nL := 7) ⟨hx, hb, hml, hown, hts⟩ (a_of1 l D cy ad hI S2 2 (by first | assumption | decide | omega)) (cwV 2 hts gL_products_X4_of rfl rfl rfl (by decide +kernel) ⟨Nat.le_of_ble_eq_true rfl, Nat.le_of_ble_eq_true rfl⟩) hK hP hS (fun _ h => h) rfl hl.1 rfl (Nat.le_of_ble_eq_true rfl) dL_products_204 ⟨Nat.zero_le _, Nat.zero_le _⟩ (fun H locs hP hS => ?_)
                      have hP : aP D cy ad S2 H := hP
                      refine lv_iload hx hb dL_products_207 (lv_at hl 0 rfl) ?_
                      refine lv_icmp_ne (tgt := 246) hx hb dL_products_209 (by decide) (fun h_11 => ?_) (fun h_11 => ?_)
                      · skip
                        exact absurd (by rw [e2, prod_dg0 ha hb1 hle (Or.inr hz1)]; rfl) h_11
                      · skip
                        refine lv_aload_n hx hb dL_products_212 rfl (lv_at hl 1 rfl) ?_
                        refine lv_iconst (v := nI (1)) hx hb dL_products_213 rfl ?_
                        refine lv_iconst (v := nI (0)) hx hb dL_products_214 rfl ?_
                        refine lv_iconst (v := nI (4)) hx hb dL_products_215 rfl ?_
                        refine a_callV (rest := []) (nL := 7) ⟨hx, hb, hml, hown, hts⟩ (a_product l D cy ad hI S2 1 0 4 (by first | assumption | decide | omega) (by first | assumption | decide | omega) (by first | assumption | decide | omega) (by rw [e0, e1]; omega)) (cwV 3 hts gL_products_X4_product rfl rfl rfl (by decide +kernel) ⟨Nat.le_of_ble_eq_true rfl, Nat.le_of_ble_eq_true rfl⟩) hK hP hS (fun _ h => h) rfl hl.1 rfl (Nat.le_of_ble_eq_true rfl) dL_products_216 ⟨Nat.zero_le _, Nat.zero_le _⟩ (fun o S3 H locs hpost hP hS => ?_)
                        obtain ⟨ho, hS3_a, hS3_b⟩ := hpost
                        subst ho
                        have hP : aP D cy ad S3 H := hP
                        have e4 : S3.1 4 = S3.1 2 := by rw [hS3_a, hS3_b 2 (by decide), e2, e0, e1]; exact prod_comm ha hb1 hle
                        have hs4 := sm_le (S3.1 4).2 (S3.1 4).1 (hP.row 4 (by decide)).2.2.1
                        have hs2 := sm_le (S3.1 2).2 (S3.1 2).1 (hP.row 2 (by decide)).2.2.1
                        have hl4 := (hP.row 4 (by decide)).2.1
                        have hl2 := (hP.row 2 (by decide)).2.1
                        refine n_push (a := (S.1 1).1 + (S.1 0).1 - 1) (by rw [e0, e1]) ?_
                        refine lv_iload_n hx hb dL_products_219 rfl (lv_at hl 3 rfl) ?_
                        refine lv_iload_n hx hb dL_products_220 rfl (lv_at hl 4 rfl) ?_
                        refine n_iadd hx hb dL_products_221 ?_
                        refine lv_iconst (v := nI (1)) hx hb dL_products_222 rfl ?_
                        refine n_isub hx hb (by omega) dL_products_223 ?_
                        refine n_icmp_ne (tgt := 246) hx hb (by omega) (by omega) dL_products_224 (by decide) (fun h_12 => ?_) (fun h_12 => ?_)
                        · skip
                          exact absurd h_12 (by omega)
                        · skip
                          refine lv_aload_n hx hb dL_products_227 rfl (lv_at hl 1 rfl) ?_
                          refine lv_iconst (v := nI (4)) hx hb dL_products_228 rfl ?_
                          refine lv_iconst (v := nI (3)) hx hb dL_products_229 rfl ?_
                          refine a_callVr (rest := []) (nL := 7) ⟨hx, hb, hml, hown, hts⟩ (a_of3 l D cy ad hI S3 4 (by first | assumption | decide | omega)) (cwV 2 hts gL_products_X4_of rfl rfl rfl (by decide +kernel) ⟨Nat.le_of_ble_eq_true rfl, Nat.le_of_ble_eq_true rfl⟩) hK hP hS (fun _ h => h) rfl hl.1 rfl (Nat.le_of_ble_eq_true rfl) dL_products_230 ⟨Nat.zero_le _, Nat.zero_le _⟩ (fun H locs hP hS => ?_)
                          have hP : aP D cy ad S3 H := hP
                          refine lv_aload_n hx hb dL_products_233 rfl (lv_at hl 1 rfl) ?_
                          refine lv_iconst (v := nI (2)) hx hb dL_products_234 rfl ?_
                          refine lv_iconst (v := nI (3)) hx hb dL_products_235 rfl ?_
                          refine a_callVr (rest := [.int (nI (sm (S3.1 4).2 (S3.1 4).1))]) (nL := 7) ⟨hx, hb, hml, hown, hts⟩ (a_of3 l D cy ad hI S3 2 (by first | assumption | decide | omega)) (cwV 2 hts gL_products_X4_of rfl rfl rfl (by decide +kernel) ⟨Nat.le_of_ble_eq_true rfl, Nat.le_of_ble_eq_true rfl⟩) hK hP hS (fun _ h => h) rfl hl.1 rfl (Nat.le_of_ble_eq_true rfl) dL_products_236 ⟨Nat.zero_le _, Nat.zero_le _⟩ (fun H locs hP hS => ?_)
                          have hP : aP D cy ad S3 H := hP
                          refine n_icmp_ne (tgt := 246) hx hb (by omega) (by omega) dL_products_239 (by decide) (fun h_13 => ?_) (fun h_13 => ?_)
                          · skip
                            exact absurd (by rw [e4]) h_13
                          · skip
                            refine lv_iconst (v := nI (1)) hx hb dL_products_242 rfl ?_
                            refine lv_goto (tgt := 247) hx hb dL_products_243 (by decide) ?_
                            refine a_zret hx hb hret hlocks (by rfl) hP hS dL_products_247 ?_
                            exact ⟨rfl, (hS3_b 0 (by decide)).trans e0, (hS3_b 1 (by decide)).trans e1⟩
                  · skip
                    obtain ⟨db, hdb⟩ : ∃ d, rD (S.1 1) = d + 1 := ⟨rD (S.1 1) - 1, by omega⟩
                    have hdb' : rD (S2.1 1) = db + 1 := by rw [e1]; exact hdb
                    have hdbl := (rD_le hb1).2
                    refine lv_aload_n hx hb dL_products_175 rfl (lv_at hl 1 rfl) ?_
                    refine lv_iconst (v := nI (1)) hx hb dL_products_176 rfl ?_
                    refine a_callSr (rest := []) (nL := 7) ⟨hx, hb, hml, hown, hts⟩ (a_L_degreeS l D cy ad hI S2 1 db (by first | assumption | decide | omega) (by first | assumption | decide | omega)) (va_cwS 2 hts gL_products_L_degree rfl rfl rfl (by decide +kernel) ⟨Nat.le_of_ble_eq_true rfl, Nat.le_of_ble_eq_true rfl⟩) hK hP hS (fun _ h => h) rfl hl.1 rfl (Nat.le_of_ble_eq_true rfl) dL_products_177 ⟨Nat.zero_le _, Nat.zero_le _⟩ (fun H locs hP hS => ?_)
                    have hP : aP D cy ad S2 H := hP
                    refine n_ifge (tgt := 188) hx hb (by omega) dL_products_180 (by decide) ?_
                    refine lv_aload_n hx hb dL_products_188 rfl (lv_at hl 1 rfl) ?_
                    refine lv_iconst (v := nI (0)) hx hb dL_products_189 rfl ?_
                    refine a_callSr (rest := []) (nL := 7) ⟨hx, hb, hml, hown, hts⟩ (a_L_degreeS l D cy ad hI S2 0 da (by first | assumption | decide | omega) (by first | assumption | decide | omega)) (va_cwS 2 hts gL_products_L_degree rfl rfl rfl (by decide +kernel) ⟨Nat.le_of_ble_eq_true rfl, Nat.le_of_ble_eq_true rfl⟩) hK hP hS (fun _ h => h) rfl hl.1 rfl (Nat.le_of_ble_eq_true rfl) dL_products_190 ⟨Nat.zero_le _, Nat.zero_le _⟩ (fun H locs hP hS => ?_)
                    have hP : aP D cy ad S2 H := hP
                    refine lv_aload_n hx hb dL_products_193 rfl (lv_at hl 1 rfl) ?_
                    refine lv_iconst (v := nI (1)) hx hb dL_products_194 rfl ?_
                    refine a_callSr (rest := [.int (nI (da))]) (nL := 7) ⟨hx, hb, hml, hown, hts⟩ (a_L_degreeS l D cy ad hI S2 1 db (by first | assumption | decide | omega) (by first | assumption | decide | omega)) (va_cwS 2 hts gL_products_L_degree rfl rfl rfl (by decide +kernel) ⟨Nat.le_of_ble_eq_true rfl, Nat.le_of_ble_eq_true rfl⟩) hK hP hS (fun _ h => h) rfl hl.1 rfl (Nat.le_of_ble_eq_true rfl) dL_products_195 ⟨Nat.zero_le _, Nat.zero_le _⟩ (fun H locs hP hS => ?_)
                    have hP : aP D cy ad S2 H := hP
                    refine n_iadd hx hb dL_products_198 ?_
                    refine lv_istore (lv' := [(4, .int (nI (da + db))), (0, .ref (ad (136))), (1, .int (nI (times))), (2, .int (nI ((S.1 0).1))), (3, .int (nI ((S.1 1).1)))]) hx hb dL_products_199 hl (by decide) rfl (fun ls hl => ?_)
                    refine lv_aload_n hx hb dL_products_201 rfl (lv_at hl 1 rfl) ?_
                    refine lv_iconst (v := nI (2)) hx hb dL_products_202 rfl ?_
                    refine lv_iconst (v := nI (1)) hx hb dL_products_203 rfl ?_
                    refine a_callVr (rest := []) (nL := 7) ⟨hx, hb, hml, hown, hts⟩ (a_of1 l D cy ad hI S2 2 (by first | assumption | decide | omega)) (cwV 2 hts gL_products_X4_of rfl rfl rfl (by decide +kernel) ⟨Nat.le_of_ble_eq_true rfl, Nat.le_of_ble_eq_true rfl⟩) hK hP hS (fun _ h => h) rfl hl.1 rfl (Nat.le_of_ble_eq_true rfl) dL_products_204 ⟨Nat.zero_le _, Nat.zero_le _⟩ (fun H locs hP hS => ?_)
                    have hP : aP D cy ad S2 H := hP
                    refine lv_iload hx hb dL_products_207 (lv_at hl 0 rfl) ?_
                    refine lv_icmp_ne (tgt := 246) hx hb dL_products_209 (by decide) (fun h_14 => ?_) (fun h_14 => ?_)
                    · skip
                      exact absurd (by rw [e2, prod_dg ha hb1 hle hda hdb, dV_s]) h_14
                    · skip
                      refine lv_aload_n hx hb dL_products_212 rfl (lv_at hl 1 rfl) ?_
                      refine lv_iconst (v := nI (1)) hx hb dL_products_213 rfl ?_
                      refine lv_iconst (v := nI (0)) hx hb dL_products_214 rfl ?_
                      refine lv_iconst (v := nI (4)) hx hb dL_products_215 rfl ?_
                      refine a_callV (rest := []) (nL := 7) ⟨hx, hb, hml, hown, hts⟩ (a_product l D cy ad hI S2 1 0 4 (by first | assumption | decide | omega) (by first | assumption | decide | omega) (by first | assumption | decide | omega) (by rw [e0, e1]; omega)) (cwV 3 hts gL_products_X4_product rfl rfl rfl (by decide +kernel) ⟨Nat.le_of_ble_eq_true rfl, Nat.le_of_ble_eq_true rfl⟩) hK hP hS (fun _ h => h) rfl hl.1 rfl (Nat.le_of_ble_eq_true rfl) dL_products_216 ⟨Nat.zero_le _, Nat.zero_le _⟩ (fun o S3 H locs hpost hP hS => ?_)
                      obtain ⟨ho, hS3_a, hS3_b⟩ := hpost
                      subst ho
                      have hP : aP D cy ad S3 H := hP
                      have e4 : S3.1 4 = S3.1 2 := by rw [hS3_a, hS3_b 2 (by decide), e2, e0, e1]; exact prod_comm ha hb1 hle
                      have hs4 := sm_le (S3.1 4).2 (S3.1 4).1 (hP.row 4 (by decide)).2.2.1
                      have hs2 := sm_le (S3.1 2).2 (S3.1 2).1 (hP.row 2 (by decide)).2.2.1
                      have hl4 := (hP.row 4 (by decide)).2.1
                      have hl2 := (hP.row 2 (by decide)).2.1
                      refine n_push (a := (S.1 1).1 + (S.1 0).1 - 1) (by rw [e0, e1]) ?_
                      refine lv_iload_n hx hb dL_products_219 rfl (lv_at hl 3 rfl) ?_
                      refine lv_iload_n hx hb dL_products_220 rfl (lv_at hl 4 rfl) ?_
                      refine n_iadd hx hb dL_products_221 ?_
                      refine lv_iconst (v := nI (1)) hx hb dL_products_222 rfl ?_
                      refine n_isub hx hb (by omega) dL_products_223 ?_
                      refine n_icmp_ne (tgt := 246) hx hb (by omega) (by omega) dL_products_224 (by decide) (fun h_15 => ?_) (fun h_15 => ?_)
                      · skip
                        exact absurd h_15 (by omega)
                      · skip
                        refine lv_aload_n hx hb dL_products_227 rfl (lv_at hl 1 rfl) ?_
                        refine lv_iconst (v := nI (4)) hx hb dL_products_228 rfl ?_
                        refine lv_iconst (v := nI (3)) hx hb dL_products_229 rfl ?_
                        refine a_callVr (rest := []) (nL := 7) ⟨hx, hb, hml, hown, hts⟩ (a_of3 l D cy ad hI S3 4 (by first | assumption | decide | omega)) (cwV 2 hts gL_products_X4_of rfl rfl rfl (by decide +kernel) ⟨Nat.le_of_ble_eq_true rfl, Nat.le_of_ble_eq_true rfl⟩) hK hP hS (fun _ h => h) rfl hl.1 rfl (Nat.le_of_ble_eq_true rfl) dL_products_230 ⟨Nat.zero_le _, Nat.zero_le _⟩ (fun H locs hP hS => ?_)
                        have hP : aP D cy ad S3 H := hP
                        refine lv_aload_n hx hb dL_products_233 rfl (lv_at hl 1 rfl) ?_
                        refine lv_iconst (v := nI (2)) hx hb dL_products_234 rfl ?_
                        refine lv_iconst (v := nI (3)) hx hb dL_products_235 rfl ?_
                        refine a_callVr (rest := [.int (nI (sm (S3.1 4).2 (S3.1 4).1))]) (nL := 7) ⟨hx, hb, hml, hown, hts⟩ (a_of3 l D cy ad hI S3 2 (by first | assumption | decide | omega)) (cwV 2 hts gL_products_X4_of rfl rfl rfl (by decide +kernel) ⟨Nat.le_of_ble_eq_true rfl, Nat.le_of_ble_eq_true rfl⟩) hK hP hS (fun _ h => h) rfl hl.1 rfl (Nat.le_of_ble_eq_true rfl) dL_products_236 ⟨Nat.zero_le _, Nat.zero_le _⟩ (fun H locs hP hS => ?_)
                        have hP : aP D cy ad S3 H := hP
                        refine n_icmp_ne (tgt := 246) hx hb (by omega) (by omega) dL_products_239 (by decide) (fun h_16 => ?_) (fun h_16 => ?_)
                        · skip
                          exact absurd (by rw [e4]) h_16
                        · skip
                          refine lv_iconst (v := nI (1)) hx hb dL_products_242 rfl ?_
                          refine lv_goto (tgt := 247) hx hb dL_products_243 (by decide) ?_
                          refine a_zret hx hb hret hlocks (by rfl) hP hS dL_products_247 ?_
                          exact ⟨rfl, (hS3_b 0 (by decide)).trans e0, (hS3_b 1 (by decide)).trans e1⟩
              · skip
                refine lv_aload_n hx hb dL_products_91 rfl (lv_at hl 1 rfl) ?_
                refine lv_iconst (v := nI (0)) hx hb dL_products_92 rfl ?_
                refine lv_iload hx hb dL_products_93 (lv_at hl 0 rfl) ?_
                refine a_callVr (rest := []) (nL := 7) ⟨hx, hb, hml, hown, hts⟩ (a_value l D cy ad hI S2 0 k (by first | assumption | decide | omega) (by first | assumption | decide | omega)) (cwV 2 hts gL_products_X4_value rfl rfl rfl (by decide +kernel) ⟨Nat.le_of_ble_eq_true rfl, Nat.le_of_ble_eq_true rfl⟩) hK hP hS (fun _ h => h) rfl hl.1 rfl (Nat.le_of_ble_eq_true rfl) dL_products_95 ⟨Nat.zero_le _, Nat.zero_le _⟩ (fun H locs hP hS => ?_)
                have hP : aP D cy ad S2 H := hP
                refine lv_aload_n hx hb dL_products_98 rfl (lv_at hl 1 rfl) ?_
                refine lv_iconst (v := nI (1)) hx hb dL_products_99 rfl ?_
                refine lv_iload hx hb dL_products_100 (lv_at hl 0 rfl) ?_
                refine a_callVr (rest := [.int (nI (vx (S2.1 0) k))]) (nL := 7) ⟨hx, hb, hml, hown, hts⟩ (a_value l D cy ad hI S2 1 k (by first | assumption | decide | omega) (by first | assumption | decide | omega)) (cwV 2 hts gL_products_X4_value rfl rfl rfl (by decide +kernel) ⟨Nat.le_of_ble_eq_true rfl, Nat.le_of_ble_eq_true rfl⟩) hK hP hS (fun _ h => h) rfl hl.1 rfl (Nat.le_of_ble_eq_true rfl) dL_products_102 ⟨Nat.zero_le _, Nat.zero_le _⟩ (fun H locs hP hS => ?_)
                have hP : aP D cy ad S2 H := hP
                refine n_imul hx hb dL_products_105 ?_
                refine lv_sipush (v := nI (257)) hx hb dL_products_106 rfl ?_
                refine n_irem hx hb (by omega) (by omega) (by omega) dL_products_109  ?_
                refine lv_istore (lv' := [(5, .int (nI (((vx (S2.1 0) k) * (vx (S2.1 1) k)) % 257))), (4, .int (nI (k))), (0, .ref (ad (136))), (1, .int (nI (times))), (2, .int (nI ((S.1 0).1))), (3, .int (nI ((S.1 1).1)))]) hx hb dL_products_110 hl (by decide) rfl (fun ls hl => ?_)
                refine lv_aload_n hx hb dL_products_112 rfl (lv_at hl 2 rfl) ?_
                refine lv_iconst (v := nI (0)) hx hb dL_products_113 rfl ?_
                refine lv_iload hx hb dL_products_114 (lv_at hl 1 rfl) ?_
                refine a_callVr (rest := []) (nL := 7) ⟨hx, hb, hml, hown, hts⟩ (a_value l D cy ad hI S2 0 k (by first | assumption | decide | omega) (by first | assumption | decide | omega)) (cwV 2 hts gL_products_X4_value rfl rfl rfl (by decide +kernel) ⟨Nat.le_of_ble_eq_true rfl, Nat.le_of_ble_eq_true rfl⟩) hK hP hS (fun _ h => h) rfl hl.1 rfl (Nat.le_of_ble_eq_true rfl) dL_products_116 ⟨Nat.zero_le _, Nat.zero_le _⟩ (fun H locs hP hS => ?_)
                have hP : aP D cy ad S2 H := hP
                refine lv_iload_n hx hb dL_products_119 rfl (lv_at hl 3 rfl) ?_
                refine lv_aload_n hx hb dL_products_120 rfl (lv_at hl 2 rfl) ?_
                refine lv_iconst (v := nI (1)) hx hb dL_products_121 rfl ?_
                refine lv_iload hx hb dL_products_122 (lv_at hl 1 rfl) ?_
                refine a_callVr (rest := [.int (nI (times)), .int (nI (vx (S2.1 0) k))]) (nL := 7) ⟨hx, hb, hml, hown, hts⟩ (a_value l D cy ad hI S2 1 k (by first | assumption | decide | omega) (by first | assumption | decide | omega)) (cwV 2 hts gL_products_X4_value rfl rfl rfl (by decide +kernel) ⟨Nat.le_of_ble_eq_true rfl, Nat.le_of_ble_eq_true rfl⟩) hK hP hS (fun _ h => h) rfl hl.1 rfl (Nat.le_of_ble_eq_true rfl) dL_products_124 ⟨Nat.zero_le _, Nat.zero_le _⟩ (fun H locs hP hS => ?_)
                have hP : aP D cy ad S2 H := hP
                refine n_imul hx hb dL_products_127 ?_
                refine n_iadd hx hb dL_products_128 ?_
                refine lv_sipush (v := nI (257)) hx hb dL_products_129 rfl ?_
                refine n_irem hx hb (by omega) (by omega) (by omega) dL_products_132  ?_
                refine lv_istore (lv' := [(6, .int (nI (((vx (S2.1 0) k) + (times * (vx (S2.1 1) k))) % 257))), (5, .int (nI (((vx (S2.1 0) k) * (vx (S2.1 1) k)) % 257))), (4, .int (nI (k))), (0, .ref (ad (136))), (1, .int (nI (times))), (2, .int (nI ((S.1 0).1))), (3, .int (nI ((S.1 1).1)))]) hx hb dL_products_133 hl (by decide) rfl (fun ls hl => ?_)
                refine lv_aload_n hx hb dL_products_135 rfl (lv_at hl 3 rfl) ?_
                refine lv_iconst (v := nI (2)) hx hb dL_products_136 rfl ?_
                refine lv_iload hx hb dL_products_137 (lv_at hl 2 rfl) ?_
                refine a_callVr (rest := []) (nL := 7) ⟨hx, hb, hml, hown, hts⟩ (a_value l D cy ad hI S2 2 k (by first | assumption | decide | omega) (by first | assumption | decide | omega)) (cwV 2 hts gL_products_X4_value rfl rfl rfl (by decide +kernel) ⟨Nat.le_of_ble_eq_true rfl, Nat.le_of_ble_eq_true rfl⟩) hK hP hS (fun _ h => h) rfl hl.1 rfl (Nat.le_of_ble_eq_true rfl) dL_products_139 ⟨Nat.zero_le _, Nat.zero_le _⟩ (fun H locs hP hS => ?_)
                have hP : aP D cy ad S2 H := hP
                refine lv_iload hx hb dL_products_142 (lv_at hl 1 rfl) ?_
                refine n_icmp_ne (tgt := 159) hx hb (by omega) (by omega) dL_products_144 (by decide) (fun h_17 => ?_) (fun h_17 => ?_)
                · skip
                  exact absurd (by rw [e2, e0, e1]; exact prod_vx ha hb1 hle k) h_17
                · skip
                  refine lv_aload_n hx hb dL_products_147 rfl (lv_at hl 3 rfl) ?_
                  refine lv_iconst (v := nI (3)) hx hb dL_products_148 rfl ?_
                  refine lv_iload hx hb dL_products_149 (lv_at hl 2 rfl) ?_
                  refine a_callVr (rest := []) (nL := 7) ⟨hx, hb, hml, hown, hts⟩ (a_value l D cy ad hI S2 3 k (by first | assumption | decide | omega) (by first | assumption | decide | omega)) (cwV 2 hts gL_products_X4_value rfl rfl rfl (by decide +kernel) ⟨Nat.le_of_ble_eq_true rfl, Nat.le_of_ble_eq_true rfl⟩) hK hP hS (fun _ h => h) rfl hl.1 rfl (Nat.le_of_ble_eq_true rfl) dL_products_151 ⟨Nat.zero_le _, Nat.zero_le _⟩ (fun H locs hP hS => ?_)
                  have hP : aP D cy ad S2 H := hP
                  refine lv_iload hx hb dL_products_154 (lv_at hl 0 rfl) ?_
                  refine n_icmp_eq (tgt := 161) hx hb (by omega) (by omega) dL_products_156 (by decide) (fun h_18 => ?_) (fun h_18 => ?_)
                  · skip
                    refine lv_iinc (v := nI (k + 1)) (lv' := [(4, .int (nI (k + 1))), (6, .int (nI (((vx (S2.1 0) k) + (times * (vx (S2.1 1) k))) % 257))), (5, .int (nI (((vx (S2.1 0) k) * (vx (S2.1 1) k)) % 257))), (0, .ref (ad (136))), (1, .int (nI (times))), (2, .int (nI ((S.1 0).1))), (3, .int (nI ((S.1 1).1)))]) hx hb dL_products_161 hl (k := 2) rfl (nI_inc _) (by decide) rfl (fun ls hl => ?_)
                    refine lv_goto (tgt := 83) hx hb dL_products_164 (by decide) ?_
                    exact ih83 (k + 1) (by omega) (by omega) _ _ hP hS _ (lv_sub hl [0, 3, 4, 5, 6] rfl)
                  · skip
                    exact absurd (by rw [e3, e0, e1]; exact add_vx ha hb1 times k) h_18
          exact lp83 (_ + 1) (0) (by omega) (Nat.lt_succ_self _) _ _ hP hS _ (lv_sub hl [0, 3, 4, 2, 1] rfl)
        · skip
          exact absurd h_4 (by omega)
      · skip
        have hc9 := h_3
        refine lv_iload_n hx hb dL_products_70 rfl (lv_at hl 1 rfl) ?_
        refine lv_goto (tgt := 75) hx hb dL_products_71 (by decide) ?_
        refine n_icmp_eq (tgt := 80) hx hb (by omega) (by omega) dL_products_75 (by decide) (fun h_19 => ?_) (fun h_19 => ?_)
        · skip
          refine lv_iconst (v := nI (0)) hx hb dL_products_80 rfl ?_
          refine lv_istore (lv' := [(4, .int (nI (0))), (3, .int (nI ((S.1 1).1))), (2, .int (nI ((S.1 0).1))), (0, .ref (ad (136))), (1, .int (nI (times)))]) hx hb dL_products_81 hl (by decide) rfl (fun ls hl => ?_)
          have lp83 : ∀ (fu : Nat) (k : Nat), (k ≤ 257) → 257 - k < fu → ∀ (H : Heap) (locs : List Loc), aP D cy ad S2 H → va_S (wA 143 ad) s.heap H locs → ∀ (ls : Array Slot), lv_has ls 7 [(4, .int (nI (k))), (0, .ref (ad (136))), (1, .int (nI (times))), (2, .int (nI ((S.1 0).1))), (3, .int (nI ((S.1 1).1)))] → W p l e ({ frames := 6, cells := 0, slots := 0, locals := 131 } : Room) s m ([.ref (ad (136)), .int (nI (times))] : List Value).toArray below meth c H locs 0 0 (MQ below (gQ (wA 143 ad) (fun o H => ∃ S' : kSt, (fun o S' => o = some (.int (nI 1)) ∧ S'.1 0 = S.1 0 ∧ S'.1 1 = S.1 1) o S' ∧ aP D cy ad S' H)) ([.ref (ad (136)), .int (nI (times))] : List Value).toArray s 0 0 (wA 143 ad)) (F0 m 83 ls []) := by
            intro fu
            induction fu with
            | zero => intro k hk hfu; exact absurd hfu (Nat.not_lt_zero _)
            | succ fu ih83 =>
              intro k hk hfu H locs hP hS ls hl
              have hv0 := vx_lt (S2.1 0) k
              have hm := mul_lt_257 hv0 (vx_lt (S2.1 1) k)
              have hm2 := mul_lt_257 ht (vx_lt (S2.1 1) k)
              have hv2 := vx_lt (S2.1 2) k
              have hv3 := vx_lt (S2.1 3) k
              refine lv_iload hx hb dL_products_83 (lv_at hl 0 rfl) ?_
              refine lv_sipush (v := nI (257)) hx hb dL_products_85 rfl ?_
              refine n_icmp_ge (tgt := 167) hx hb (by omega) (by omega) dL_products_88 (by decide) (fun h_20 => ?_) (fun h_20 => ?_)
              · skip
                rcases Nat.eq_zero_or_pos (rD (S.1 0)) with hz0 | hp0
                · skip
                  have hz0' : rD (S2.1 0) = 0 := by rw [e0]; exact hz0
                  refine lv_aload_n hx hb dL_products_167 rfl (lv_at hl 1 rfl) ?_
                  refine lv_iconst (v := nI (0)) hx hb dL_products_168 rfl ?_
                  refine a_callSr (rest := []) (nL := 7) ⟨hx, hb, hml, hown, hts⟩ (a_L_degree0 l D cy ad hI S2 0 (by first | assumption | decide | omega) (by first | assumption | decide | omega)) (va_cwS 2 hts gL_products_L_degree rfl rfl rfl (by decide +kernel) ⟨Nat.le_of_ble_eq_true rfl, Nat.le_of_ble_eq_true rfl⟩) hK hP hS (fun _ h => h) rfl hl.1 rfl (Nat.le_of_ble_eq_true rfl) dL_products_169 ⟨Nat.zero_le _, Nat.zero_le _⟩ (fun H locs hP hS => ?_)
                  have hP : aP D cy ad S2 H := hP
                  refine lv_if_lt (tgt := 183) hx hb dL_products_172 (by decide) (fun h_21 => ?_) (fun h_21 => ?_)
                  · skip
                    refine lv_bipush (v := (-6 : Int32)) hx hb dL_products_183 (by decide) ?_
                    refine lv_goto (tgt := 199) hx hb dL_products_185 (by decide) ?_
                    refine lv_istore (lv' := [(4, .int (-6)), (0, .ref (ad (136))), (1, .int (nI (times))), (2, .int (nI ((S.1 0).1))), (3, .int (nI ((S.1 1).1)))]) hx hb dL_products_199 hl (by decide) rfl (fun ls hl => ?_)
                    refine lv_aload_n hx hb dL_products_201 rfl (lv_at hl 1 rfl) ?_
                    refine lv_iconst (v := nI (2)) hx hb dL_products_202 rfl ?_
                    refine lv_iconst (v := nI (1)) hx hb dL_products_203 rfl ?_
                    refine a_callVr (rest := []) (nL := 7) ⟨hx, hb, hml, hown, hts⟩ (a_of1 l D cy ad hI S2 2 (by first | assumption | decide | omega)) (cwV 2 hts gL_products_X4_of rfl rfl rfl (by decide +kernel) ⟨Nat.le_of_ble_eq_true rfl, Nat.le_of_ble_eq_true rfl⟩) hK hP hS (fun _ h => h) rfl hl.1 rfl (Nat.le_of_ble_eq_true rfl) dL_products_204 ⟨Nat.zero_le _, Nat.zero_le _⟩ (fun H locs hP hS => ?_)
                    have hP : aP D cy ad S2 H := hP
                    refine lv_iload hx hb dL_products_207 (lv_at hl 0 rfl) ?_
                    refine lv_icmp_ne (tgt := 246) hx hb dL_products_209 (by decide) (fun h_22 => ?_) (fun h_22 => ?_)
                    · skip
                      exact absurd (by rw [e2, prod_dg0 ha hb1 hle (Or.inl hz0)]; rfl) h_22
                    · skip
                      refine lv_aload_n hx hb dL_products_212 rfl (lv_at hl 1 rfl) ?_
                      refine lv_iconst (v := nI (1)) hx hb dL_products_213 rfl ?_
                      refine lv_iconst (v := nI (0)) hx hb dL_products_214 rfl ?_
                      refine lv_iconst (v := nI (4)) hx hb dL_products_215 rfl ?_
                      refine a_callV (rest := []) (nL := 7) ⟨hx, hb, hml, hown, hts⟩ (a_product l D cy ad hI S2 1 0 4 (by first | assumption | decide | omega) (by first | assumption | decide | omega) (by first | assumption | decide | omega) (by rw [e0, e1]; omega)) (cwV 3 hts gL_products_X4_product rfl rfl rfl (by decide +kernel) ⟨Nat.le_of_ble_eq_true rfl, Nat.le_of_ble_eq_true rfl⟩) hK hP hS (fun _ h => h) rfl hl.1 rfl (Nat.le_of_ble_eq_true rfl) dL_products_216 ⟨Nat.zero_le _, Nat.zero_le _⟩ (fun o S3 H locs hpost hP hS => ?_)
                      obtain ⟨ho, hS3_a, hS3_b⟩ := hpost
                      subst ho
                      have hP : aP D cy ad S3 H := hP
                      have e4 : S3.1 4 = S3.1 2 := by rw [hS3_a, hS3_b 2 (by decide), e2, e0, e1]; exact prod_comm ha hb1 hle
                      have hs4 := sm_le (S3.1 4).2 (S3.1 4).1 (hP.row 4 (by decide)).2.2.1
                      have hs2 := sm_le (S3.1 2).2 (S3.1 2).1 (hP.row 2 (by decide)).2.2.1
                      have hl4 := (hP.row 4 (by decide)).2.1
                      have hl2 := (hP.row 2 (by decide)).2.1
                      refine n_push (a := (S.1 1).1 + (S.1 0).1 - 1) (by rw [e0, e1]) ?_
                      refine lv_iload_n hx hb dL_products_219 rfl (lv_at hl 3 rfl) ?_
                      refine lv_iload_n hx hb dL_products_220 rfl (lv_at hl 4 rfl) ?_
                      refine n_iadd hx hb dL_products_221 ?_
                      refine lv_iconst (v := nI (1)) hx hb dL_products_222 rfl ?_
                      refine n_isub hx hb (by omega) dL_products_223 ?_
                      refine n_icmp_ne (tgt := 246) hx hb (by omega) (by omega) dL_products_224 (by decide) (fun h_23 => ?_) (fun h_23 => ?_)
                      · skip
                        exact absurd h_23 (by omega)
                      · skip
                        refine lv_aload_n hx hb dL_products_227 rfl (lv_at hl 1 rfl) ?_
                        refine lv_iconst (v := nI (4)) hx hb dL_products_228 rfl ?_
                        refine lv_iconst (v := nI (3)) hx hb dL_products_229 rfl ?_
                        refine a_callVr (rest := []) (nL := 7) ⟨hx, hb, hml, hown, hts⟩ (a_of3 l D cy ad hI S3 4 (by first | assumption | decide | omega)) (cwV 2 hts gL_products_X4_of rfl rfl rfl (by decide +kernel) ⟨Nat.le_of_ble_eq_true rfl, Nat.le_of_ble_eq_true rfl⟩) hK hP hS (fun _ h => h) rfl hl.1 rfl (Nat.le_of_ble_eq_true rfl) dL_products_230 ⟨Nat.zero_le _, Nat.zero_le _⟩ (fun H locs hP hS => ?_)
                        have hP : aP D cy ad S3 H := hP
                        refine lv_aload_n hx hb dL_products_233 rfl (lv_at hl 1 rfl) ?_
                        refine lv_iconst (v := nI (2)) hx hb dL_products_234 rfl ?_
                        refine lv_iconst (v := nI (3)) hx hb dL_products_235 rfl ?_
                        refine a_callVr (rest := [.int (nI (sm (S3.1 4).2 (S3.1 4).1))]) (nL := 7) ⟨hx, hb, hml, hown, hts⟩ (a_of3 l D cy ad hI S3 2 (by first | assumption | decide | omega)) (cwV 2 hts gL_products_X4_of rfl rfl rfl (by decide +kernel) ⟨Nat.le_of_ble_eq_true rfl, Nat.le_of_ble_eq_true rfl⟩) hK hP hS (fun _ h => h) rfl hl.1 rfl (Nat.le_of_ble_eq_true rfl) dL_products_236 ⟨Nat.zero_le _, Nat.zero_le _⟩ (fun H locs hP hS => ?_)
                        have hP : aP D cy ad S3 H := hP
                        refine n_icmp_ne (tgt := 246) hx hb (by omega) (by omega) dL_products_239 (by decide) (fun h_24 => ?_) (fun h_24 => ?_)
                        · skip
                          exact absurd (by rw [e4]) h_24
                        · skip
                          refine lv_iconst (v := nI (1)) hx hb dL_products_242 rfl ?_
                          refine lv_goto (tgt := 247) hx hb dL_products_243 (by decide) ?_
                          refine a_zret hx hb hret hlocks (by rfl) hP hS dL_products_247 ?_
                          exact ⟨rfl, (hS3_b 0 (by decide)).trans e0, (hS3_b 1 (by decide)).trans e1⟩
                  · skip
                    exact absurd (by decide) h_21
                · skip
                  obtain ⟨da, hda⟩ : ∃ d, rD (S.1 0) = d + 1 := ⟨rD (S.1 0) - 1, by omega⟩
                  have hda' : rD (S2.1 0) = da + 1 := by rw [e0]; exact hda
                  have hdal := (rD_le ha).2
                  refine lv_aload_n hx hb dL_products_167 rfl (lv_at hl 1 rfl) ?_
                  refine lv_iconst (v := nI (0)) hx hb dL_products_168 rfl ?_
                  refine a_callSr (rest := []) (nL := 7) ⟨hx, hb, hml, hown, hts⟩ (a_L_degreeS l D cy ad hI S2 0 da (by first | assumption | decide | omega) (by first | assumption | decide | omega)) (va_cwS 2 hts gL_products_L_degree rfl rfl rfl (by decide +kernel) ⟨Nat.le_of_ble_eq_true rfl, Nat.le_of_ble_eq_true rfl⟩) hK hP hS (fun _ h => h) rfl hl.1 rfl (Nat.le_of_ble_eq_true rfl) dL_products_169 ⟨Nat.zero_le _, Nat.zero_le _⟩ (fun H locs hP hS => ?_)
                  have hP : aP D cy ad S2 H := hP
                  refine n_iflt (tgt := 183) hx hb (by omega) dL_products_172 (by decide) ?_
                  rcases Nat.eq_zero_or_pos (rD (S.1 1)) with hz1 | hp1
                  · skip
                    have hz1' : rD (S2.1 1) = 0 := by rw [e1]; exact hz1
                    refine lv_aload_n hx hb dL_products_175 rfl (lv_at hl 1 rfl) ?_
                    refine lv_iconst (v := nI (1)) hx hb dL_products_176 rfl ?_
                    refine a_callSr (rest := []) (nL := 7) ⟨hx, hb, hml, hown, hts⟩ (a_L_degree0 l D cy ad hI S2 1 (by first | assumption | decide | omega) (by first | assumption | decide | omega)) (va_cwS 2 hts gL_products_L_degree rfl rfl rfl (by decide +kernel) ⟨Nat.le_of_ble_eq_true rfl, Nat.le_of_ble_eq_true rfl⟩) hK hP hS (fun _ h => h) rfl hl.1 rfl (Nat.le_of_ble_eq_true rfl) dL_products_177 ⟨Nat.zero_le _, Nat.zero_le _⟩ (fun H locs hP hS => ?_)
                    have hP : aP D cy ad S2 H := hP
                    refine lv_if_ge (tgt := 188) hx hb dL_products_180 (by decide) (fun h_25 => ?_) (fun h_25 => ?_)
                    · skip
                      exact absurd h_25 (by decide)
                    · skip
                      refine lv_bipush (v := (-6 : Int32)) hx hb dL_products_183 (by decide) ?_
                      refine lv_goto (tgt := 199) hx hb dL_products_185 (by decide) ?_
                      refine lv_istore (lv' := [(4, .int (-6)), (0, .ref (ad (136))), (1, .int (nI (times))), (2, .int (nI ((S.1 0).1))), (3, .int (nI ((S.1 1).1)))]) hx hb dL_products_199 hl (by decide) rfl (fun ls hl => ?_)
                      refine lv_aload_n hx hb dL_products_201 rfl (lv_at hl 1 rfl) ?_
                      refine lv_iconst (v := nI (2)) hx hb dL_products_202 rfl ?_
                      refine lv_iconst (v := nI (1)) hx hb dL_products_203 rfl ?_
                      refine a_callVr (rest := []) (nL := 7) ⟨hx, hb, hml, hown, hts⟩ (a_of1 l D cy ad hI S2 2 (by first | assumption | decide | omega)) (cwV 2 hts gL_products_X4_of rfl rfl rfl (by decide +kernel) ⟨Nat.le_of_ble_eq_true rfl, Nat.le_of_ble_eq_true rfl⟩) hK hP hS (fun _ h => h) rfl hl.1 rfl (Nat.le_of_ble_eq_true rfl) dL_products_204 ⟨Nat.zero_le _, Nat.zero_le _⟩ (fun H locs hP hS => ?_)
                      have hP : aP D cy ad S2 H := hP
                      refine lv_iload hx hb dL_products_207 (lv_at hl 0 rfl) ?_
                      refine lv_icmp_ne (tgt := 246) hx hb dL_products_209 (by decide) (fun h_26 => ?_) (fun h_26 => ?_)
                      · skip
                        exact absurd (by rw [e2, prod_dg0 ha hb1 hle (Or.inr hz1)]; rfl) h_26
                      · skip
                        refine lv_aload_n hx hb dL_products_212 rfl (lv_at hl 1 rfl) ?_
                        refine lv_iconst (v := nI (1)) hx hb dL_products_213 rfl ?_
                        refine lv_iconst (v := nI (0)) hx hb dL_products_214 rfl ?_
                        refine lv_iconst (v := nI (4)) hx hb dL_products_215 rfl ?_
                        refine a_callV (rest := []) (nL := 7) ⟨hx, hb, hml, hown, hts⟩ (a_product l D cy ad hI S2 1 0 4 (by first | assumption | decide | omega) (by first | assumption | decide | omega) (by first | assumption | decide | omega) (by rw [e0, e1]; omega)) (cwV 3 hts gL_products_X4_product rfl rfl rfl (by decide +kernel) ⟨Nat.le_of_ble_eq_true rfl, Nat.le_of_ble_eq_true rfl⟩) hK hP hS (fun _ h => h) rfl hl.1 rfl (Nat.le_of_ble_eq_true rfl) dL_products_216 ⟨Nat.zero_le _, Nat.zero_le _⟩ (fun o S3 H locs hpost hP hS => ?_)
                        obtain ⟨ho, hS3_a, hS3_b⟩ := hpost
                        subst ho
                        have hP : aP D cy ad S3 H := hP
                        have e4 : S3.1 4 = S3.1 2 := by rw [hS3_a, hS3_b 2 (by decide), e2, e0, e1]; exact prod_comm ha hb1 hle
                        have hs4 := sm_le (S3.1 4).2 (S3.1 4).1 (hP.row 4 (by decide)).2.2.1
                        have hs2 := sm_le (S3.1 2).2 (S3.1 2).1 (hP.row 2 (by decide)).2.2.1
                        have hl4 := (hP.row 4 (by decide)).2.1
                        have hl2 := (hP.row 2 (by decide)).2.1
                        refine n_push (a := (S.1 1).1 + (S.1 0).1 - 1) (by rw [e0, e1]) ?_
                        refine lv_iload_n hx hb dL_products_219 rfl (lv_at hl 3 rfl) ?_
                        refine lv_iload_n hx hb dL_products_220 rfl (lv_at hl 4 rfl) ?_
                        refine n_iadd hx hb dL_products_221 ?_
                        refine lv_iconst (v := nI (1)) hx hb dL_products_222 rfl ?_
                        refine n_isub hx hb (by omega) dL_products_223 ?_
                        refine n_icmp_ne (tgt := 246) hx hb (by omega) (by omega) dL_products_224 (by decide) (fun h_27 => ?_) (fun h_27 => ?_)
                        · skip
                          exact absurd h_27 (by omega)
                        · skip
                          refine lv_aload_n hx hb dL_products_227 rfl (lv_at hl 1 rfl) ?_
                          refine lv_iconst (v := nI (4)) hx hb dL_products_228 rfl ?_
                          refine lv_iconst (v := nI (3)) hx hb dL_products_229 rfl ?_
                          refine a_callVr (rest := []) (nL := 7) ⟨hx, hb, hml, hown, hts⟩ (a_of3 l D cy ad hI S3 4 (by first | assumption | decide | omega)) (cwV 2 hts gL_products_X4_of rfl rfl rfl (by decide +kernel) ⟨Nat.le_of_ble_eq_true rfl, Nat.le_of_ble_eq_true rfl⟩) hK hP hS (fun _ h => h) rfl hl.1 rfl (Nat.le_of_ble_eq_true rfl) dL_products_230 ⟨Nat.zero_le _, Nat.zero_le _⟩ (fun H locs hP hS => ?_)
                          have hP : aP D cy ad S3 H := hP
                          refine lv_aload_n hx hb dL_products_233 rfl (lv_at hl 1 rfl) ?_
                          refine lv_iconst (v := nI (2)) hx hb dL_products_234 rfl ?_
                          refine lv_iconst (v := nI (3)) hx hb dL_products_235 rfl ?_
                          refine a_callVr (rest := [.int (nI (sm (S3.1 4).2 (S3.1 4).1))]) (nL := 7) ⟨hx, hb, hml, hown, hts⟩ (a_of3 l D cy ad hI S3 2 (by first | assumption | decide | omega)) (cwV 2 hts gL_products_X4_of rfl rfl rfl (by decide +kernel) ⟨Nat.le_of_ble_eq_true rfl, Nat.le_of_ble_eq_true rfl⟩) hK hP hS (fun _ h => h) rfl hl.1 rfl (Nat.le_of_ble_eq_true rfl) dL_products_236 ⟨Nat.zero_le _, Nat.zero_le _⟩ (fun H locs hP hS => ?_)
                          have hP : aP D cy ad S3 H := hP
                          refine n_icmp_ne (tgt := 246) hx hb (by omega) (by omega) dL_products_239 (by decide) (fun h_28 => ?_) (fun h_28 => ?_)
                          · skip
                            exact absurd (by rw [e4]) h_28
                          · skip
                            refine lv_iconst (v := nI (1)) hx hb dL_products_242 rfl ?_
                            refine lv_goto (tgt := 247) hx hb dL_products_243 (by decide) ?_
                            refine a_zret hx hb hret hlocks (by rfl) hP hS dL_products_247 ?_
                            exact ⟨rfl, (hS3_b 0 (by decide)).trans e0, (hS3_b 1 (by decide)).trans e1⟩
                  · skip
                    obtain ⟨db, hdb⟩ : ∃ d, rD (S.1 1) = d + 1 := ⟨rD (S.1 1) - 1, by omega⟩
                    have hdb' : rD (S2.1 1) = db + 1 := by rw [e1]; exact hdb
                    have hdbl := (rD_le hb1).2
                    refine lv_aload_n hx hb dL_products_175 rfl (lv_at hl 1 rfl) ?_
                    refine lv_iconst (v := nI (1)) hx hb dL_products_176 rfl ?_
                    refine a_callSr (rest := []) (nL := 7) ⟨hx, hb, hml, hown, hts⟩ (a_L_degreeS l D cy ad hI S2 1 db (by first | assumption | decide | omega) (by first | assumption | decide | omega)) (va_cwS 2 hts gL_products_L_degree rfl rfl rfl (by decide +kernel) ⟨Nat.le_of_ble_eq_true rfl, Nat.le_of_ble_eq_true rfl⟩) hK hP hS (fun _ h => h) rfl hl.1 rfl (Nat.le_of_ble_eq_true rfl) dL_products_177 ⟨Nat.zero_le _, Nat.zero_le _⟩ (fun H locs hP hS => ?_)
                    have hP : aP D cy ad S2 H := hP
                    refine n_ifge (tgt := 188) hx hb (by omega) dL_products_180 (by decide) ?_
                    refine lv_aload_n hx hb dL_products_188 rfl (lv_at hl 1 rfl) ?_
                    refine lv_iconst (v := nI (0)) hx hb dL_products_189 rfl ?_
                    refine a_callSr (rest := []) (nL := 7) ⟨hx, hb, hml, hown, hts⟩ (a_L_degreeS l D cy ad hI S2 0 da (by first | assumption | decide | omega) (by first | assumption | decide | omega)) (va_cwS 2 hts gL_products_L_degree rfl rfl rfl (by decide +kernel) ⟨Nat.le_of_ble_eq_true rfl, Nat.le_of_ble_eq_true rfl⟩) hK hP hS (fun _ h => h) rfl hl.1 rfl (Nat.le_of_ble_eq_true rfl) dL_products_190 ⟨Nat.zero_le _, Nat.zero_le _⟩ (fun H locs hP hS => ?_)
                    have hP : aP D cy ad S2 H := hP
                    refine lv_aload_n hx hb dL_products_193 rfl (lv_at hl 1 rfl) ?_
                    refine lv_iconst (v := nI (1)) hx hb dL_products_194 rfl ?_
                    refine a_callSr (rest := [.int (nI (da))]) (nL := 7) ⟨hx, hb, hml, hown, hts⟩ (a_L_degreeS l D cy ad hI S2 1 db (by first | assumption | decide | omega) (by first | assumption | decide | omega)) (va_cwS 2 hts gL_products_L_degree rfl rfl rfl (by decide +kernel) ⟨Nat.le_of_ble_eq_true rfl, Nat.le_of_ble_eq_true rfl⟩) hK hP hS (fun _ h => h) rfl hl.1 rfl (Nat.le_of_ble_eq_true rfl) dL_products_195 ⟨Nat.zero_le _, Nat.zero_le _⟩ (fun H locs hP hS => ?_)
                    have hP : aP D cy ad S2 H := hP
                    refine n_iadd hx hb dL_products_198 ?_
                    refine lv_istore (lv' := [(4, .int (nI (da + db))), (0, .ref (ad (136))), (1, .int (nI (times))), (2, .int (nI ((S.1 0).1))), (3, .int (nI ((S.1 1).1)))]) hx hb dL_products_199 hl (by decide) rfl (fun ls hl => ?_)
                    refine lv_aload_n hx hb dL_products_201 rfl (lv_at hl 1 rfl) ?_
                    refine lv_iconst (v := nI (2)) hx hb dL_products_202 rfl ?_
                    refine lv_iconst (v := nI (1)) hx hb dL_products_203 rfl ?_
                    refine a_callVr (rest := []) (nL := 7) ⟨hx, hb, hml, hown, hts⟩ (a_of1 l D cy ad hI S2 2 (by first | assumption | decide | omega)) (cwV 2 hts gL_products_X4_of rfl rfl rfl (by decide +kernel) ⟨Nat.le_of_ble_eq_true rfl, Nat.le_of_ble_eq_true rfl⟩) hK hP hS (fun _ h => h) rfl hl.1 rfl (Nat.le_of_ble_eq_true rfl) dL_products_204 ⟨Nat.zero_le _, Nat.zero_le _⟩ (fun H locs hP hS => ?_)
                    have hP : aP D cy ad S2 H := hP
                    refine lv_iload hx hb dL_products_207 (lv_at hl 0 rfl) ?_
                    refine lv_icmp_ne (tgt := 246) hx hb dL_products_209 (by decide) (fun h_29 => ?_) (fun h_29 => ?_)
                    · skip
                      exact absurd (by rw [e2, prod_dg ha hb1 hle hda hdb, dV_s]) h_29
                    · skip
                      refine lv_aload_n hx hb dL_products_212 rfl (lv_at hl 1 rfl) ?_
                      refine lv_iconst (v := nI (1)) hx hb dL_products_213 rfl ?_
                      refine lv_iconst (v := nI (0)) hx hb dL_products_214 rfl ?_
                      refine lv_iconst (v := nI (4)) hx hb dL_products_215 rfl ?_
                      refine a_callV (rest := []) (nL := 7) ⟨hx, hb, hml, hown, hts⟩ (a_product l D cy ad hI S2 1 0 4 (by first | assumption | decide | omega) (by first | assumption | decide | omega) (by first | assumption | decide | omega) (by rw [e0, e1]; omega)) (cwV 3 hts gL_products_X4_product rfl rfl rfl (by decide +kernel) ⟨Nat.le_of_ble_eq_true rfl, Nat.le_of_ble_eq_true rfl⟩) hK hP hS (fun _ h => h) rfl hl.1 rfl (Nat.le_of_ble_eq_true rfl) dL_products_216 ⟨Nat.zero_le _, Nat.zero_le _⟩ (fun o S3 H locs hpost hP hS => ?_)
                      obtain ⟨ho, hS3_a, hS3_b⟩ := hpost
                      subst ho
                      have hP : aP D cy ad S3 H := hP
                      have e4 : S3.1 4 = S3.1 2 := by rw [hS3_a, hS3_b 2 (by decide), e2, e0, e1]; exact prod_comm ha hb1 hle
                      have hs4 := sm_le (S3.1 4).2 (S3.1 4).1 (hP.row 4 (by decide)).2.2.1
                      have hs2 := sm_le (S3.1 2).2 (S3.1 2).1 (hP.row 2 (by decide)).2.2.1
                      have hl4 := (hP.row 4 (by decide)).2.1
                      have hl2 := (hP.row 2 (by decide)).2.1
                      refine n_push (a := (S.1 1).1 + (S.1 0).1 - 1) (by rw [e0, e1]) ?_
                      refine lv_iload_n hx hb dL_products_219 rfl (lv_at hl 3 rfl) ?_
                      refine lv_iload_n hx hb dL_products_220 rfl (lv_at hl 4 rfl) ?_
                      refine n_iadd hx hb dL_products_221 ?_
                      refine lv_iconst (v := nI (1)) hx hb dL_products_222 rfl ?_
                      refine n_isub hx hb (by omega) dL_products_223 ?_
                      refine n_icmp_ne (tgt := 246) hx hb (by omega) (by omega) dL_products_224 (by decide) (fun h_30 => ?_) (fun h_30 => ?_)
                      · skip
                        exact absurd h_30 (by omega)
                      · skip
                        refine lv_aload_n hx hb dL_products_227 rfl (lv_at hl 1 rfl) ?_
                        refine lv_iconst (v := nI (4)) hx hb dL_products_228 rfl ?_
                        refine lv_iconst (v := nI (3)) hx hb dL_products_229 rfl ?_
                        refine a_callVr (rest := []) (nL := 7) ⟨hx, hb, hml, hown, hts⟩ (a_of3 l D cy ad hI S3 4 (by first | assumption | decide | omega)) (cwV 2 hts gL_products_X4_of rfl rfl rfl (by decide +kernel) ⟨Nat.le_of_ble_eq_true rfl, Nat.le_of_ble_eq_true rfl⟩) hK hP hS (fun _ h => h) rfl hl.1 rfl (Nat.le_of_ble_eq_true rfl) dL_products_230 ⟨Nat.zero_le _, Nat.zero_le _⟩ (fun H locs hP hS => ?_)
                        have hP : aP D cy ad S3 H := hP
                        refine lv_aload_n hx hb dL_products_233 rfl (lv_at hl 1 rfl) ?_
                        refine lv_iconst (v := nI (2)) hx hb dL_products_234 rfl ?_
                        refine lv_iconst (v := nI (3)) hx hb dL_products_235 rfl ?_
                        refine a_callVr (rest := [.int (nI (sm (S3.1 4).2 (S3.1 4).1))]) (nL := 7) ⟨hx, hb, hml, hown, hts⟩ (a_of3 l D cy ad hI S3 2 (by first | assumption | decide | omega)) (cwV 2 hts gL_products_X4_of rfl rfl rfl (by decide +kernel) ⟨Nat.le_of_ble_eq_true rfl, Nat.le_of_ble_eq_true rfl⟩) hK hP hS (fun _ h => h) rfl hl.1 rfl (Nat.le_of_ble_eq_true rfl) dL_products_236 ⟨Nat.zero_le _, Nat.zero_le _⟩ (fun H locs hP hS => ?_)
                        have hP : aP D cy ad S3 H := hP
                        refine n_icmp_ne (tgt := 246) hx hb (by omega) (by omega) dL_products_239 (by decide) (fun h_31 => ?_) (fun h_31 => ?_)
                        · skip
                          exact absurd (by rw [e4]) h_31
                        · skip
                          refine lv_iconst (v := nI (1)) hx hb dL_products_242 rfl ?_
                          refine lv_goto (tgt := 247) hx hb dL_products_243 (by decide) ?_
                          refine a_zret hx hb hret hlocks (by rfl) hP hS dL_products_247 ?_
                          exact ⟨rfl, (hS3_b 0 (by decide)).trans e0, (hS3_b 1 (by decide)).trans e1⟩
              · skip
                refine lv_aload_n hx hb dL_products_91 rfl (lv_at hl 1 rfl) ?_
                refine lv_iconst (v := nI (0)) hx hb dL_products_92 rfl ?_
                refine lv_iload hx hb dL_products_93 (lv_at hl 0 rfl) ?_
                refine a_callVr (rest := []) (nL := 7) ⟨hx, hb, hml, hown, hts⟩ (a_value l D cy ad hI S2 0 k (by first | assumption | decide | omega) (by first | assumption | decide | omega)) (cwV 2 hts gL_products_X4_value rfl rfl rfl (by decide +kernel) ⟨Nat.le_of_ble_eq_true rfl, Nat.le_of_ble_eq_true rfl⟩) hK hP hS (fun _ h => h) rfl hl.1 rfl (Nat.le_of_ble_eq_true rfl) dL_products_95 ⟨Nat.zero_le _, Nat.zero_le _⟩ (fun H locs hP hS => ?_)
                have hP : aP D cy ad S2 H := hP
                refine lv_aload_n hx hb dL_products_98 rfl (lv_at hl 1 rfl) ?_
                refine lv_iconst (v := nI (1)) hx hb dL_products_99 rfl ?_
                refine lv_iload hx hb dL_products_100 (lv_at hl 0 rfl) ?_
                refine a_callVr (rest := [.int (nI (vx (S2.1 0) k))]) (nL := 7) ⟨hx, hb, hml, hown, hts⟩ (a_value l D cy ad hI S2 1 k (by first | assumption | decide | omega) (by first | assumption | decide | omega)) (cwV 2 hts gL_products_X4_value rfl rfl rfl (by decide +kernel) ⟨Nat.le_of_ble_eq_true rfl, Nat.le_of_ble_eq_true rfl⟩) hK hP hS (fun _ h => h) rfl hl.1 rfl (Nat.le_of_ble_eq_true rfl) dL_products_102 ⟨Nat.zero_le _, Nat.zero_le _⟩ (fun H locs hP hS => ?_)
                have hP : aP D cy ad S2 H := hP
                refine n_imul hx hb dL_products_105 ?_
                refine lv_sipush (v := nI (257)) hx hb dL_products_106 rfl ?_
                refine n_irem hx hb (by omega) (by omega) (by omega) dL_products_109  ?_
                refine lv_istore (lv' := [(5, .int (nI (((vx (S2.1 0) k) * (vx (S2.1 1) k)) % 257))), (4, .int (nI (k))), (0, .ref (ad (136))), (1, .int (nI (times))), (2, .int (nI ((S.1 0).1))), (3, .int (nI ((S.1 1).1)))]) hx hb dL_products_110 hl (by decide) rfl (fun ls hl => ?_)
                refine lv_aload_n hx hb dL_products_112 rfl (lv_at hl 2 rfl) ?_
                refine lv_iconst (v := nI (0)) hx hb dL_products_113 rfl ?_
                refine lv_iload hx hb dL_products_114 (lv_at hl 1 rfl) ?_
                refine a_callVr (rest := []) (nL := 7) ⟨hx, hb, hml, hown, hts⟩ (a_value l D cy ad hI S2 0 k (by first | assumption | decide | omega) (by first | assumption | decide | omega)) (cwV 2 hts gL_products_X4_value rfl rfl rfl (by decide +kernel) ⟨Nat.le_of_ble_eq_true rfl, Nat.le_of_ble_eq_true rfl⟩) hK hP hS (fun _ h => h) rfl hl.1 rfl (Nat.le_of_ble_eq_true rfl) dL_products_116 ⟨Nat.zero_le _, Nat.zero_le _⟩ (fun H locs hP hS => ?_)
                have hP : aP D cy ad S2 H := hP
                refine lv_iload_n hx hb dL_products_119 rfl (lv_at hl 3 rfl) ?_
                refine lv_aload_n hx hb dL_products_120 rfl (lv_at hl 2 rfl) ?_
                refine lv_iconst (v := nI (1)) hx hb dL_products_121 rfl ?_
                refine lv_iload hx hb dL_products_122 (lv_at hl 1 rfl) ?_
                refine a_callVr (rest := [.int (nI (times)), .int (nI (vx (S2.1 0) k))]) (nL := 7) ⟨hx, hb, hml, hown, hts⟩ (a_value l D cy ad hI S2 1 k (by first | assumption | decide | omega) (by first | assumption | decide | omega)) (cwV 2 hts gL_products_X4_value rfl rfl rfl (by decide +kernel) ⟨Nat.le_of_ble_eq_true rfl, Nat.le_of_ble_eq_true rfl⟩) hK hP hS (fun _ h => h) rfl hl.1 rfl (Nat.le_of_ble_eq_true rfl) dL_products_124 ⟨Nat.zero_le _, Nat.zero_le _⟩ (fun H locs hP hS => ?_)
                have hP : aP D cy ad S2 H := hP
                refine n_imul hx hb dL_products_127 ?_
                refine n_iadd hx hb dL_products_128 ?_
                refine lv_sipush (v := nI (257)) hx hb dL_products_129 rfl ?_
                refine n_irem hx hb (by omega) (by omega) (by omega) dL_products_132  ?_
                refine lv_istore (lv' := [(6, .int (nI (((vx (S2.1 0) k) + (times * (vx (S2.1 1) k))) % 257))), (5, .int (nI (((vx (S2.1 0) k) * (vx (S2.1 1) k)) % 257))), (4, .int (nI (k))), (0, .ref (ad (136))), (1, .int (nI (times))), (2, .int (nI ((S.1 0).1))), (3, .int (nI ((S.1 1).1)))]) hx hb dL_products_133 hl (by decide) rfl (fun ls hl => ?_)
                refine lv_aload_n hx hb dL_products_135 rfl (lv_at hl 3 rfl) ?_
                refine lv_iconst (v := nI (2)) hx hb dL_products_136 rfl ?_
                refine lv_iload hx hb dL_products_137 (lv_at hl 2 rfl) ?_
                refine a_callVr (rest := []) (nL := 7) ⟨hx, hb, hml, hown, hts⟩ (a_value l D cy ad hI S2 2 k (by first | assumption | decide | omega) (by first | assumption | decide | omega)) (cwV 2 hts gL_products_X4_value rfl rfl rfl (by decide +kernel) ⟨Nat.le_of_ble_eq_true rfl, Nat.le_of_ble_eq_true rfl⟩) hK hP hS (fun _ h => h) rfl hl.1 rfl (Nat.le_of_ble_eq_true rfl) dL_products_139 ⟨Nat.zero_le _, Nat.zero_le _⟩ (fun H locs hP hS => ?_)
                have hP : aP D cy ad S2 H := hP
                refine lv_iload hx hb dL_products_142 (lv_at hl 1 rfl) ?_
                refine n_icmp_ne (tgt := 159) hx hb (by omega) (by omega) dL_products_144 (by decide) (fun h_32 => ?_) (fun h_32 => ?_)
                · skip
                  exact absurd (by rw [e2, e0, e1]; exact prod_vx ha hb1 hle k) h_32
                · skip
                  refine lv_aload_n hx hb dL_products_147 rfl (lv_at hl 3 rfl) ?_
                  refine lv_iconst (v := nI (3)) hx hb dL_products_148 rfl ?_
                  refine lv_iload hx hb dL_products_149 (lv_at hl 2 rfl) ?_
                  refine a_callVr (rest := []) (nL := 7) ⟨hx, hb, hml, hown, hts⟩ (a_value l D cy ad hI S2 3 k (by first | assumption | decide | omega) (by first | assumption | decide | omega)) (cwV 2 hts gL_products_X4_value rfl rfl rfl (by decide +kernel) ⟨Nat.le_of_ble_eq_true rfl, Nat.le_of_ble_eq_true rfl⟩) hK hP hS (fun _ h => h) rfl hl.1 rfl (Nat.le_of_ble_eq_true rfl) dL_products_151 ⟨Nat.zero_le _, Nat.zero_le _⟩ (fun H locs hP hS => ?_)
                  have hP : aP D cy ad S2 H := hP
                  refine lv_iload hx hb dL_products_154 (lv_at hl 0 rfl) ?_
                  refine n_icmp_eq (tgt := 161) hx hb (by omega) (by omega) dL_products_156 (by decide) (fun h_33 => ?_) (fun h_33 => ?_)
                  · skip
                    refine lv_iinc (v := nI (k + 1)) (lv' := [(4, .int (nI (k + 1))), (6, .int (nI (((vx (S2.1 0) k) + (times * (vx (S2.1 1) k))) % 257))), (5, .int (nI (((vx (S2.1 0) k) * (vx (S2.1 1) k)) % 257))), (0, .ref (ad (136))), (1, .int (nI (times))), (2, .int (nI ((S.1 0).1))), (3, .int (nI ((S.1 1).1)))]) hx hb dL_products_161 hl (k := 2) rfl (nI_inc _) (by decide) rfl (fun ls hl => ?_)
                    refine lv_goto (tgt := 83) hx hb dL_products_164 (by decide) ?_
                    exact ih83 (k + 1) (by omega) (by omega) _ _ hP hS _ (lv_sub hl [0, 3, 4, 5, 6] rfl)
                  · skip
                    exact absurd (by rw [e3, e0, e1]; exact add_vx ha hb1 times k) h_33
          exact lp83 (_ + 1) (0) (by omega) (Nat.lt_succ_self _) _ _ hP hS _ (lv_sub hl [0, 3, 4, 2, 1] rfl)
        · skip
          exact absurd h_19 (by omega)
  · skip
    have hgt := h_1
    refine lv_aload_n hx hb dL_products_24 rfl (lv_at hl 2 rfl) ?_
    refine lv_iconst (v := nI (0)) hx hb dL_products_25 rfl ?_
    refine lv_iconst (v := nI (1)) hx hb dL_products_26 rfl ?_
    refine lv_iconst (v := nI (2)) hx hb dL_products_27 rfl ?_
    refine a_callVr (rest := []) (nL := 7) ⟨hx, hb, hml, hown, hts⟩ (a_productL l D cy ad hI S 0 1 2 (by first | assumption | decide | omega) (by first | assumption | decide | omega) (by first | assumption | decide | omega) hgt) (cwV 3 hts gL_products_X4_product rfl rfl rfl (by decide +kernel) ⟨Nat.le_of_ble_eq_true rfl, Nat.le_of_ble_eq_true rfl⟩) hK hP hS (fun _ h => h) rfl hl.1 rfl (Nat.le_of_ble_eq_true rfl) dL_products_28 ⟨Nat.zero_le _, Nat.zero_le _⟩ (fun H locs hP hS => ?_)
    have hP : aP D cy ad S H := hP
    refine lv_bipush (v := (-4 : Int32)) hx hb dL_products_31 (by decide) ?_
    refine lv_icmp_ne (tgt := 40) hx hb dL_products_33 (by decide) (fun h_34 => ?_) (fun h_34 => ?_)
    · skip
      exact absurd rfl h_34
    · skip
      refine lv_iconst (v := nI (1)) hx hb dL_products_36 rfl ?_
      refine lv_goto (tgt := 41) hx hb dL_products_37 (by decide) ?_
      refine a_zret hx hb hret hlocks (by rfl) hP hS dL_products_41 ?_
      exact ⟨rfl, rfl, rfl⟩
set_option maxHeartbeats 4000000 in
set_option maxRecDepth 100000 in
theorem a_L_quotients (l : Launch) (D : va_G) (cy : Nat → ClassId) (ad : Nat → Nat) (hI : wI 143 ad) (S : kSt) : aM l yL_quotients wsL_quotients ({ frames := 6, cells := 0, slots := 0, locals := 144 } : Room) D cy ad S [.ref (ad (136))] (fun o S' => o = some (.int (nI 1)) ∧ S'.1 0 = S.1 0 ∧ S'.1 1 = S.1 1) := by
  refine g_met cL_quotients 6 (some .boolean) (by decide) rfl (Nat.le_of_ble_eq_true rfl) ?_
  intro p e s m below meth c ls hx hb hret hts hown hlocks hml hK hP hS hl
  have hl : lv_has ls 6 [(0, .ref (ad (136)))] := hl
  have hown : s.vm.findClass RL = some m.cls := hown
  have hrow : ∀ r, r < 6 → rO (S.1 r) := hP.row
  have ha := hrow 0 (by decide)
  have hb1 := hrow 1 (by decide)
  have hal := ha.2.1
  have hal1 := ha.1
  have hbl := hb1.2.1
  have hbl1 := hb1.1
  rcases Nat.eq_zero_or_pos (rD (S.1 0)) with hz0 | hp0
  · skip
    refine lv_aload_n hx hb dL_quotients_0 rfl (lv_at hl 0 rfl) ?_
    refine lv_iconst (v := nI (0)) hx hb dL_quotients_1 rfl ?_
    refine a_callSr (rest := []) (nL := 6) ⟨hx, hb, hml, hown, hts⟩ (a_L_degree0 l D cy ad hI S 0 (by first | assumption | decide | omega) (by first | assumption | decide | omega)) (va_cwS 2 hts gL_quotients_L_degree rfl rfl rfl (by decide +kernel) ⟨Nat.le_of_ble_eq_true rfl, Nat.le_of_ble_eq_true rfl⟩) hK hP hS (fun _ h => h) rfl hl.1 rfl (Nat.le_of_ble_eq_true rfl) dL_quotients_2 ⟨Nat.zero_le _, Nat.zero_le _⟩ (fun H locs hP hS => ?_)
    have hP : aP D cy ad S H := hP
    refine lv_istore_n (lv' := [(1, .int (-6)), (0, .ref (ad (136)))]) hx hb dL_quotients_5 rfl hl (by decide) rfl (fun ls hl => ?_)
    rcases Nat.eq_zero_or_pos (rD (S.1 1)) with hz1 | hp1
    · skip
      refine lv_aload_n hx hb dL_quotients_6 rfl (lv_at hl 1 rfl) ?_
      refine lv_iconst (v := nI (1)) hx hb dL_quotients_7 rfl ?_
      refine a_callSr (rest := []) (nL := 6) ⟨hx, hb, hml, hown, hts⟩ (a_L_degree0 l D cy ad hI S 1 (by first | assumption | decide | omega) (by first | assumption | decide | omega)) (va_cwS 2 hts gL_quotients_L_degree rfl rfl rfl (by decide +kernel) ⟨Nat.le_of_ble_eq_true rfl, Nat.le_of_ble_eq_true rfl⟩) hK hP hS (fun _ h => h) rfl hl.1 rfl (Nat.le_of_ble_eq_true rfl) dL_quotients_8 ⟨Nat.zero_le _, Nat.zero_le _⟩ (fun H locs hP hS => ?_)
      have hP : aP D cy ad S H := hP
      refine lv_istore_n (lv' := [(2, .int (-6)), (1, .int (-6)), (0, .ref (ad (136)))]) hx hb dL_quotients_11 rfl hl (by decide) rfl (fun ls hl => ?_)
      refine lv_aload_n hx hb dL_quotients_12 rfl (lv_at hl 2 rfl) ?_
      refine lv_iconst (v := nI (0)) hx hb dL_quotients_13 rfl ?_
      refine lv_iconst (v := nI (1)) hx hb dL_quotients_14 rfl ?_
      refine lv_iconst (v := nI (2)) hx hb dL_quotients_15 rfl ?_
      refine lv_iconst (v := nI (3)) hx hb dL_quotients_16 rfl ?_
      refine a_callVr (rest := []) (nL := 6) ⟨hx, hb, hml, hown, hts⟩ (a_divide0 l D cy ad hI S 0 1 2 3 (by first | assumption | decide | omega) (by first | assumption | decide | omega) (by first | assumption | decide | omega) (by first | assumption | decide | omega) (by first | assumption | decide | omega) hz1) (cwV 4 hts gL_quotients_X4_divide rfl rfl rfl (by decide +kernel) ⟨Nat.le_of_ble_eq_true rfl, Nat.le_of_ble_eq_true rfl⟩) hK hP hS (fun _ h => h) rfl hl.1 rfl (Nat.le_of_ble_eq_true rfl) dL_quotients_17 ⟨Nat.zero_le _, Nat.zero_le _⟩ (fun H locs hP hS => ?_)
      have hP : aP D cy ad S H := hP
      refine lv_istore_n (lv' := [(3, .int (-5)), (2, .int (-6)), (1, .int (-6)), (0, .ref (ad (136)))]) hx hb dL_quotients_20 rfl hl (by decide) rfl (fun ls hl => ?_)
      refine lv_iload_n hx hb dL_quotients_21 rfl (lv_at hl 1 rfl) ?_
      refine lv_if_ge (tgt := 57) hx hb dL_quotients_22 (by decide) (fun h_1 => ?_) (fun h_1 => ?_)
      · skip
        exact absurd h_1 (by decide)
      · skip
        refine lv_iload_n hx hb dL_quotients_25 rfl (lv_at hl 0 rfl) ?_
        refine lv_bipush (v := (-5 : Int32)) hx hb dL_quotients_26 (by decide) ?_
        refine lv_icmp_ne (tgt := 55) hx hb dL_quotients_28 (by decide) (fun h_2 => ?_) (fun h_2 => ?_)
        · skip
          exact absurd rfl h_2
        · skip
          refine lv_aload_n hx hb dL_quotients_31 rfl (lv_at hl 3 rfl) ?_
          refine lv_iconst (v := nI (0)) hx hb dL_quotients_32 rfl ?_
          refine lv_iconst (v := nI (1)) hx hb dL_quotients_33 rfl ?_
          refine lv_iconst (v := nI (4)) hx hb dL_quotients_34 rfl ?_
          refine a_callVr (rest := []) (nL := 6) ⟨hx, hb, hml, hown, hts⟩ (a_divisor0 l D cy ad hI S 0 1 4 (by first | assumption | decide | omega) (by first | assumption | decide | omega) (by first | assumption | decide | omega) ⟨hz0, hz1⟩) (cwV 3 hts gL_quotients_X4_divisor rfl rfl rfl (by decide +kernel) ⟨Nat.le_of_ble_eq_true rfl, Nat.le_of_ble_eq_true rfl⟩) hK hP hS (fun _ h => h) rfl hl.1 rfl (Nat.le_of_ble_eq_true rfl) dL_quotients_35 ⟨Nat.zero_le _, Nat.zero_le _⟩ (fun H locs hP hS => ?_)
          have hP : aP D cy ad S H := hP
          refine lv_iload_n hx hb dL_quotients_38 rfl (lv_at hl 2 rfl) ?_
          refine lv_if_ge (tgt := 47) hx hb dL_quotients_39 (by decide) (fun h_3 => ?_) (fun h_3 => ?_)
          · skip
            exact absurd h_3 (by decide)
          · skip
            refine lv_bipush (v := (-5 : Int32)) hx hb dL_quotients_42 (by decide) ?_
            refine lv_goto (tgt := 48) hx hb dL_quotients_44 (by decide) ?_
            refine lv_icmp_ne (tgt := 55) hx hb dL_quotients_48 (by decide) (fun h_4 => ?_) (fun h_4 => ?_)
            · skip
              exact absurd rfl h_4
            · skip
              refine lv_iconst (v := nI (1)) hx hb dL_quotients_51 rfl ?_
              refine lv_goto (tgt := 56) hx hb dL_quotients_52 (by decide) ?_
              refine a_zret hx hb hret hlocks (by rfl) hP hS dL_quotients_56 ?_
              exact ⟨rfl, rfl, rfl⟩
    · skip
      obtain ⟨db, hdb⟩ : ∃ d, rD (S.1 1) = d + 1 := ⟨rD (S.1 1) - 1, by omega⟩
      have hdbl := (rD_le hb1).2
      refine lv_aload_n hx hb dL_quotients_6 rfl (lv_at hl 1 rfl) ?_
      refine lv_iconst (v := nI (1)) hx hb dL_quotients_7 rfl ?_
      refine a_callSr (rest := []) (nL := 6) ⟨hx, hb, hml, hown, hts⟩ (a_L_degreeS l D cy ad hI S 1 db (by first | assumption | decide | omega) (by first | assumption | decide | omega)) (va_cwS 2 hts gL_quotients_L_degree rfl rfl rfl (by decide +kernel) ⟨Nat.le_of_ble_eq_true rfl, Nat.le_of_ble_eq_true rfl⟩) hK hP hS (fun _ h => h) rfl hl.1 rfl (Nat.le_of_ble_eq_true rfl) dL_quotients_8 ⟨Nat.zero_le _, Nat.zero_le _⟩ (fun H locs hP hS => ?_)
      have hP : aP D cy ad S H := hP
      refine lv_istore_n (lv' := [(2, .int (nI (db))), (1, .int (-6)), (0, .ref (ad (136)))]) hx hb dL_quotients_11 rfl hl (by decide) rfl (fun ls hl => ?_)
      refine lv_aload_n hx hb dL_quotients_12 rfl (lv_at hl 2 rfl) ?_
      refine lv_iconst (v := nI (0)) hx hb dL_quotients_13 rfl ?_
      refine lv_iconst (v := nI (1)) hx hb dL_quotients_14 rfl ?_
      refine lv_iconst (v := nI (2)) hx hb dL_quotients_15 rfl ?_
      refine lv_iconst (v := nI (3)) hx hb dL_quotients_16 rfl ?_
      refine a_callV (rest := []) (nL := 6) ⟨hx, hb, hml, hown, hts⟩ (a_divide l D cy ad hI S 0 1 2 3 (by first | assumption | decide | omega) (by first | assumption | decide | omega) (by first | assumption | decide | omega) (by first | assumption | decide | omega) (by first | assumption | decide | omega) (by omega)) (cwV 4 hts gL_quotients_X4_divide rfl rfl rfl (by decide +kernel) ⟨Nat.le_of_ble_eq_true rfl, Nat.le_of_ble_eq_true rfl⟩) hK hP hS (fun _ h => h) rfl hl.1 rfl (Nat.le_of_ble_eq_true rfl) dL_quotients_17 ⟨Nat.zero_le _, Nat.zero_le _⟩ (fun o S1 H locs hpost hP hS => ?_)
      obtain ⟨ho, hS1_a, hS1_b, hS1_c⟩ := hpost
      subst ho
      have hP : aP D cy ad S1 H := hP
      have e10 : S1.1 0 = S.1 0 := hS1_c 0 (by decide) (by decide)
      have e11 : S1.1 1 = S.1 1 := hS1_c 1 (by decide) (by decide)
      have e12 : S1.1 2 = quo (S.1 0) (S.1 1) := hS1_a
      have e13 : S1.1 3 = res (S.1 0) (S.1 1) := hS1_b
      have el3 : (S1.1 3).1 = max db 1 := by
        rw [e13]
        unfold res
        rw [hdb]
        rfl
      have el2 : (S1.1 2).1 = max (rD (S.1 0) - db) 1 := by
        rw [e12]
        unfold quo
        rw [hdb]
        rfl
      have hrd := res_dg ha hb1 hdb
      refine lv_istore_n (lv' := [(3, .int (dV (rD (res (S.1 0) (S.1 1))))), (2, .int (nI (db))), (1, .int (-6)), (0, .ref (ad (136)))]) hx hb dL_quotients_20 rfl hl (by decide) rfl (fun ls hl => ?_)
      refine lv_iload_n hx hb dL_quotients_21 rfl (lv_at hl 1 rfl) ?_
      refine n_ifge (tgt := 57) hx hb (by omega) dL_quotients_22 (by decide) ?_
      refine lv_iload_n hx hb dL_quotients_57 rfl (lv_at hl 0 rfl) ?_
      refine lv_aload_n hx hb dL_quotients_58 rfl (lv_at hl 3 rfl) ?_
      refine lv_iconst (v := nI (3)) hx hb dL_quotients_59 rfl ?_
      refine a_callSr (rest := [.int (dV (rD (res (S.1 0) (S.1 1))))]) (nL := 6) ⟨hx, hb, hml, hown, hts⟩ (a_L_degree l D cy ad hI S1 3 (by first | assumption | decide | omega)) (va_cwS 2 hts gL_quotients_L_degree rfl rfl rfl (by decide +kernel) ⟨Nat.le_of_ble_eq_true rfl, Nat.le_of_ble_eq_true rfl⟩) hK hP hS (fun _ h => h) rfl hl.1 rfl (Nat.le_of_ble_eq_true rfl) dL_quotients_60 ⟨Nat.zero_le _, Nat.zero_le _⟩ (fun H locs hP hS => ?_)
      have hP : aP D cy ad S1 H := hP
      refine lv_icmp_ne (tgt := 112) hx hb dL_quotients_63 (by decide) (fun h_5 => ?_) (fun h_5 => ?_)
      · skip
        exact absurd (by rw [e13]) h_5
      · skip
        refine lv_iload_n hx hb dL_quotients_66 rfl (lv_at hl 0 rfl) ?_
        refine lv_iload_n hx hb dL_quotients_67 rfl (lv_at hl 1 rfl) ?_
        refine lv_icmp_ge (tgt := 112) hx hb dL_quotients_68 (by decide) (fun h_6 => ?_) (fun h_6 => ?_)
        · skip
          exact absurd h_6 (Int32.not_le.mpr (dV_lt hrd (by omega)))
        · skip
          refine lv_aload_n hx hb dL_quotients_71 rfl (lv_at hl 3 rfl) ?_
          refine lv_iconst (v := nI (3)) hx hb dL_quotients_72 rfl ?_
          refine lv_iconst (v := nI (0)) hx hb dL_quotients_73 rfl ?_
          refine a_callVr (rest := []) (nL := 6) ⟨hx, hb, hml, hown, hts⟩ (a_of0 l D cy ad hI S1 3 (by first | assumption | decide | omega)) (cwV 2 hts gL_quotients_X4_of rfl rfl rfl (by decide +kernel) ⟨Nat.le_of_ble_eq_true rfl, Nat.le_of_ble_eq_true rfl⟩) hK hP hS (fun _ h => h) rfl hl.1 rfl (Nat.le_of_ble_eq_true rfl) dL_quotients_74 ⟨Nat.zero_le _, Nat.zero_le _⟩ (fun H locs hP hS => ?_)
          have hP : aP D cy ad S1 H := hP
          refine lv_iload_n hx hb dL_quotients_77 rfl (lv_at hl 1 rfl) ?_
          refine n_ifne (tgt := 85) hx hb (by omega) dL_quotients_78 (by decide) (fun h_7 => ?_) (fun h_7 => ?_)
          · skip
            have hdb0 := h_7
            refine lv_iload_n hx hb dL_quotients_85 rfl (lv_at hl 1 rfl) ?_
            refine n_icmp_ne (tgt := 112) hx hb (by omega) (by omega) dL_quotients_86 (by decide) (fun h_8 => ?_) (fun h_8 => ?_)
            · skip
              exact absurd h_8 (by omega)
            · skip
              refine lv_aload_n hx hb dL_quotients_89 rfl (lv_at hl 3 rfl) ?_
              refine lv_iconst (v := nI (2)) hx hb dL_quotients_90 rfl ?_
              refine lv_iconst (v := nI (0)) hx hb dL_quotients_91 rfl ?_
              refine a_callVr (rest := []) (nL := 6) ⟨hx, hb, hml, hown, hts⟩ (a_of0 l D cy ad hI S1 2 (by first | assumption | decide | omega)) (cwV 2 hts gL_quotients_X4_of rfl rfl rfl (by decide +kernel) ⟨Nat.le_of_ble_eq_true rfl, Nat.le_of_ble_eq_true rfl⟩) hK hP hS (fun _ h => h) rfl hl.1 rfl (Nat.le_of_ble_eq_true rfl) dL_quotients_92 ⟨Nat.zero_le _, Nat.zero_le _⟩ (fun H locs hP hS => ?_)
              have hP : aP D cy ad S1 H := hP
              refine lv_iload_n hx hb dL_quotients_95 rfl (lv_at hl 2 rfl) ?_
              refine lv_iload_n hx hb dL_quotients_96 rfl (lv_at hl 1 rfl) ?_
              refine lv_icmp_ge (tgt := 104) hx hb dL_quotients_97 (by decide) (fun h_9 => ?_) (fun h_9 => ?_)
              · skip
                exact absurd h_9 (Int32.not_le.mpr (m6_lt (by omega)))
              · skip
                have hge := h_9
                refine lv_iconst (v := nI (1)) hx hb dL_quotients_100 rfl ?_
                refine lv_goto (tgt := 109) hx hb dL_quotients_101 (by decide) ?_
                refine n_icmp_eq (tgt := 114) hx hb (by omega) (by omega) dL_quotients_109 (by decide) (fun h_10 => ?_) (fun h_10 => ?_)
                · skip
                  refine lv_iconst (v := nI (0)) hx hb dL_quotients_114 rfl ?_
                  refine lv_istore (lv' := [(4, .int (nI (0))), (3, .int (dV (rD (res (S.1 0) (S.1 1))))), (2, .int (nI (db))), (1, .int (-6)), (0, .ref (ad (136)))]) hx hb dL_quotients_115 hl (by decide) rfl (fun ls hl => ?_)
                  have lp117 : ∀ (fu : Nat) (k : Nat), (k ≤ 257) → 257 - k < fu → ∀ (H : Heap) (locs : List Loc), aP D cy ad S1 H → va_S (wA 143 ad) s.heap H locs → ∀ (ls : Array Slot), lv_has ls 6 [(4, .int (nI (k))), (0, .ref (ad (136))), (1, .int (-6)), (2, .int (nI (db)))] → W p l e ({ frames := 6, cells := 0, slots := 0, locals := 144 } : Room) s m ([.ref (ad (136))] : List Value).toArray below meth c H locs 0 0 (MQ below (gQ (wA 143 ad) (fun o H => ∃ S' : kSt, (fun o S' => o = some (.int (nI 1)) ∧ S'.1 0 = S.1 0 ∧ S'.1 1 = S.1 1) o S' ∧ aP D cy ad S' H)) ([.ref (ad (136))] : List Value).toArray s 0 0 (wA 143 ad)) (F0 m 117 ls []) := by
                    intro fu
                    induction fu with
                    | zero => intro k hk hfu; exact absurd hfu (Nat.not_lt_zero _)
                    | succ fu ih117 =>
                      intro k hk hfu H locs hP hS ls hl
                      have hv0 := vx_lt (S1.1 0) k
                      have hv3 := vx_lt (S1.1 3) k
                      have hm := mul_lt_257 (vx_lt (S1.1 2) k) (vx_lt (S1.1 1) k)
                      refine lv_iload hx hb dL_quotients_117 (lv_at hl 0 rfl) ?_
                      refine lv_sipush (v := nI (257)) hx hb dL_quotients_119 rfl ?_
                      refine n_icmp_ge (tgt := 170) hx hb (by omega) (by omega) dL_quotients_122 (by decide) (fun h_11 => ?_) (fun h_11 => ?_)
                      · skip
                        refine lv_aload_n hx hb dL_quotients_170 rfl (lv_at hl 1 rfl) ?_
                        refine lv_iconst (v := nI (0)) hx hb dL_quotients_171 rfl ?_
                        refine lv_iconst (v := nI (1)) hx hb dL_quotients_172 rfl ?_
                        refine lv_iconst (v := nI (4)) hx hb dL_quotients_173 rfl ?_
                        refine a_callV (rest := []) (nL := 6) ⟨hx, hb, hml, hown, hts⟩ (a_divisor l D cy ad hI S1 0 1 4 (by first | assumption | decide | omega) (by first | assumption | decide | omega) (by first | assumption | decide | omega) (by rw [e10, e11]; omega)) (cwV 3 hts gL_quotients_X4_divisor rfl rfl rfl (by decide +kernel) ⟨Nat.le_of_ble_eq_true rfl, Nat.le_of_ble_eq_true rfl⟩) hK hP hS (fun _ h => h) rfl hl.1 rfl (Nat.le_of_ble_eq_true rfl) dL_quotients_174 ⟨Nat.zero_le _, Nat.zero_le _⟩ (fun o S2 H locs hpost hP hS => ?_)
                        obtain ⟨ho, hS2_a, hS2_b⟩ := hpost
                        subst ho
                        have hP : aP D cy ad S2 H := hP
                        obtain ⟨g, gD, gL, g1, gle, gla, gO, gra, grb, gres, gcom⟩ := gcd_law ha hb1 hdb
                        have e24 : S2.1 4 = gcdR (S.1 0) (S.1 1) := by rw [hS2_a, e10, e11]
                        have e20 : S2.1 0 = S.1 0 := (hS2_b 0 (by decide)).trans e10
                        have e21 : S2.1 1 = S.1 1 := (hS2_b 1 (by decide)).trans e11
                        have e23 : S2.1 3 = res (S.1 0) (S.1 1) := (hS2_b 3 (by decide)).trans e13
                        have hl24 : (S2.1 4).1 = g + 1 := by rw [e24]; exact gL
                        have hn24 : (S2.1 4).2 g = 1 := by rw [e24]; exact g1
                        refine n_push (a := g) (by rw [e10, e11, gD, dV_s]) ?_
                        refine lv_istore (lv' := [(4, .int (nI (g))), (0, .ref (ad (136))), (1, .int (-6)), (2, .int (nI (db)))]) hx hb dL_quotients_177 hl (by decide) rfl (fun ls hl => ?_)
                        refine lv_iload hx hb dL_quotients_179 (lv_at hl 0 rfl) ?_
                        refine n_iflt (tgt := 228) hx hb (by omega) dL_quotients_181 (by decide) ?_
                        refine lv_iload hx hb dL_quotients_184 (lv_at hl 0 rfl) ?_
                        refine lv_iload_n hx hb dL_quotients_186 rfl (lv_at hl 3 rfl) ?_
                        refine n_icmp_gt (tgt := 228) hx hb (by omega) (by omega) dL_quotients_187 (by decide) (fun h_12 => ?_) (fun h_12 => ?_)
                        · skip
                          exact absurd h_12 (by omega)
                        · skip
                          refine lv_iload_n hx hb dL_quotients_190 rfl (lv_at hl 2 rfl) ?_
                          refine lv_if_lt (tgt := 200) hx hb dL_quotients_191 (by decide) (fun h_13 => ?_) (fun h_13 => ?_)
                          · skip
                            refine lv_aload_n hx hb dL_quotients_200 rfl (lv_at hl 1 rfl) ?_
                            refine lv_iconst (v := nI (4)) hx hb dL_quotients_201 rfl ?_
                            refine lv_iconst (v := nI (0)) hx hb dL_quotients_202 rfl ?_
                            refine a_callVr (rest := []) (nL := 6) ⟨hx, hb, hml, hown, hts⟩ (a_of0 l D cy ad hI S2 4 (by first | assumption | decide | omega)) (cwV 2 hts gL_quotients_X4_of rfl rfl rfl (by decide +kernel) ⟨Nat.le_of_ble_eq_true rfl, Nat.le_of_ble_eq_true rfl⟩) hK hP hS (fun _ h => h) rfl hl.1 rfl (Nat.le_of_ble_eq_true rfl) dL_quotients_203 ⟨Nat.zero_le _, Nat.zero_le _⟩ (fun H locs hP hS => ?_)
                            have hP : aP D cy ad S2 H := hP
                            refine lv_iload hx hb dL_quotients_206 (lv_at hl 0 rfl) ?_
                            refine lv_iconst (v := nI (1)) hx hb dL_quotients_208 rfl ?_
                            refine n_iadd hx hb dL_quotients_209 ?_
                            refine n_icmp_ne (tgt := 228) hx hb (by omega) (by omega) dL_quotients_210 (by decide) (fun h_14 => ?_) (fun h_14 => ?_)
                            · skip
                              exact absurd h_14 (by omega)
                            · skip
                              refine lv_aload_n hx hb dL_quotients_213 rfl (lv_at hl 1 rfl) ?_
                              refine lv_iconst (v := nI (4)) hx hb dL_quotients_214 rfl ?_
                              refine lv_iload hx hb dL_quotients_215 (lv_at hl 0 rfl) ?_
                              refine a_callVr (rest := []) (nL := 6) ⟨hx, hb, hml, hown, hts⟩ (a_number l D cy ad hI S2 4 g (by first | assumption | decide | omega) (by first | assumption | decide | omega)) (cwV 2 hts gL_quotients_X4_number rfl rfl rfl (by decide +kernel) ⟨Nat.le_of_ble_eq_true rfl, Nat.le_of_ble_eq_true rfl⟩) hK hP hS (fun _ h => h) rfl hl.1 rfl (Nat.le_of_ble_eq_true rfl) dL_quotients_217 ⟨Nat.zero_le _, Nat.zero_le _⟩ (fun H locs hP hS => ?_)
                              have hP : aP D cy ad S2 H := hP
                              refine lv_iconst (v := nI (1)) hx hb dL_quotients_220 rfl ?_
                              refine n_icmp_ne (tgt := 228) hx hb (by omega) (by omega) dL_quotients_221 (by decide) (fun h_15 => ?_) (fun h_15 => ?_)
                              · skip
                                exact absurd h_15 (by omega)
                              · skip
                                refine lv_iconst (v := nI (1)) hx hb dL_quotients_224 rfl ?_
                                refine lv_goto (tgt := 229) hx hb dL_quotients_225 (by decide) ?_
                                refine lv_istore (lv' := [(5, .int (nI (1))), (4, .int (nI (g))), (0, .ref (ad (136))), (1, .int (-6)), (2, .int (nI (db)))]) hx hb dL_quotients_229 hl (by decide) rfl (fun ls hl => ?_)
                                refine lv_iload hx hb dL_quotients_231 (lv_at hl 0 rfl) ?_
                                refine n_ifeq (tgt := 266) hx hb (by omega) dL_quotients_233 (by decide) (fun h_16 => absurd h_16 (by decide)) (fun h_16 => ?_)
                                refine lv_aload_n hx hb dL_quotients_236 rfl (lv_at hl 2 rfl) ?_
                                refine lv_iconst (v := nI (0)) hx hb dL_quotients_237 rfl ?_
                                refine lv_iconst (v := nI (4)) hx hb dL_quotients_238 rfl ?_
                                refine lv_iconst (v := nI (2)) hx hb dL_quotients_239 rfl ?_
                                refine lv_iconst (v := nI (5)) hx hb dL_quotients_240 rfl ?_
                                refine a_callV (rest := []) (nL := 6) ⟨hx, hb, hml, hown, hts⟩ (a_divide l D cy ad hI S2 0 4 2 5 (by first | assumption | decide | omega) (by first | assumption | decide | omega) (by first | assumption | decide | omega) (by first | assumption | decide | omega) (by first | assumption | decide | omega) (by rw [e24, gD]; omega)) (cwV 4 hts gL_quotients_X4_divide rfl rfl rfl (by decide +kernel) ⟨Nat.le_of_ble_eq_true rfl, Nat.le_of_ble_eq_true rfl⟩) hK hP hS (fun _ h => h) rfl hl.1 rfl (Nat.le_of_ble_eq_true rfl) dL_quotients_241 ⟨Nat.zero_le _, Nat.zero_le _⟩ (fun o S3 H locs hpost hP hS => ?_)
                                obtain ⟨ho, hS3_a, hS3_b, hS3_c⟩ := hpost
                                subst ho
                                have hP : aP D cy ad S3 H := hP
                                have e30 : S3.1 0 = S.1 0 := (hS3_c 0 (by decide) (by decide)).trans e20
                                have e31 : S3.1 1 = S.1 1 := (hS3_c 1 (by decide) (by decide)).trans e21
                                have e33 : S3.1 3 = res (S.1 0) (S.1 1) := (hS3_c 3 (by decide) (by decide)).trans e23
                                have e34 : S3.1 4 = gcdR (S.1 0) (S.1 1) := (hS3_c 4 (by decide) (by decide)).trans e24
                                refine lv_bipush (v := (-6 : Int32)) hx hb dL_quotients_244 (by decide) ?_
                                refine lv_icmp_ne (tgt := 266) hx hb dL_quotients_246 (by decide) (fun h_17 => ?_) (fun h_17 => ?_)
                                · skip
                                  exact absurd (by rw [e20, e24, gra]; rfl) h_17
                                · skip
                                  refine lv_aload_n hx hb dL_quotients_249 rfl (lv_at hl 2 rfl) ?_
                                  refine lv_iconst (v := nI (1)) hx hb dL_quotients_250 rfl ?_
                                  refine lv_iconst (v := nI (4)) hx hb dL_quotients_251 rfl ?_
                                  refine lv_iconst (v := nI (2)) hx hb dL_quotients_252 rfl ?_
                                  refine lv_iconst (v := nI (5)) hx hb dL_quotients_253 rfl ?_
                                  refine a_callV (rest := []) (nL := 6) ⟨hx, hb, hml, hown, hts⟩ (a_divide l D cy ad hI S3 1 4 2 5 (by first | assumption | decide | omega) (by first | assumption | decide | omega) (by first | assumption | decide | omega) (by first | assumption | decide | omega) (by first | assumption | decide | omega) (by rw [e34, gD]; omega)) (cwV 4 hts gL_quotients_X4_divide rfl rfl rfl (by decide +kernel) ⟨Nat.le_of_ble_eq_true rfl, Nat.le_of_ble_eq_true rfl⟩) hK hP hS (fun _ h => h) rfl hl.1 rfl (Nat.le_of_ble_eq_true rfl) dL_quotients_254 ⟨Nat.zero_le _, Nat.zero_le _⟩ (fun o S4 H locs hpost hP hS => ?_)
                                  obtain ⟨ho, hS4_a, hS4_b, hS4_c⟩ := hpost
                                  subst ho
                                  have hP : aP D cy ad S4 H := hP
                                  have e40 : S4.1 0 = S.1 0 := (hS4_c 0 (by decide) (by decide)).trans e30
                                  have e41 : S4.1 1 = S.1 1 := (hS4_c 1 (by decide) (by decide)).trans e31
                                  have e43 : S4.1 3 = res (S.1 0) (S.1 1) := (hS4_c 3 (by decide) (by decide)).trans e33
                                  have e44 : S4.1 4 = gcdR (S.1 0) (S.1 1) := (hS4_c 4 (by decide) (by decide)).trans e34
                                  refine lv_bipush (v := (-6 : Int32)) hx hb dL_quotients_257 (by decide) ?_
                                  refine lv_icmp_ne (tgt := 266) hx hb dL_quotients_259 (by decide) (fun h_18 => ?_) (fun h_18 => ?_)
                                  · skip
                                    exact absurd (by rw [e31, e34, grb]; rfl) h_18
                                  · skip
                                    refine lv_iconst (v := nI (1)) hx hb dL_quotients_262 rfl ?_
                                    refine lv_goto (tgt := 267) hx hb dL_quotients_263 (by decide) ?_
                                    refine lv_istore (lv' := [(5, .int (nI (1))), (4, .int (nI (g))), (0, .ref (ad (136))), (1, .int (-6)), (2, .int (nI (db)))]) hx hb dL_quotients_267 hl (by decide) rfl (fun ls hl => ?_)
                                    refine lv_iload hx hb dL_quotients_269 (lv_at hl 0 rfl) ?_
                                    refine n_ifeq (tgt := 320) hx hb (by omega) dL_quotients_271 (by decide) (fun h_19 => absurd h_19 (by decide)) (fun h_19 => ?_)
                                    refine lv_aload_n hx hb dL_quotients_274 rfl (lv_at hl 2 rfl) ?_
                                    refine lv_iconst (v := nI (1)) hx hb dL_quotients_275 rfl ?_
                                    refine lv_iconst (v := nI (3)) hx hb dL_quotients_276 rfl ?_
                                    refine lv_iconst (v := nI (5)) hx hb dL_quotients_277 rfl ?_
                                    refine a_callV (rest := []) (nL := 6) ⟨hx, hb, hml, hown, hts⟩ (a_divisor l D cy ad hI S4 1 3 5 (by first | assumption | decide | omega) (by first | assumption | decide | omega) (by first | assumption | decide | omega) (by rw [e41, hdb]; omega)) (cwV 3 hts gL_quotients_X4_divisor rfl rfl rfl (by decide +kernel) ⟨Nat.le_of_ble_eq_true rfl, Nat.le_of_ble_eq_true rfl⟩) hK hP hS (fun _ h => h) rfl hl.1 rfl (Nat.le_of_ble_eq_true rfl) dL_quotients_278 ⟨Nat.zero_le _, Nat.zero_le _⟩ (fun o S5 H locs hpost hP hS => ?_)
                                    obtain ⟨ho, hS5_a, hS5_b⟩ := hpost
                                    subst ho
                                    have hP : aP D cy ad S5 H := hP
                                    have e50 : S5.1 0 = S.1 0 := (hS5_b 0 (by decide)).trans e40
                                    have e51 : S5.1 1 = S.1 1 := (hS5_b 1 (by decide)).trans e41
                                    have e54 : S5.1 4 = gcdR (S.1 0) (S.1 1) := (hS5_b 4 (by decide)).trans e44
                                    have e55 : S5.1 5 = gcdR (S.1 0) (S.1 1) := by rw [hS5_a, e41, e43, gres]
                                    refine lv_iload hx hb dL_quotients_281 (lv_at hl 1 rfl) ?_
                                    refine lv_icmp_ne (tgt := 320) hx hb dL_quotients_283 (by decide) (fun h_20 => ?_) (fun h_20 => ?_)
                                    · skip
                                      exact absurd (by rw [e41, e43, gres, gD, dV_s]) h_20
                                    · skip
                                      refine lv_aload_n hx hb dL_quotients_286 rfl (lv_at hl 2 rfl) ?_
                                      refine lv_iconst (v := nI (4)) hx hb dL_quotients_287 rfl ?_
                                      refine lv_iconst (v := nI (5)) hx hb dL_quotients_288 rfl ?_
                                      refine a_callSr (rest := []) (nL := 6) ⟨hx, hb, hml, hown, hts⟩ (a_L_alike l D cy ad hI S5 4 5 (by first | assumption | decide | omega) (by first | assumption | decide | omega) (by rw [e54, e55])) (va_cwS 3 hts gL_quotients_L_alike rfl rfl rfl (by decide +kernel) ⟨Nat.le_of_ble_eq_true rfl, Nat.le_of_ble_eq_true rfl⟩) hK hP hS (fun _ h => h) rfl hl.1 rfl (Nat.le_of_ble_eq_true rfl) dL_quotients_289 ⟨Nat.zero_le _, Nat.zero_le _⟩ (fun H locs hP hS => ?_)
                                      have hP : aP D cy ad S5 H := hP
                                      refine n_ifeq (tgt := 320) hx hb (by omega) dL_quotients_292 (by decide) (fun h_21 => absurd h_21 (by decide)) (fun h_21 => ?_)
                                      refine lv_aload_n hx hb dL_quotients_295 rfl (lv_at hl 2 rfl) ?_
                                      refine lv_iconst (v := nI (1)) hx hb dL_quotients_296 rfl ?_
                                      refine lv_iconst (v := nI (0)) hx hb dL_quotients_297 rfl ?_
                                      refine lv_iconst (v := nI (5)) hx hb dL_quotients_298 rfl ?_
                                      refine a_callV (rest := []) (nL := 6) ⟨hx, hb, hml, hown, hts⟩ (a_divisor l D cy ad hI S5 1 0 5 (by first | assumption | decide | omega) (by first | assumption | decide | omega) (by first | assumption | decide | omega) (by rw [e51, hdb]; omega)) (cwV 3 hts gL_quotients_X4_divisor rfl rfl rfl (by decide +kernel) ⟨Nat.le_of_ble_eq_true rfl, Nat.le_of_ble_eq_true rfl⟩) hK hP hS (fun _ h => h) rfl hl.1 rfl (Nat.le_of_ble_eq_true rfl) dL_quotients_299 ⟨Nat.zero_le _, Nat.zero_le _⟩ (fun o S6 H locs hpost hP hS => ?_)
                                      obtain ⟨ho, hS6_a, hS6_b⟩ := hpost
                                      subst ho
                                      have hP : aP D cy ad S6 H := hP
                                      have e60 : S6.1 0 = S.1 0 := (hS6_b 0 (by decide)).trans e50
                                      have e61 : S6.1 1 = S.1 1 := (hS6_b 1 (by decide)).trans e51
                                      have e64 : S6.1 4 = gcdR (S.1 0) (S.1 1) := (hS6_b 4 (by decide)).trans e54
                                      have e65 : S6.1 5 = gcdR (S.1 0) (S.1 1) := by rw [hS6_a, e51, e50, gcom]
                                      refine lv_iload hx hb dL_quotients_302 (lv_at hl 1 rfl) ?_
                                      refine lv_icmp_ne (tgt := 320) hx hb dL_quotients_304 (by decide) (fun h_22 => ?_) (fun h_22 => ?_)
                                      · skip
                                        exact absurd (by rw [e51, e50, gcom, gD, dV_s]) h_22
                                      · skip
                                        refine lv_aload_n hx hb dL_quotients_307 rfl (lv_at hl 2 rfl) ?_
                                        refine lv_iconst (v := nI (4)) hx hb dL_quotients_308 rfl ?_
                                        refine lv_iconst (v := nI (5)) hx hb dL_quotients_309 rfl ?_
                                        refine a_callSr (rest := []) (nL := 6) ⟨hx, hb, hml, hown, hts⟩ (a_L_alike l D cy ad hI S6 4 5 (by first | assumption | decide | omega) (by first | assumption | decide | omega) (by rw [e64, e65])) (va_cwS 3 hts gL_quotients_L_alike rfl rfl rfl (by decide +kernel) ⟨Nat.le_of_ble_eq_true rfl, Nat.le_of_ble_eq_true rfl⟩) hK hP hS (fun _ h => h) rfl hl.1 rfl (Nat.le_of_ble_eq_true rfl) dL_quotients_310 ⟨Nat.zero_le _, Nat.zero_le _⟩ (fun H locs hP hS => ?_)
                                        have hP : aP D cy ad S6 H := hP
                                        refine n_ifeq (tgt := 320) hx hb (by omega) dL_quotients_313 (by decide) (fun h_23 => absurd h_23 (by decide)) (fun h_23 => ?_)
                                        refine lv_iconst (v := nI (1)) hx hb dL_quotients_316 rfl ?_
                                        refine lv_goto (tgt := 321) hx hb dL_quotients_317 (by decide) ?_
                                        refine a_zret hx hb hret hlocks (by rfl) hP hS dL_quotients_321 ?_
                                        exact ⟨rfl, e60, e61⟩
                          · skip
                            exact absurd (by decide) h_13
                      · skip
                        refine lv_aload_n hx hb dL_quotients_125 rfl (lv_at hl 1 rfl) ?_
                        refine lv_iconst (v := nI (2)) hx hb dL_quotients_126 rfl ?_
                        refine lv_iload hx hb dL_quotients_127 (lv_at hl 0 rfl) ?_
                        refine a_callVr (rest := []) (nL := 6) ⟨hx, hb, hml, hown, hts⟩ (a_value l D cy ad hI S1 2 k (by first | assumption | decide | omega) (by first | assumption | decide | omega)) (cwV 2 hts gL_quotients_X4_value rfl rfl rfl (by decide +kernel) ⟨Nat.le_of_ble_eq_true rfl, Nat.le_of_ble_eq_true rfl⟩) hK hP hS (fun _ h => h) rfl hl.1 rfl (Nat.le_of_ble_eq_true rfl) dL_quotients_129 ⟨Nat.zero_le _, Nat.zero_le _⟩ (fun H locs hP hS => ?_)
                        have hP : aP D cy ad S1 H := hP
                        refine lv_aload_n hx hb dL_quotients_132 rfl (lv_at hl 1 rfl) ?_
                        refine lv_iconst (v := nI (1)) hx hb dL_quotients_133 rfl ?_
                        refine lv_iload hx hb dL_quotients_134 (lv_at hl 0 rfl) ?_
                        refine a_callVr (rest := [.int (nI (vx (S1.1 2) k))]) (nL := 6) ⟨hx, hb, hml, hown, hts⟩ (a_value l D cy ad hI S1 1 k (by first | assumption | decide | omega) (by first | assumption | decide | omega)) (cwV 2 hts gL_quotients_X4_value rfl rfl rfl (by decide +kernel) ⟨Nat.le_of_ble_eq_true rfl, Nat.le_of_ble_eq_true rfl⟩) hK hP hS (fun _ h => h) rfl hl.1 rfl (Nat.le_of_ble_eq_true rfl) dL_quotients_136 ⟨Nat.zero_le _, Nat.zero_le _⟩ (fun H locs hP hS => ?_)
                        have hP : aP D cy ad S1 H := hP
                        refine n_imul hx hb dL_quotients_139 ?_
                        refine lv_aload_n hx hb dL_quotients_140 rfl (lv_at hl 1 rfl) ?_
                        refine lv_iconst (v := nI (3)) hx hb dL_quotients_141 rfl ?_
                        refine lv_iload hx hb dL_quotients_142 (lv_at hl 0 rfl) ?_
                        refine a_callVr (rest := [.int (nI ((vx (S1.1 2) k) * (vx (S1.1 1) k)))]) (nL := 6) ⟨hx, hb, hml, hown, hts⟩ (a_value l D cy ad hI S1 3 k (by first | assumption | decide | omega) (by first | assumption | decide | omega)) (cwV 2 hts gL_quotients_X4_value rfl rfl rfl (by decide +kernel) ⟨Nat.le_of_ble_eq_true rfl, Nat.le_of_ble_eq_true rfl⟩) hK hP hS (fun _ h => h) rfl hl.1 rfl (Nat.le_of_ble_eq_true rfl) dL_quotients_144 ⟨Nat.zero_le _, Nat.zero_le _⟩ (fun H locs hP hS => ?_)
                        have hP : aP D cy ad S1 H := hP
                        refine n_iadd hx hb dL_quotients_147 ?_
                        refine lv_sipush (v := nI (257)) hx hb dL_quotients_148 rfl ?_
                        refine n_irem hx hb (by omega) (by omega) (by omega) dL_quotients_151  ?_
                        refine lv_aload_n hx hb dL_quotients_152 rfl (lv_at hl 1 rfl) ?_
                        refine lv_iconst (v := nI (0)) hx hb dL_quotients_153 rfl ?_
                        refine lv_iload hx hb dL_quotients_154 (lv_at hl 0 rfl) ?_
                        refine a_callVr (rest := [.int (nI ((((vx (S1.1 2) k) * (vx (S1.1 1) k)) + (vx (S1.1 3) k)) % 257))]) (nL := 6) ⟨hx, hb, hml, hown, hts⟩ (a_value l D cy ad hI S1 0 k (by first | assumption | decide | omega) (by first | assumption | decide | omega)) (cwV 2 hts gL_quotients_X4_value rfl rfl rfl (by decide +kernel) ⟨Nat.le_of_ble_eq_true rfl, Nat.le_of_ble_eq_true rfl⟩) hK hP hS (fun _ h => h) rfl hl.1 rfl (Nat.le_of_ble_eq_true rfl) dL_quotients_156 ⟨Nat.zero_le _, Nat.zero_le _⟩ (fun H locs hP hS => ?_)
                        have hP : aP D cy ad S1 H := hP
                        refine n_icmp_eq (tgt := 164) hx hb (by omega) (by omega) dL_quotients_159 (by decide) (fun h_24 => ?_) (fun h_24 => ?_)
                        · skip
                          refine lv_iinc (v := nI (k + 1)) (lv' := [(4, .int (nI (k + 1))), (0, .ref (ad (136))), (1, .int (-6)), (2, .int (nI (db)))]) hx hb dL_quotients_164 hl (k := 0) rfl (nI_inc _) (by decide) rfl (fun ls hl => ?_)
                          refine lv_goto (tgt := 117) hx hb dL_quotients_167 (by decide) ?_
                          exact ih117 (k + 1) (by omega) (by omega) _ _ hP hS _ hl
                        · skip
                          exact absurd (by rw [e12, e13, e10, e11]; exact div_vx ha hb1 hdb k) h_24
                  exact lp117 (_ + 1) (0) (by omega) (Nat.lt_succ_self _) _ _ hP hS _ (lv_sub hl [0, 4, 3, 2] rfl)
                · skip
                  exact absurd h_10 (by omega)
          · skip
            have hdb0 := h_7
            refine lv_iconst (v := nI (1)) hx hb dL_quotients_81 rfl ?_
            refine lv_goto (tgt := 86) hx hb dL_quotients_82 (by decide) ?_
            refine n_icmp_ne (tgt := 112) hx hb (by omega) (by omega) dL_quotients_86 (by decide) (fun h_25 => ?_) (fun h_25 => ?_)
            · skip
              exact absurd h_25 (by omega)
            · skip
              refine lv_aload_n hx hb dL_quotients_89 rfl (lv_at hl 3 rfl) ?_
              refine lv_iconst (v := nI (2)) hx hb dL_quotients_90 rfl ?_
              refine lv_iconst (v := nI (0)) hx hb dL_quotients_91 rfl ?_
              refine a_callVr (rest := []) (nL := 6) ⟨hx, hb, hml, hown, hts⟩ (a_of0 l D cy ad hI S1 2 (by first | assumption | decide | omega)) (cwV 2 hts gL_quotients_X4_of rfl rfl rfl (by decide +kernel) ⟨Nat.le_of_ble_eq_true rfl, Nat.le_of_ble_eq_true rfl⟩) hK hP hS (fun _ h => h) rfl hl.1 rfl (Nat.le_of_ble_eq_true rfl) dL_quotients_92 ⟨Nat.zero_le _, Nat.zero_le _⟩ (fun H locs hP hS => ?_)
              have hP : aP D cy ad S1 H := hP
              refine lv_iload_n hx hb dL_quotients_95 rfl (lv_at hl 2 rfl) ?_
              refine lv_iload_n hx hb dL_quotients_96 rfl (lv_at hl 1 rfl) ?_
              refine lv_icmp_ge (tgt := 104) hx hb dL_quotients_97 (by decide) (fun h_26 => ?_) (fun h_26 => ?_)
              · skip
                exact absurd h_26 (Int32.not_le.mpr (m6_lt (by omega)))
              · skip
                have hge := h_26
                refine lv_iconst (v := nI (1)) hx hb dL_quotients_100 rfl ?_
                refine lv_goto (tgt := 109) hx hb dL_quotients_101 (by decide) ?_
                refine n_icmp_eq (tgt := 114) hx hb (by omega) (by omega) dL_quotients_109 (by decide) (fun h_27 => ?_) (fun h_27 => ?_)
                · skip
                  refine lv_iconst (v := nI (0)) hx hb dL_quotients_114 rfl ?_
                  refine lv_istore (lv' := [(4, .int (nI (0))), (3, .int (dV (rD (res (S.1 0) (S.1 1))))), (2, .int (nI (db))), (1, .int (-6)), (0, .ref (ad (136)))]) hx hb dL_quotients_115 hl (by decide) rfl (fun ls hl => ?_)
                  have lp117 : ∀ (fu : Nat) (k : Nat), (k ≤ 257) → 257 - k < fu → ∀ (H : Heap) (locs : List Loc), aP D cy ad S1 H → va_S (wA 143 ad) s.heap H locs → ∀ (ls : Array Slot), lv_has ls 6 [(4, .int (nI (k))), (0, .ref (ad (136))), (1, .int (-6)), (2, .int (nI (db)))] → W p l e ({ frames := 6, cells := 0, slots := 0, locals := 144 } : Room) s m ([.ref (ad (136))] : List Value).toArray below meth c H locs 0 0 (MQ below (gQ (wA 143 ad) (fun o H => ∃ S' : kSt, (fun o S' => o = some (.int (nI 1)) ∧ S'.1 0 = S.1 0 ∧ S'.1 1 = S.1 1) o S' ∧ aP D cy ad S' H)) ([.ref (ad (136))] : List Value).toArray s 0 0 (wA 143 ad)) (F0 m 117 ls []) := by
                    intro fu
                    induction fu with
                    | zero => intro k hk hfu; exact absurd hfu (Nat.not_lt_zero _)
                    | succ fu ih117 =>
                      intro k hk hfu H locs hP hS ls hl
                      have hv0 := vx_lt (S1.1 0) k
                      have hv3 := vx_lt (S1.1 3) k
                      have hm := mul_lt_257 (vx_lt (S1.1 2) k) (vx_lt (S1.1 1) k)
                      refine lv_iload hx hb dL_quotients_117 (lv_at hl 0 rfl) ?_
                      refine lv_sipush (v := nI (257)) hx hb dL_quotients_119 rfl ?_
                      refine n_icmp_ge (tgt := 170) hx hb (by omega) (by omega) dL_quotients_122 (by decide) (fun h_28 => ?_) (fun h_28 => ?_)
                      · skip
                        refine lv_aload_n hx hb dL_quotients_170 rfl (lv_at hl 1 rfl) ?_
                        refine lv_iconst (v := nI (0)) hx hb dL_quotients_171 rfl ?_
                        refine lv_iconst (v := nI (1)) hx hb dL_quotients_172 rfl ?_
                        refine lv_iconst (v := nI (4)) hx hb dL_quotients_173 rfl ?_
                        refine a_callV (rest := []) (nL := 6) ⟨hx, hb, hml, hown, hts⟩ (a_divisor l D cy ad hI S1 0 1 4 (by first | assumption | decide | omega) (by first | assumption | decide | omega) (by first | assumption | decide | omega) (by rw [e10, e11]; omega)) (cwV 3 hts gL_quotients_X4_divisor rfl rfl rfl (by decide +kernel) ⟨Nat.le_of_ble_eq_true rfl, Nat.le_of_ble_eq_true rfl⟩) hK hP hS (fun _ h => h) rfl hl.1 rfl (Nat.le_of_ble_eq_true rfl) dL_quotients_174 ⟨Nat.zero_le _, Nat.zero_le _⟩ (fun o S2 H locs hpost hP hS => ?_)
                        obtain ⟨ho, hS2_a, hS2_b⟩ := hpost
                        subst ho
                        have hP : aP D cy ad S2 H := hP
                        obtain ⟨g, gD, gL, g1, gle, gla, gO, gra, grb, gres, gcom⟩ := gcd_law ha hb1 hdb
                        have e24 : S2.1 4 = gcdR (S.1 0) (S.1 1) := by rw [hS2_a, e10, e11]
                        have e20 : S2.1 0 = S.1 0 := (hS2_b 0 (by decide)).trans e10
                        have e21 : S2.1 1 = S.1 1 := (hS2_b 1 (by decide)).trans e11
                        have e23 : S2.1 3 = res (S.1 0) (S.1 1) := (hS2_b 3 (by decide)).trans e13
                        have hl24 : (S2.1 4).1 = g + 1 := by rw [e24]; exact gL
                        have hn24 : (S2.1 4).2 g = 1 := by rw [e24]; exact g1
                        refine n_push (a := g) (by rw [e10, e11, gD, dV_s]) ?_
                        refine lv_istore (lv' := [(4, .int (nI (g))), (0, .ref (ad (136))), (1, .int (-6)), (2, .int (nI (db)))]) hx hb dL_quotients_177 hl (by decide) rfl (fun ls hl => ?_)
                        refine lv_iload hx hb dL_quotients_179 (lv_at hl 0 rfl) ?_
                        refine n_iflt (tgt := 228) hx hb (by omega) dL_quotients_181 (by decide) ?_
                        refine lv_iload hx hb dL_quotients_184 (lv_at hl 0 rfl) ?_
                        refine lv_iload_n hx hb dL_quotients_186 rfl (lv_at hl 3 rfl) ?_
                        refine n_icmp_gt (tgt := 228) hx hb (by omega) (by omega) dL_quotients_187 (by decide) (fun h_29 => ?_) (fun h_29 => ?_)
                        · skip
                          exact absurd h_29 (by omega)
                        · skip
                          refine lv_iload_n hx hb dL_quotients_190 rfl (lv_at hl 2 rfl) ?_
                          refine lv_if_lt (tgt := 200) hx hb dL_quotients_191 (by decide) (fun h_30 => ?_) (fun h_30 => ?_)
                          · skip
                            refine lv_aload_n hx hb dL_quotients_200 rfl (lv_at hl 1 rfl) ?_
                            refine lv_iconst (v := nI (4)) hx hb dL_quotients_201 rfl ?_
                            refine lv_iconst (v := nI (0)) hx hb dL_quotients_202 rfl ?_
                            refine a_callVr (rest := []) (nL := 6) ⟨hx, hb, hml, hown, hts⟩ (a_of0 l D cy ad hI S2 4 (by first | assumption | decide | omega)) (cwV 2 hts gL_quotients_X4_of rfl rfl rfl (by decide +kernel) ⟨Nat.le_of_ble_eq_true rfl, Nat.le_of_ble_eq_true rfl⟩) hK hP hS (fun _ h => h) rfl hl.1 rfl (Nat.le_of_ble_eq_true rfl) dL_quotients_203 ⟨Nat.zero_le _, Nat.zero_le _⟩ (fun H locs hP hS => ?_)
                            have hP : aP D cy ad S2 H := hP
                            refine lv_iload hx hb dL_quotients_206 (lv_at hl 0 rfl) ?_
                            refine lv_iconst (v := nI (1)) hx hb dL_quotients_208 rfl ?_
                            refine n_iadd hx hb dL_quotients_209 ?_
                            refine n_icmp_ne (tgt := 228) hx hb (by omega) (by omega) dL_quotients_210 (by decide) (fun h_31 => ?_) (fun h_31 => ?_)
                            · skip
                              exact absurd h_31 (by omega)
                            · skip
                              refine lv_aload_n hx hb dL_quotients_213 rfl (lv_at hl 1 rfl) ?_
                              refine lv_iconst (v := nI (4)) hx hb dL_quotients_214 rfl ?_
                              refine lv_iload hx hb dL_quotients_215 (lv_at hl 0 rfl) ?_
                              refine a_callVr (rest := []) (nL := 6) ⟨hx, hb, hml, hown, hts⟩ (a_number l D cy ad hI S2 4 g (by first | assumption | decide | omega) (by first | assumption | decide | omega)) (cwV 2 hts gL_quotients_X4_number rfl rfl rfl (by decide +kernel) ⟨Nat.le_of_ble_eq_true rfl, Nat.le_of_ble_eq_true rfl⟩) hK hP hS (fun _ h => h) rfl hl.1 rfl (Nat.le_of_ble_eq_true rfl) dL_quotients_217 ⟨Nat.zero_le _, Nat.zero_le _⟩ (fun H locs hP hS => ?_)
                              have hP : aP D cy ad S2 H := hP
                              refine lv_iconst (v := nI (1)) hx hb dL_quotients_220 rfl ?_
                              refine n_icmp_ne (tgt := 228) hx hb (by omega) (by omega) dL_quotients_221 (by decide) (fun h_32 => ?_) (fun h_32 => ?_)
                              · skip
                                exact absurd h_32 (by omega)
                              · skip
                                refine lv_iconst (v := nI (1)) hx hb dL_quotients_224 rfl ?_
                                refine lv_goto (tgt := 229) hx hb dL_quotients_225 (by decide) ?_
                                refine lv_istore (lv' := [(5, .int (nI (1))), (4, .int (nI (g))), (0, .ref (ad (136))), (1, .int (-6)), (2, .int (nI (db)))]) hx hb dL_quotients_229 hl (by decide) rfl (fun ls hl => ?_)
                                refine lv_iload hx hb dL_quotients_231 (lv_at hl 0 rfl) ?_
                                refine n_ifeq (tgt := 266) hx hb (by omega) dL_quotients_233 (by decide) (fun h_33 => absurd h_33 (by decide)) (fun h_33 => ?_)
                                refine lv_aload_n hx hb dL_quotients_236 rfl (lv_at hl 2 rfl) ?_
                                refine lv_iconst (v := nI (0)) hx hb dL_quotients_237 rfl ?_
                                refine lv_iconst (v := nI (4)) hx hb dL_quotients_238 rfl ?_
                                refine lv_iconst (v := nI (2)) hx hb dL_quotients_239 rfl ?_
                                refine lv_iconst (v := nI (5)) hx hb dL_quotients_240 rfl ?_
                                refine a_callV (rest := []) (nL := 6) ⟨hx, hb, hml, hown, hts⟩ (a_divide l D cy ad hI S2 0 4 2 5 (by first | assumption | decide | omega) (by first | assumption | decide | omega) (by first | assumption | decide | omega) (by first | assumption | decide | omega) (by first | assumption | decide | omega) (by rw [e24, gD]; omega)) (cwV 4 hts gL_quotients_X4_divide rfl rfl rfl (by decide +kernel) ⟨Nat.le_of_ble_eq_true rfl, Nat.le_of_ble_eq_true rfl⟩) hK hP hS (fun _ h => h) rfl hl.1 rfl (Nat.le_of_ble_eq_true rfl) dL_quotients_241 ⟨Nat.zero_le _, Nat.zero_le _⟩ (fun o S3 H locs hpost hP hS => ?_)
                                obtain ⟨ho, hS3_a, hS3_b, hS3_c⟩ := hpost
                                subst ho
                                have hP : aP D cy ad S3 H := hP
                                have e30 : S3.1 0 = S.1 0 := (hS3_c 0 (by decide) (by decide)).trans e20
                                have e31 : S3.1 1 = S.1 1 := (hS3_c 1 (by decide) (by decide)).trans e21
                                have e33 : S3.1 3 = res (S.1 0) (S.1 1) := (hS3_c 3 (by decide) (by decide)).trans e23
                                have e34 : S3.1 4 = gcdR (S.1 0) (S.1 1) := (hS3_c 4 (by decide) (by decide)).trans e24
                                refine lv_bipush (v := (-6 : Int32)) hx hb dL_quotients_244 (by decide) ?_
                                refine lv_icmp_ne (tgt := 266) hx hb dL_quotients_246 (by decide) (fun h_34 => ?_) (fun h_34 => ?_)
                                · skip
                                  exact absurd (by rw [e20, e24, gra]; rfl) h_34
                                · skip
                                  refine lv_aload_n hx hb dL_quotients_249 rfl (lv_at hl 2 rfl) ?_
                                  refine lv_iconst (v := nI (1)) hx hb dL_quotients_250 rfl ?_
                                  refine lv_iconst (v := nI (4)) hx hb dL_quotients_251 rfl ?_
                                  refine lv_iconst (v := nI (2)) hx hb dL_quotients_252 rfl ?_
                                  refine lv_iconst (v := nI (5)) hx hb dL_quotients_253 rfl ?_
                                  refine a_callV (rest := []) (nL := 6) ⟨hx, hb, hml, hown, hts⟩ (a_divide l D cy ad hI S3 1 4 2 5 (by first | assumption | decide | omega) (by first | assumption | decide | omega) (by first | assumption | decide | omega) (by first | assumption | decide | omega) (by first | assumption | decide | omega) (by rw [e34, gD]; omega)) (cwV 4 hts gL_quotients_X4_divide rfl rfl rfl (by decide +kernel) ⟨Nat.le_of_ble_eq_true rfl, Nat.le_of_ble_eq_true rfl⟩) hK hP hS (fun _ h => h) rfl hl.1 rfl (Nat.le_of_ble_eq_true rfl) dL_quotients_254 ⟨Nat.zero_le _, Nat.zero_le _⟩ (fun o S4 H locs hpost hP hS => ?_)
                                  obtain ⟨ho, hS4_a, hS4_b, hS4_c⟩ := hpost
                                  subst ho
                                  have hP : aP D cy ad S4 H := hP
                                  have e40 : S4.1 0 = S.1 0 := (hS4_c 0 (by decide) (by decide)).trans e30
                                  have e41 : S4.1 1 = S.1 1 := (hS4_c 1 (by decide) (by decide)).trans e31
                                  have e43 : S4.1 3 = res (S.1 0) (S.1 1) := (hS4_c 3 (by decide) (by decide)).trans e33
                                  have e44 : S4.1 4 = gcdR (S.1 0) (S.1 1) := (hS4_c 4 (by decide) (by decide)).trans e34
                                  refine lv_bipush (v := (-6 : Int32)) hx hb dL_quotients_257 (by decide) ?_
                                  refine lv_icmp_ne (tgt := 266) hx hb dL_quotients_259 (by decide) (fun h_35 => ?_) (fun h_35 => ?_)
                                  · skip
                                    exact absurd (by rw [e31, e34, grb]; rfl) h_35
                                  · skip
                                    refine lv_iconst (v := nI (1)) hx hb dL_quotients_262 rfl ?_
                                    refine lv_goto (tgt := 267) hx hb dL_quotients_263 (by decide) ?_
                                    refine lv_istore (lv' := [(5, .int (nI (1))), (4, .int (nI (g))), (0, .ref (ad (136))), (1, .int (-6)), (2, .int (nI (db)))]) hx hb dL_quotients_267 hl (by decide) rfl (fun ls hl => ?_)
                                    refine lv_iload hx hb dL_quotients_269 (lv_at hl 0 rfl) ?_
                                    refine n_ifeq (tgt := 320) hx hb (by omega) dL_quotients_271 (by decide) (fun h_36 => absurd h_36 (by decide)) (fun h_36 => ?_)
                                    refine lv_aload_n hx hb dL_quotients_274 rfl (lv_at hl 2 rfl) ?_
                                    refine lv_iconst (v := nI (1)) hx hb dL_quotients_275 rfl ?_
                                    refine lv_iconst (v := nI (3)) hx hb dL_quotients_276 rfl ?_
                                    refine lv_iconst (v := nI (5)) hx hb dL_quotients_277 rfl ?_
                                    refine a_callV (rest := []) (nL := 6) ⟨hx, hb, hml, hown, hts⟩ (a_divisor l D cy ad hI S4 1 3 5 (by first | assumption | decide | omega) (by first | assumption | decide | omega) (by first | assumption | decide | omega) (by rw [e41, hdb]; omega)) (cwV 3 hts gL_quotients_X4_divisor rfl rfl rfl (by decide +kernel) ⟨Nat.le_of_ble_eq_true rfl, Nat.le_of_ble_eq_true rfl⟩) hK hP hS (fun _ h => h) rfl hl.1 rfl (Nat.le_of_ble_eq_true rfl) dL_quotients_278 ⟨Nat.zero_le _, Nat.zero_le _⟩ (fun o S5 H locs hpost hP hS => ?_)
                                    obtain ⟨ho, hS5_a, hS5_b⟩ := hpost
                                    subst ho
                                    have hP : aP D cy ad S5 H := hP
                                    have e50 : S5.1 0 = S.1 0 := (hS5_b 0 (by decide)).trans e40
                                    have e51 : S5.1 1 = S.1 1 := (hS5_b 1 (by decide)).trans e41
                                    have e54 : S5.1 4 = gcdR (S.1 0) (S.1 1) := (hS5_b 4 (by decide)).trans e44
                                    have e55 : S5.1 5 = gcdR (S.1 0) (S.1 1) := by rw [hS5_a, e41, e43, gres]
                                    refine lv_iload hx hb dL_quotients_281 (lv_at hl 1 rfl) ?_
                                    refine lv_icmp_ne (tgt := 320) hx hb dL_quotients_283 (by decide) (fun h_37 => ?_) (fun h_37 => ?_)
                                    · skip
                                      exact absurd (by rw [e41, e43, gres, gD, dV_s]) h_37
                                    · skip
                                      refine lv_aload_n hx hb dL_quotients_286 rfl (lv_at hl 2 rfl) ?_
                                      refine lv_iconst (v := nI (4)) hx hb dL_quotients_287 rfl ?_
                                      refine lv_iconst (v := nI (5)) hx hb dL_quotients_288 rfl ?_
                                      refine a_callSr (rest := []) (nL := 6) ⟨hx, hb, hml, hown, hts⟩ (a_L_alike l D cy ad hI S5 4 5 (by first | assumption | decide | omega) (by first | assumption | decide | omega) (by rw [e54, e55])) (va_cwS 3 hts gL_quotients_L_alike rfl rfl rfl (by decide +kernel) ⟨Nat.le_of_ble_eq_true rfl, Nat.le_of_ble_eq_true rfl⟩) hK hP hS (fun _ h => h) rfl hl.1 rfl (Nat.le_of_ble_eq_true rfl) dL_quotients_289 ⟨Nat.zero_le _, Nat.zero_le _⟩ (fun H locs hP hS => ?_)
                                      have hP : aP D cy ad S5 H := hP
                                      refine n_ifeq (tgt := 320) hx hb (by omega) dL_quotients_292 (by decide) (fun h_38 => absurd h_38 (by decide)) (fun h_38 => ?_)
                                      refine lv_aload_n hx hb dL_quotients_295 rfl (lv_at hl 2 rfl) ?_
                                      refine lv_iconst (v := nI (1)) hx hb dL_quotients_296 rfl ?_
                                      refine lv_iconst (v := nI (0)) hx hb dL_quotients_297 rfl ?_
                                      refine lv_iconst (v := nI (5)) hx hb dL_quotients_298 rfl ?_
                                      refine a_callV (rest := []) (nL := 6) ⟨hx, hb, hml, hown, hts⟩ (a_divisor l D cy ad hI S5 1 0 5 (by first | assumption | decide | omega) (by first | assumption | decide | omega) (by first | assumption | decide | omega) (by rw [e51, hdb]; omega)) (cwV 3 hts gL_quotients_X4_divisor rfl rfl rfl (by decide +kernel) ⟨Nat.le_of_ble_eq_true rfl, Nat.le_of_ble_eq_true rfl⟩) hK hP hS (fun _ h => h) rfl hl.1 rfl (Nat.le_of_ble_eq_true rfl) dL_quotients_299 ⟨Nat.zero_le _, Nat.zero_le _⟩ (fun o S6 H locs hpost hP hS => ?_)
                                      obtain ⟨ho, hS6_a, hS6_b⟩ := hpost
                                      subst ho
                                      have hP : aP D cy ad S6 H := hP
                                      have e60 : S6.1 0 = S.1 0 := (hS6_b 0 (by decide)).trans e50
                                      have e61 : S6.1 1 = S.1 1 := (hS6_b 1 (by decide)).trans e51
                                      have e64 : S6.1 4 = gcdR (S.1 0) (S.1 1) := (hS6_b 4 (by decide)).trans e54
                                      have e65 : S6.1 5 = gcdR (S.1 0) (S.1 1) := by rw [hS6_a, e51, e50, gcom]
                                      refine lv_iload hx hb dL_quotients_302 (lv_at hl 1 rfl) ?_
                                      refine lv_icmp_ne (tgt := 320) hx hb dL_quotients_304 (by decide) (fun h_39 => ?_) (fun h_39 => ?_)
                                      · skip
                                        exact absurd (by rw [e51, e50, gcom, gD, dV_s]) h_39
                                      · skip
                                        refine lv_aload_n hx hb dL_quotients_307 rfl (lv_at hl 2 rfl) ?_
                                        refine lv_iconst (v := nI (4)) hx hb dL_quotients_308 rfl ?_
                                        refine lv_iconst (v := nI (5)) hx hb dL_quotients_309 rfl ?_
                                        refine a_callSr (rest := []) (nL := 6) ⟨hx, hb, hml, hown, hts⟩ (a_L_alike l D cy ad hI S6 4 5 (by first | assumption | decide | omega) (by first | assumption | decide | omega) (by rw [e64, e65])) (va_cwS 3 hts gL_quotients_L_alike rfl rfl rfl (by decide +kernel) ⟨Nat.le_of_ble_eq_true rfl, Nat.le_of_ble_eq_true rfl⟩) hK hP hS (fun _ h => h) rfl hl.1 rfl (Nat.le_of_ble_eq_true rfl) dL_quotients_310 ⟨Nat.zero_le _, Nat.zero_le _⟩ (fun H locs hP hS => ?_)
                                        have hP : aP D cy ad S6 H := hP
                                        refine n_ifeq (tgt := 320) hx hb (by omega) dL_quotients_313 (by decide) (fun h_40 => absurd h_40 (by decide)) (fun h_40 => ?_)
                                        refine lv_iconst (v := nI (1)) hx hb dL_quotients_316 rfl ?_
                                        refine lv_goto (tgt := 321) hx hb dL_quotients_317 (by decide) ?_
                                        refine a_zret hx hb hret hlocks (by rfl) hP hS dL_quotients_321 ?_
                                        exact ⟨rfl, e60, e61⟩
                          · skip
                            exact absurd (by decide) h_30
                      · skip
                        refine lv_aload_n hx hb dL_quotients_125 rfl (lv_at hl 1 rfl) ?_
                        refine lv_iconst (v := nI (2)) hx hb dL_quotients_126 rfl ?_
                        refine lv_iload hx hb dL_quotients_127 (lv_at hl 0 rfl) ?_
                        refine a_callVr (rest := []) (nL := 6) ⟨hx, hb, hml, hown, hts⟩ (a_value l D cy ad hI S1 2 k (by first | assumption | decide | omega) (by first | assumption | decide | omega)) (cwV 2 hts gL_quotients_X4_value rfl rfl rfl (by decide +kernel) ⟨Nat.le_of_ble_eq_true rfl, Nat.le_of_ble_eq_true rfl⟩) hK hP hS (fun _ h => h) rfl hl.1 rfl (Nat.le_of_ble_eq_true rfl) dL_quotients_129 ⟨Nat.zero_le _, Nat.zero_le _⟩ (fun H locs hP hS => ?_)
                        have hP : aP D cy ad S1 H := hP
                        refine lv_aload_n hx hb dL_quotients_132 rfl (lv_at hl 1 rfl) ?_
                        refine lv_iconst (v := nI (1)) hx hb dL_quotients_133 rfl ?_
                        refine lv_iload hx hb dL_quotients_134 (lv_at hl 0 rfl) ?_
                        refine a_callVr (rest := [.int (nI (vx (S1.1 2) k))]) (nL := 6) ⟨hx, hb, hml, hown, hts⟩ (a_value l D cy ad hI S1 1 k (by first | assumption | decide | omega) (by first | assumption | decide | omega)) (cwV 2 hts gL_quotients_X4_value rfl rfl rfl (by decide +kernel) ⟨Nat.le_of_ble_eq_true rfl, Nat.le_of_ble_eq_true rfl⟩) hK hP hS (fun _ h => h) rfl hl.1 rfl (Nat.le_of_ble_eq_true rfl) dL_quotients_136 ⟨Nat.zero_le _, Nat.zero_le _⟩ (fun H locs hP hS => ?_)
                        have hP : aP D cy ad S1 H := hP
                        refine n_imul hx hb dL_quotients_139 ?_
                        refine lv_aload_n hx hb dL_quotients_140 rfl (lv_at hl 1 rfl) ?_
                        refine lv_iconst (v := nI (3)) hx hb dL_quotients_141 rfl ?_
                        refine lv_iload hx hb dL_quotients_142 (lv_at hl 0 rfl) ?_
                        refine a_callVr (rest := [.int (nI ((vx (S1.1 2) k) * (vx (S1.1 1) k)))]) (nL := 6) ⟨hx, hb, hml, hown, hts⟩ (a_value l D cy ad hI S1 3 k (by first | assumption | decide | omega) (by first | assumption | decide | omega)) (cwV 2 hts gL_quotients_X4_value rfl rfl rfl (by decide +kernel) ⟨Nat.le_of_ble_eq_true rfl, Nat.le_of_ble_eq_true rfl⟩) hK hP hS (fun _ h => h) rfl hl.1 rfl (Nat.le_of_ble_eq_true rfl) dL_quotients_144 ⟨Nat.zero_le _, Nat.zero_le _⟩ (fun H locs hP hS => ?_)
                        have hP : aP D cy ad S1 H := hP
                        refine n_iadd hx hb dL_quotients_147 ?_
                        refine lv_sipush (v := nI (257)) hx hb dL_quotients_148 rfl ?_
                        refine n_irem hx hb (by omega) (by omega) (by omega) dL_quotients_151  ?_
                        refine lv_aload_n hx hb dL_quotients_152 rfl (lv_at hl 1 rfl) ?_
                        refine lv_iconst (v := nI (0)) hx hb dL_quotients_153 rfl ?_
                        refine lv_iload hx hb dL_quotients_154 (lv_at hl 0 rfl) ?_
                        refine a_callVr (rest := [.int (nI ((((vx (S1.1 2) k) * (vx (S1.1 1) k)) + (vx (S1.1 3) k)) % 257))]) (nL := 6) ⟨hx, hb, hml, hown, hts⟩ (a_value l D cy ad hI S1 0 k (by first | assumption | decide | omega) (by first | assumption | decide | omega)) (cwV 2 hts gL_quotients_X4_value rfl rfl rfl (by decide +kernel) ⟨Nat.le_of_ble_eq_true rfl, Nat.le_of_ble_eq_true rfl⟩) hK hP hS (fun _ h => h) rfl hl.1 rfl (Nat.le_of_ble_eq_true rfl) dL_quotients_156 ⟨Nat.zero_le _, Nat.zero_le _⟩ (fun H locs hP hS => ?_)
                        have hP : aP D cy ad S1 H := hP
                        refine n_icmp_eq (tgt := 164) hx hb (by omega) (by omega) dL_quotients_159 (by decide) (fun h_41 => ?_) (fun h_41 => ?_)
                        · skip
                          refine lv_iinc (v := nI (k + 1)) (lv' := [(4, .int (nI (k + 1))), (0, .ref (ad (136))), (1, .int (-6)), (2, .int (nI (db)))]) hx hb dL_quotients_164 hl (k := 0) rfl (nI_inc _) (by decide) rfl (fun ls hl => ?_)
                          refine lv_goto (tgt := 117) hx hb dL_quotients_167 (by decide) ?_
                          exact ih117 (k + 1) (by omega) (by omega) _ _ hP hS _ hl
                        · skip
                          exact absurd (by rw [e12, e13, e10, e11]; exact div_vx ha hb1 hdb k) h_41
                  exact lp117 (_ + 1) (0) (by omega) (Nat.lt_succ_self _) _ _ hP hS _ (lv_sub hl [0, 4, 3, 2] rfl)
                · skip
                  exact absurd h_27 (by omega)
  · skip
    obtain ⟨da, hda⟩ : ∃ d, rD (S.1 0) = d + 1 := ⟨rD (S.1 0) - 1, by omega⟩
    have hdal := (rD_le ha).2
    refine lv_aload_n hx hb dL_quotients_0 rfl (lv_at hl 0 rfl) ?_
    refine lv_iconst (v := nI (0)) hx hb dL_quotients_1 rfl ?_
    refine a_callSr (rest := []) (nL := 6) ⟨hx, hb, hml, hown, hts⟩ (a_L_degreeS l D cy ad hI S 0 da (by first | assumption | decide | omega) (by first | assumption | decide | omega)) (va_cwS 2 hts gL_quotients_L_degree rfl rfl rfl (by decide +kernel) ⟨Nat.le_of_ble_eq_true rfl, Nat.le_of_ble_eq_true rfl⟩) hK hP hS (fun _ h => h) rfl hl.1 rfl (Nat.le_of_ble_eq_true rfl) dL_quotients_2 ⟨Nat.zero_le _, Nat.zero_le _⟩ (fun H locs hP hS => ?_)
    have hP : aP D cy ad S H := hP
    refine lv_istore_n (lv' := [(1, .int (nI (da))), (0, .ref (ad (136)))]) hx hb dL_quotients_5 rfl hl (by decide) rfl (fun ls hl => ?_)
    rcases Nat.eq_zero_or_pos (rD (S.1 1)) with hz1 | hp1
    · skip
      refine lv_aload_n hx hb dL_quotients_6 rfl (lv_at hl 1 rfl) ?_
      refine lv_iconst (v := nI (1)) hx hb dL_quotients_7 rfl ?_
      refine a_callSr (rest := []) (nL := 6) ⟨hx, hb, hml, hown, hts⟩ (a_L_degree0 l D cy ad hI S 1 (by first | assumption | decide | omega) (by first | assumption | decide | omega)) (va_cwS 2 hts gL_quotients_L_degree rfl rfl rfl (by decide +kernel) ⟨Nat.le_of_ble_eq_true rfl, Nat.le_of_ble_eq_true rfl⟩) hK hP hS (fun _ h => h) rfl hl.1 rfl (Nat.le_of_ble_eq_true rfl) dL_quotients_8 ⟨Nat.zero_le _, Nat.zero_le _⟩ (fun H locs hP hS => ?_)
      have hP : aP D cy ad S H := hP
      refine lv_istore_n (lv' := [(2, .int (-6)), (1, .int (nI (da))), (0, .ref (ad (136)))]) hx hb dL_quotients_11 rfl hl (by decide) rfl (fun ls hl => ?_)
      refine lv_aload_n hx hb dL_quotients_12 rfl (lv_at hl 2 rfl) ?_
      refine lv_iconst (v := nI (0)) hx hb dL_quotients_13 rfl ?_
      refine lv_iconst (v := nI (1)) hx hb dL_quotients_14 rfl ?_
      refine lv_iconst (v := nI (2)) hx hb dL_quotients_15 rfl ?_
      refine lv_iconst (v := nI (3)) hx hb dL_quotients_16 rfl ?_
      refine a_callVr (rest := []) (nL := 6) ⟨hx, hb, hml, hown, hts⟩ (a_divide0 l D cy ad hI S 0 1 2 3 (by first | assumption | decide | omega) (by first | assumption | decide | omega) (by first | assumption | decide | omega) (by first | assumption | decide | omega) (by first | assumption | decide | omega) hz1) (cwV 4 hts gL_quotients_X4_divide rfl rfl rfl (by decide +kernel) ⟨Nat.le_of_ble_eq_true rfl, Nat.le_of_ble_eq_true rfl⟩) hK hP hS (fun _ h => h) rfl hl.1 rfl (Nat.le_of_ble_eq_true rfl) dL_quotients_17 ⟨Nat.zero_le _, Nat.zero_le _⟩ (fun H locs hP hS => ?_)
      have hP : aP D cy ad S H := hP
      refine lv_istore_n (lv' := [(3, .int (-5)), (2, .int (-6)), (1, .int (nI (da))), (0, .ref (ad (136)))]) hx hb dL_quotients_20 rfl hl (by decide) rfl (fun ls hl => ?_)
      refine lv_iload_n hx hb dL_quotients_21 rfl (lv_at hl 1 rfl) ?_
      refine lv_if_ge (tgt := 57) hx hb dL_quotients_22 (by decide) (fun h_42 => ?_) (fun h_42 => ?_)
      · skip
        exact absurd h_42 (by decide)
      · skip
        refine lv_iload_n hx hb dL_quotients_25 rfl (lv_at hl 0 rfl) ?_
        refine lv_bipush (v := (-5 : Int32)) hx hb dL_quotients_26 (by decide) ?_
        refine lv_icmp_ne (tgt := 55) hx hb dL_quotients_28 (by decide) (fun h_43 => ?_) (fun h_43 => ?_)
        · skip
          exact absurd rfl h_43
        · skip
          refine lv_aload_n hx hb dL_quotients_31 rfl (lv_at hl 3 rfl) ?_
          refine lv_iconst (v := nI (0)) hx hb dL_quotients_32 rfl ?_
          refine lv_iconst (v := nI (1)) hx hb dL_quotients_33 rfl ?_
          refine lv_iconst (v := nI (4)) hx hb dL_quotients_34 rfl ?_
          refine a_callV (rest := []) (nL := 6) ⟨hx, hb, hml, hown, hts⟩ (a_divisor l D cy ad hI S 0 1 4 (by first | assumption | decide | omega) (by first | assumption | decide | omega) (by first | assumption | decide | omega) (by omega)) (cwV 3 hts gL_quotients_X4_divisor rfl rfl rfl (by decide +kernel) ⟨Nat.le_of_ble_eq_true rfl, Nat.le_of_ble_eq_true rfl⟩) hK hP hS (fun _ h => h) rfl hl.1 rfl (Nat.le_of_ble_eq_true rfl) dL_quotients_35 ⟨Nat.zero_le _, Nat.zero_le _⟩ (fun o S1 H locs hpost hP hS => ?_)
          obtain ⟨ho, hS1_a, hS1_b⟩ := hpost
          subst ho
          have hP : aP D cy ad S1 H := hP
          refine lv_iload_n hx hb dL_quotients_38 rfl (lv_at hl 2 rfl) ?_
          refine n_ifge (tgt := 47) hx hb (by omega) dL_quotients_39 (by decide) ?_
          refine lv_iload_n hx hb dL_quotients_47 rfl (lv_at hl 2 rfl) ?_
          refine lv_icmp_ne (tgt := 55) hx hb dL_quotients_48 (by decide) (fun h_44 => ?_) (fun h_44 => ?_)
          · skip
            exact absurd (by rw [gcd_zero ha hb1 hda hz1, dV_s]) h_44
          · skip
            refine lv_iconst (v := nI (1)) hx hb dL_quotients_51 rfl ?_
            refine lv_goto (tgt := 56) hx hb dL_quotients_52 (by decide) ?_
            refine a_zret hx hb hret hlocks (by rfl) hP hS dL_quotients_56 ?_
            exact ⟨rfl, hS1_b 0 (by decide), hS1_b 1 (by decide)⟩
    · skip
      obtain ⟨db, hdb⟩ : ∃ d, rD (S.1 1) = d + 1 := ⟨rD (S.1 1) - 1, by omega⟩
      have hdbl := (rD_le hb1).2
      refine lv_aload_n hx hb dL_quotients_6 rfl (lv_at hl 1 rfl) ?_
      refine lv_iconst (v := nI (1)) hx hb dL_quotients_7 rfl ?_
      refine a_callSr (rest := []) (nL := 6) ⟨hx, hb, hml, hown, hts⟩ (a_L_degreeS l D cy ad hI S 1 db (by first | assumption | decide | omega) (by first | assumption | decide | omega)) (va_cwS 2 hts gL_quotients_L_degree rfl rfl rfl (by decide +kernel) ⟨Nat.le_of_ble_eq_true rfl, Nat.le_of_ble_eq_true rfl⟩) hK hP hS (fun _ h => h) rfl hl.1 rfl (Nat.le_of_ble_eq_true rfl) dL_quotients_8 ⟨Nat.zero_le _, Nat.zero_le _⟩ (fun H locs hP hS => ?_)
      have hP : aP D cy ad S H := hP
      refine lv_istore_n (lv' := [(2, .int (nI (db))), (1, .int (nI (da))), (0, .ref (ad (136)))]) hx hb dL_quotients_11 rfl hl (by decide) rfl (fun ls hl => ?_)
      refine lv_aload_n hx hb dL_quotients_12 rfl (lv_at hl 2 rfl) ?_
      refine lv_iconst (v := nI (0)) hx hb dL_quotients_13 rfl ?_
      refine lv_iconst (v := nI (1)) hx hb dL_quotients_14 rfl ?_
      refine lv_iconst (v := nI (2)) hx hb dL_quotients_15 rfl ?_
      refine lv_iconst (v := nI (3)) hx hb dL_quotients_16 rfl ?_
      refine a_callV (rest := []) (nL := 6) ⟨hx, hb, hml, hown, hts⟩ (a_divide l D cy ad hI S 0 1 2 3 (by first | assumption | decide | omega) (by first | assumption | decide | omega) (by first | assumption | decide | omega) (by first | assumption | decide | omega) (by first | assumption | decide | omega) (by omega)) (cwV 4 hts gL_quotients_X4_divide rfl rfl rfl (by decide +kernel) ⟨Nat.le_of_ble_eq_true rfl, Nat.le_of_ble_eq_true rfl⟩) hK hP hS (fun _ h => h) rfl hl.1 rfl (Nat.le_of_ble_eq_true rfl) dL_quotients_17 ⟨Nat.zero_le _, Nat.zero_le _⟩ (fun o S1 H locs hpost hP hS => ?_)
      obtain ⟨ho, hS1_a, hS1_b, hS1_c⟩ := hpost
      subst ho
      have hP : aP D cy ad S1 H := hP
      have e10 : S1.1 0 = S.1 0 := hS1_c 0 (by decide) (by decide)
      have e11 : S1.1 1 = S.1 1 := hS1_c 1 (by decide) (by decide)
      have e12 : S1.1 2 = quo (S.1 0) (S.1 1) := hS1_a
      have e13 : S1.1 3 = res (S.1 0) (S.1 1) := hS1_b
      have el3 : (S1.1 3).1 = max db 1 := by
        rw [e13]
        unfold res
        rw [hdb]
        rfl
      have el2 : (S1.1 2).1 = max (rD (S.1 0) - db) 1 := by
        rw [e12]
        unfold quo
        rw [hdb]
        rfl
      have hrd := res_dg ha hb1 hdb
      refine lv_istore_n (lv' := [(3, .int (dV (rD (res (S.1 0) (S.1 1))))), (2, .int (nI (db))), (1, .int (nI (da))), (0, .ref (ad (136)))]) hx hb dL_quotients_20 rfl hl (by decide) rfl (fun ls hl => ?_)
      refine lv_iload_n hx hb dL_quotients_21 rfl (lv_at hl 1 rfl) ?_
      refine n_ifge (tgt := 57) hx hb (by omega) dL_quotients_22 (by decide) ?_
      refine lv_iload_n hx hb dL_quotients_57 rfl (lv_at hl 0 rfl) ?_
      refine lv_aload_n hx hb dL_quotients_58 rfl (lv_at hl 3 rfl) ?_
      refine lv_iconst (v := nI (3)) hx hb dL_quotients_59 rfl ?_
      refine a_callSr (rest := [.int (dV (rD (res (S.1 0) (S.1 1))))]) (nL := 6) ⟨hx, hb, hml, hown, hts⟩ (a_L_degree l D cy ad hI S1 3 (by first | assumption | decide | omega)) (va_cwS 2 hts gL_quotients_L_degree rfl rfl rfl (by decide +kernel) ⟨Nat.le_of_ble_eq_true rfl, Nat.le_of_ble_eq_true rfl⟩) hK hP hS (fun _ h => h) rfl hl.1 rfl (Nat.le_of_ble_eq_true rfl) dL_quotients_60 ⟨Nat.zero_le _, Nat.zero_le _⟩ (fun H locs hP hS => ?_)
      have hP : aP D cy ad S1 H := hP
      refine lv_icmp_ne (tgt := 112) hx hb dL_quotients_63 (by decide) (fun h_45 => ?_) (fun h_45 => ?_)
      · skip
        exact absurd (by rw [e13]) h_45
      · skip
        refine lv_iload_n hx hb dL_quotients_66 rfl (lv_at hl 0 rfl) ?_
        refine lv_iload_n hx hb dL_quotients_67 rfl (lv_at hl 1 rfl) ?_
        refine lv_icmp_ge (tgt := 112) hx hb dL_quotients_68 (by decide) (fun h_46 => ?_) (fun h_46 => ?_)
        · skip
          exact absurd h_46 (Int32.not_le.mpr (dV_lt hrd (by omega)))
        · skip
          refine lv_aload_n hx hb dL_quotients_71 rfl (lv_at hl 3 rfl) ?_
          refine lv_iconst (v := nI (3)) hx hb dL_quotients_72 rfl ?_
          refine lv_iconst (v := nI (0)) hx hb dL_quotients_73 rfl ?_
          refine a_callVr (rest := []) (nL := 6) ⟨hx, hb, hml, hown, hts⟩ (a_of0 l D cy ad hI S1 3 (by first | assumption | decide | omega)) (cwV 2 hts gL_quotients_X4_of rfl rfl rfl (by decide +kernel) ⟨Nat.le_of_ble_eq_true rfl, Nat.le_of_ble_eq_true rfl⟩) hK hP hS (fun _ h => h) rfl hl.1 rfl (Nat.le_of_ble_eq_true rfl) dL_quotients_74 ⟨Nat.zero_le _, Nat.zero_le _⟩ (fun H locs hP hS => ?_)
          have hP : aP D cy ad S1 H := hP
          refine lv_iload_n hx hb dL_quotients_77 rfl (lv_at hl 1 rfl) ?_
          refine n_ifne (tgt := 85) hx hb (by omega) dL_quotients_78 (by decide) (fun h_47 => ?_) (fun h_47 => ?_)
          · skip
            have hdb0 := h_47
            refine lv_iload_n hx hb dL_quotients_85 rfl (lv_at hl 1 rfl) ?_
            refine n_icmp_ne (tgt := 112) hx hb (by omega) (by omega) dL_quotients_86 (by decide) (fun h_48 => ?_) (fun h_48 => ?_)
            · skip
              exact absurd h_48 (by omega)
            · skip
              refine lv_aload_n hx hb dL_quotients_89 rfl (lv_at hl 3 rfl) ?_
              refine lv_iconst (v := nI (2)) hx hb dL_quotients_90 rfl ?_
              refine lv_iconst (v := nI (0)) hx hb dL_quotients_91 rfl ?_
              refine a_callVr (rest := []) (nL := 6) ⟨hx, hb, hml, hown, hts⟩ (a_of0 l D cy ad hI S1 2 (by first | assumption | decide | omega)) (cwV 2 hts gL_quotients_X4_of rfl rfl rfl (by decide +kernel) ⟨Nat.le_of_ble_eq_true rfl, Nat.le_of_ble_eq_true rfl⟩) hK hP hS (fun _ h => h) rfl hl.1 rfl (Nat.le_of_ble_eq_true rfl) dL_quotients_92 ⟨Nat.zero_le _, Nat.zero_le _⟩ (fun H locs hP hS => ?_)
              have hP : aP D cy ad S1 H := hP
              refine lv_iload_n hx hb dL_quotients_95 rfl (lv_at hl 2 rfl) ?_
              refine lv_iload_n hx hb dL_quotients_96 rfl (lv_at hl 1 rfl) ?_
              refine n_icmp_ge (tgt := 104) hx hb (by omega) (by omega) dL_quotients_97 (by decide) (fun h_49 => ?_) (fun h_49 => ?_)
              · skip
                have hge := h_49
                refine lv_iload_n hx hb dL_quotients_104 rfl (lv_at hl 2 rfl) ?_
                refine lv_iload_n hx hb dL_quotients_105 rfl (lv_at hl 1 rfl) ?_
                refine n_isub hx hb hge dL_quotients_106 ?_
                refine lv_iconst (v := nI (1)) hx hb dL_quotients_107 rfl ?_
                refine n_iadd hx hb dL_quotients_108 ?_
                refine n_icmp_eq (tgt := 114) hx hb (by omega) (by omega) dL_quotients_109 (by decide) (fun h_50 => ?_) (fun h_50 => ?_)
                · skip
                  refine lv_iconst (v := nI (0)) hx hb dL_quotients_114 rfl ?_
                  refine lv_istore (lv' := [(4, .int (nI (0))), (3, .int (dV (rD (res (S.1 0) (S.1 1))))), (2, .int (nI (db))), (1, .int (nI (da))), (0, .ref (ad (136)))]) hx hb dL_quotients_115 hl (by decide) rfl (fun ls hl => ?_)
                  have lp117 : ∀ (fu : Nat) (k : Nat), (k ≤ 257) → 257 - k < fu → ∀ (H : Heap) (locs : List Loc), aP D cy ad S1 H → va_S (wA 143 ad) s.heap H locs → ∀ (ls : Array Slot), lv_has ls 6 [(4, .int (nI (k))), (0, .ref (ad (136))), (1, .int (nI (da))), (2, .int (nI (db)))] → W p l e ({ frames := 6, cells := 0, slots := 0, locals := 144 } : Room) s m ([.ref (ad (136))] : List Value).toArray below meth c H locs 0 0 (MQ below (gQ (wA 143 ad) (fun o H => ∃ S' : kSt, (fun o S' => o = some (.int (nI 1)) ∧ S'.1 0 = S.1 0 ∧ S'.1 1 = S.1 1) o S' ∧ aP D cy ad S' H)) ([.ref (ad (136))] : List Value).toArray s 0 0 (wA 143 ad)) (F0 m 117 ls []) := by
                    intro fu
                    induction fu with
                    | zero => intro k hk hfu; exact absurd hfu (Nat.not_lt_zero _)
                    | succ fu ih117 =>
                      intro k hk hfu H locs hP hS ls hl
                      have hv0 := vx_lt (S1.1 0) k
                      have hv3 := vx_lt (S1.1 3) k
                      have hm := mul_lt_257 (vx_lt (S1.1 2) k) (vx_lt (S1.1 1) k)
                      refine lv_iload hx hb dL_quotients_117 (lv_at hl 0 rfl) ?_
                      refine lv_sipush (v := nI (257)) hx hb dL_quotients_119 rfl ?_
                      refine n_icmp_ge (tgt := 170) hx hb (by omega) (by omega) dL_quotients_122 (by decide) (fun h_51 => ?_) (fun h_51 => ?_)
                      · skip
                        refine lv_aload_n hx hb dL_quotients_170 rfl (lv_at hl 1 rfl) ?_
                        refine lv_iconst (v := nI (0)) hx hb dL_quotients_171 rfl ?_
                        refine lv_iconst (v := nI (1)) hx hb dL_quotients_172 rfl ?_
                        refine lv_iconst (v := nI (4)) hx hb dL_quotients_173 rfl ?_
                        refine a_callV (rest := []) (nL := 6) ⟨hx, hb, hml, hown, hts⟩ (a_divisor l D cy ad hI S1 0 1 4 (by first | assumption | decide | omega) (by first | assumption | decide | omega) (by first | assumption | decide | omega) (by rw [e10, e11]; omega)) (cwV 3 hts gL_quotients_X4_divisor rfl rfl rfl (by decide +kernel) ⟨Nat.le_of_ble_eq_true rfl, Nat.le_of_ble_eq_true rfl⟩) hK hP hS (fun _ h => h) rfl hl.1 rfl (Nat.le_of_ble_eq_true rfl) dL_quotients_174 ⟨Nat.zero_le _, Nat.zero_le _⟩ (fun o S2 H locs hpost hP hS => ?_)
                        obtain ⟨ho, hS2_a, hS2_b⟩ := hpost
                        subst ho
                        have hP : aP D cy ad S2 H := hP
                        obtain ⟨g, gD, gL, g1, gle, gla, gO, gra, grb, gres, gcom⟩ := gcd_law ha hb1 hdb
                        have e24 : S2.1 4 = gcdR (S.1 0) (S.1 1) := by rw [hS2_a, e10, e11]
                        have e20 : S2.1 0 = S.1 0 := (hS2_b 0 (by decide)).trans e10
                        have e21 : S2.1 1 = S.1 1 := (hS2_b 1 (by decide)).trans e11
                        have e23 : S2.1 3 = res (S.1 0) (S.1 1) := (hS2_b 3 (by decide)).trans e13
                        have hl24 : (S2.1 4).1 = g + 1 := by rw [e24]; exact gL
                        have hn24 : (S2.1 4).2 g = 1 := by rw [e24]; exact g1
                        refine n_push (a := g) (by rw [e10, e11, gD, dV_s]) ?_
                        refine lv_istore (lv' := [(4, .int (nI (g))), (0, .ref (ad (136))), (1, .int (nI (da))), (2, .int (nI (db)))]) hx hb dL_quotients_177 hl (by decide) rfl (fun ls hl => ?_)
                        refine lv_iload hx hb dL_quotients_179 (lv_at hl 0 rfl) ?_
                        refine n_iflt (tgt := 228) hx hb (by omega) dL_quotients_181 (by decide) ?_
                        refine lv_iload hx hb dL_quotients_184 (lv_at hl 0 rfl) ?_
                        refine lv_iload_n hx hb dL_quotients_186 rfl (lv_at hl 3 rfl) ?_
                        refine n_icmp_gt (tgt := 228) hx hb (by omega) (by omega) dL_quotients_187 (by decide) (fun h_52 => ?_) (fun h_52 => ?_)
                        · skip
                          exact absurd h_52 (by omega)
                        · skip
                          refine lv_iload_n hx hb dL_quotients_190 rfl (lv_at hl 2 rfl) ?_
                          refine n_iflt (tgt := 200) hx hb (by omega) dL_quotients_191 (by decide) ?_
                          refine lv_iload hx hb dL_quotients_194 (lv_at hl 0 rfl) ?_
                          refine lv_iload_n hx hb dL_quotients_196 rfl (lv_at hl 2 rfl) ?_
                          refine n_icmp_gt (tgt := 228) hx hb (by omega) (by omega) dL_quotients_197 (by decide) (fun h_53 => ?_) (fun h_53 => ?_)
                          · skip
                            exact absurd (gla da hda) (by omega)
                          · skip
                            refine lv_aload_n hx hb dL_quotients_200 rfl (lv_at hl 1 rfl) ?_
                            refine lv_iconst (v := nI (4)) hx hb dL_quotients_201 rfl ?_
                            refine lv_iconst (v := nI (0)) hx hb dL_quotients_202 rfl ?_
                            refine a_callVr (rest := []) (nL := 6) ⟨hx, hb, hml, hown, hts⟩ (a_of0 l D cy ad hI S2 4 (by first | assumption | decide | omega)) (cwV 2 hts gL_quotients_X4_of rfl rfl rfl (by decide +kernel) ⟨Nat.le_of_ble_eq_true rfl, Nat.le_of_ble_eq_true rfl⟩) hK hP hS (fun _ h => h) rfl hl.1 rfl (Nat.le_of_ble_eq_true rfl) dL_quotients_203 ⟨Nat.zero_le _, Nat.zero_le _⟩ (fun H locs hP hS => ?_)
                            have hP : aP D cy ad S2 H := hP
                            refine lv_iload hx hb dL_quotients_206 (lv_at hl 0 rfl) ?_
                            refine lv_iconst (v := nI (1)) hx hb dL_quotients_208 rfl ?_
                            refine n_iadd hx hb dL_quotients_209 ?_
                            refine n_icmp_ne (tgt := 228) hx hb (by omega) (by omega) dL_quotients_210 (by decide) (fun h_54 => ?_) (fun h_54 => ?_)
                            · skip
                              exact absurd h_54 (by omega)
                            · skip
                              refine lv_aload_n hx hb dL_quotients_213 rfl (lv_at hl 1 rfl) ?_
                              refine lv_iconst (v := nI (4)) hx hb dL_quotients_214 rfl ?_
                              refine lv_iload hx hb dL_quotients_215 (lv_at hl 0 rfl) ?_
                              refine a_callVr (rest := []) (nL := 6) ⟨hx, hb, hml, hown, hts⟩ (a_number l D cy ad hI S2 4 g (by first | assumption | decide | omega) (by first | assumption | decide | omega)) (cwV 2 hts gL_quotients_X4_number rfl rfl rfl (by decide +kernel) ⟨Nat.le_of_ble_eq_true rfl, Nat.le_of_ble_eq_true rfl⟩) hK hP hS (fun _ h => h) rfl hl.1 rfl (Nat.le_of_ble_eq_true rfl) dL_quotients_217 ⟨Nat.zero_le _, Nat.zero_le _⟩ (fun H locs hP hS => ?_)
                              have hP : aP D cy ad S2 H := hP
                              refine lv_iconst (v := nI (1)) hx hb dL_quotients_220 rfl ?_
                              refine n_icmp_ne (tgt := 228) hx hb (by omega) (by omega) dL_quotients_221 (by decide) (fun h_55 => ?_) (fun h_55 => ?_)
                              · skip
                                exact absurd h_55 (by omega)
                              · skip
                                refine lv_iconst (v := nI (1)) hx hb dL_quotients_224 rfl ?_
                                refine lv_goto (tgt := 229) hx hb dL_quotients_225 (by decide) ?_
                                refine lv_istore (lv' := [(5, .int (nI (1))), (4, .int (nI (g))), (0, .ref (ad (136))), (1, .int (nI (da))), (2, .int (nI (db)))]) hx hb dL_quotients_229 hl (by decide) rfl (fun ls hl => ?_)
                                refine lv_iload hx hb dL_quotients_231 (lv_at hl 0 rfl) ?_
                                refine n_ifeq (tgt := 266) hx hb (by omega) dL_quotients_233 (by decide) (fun h_56 => absurd h_56 (by decide)) (fun h_56 => ?_)
                                refine lv_aload_n hx hb dL_quotients_236 rfl (lv_at hl 2 rfl) ?_
                                refine lv_iconst (v := nI (0)) hx hb dL_quotients_237 rfl ?_
                                refine lv_iconst (v := nI (4)) hx hb dL_quotients_238 rfl ?_
                                refine lv_iconst (v := nI (2)) hx hb dL_quotients_239 rfl ?_
                                refine lv_iconst (v := nI (5)) hx hb dL_quotients_240 rfl ?_
                                refine a_callV (rest := []) (nL := 6) ⟨hx, hb, hml, hown, hts⟩ (a_divide l D cy ad hI S2 0 4 2 5 (by first | assumption | decide | omega) (by first | assumption | decide | omega) (by first | assumption | decide | omega) (by first | assumption | decide | omega) (by first | assumption | decide | omega) (by rw [e24, gD]; omega)) (cwV 4 hts gL_quotients_X4_divide rfl rfl rfl (by decide +kernel) ⟨Nat.le_of_ble_eq_true rfl, Nat.le_of_ble_eq_true rfl⟩) hK hP hS (fun _ h => h) rfl hl.1 rfl (Nat.le_of_ble_eq_true rfl) dL_quotients_241 ⟨Nat.zero_le _, Nat.zero_le _⟩ (fun o S3 H locs hpost hP hS => ?_)
                                obtain ⟨ho, hS3_a, hS3_b, hS3_c⟩ := hpost
                                subst ho
                                have hP : aP D cy ad S3 H := hP
                                have e30 : S3.1 0 = S.1 0 := (hS3_c 0 (by decide) (by decide)).trans e20
                                have e31 : S3.1 1 = S.1 1 := (hS3_c 1 (by decide) (by decide)).trans e21
                                have e33 : S3.1 3 = res (S.1 0) (S.1 1) := (hS3_c 3 (by decide) (by decide)).trans e23
                                have e34 : S3.1 4 = gcdR (S.1 0) (S.1 1) := (hS3_c 4 (by decide) (by decide)).trans e24
                                refine lv_bipush (v := (-6 : Int32)) hx hb dL_quotients_244 (by decide) ?_
                                refine lv_icmp_ne (tgt := 266) hx hb dL_quotients_246 (by decide) (fun h_57 => ?_) (fun h_57 => ?_)
                                · skip
                                  exact absurd (by rw [e20, e24, gra]; rfl) h_57
                                · skip
                                  refine lv_aload_n hx hb dL_quotients_249 rfl (lv_at hl 2 rfl) ?_
                                  refine lv_iconst (v := nI (1)) hx hb dL_quotients_250 rfl ?_
                                  refine lv_iconst (v := nI (4)) hx hb dL_quotients_251 rfl ?_
                                  refine lv_iconst (v := nI (2)) hx hb dL_quotients_252 rfl ?_
                                  refine lv_iconst (v := nI (5)) hx hb dL_quotients_253 rfl ?_
                                  refine a_callV (rest := []) (nL := 6) ⟨hx, hb, hml, hown, hts⟩ (a_divide l D cy ad hI S3 1 4 2 5 (by first | assumption | decide | omega) (by first | assumption | decide | omega) (by first | assumption | decide | omega) (by first | assumption | decide | omega) (by first | assumption | decide | omega) (by rw [e34, gD]; omega)) (cwV 4 hts gL_quotients_X4_divide rfl rfl rfl (by decide +kernel) ⟨Nat.le_of_ble_eq_true rfl, Nat.le_of_ble_eq_true rfl⟩) hK hP hS (fun _ h => h) rfl hl.1 rfl (Nat.le_of_ble_eq_true rfl) dL_quotients_254 ⟨Nat.zero_le _, Nat.zero_le _⟩ (fun o S4 H locs hpost hP hS => ?_)
                                  obtain ⟨ho, hS4_a, hS4_b, hS4_c⟩ := hpost
                                  subst ho
                                  have hP : aP D cy ad S4 H := hP
                                  have e40 : S4.1 0 = S.1 0 := (hS4_c 0 (by decide) (by decide)).trans e30
                                  have e41 : S4.1 1 = S.1 1 := (hS4_c 1 (by decide) (by decide)).trans e31
                                  have e43 : S4.1 3 = res (S.1 0) (S.1 1) := (hS4_c 3 (by decide) (by decide)).trans e33
                                  have e44 : S4.1 4 = gcdR (S.1 0) (S.1 1) := (hS4_c 4 (by decide) (by decide)).trans e34
                                  refine lv_bipush (v := (-6 : Int32)) hx hb dL_quotients_257 (by decide) ?_
                                  refine lv_icmp_ne (tgt := 266) hx hb dL_quotients_259 (by decide) (fun h_58 => ?_) (fun h_58 => ?_)
                                  · skip
                                    exact absurd (by rw [e31, e34, grb]; rfl) h_58
                                  · skip
                                    refine lv_iconst (v := nI (1)) hx hb dL_quotients_262 rfl ?_
                                    refine lv_goto (tgt := 267) hx hb dL_quotients_263 (by decide) ?_
                                    refine lv_istore (lv' := [(5, .int (nI (1))), (4, .int (nI (g))), (0, .ref (ad (136))), (1, .int (nI (da))), (2, .int (nI (db)))]) hx hb dL_quotients_267 hl (by decide) rfl (fun ls hl => ?_)
                                    refine lv_iload hx hb dL_quotients_269 (lv_at hl 0 rfl) ?_
                                    refine n_ifeq (tgt := 320) hx hb (by omega) dL_quotients_271 (by decide) (fun h_59 => absurd h_59 (by decide)) (fun h_59 => ?_)
                                    refine lv_aload_n hx hb dL_quotients_274 rfl (lv_at hl 2 rfl) ?_
                                    refine lv_iconst (v := nI (1)) hx hb dL_quotients_275 rfl ?_
                                    refine lv_iconst (v := nI (3)) hx hb dL_quotients_276 rfl ?_
                                    refine lv_iconst (v := nI (5)) hx hb dL_quotients_277 rfl ?_
                                    refine a_callV (rest := []) (nL := 6) ⟨hx, hb, hml, hown, hts⟩ (a_divisor l D cy ad hI S4 1 3 5 (by first | assumption | decide | omega) (by first | assumption | decide | omega) (by first | assumption | decide | omega) (by rw [e41, hdb]; omega)) (cwV 3 hts gL_quotients_X4_divisor rfl rfl rfl (by decide +kernel) ⟨Nat.le_of_ble_eq_true rfl, Nat.le_of_ble_eq_true rfl⟩) hK hP hS (fun _ h => h) rfl hl.1 rfl (Nat.le_of_ble_eq_true rfl) dL_quotients_278 ⟨Nat.zero_le _, Nat.zero_le _⟩ (fun o S5 H locs hpost hP hS => ?_)
                                    obtain ⟨ho, hS5_a, hS5_b⟩ := hpost
                                    subst ho
                                    have hP : aP D cy ad S5 H := hP
                                    have e50 : S5.1 0 = S.1 0 := (hS5_b 0 (by decide)).trans e40
                                    have e51 : S5.1 1 = S.1 1 := (hS5_b 1 (by decide)).trans e41
                                    have e54 : S5.1 4 = gcdR (S.1 0) (S.1 1) := (hS5_b 4 (by decide)).trans e44
                                    have e55 : S5.1 5 = gcdR (S.1 0) (S.1 1) := by rw [hS5_a, e41, e43, gres]
                                    refine lv_iload hx hb dL_quotients_281 (lv_at hl 1 rfl) ?_
                                    refine lv_icmp_ne (tgt := 320) hx hb dL_quotients_283 (by decide) (fun h_60 => ?_) (fun h_60 => ?_)
                                    · skip
                                      exact absurd (by rw [e41, e43, gres, gD, dV_s]) h_60
                                    · skip
                                      refine lv_aload_n hx hb dL_quotients_286 rfl (lv_at hl 2 rfl) ?_
                                      refine lv_iconst (v := nI (4)) hx hb dL_quotients_287 rfl ?_
                                      refine lv_iconst (v := nI (5)) hx hb dL_quotients_288 rfl ?_
                                      refine a_callSr (rest := []) (nL := 6) ⟨hx, hb, hml, hown, hts⟩ (a_L_alike l D cy ad hI S5 4 5 (by first | assumption | decide | omega) (by first | assumption | decide | omega) (by rw [e54, e55])) (va_cwS 3 hts gL_quotients_L_alike rfl rfl rfl (by decide +kernel) ⟨Nat.le_of_ble_eq_true rfl, Nat.le_of_ble_eq_true rfl⟩) hK hP hS (fun _ h => h) rfl hl.1 rfl (Nat.le_of_ble_eq_true rfl) dL_quotients_289 ⟨Nat.zero_le _, Nat.zero_le _⟩ (fun H locs hP hS => ?_)
                                      have hP : aP D cy ad S5 H := hP
                                      refine n_ifeq (tgt := 320) hx hb (by omega) dL_quotients_292 (by decide) (fun h_61 => absurd h_61 (by decide)) (fun h_61 => ?_)
                                      refine lv_aload_n hx hb dL_quotients_295 rfl (lv_at hl 2 rfl) ?_
                                      refine lv_iconst (v := nI (1)) hx hb dL_quotients_296 rfl ?_
                                      refine lv_iconst (v := nI (0)) hx hb dL_quotients_297 rfl ?_
                                      refine lv_iconst (v := nI (5)) hx hb dL_quotients_298 rfl ?_
                                      refine a_callV (rest := []) (nL := 6) ⟨hx, hb, hml, hown, hts⟩ (a_divisor l D cy ad hI S5 1 0 5 (by first | assumption | decide | omega) (by first | assumption | decide | omega) (by first | assumption | decide | omega) (by rw [e51, hdb]; omega)) (cwV 3 hts gL_quotients_X4_divisor rfl rfl rfl (by decide +kernel) ⟨Nat.le_of_ble_eq_true rfl, Nat.le_of_ble_eq_true rfl⟩) hK hP hS (fun _ h => h) rfl hl.1 rfl (Nat.le_of_ble_eq_true rfl) dL_quotients_299 ⟨Nat.zero_le _, Nat.zero_le _⟩ (fun o S6 H locs hpost hP hS => ?_)
                                      obtain ⟨ho, hS6_a, hS6_b⟩ := hpost
                                      subst ho
                                      have hP : aP D cy ad S6 H := hP
                                      have e60 : S6.1 0 = S.1 0 := (hS6_b 0 (by decide)).trans e50
                                      have e61 : S6.1 1 = S.1 1 := (hS6_b 1 (by decide)).trans e51
                                      have e64 : S6.1 4 = gcdR (S.1 0) (S.1 1) := (hS6_b 4 (by decide)).trans e54
                                      have e65 : S6.1 5 = gcdR (S.1 0) (S.1 1) := by rw [hS6_a, e51, e50, gcom]
                                      refine lv_iload hx hb dL_quotients_302 (lv_at hl 1 rfl) ?_
                                      refine lv_icmp_ne (tgt := 320) hx hb dL_quotients_304 (by decide) (fun h_62 => ?_) (fun h_62 => ?_)
                                      · skip
                                        exact absurd (by rw [e51, e50, gcom, gD, dV_s]) h_62
                                      · skip
                                        refine lv_aload_n hx hb dL_quotients_307 rfl (lv_at hl 2 rfl) ?_
                                        refine lv_iconst (v := nI (4)) hx hb dL_quotients_308 rfl ?_
                                        refine lv_iconst (v := nI (5)) hx hb dL_quotients_309 rfl ?_
                                        refine a_callSr (rest := []) (nL := 6) ⟨hx, hb, hml, hown, hts⟩ (a_L_alike l D cy ad hI S6 4 5 (by first | assumption | decide | omega) (by first | assumption | decide | omega) (by rw [e64, e65])) (va_cwS 3 hts gL_quotients_L_alike rfl rfl rfl (by decide +kernel) ⟨Nat.le_of_ble_eq_true rfl, Nat.le_of_ble_eq_true rfl⟩) hK hP hS (fun _ h => h) rfl hl.1 rfl (Nat.le_of_ble_eq_true rfl) dL_quotients_310 ⟨Nat.zero_le _, Nat.zero_le _⟩ (fun H locs hP hS => ?_)
                                        have hP : aP D cy ad S6 H := hP
                                        refine n_ifeq (tgt := 320) hx hb (by omega) dL_quotients_313 (by decide) (fun h_63 => absurd h_63 (by decide)) (fun h_63 => ?_)
                                        refine lv_iconst (v := nI (1)) hx hb dL_quotients_316 rfl ?_
                                        refine lv_goto (tgt := 321) hx hb dL_quotients_317 (by decide) ?_
                                        refine a_zret hx hb hret hlocks (by rfl) hP hS dL_quotients_321 ?_
                                        exact ⟨rfl, e60, e61⟩
                      · skip
                        refine lv_aload_n hx hb dL_quotients_125 rfl (lv_at hl 1 rfl) ?_
                        refine lv_iconst (v := nI (2)) hx hb dL_quotients_126 rfl ?_
                        refine lv_iload hx hb dL_quotients_127 (lv_at hl 0 rfl) ?_
                        refine a_callVr (rest := []) (nL := 6) ⟨hx, hb, hml, hown, hts⟩ (a_value l D cy ad hI S1 2 k (by first | assumption | decide | omega) (by first | assumption | decide | omega)) (cwV 2 hts gL_quotients_X4_value rfl rfl rfl (by decide +kernel) ⟨Nat.le_of_ble_eq_true rfl, Nat.le_of_ble_eq_true rfl⟩) hK hP hS (fun _ h => h) rfl hl.1 rfl (Nat.le_of_ble_eq_true rfl) dL_quotients_129 ⟨Nat.zero_le _, Nat.zero_le _⟩ (fun H locs hP hS => ?_)
                        have hP : aP D cy ad S1 H := hP
                        refine lv_aload_n hx hb dL_quotients_132 rfl (lv_at hl 1 rfl) ?_
                        refine lv_iconst (v := nI (1)) hx hb dL_quotients_133 rfl ?_
                        refine lv_iload hx hb dL_quotients_134 (lv_at hl 0 rfl) ?_
                        refine a_callVr (rest := [.int (nI (vx (S1.1 2) k))]) (nL := 6) ⟨hx, hb, hml, hown, hts⟩ (a_value l D cy ad hI S1 1 k (by first | assumption | decide | omega) (by first | assumption | decide | omega)) (cwV 2 hts gL_quotients_X4_value rfl rfl rfl (by decide +kernel) ⟨Nat.le_of_ble_eq_true rfl, Nat.le_of_ble_eq_true rfl⟩) hK hP hS (fun _ h => h) rfl hl.1 rfl (Nat.le_of_ble_eq_true rfl) dL_quotients_136 ⟨Nat.zero_le _, Nat.zero_le _⟩ (fun H locs hP hS => ?_)
                        have hP : aP D cy ad S1 H := hP
                        refine n_imul hx hb dL_quotients_139 ?_
                        refine lv_aload_n hx hb dL_quotients_140 rfl (lv_at hl 1 rfl) ?_
                        refine lv_iconst (v := nI (3)) hx hb dL_quotients_141 rfl ?_
                        refine lv_iload hx hb dL_quotients_142 (lv_at hl 0 rfl) ?_
                        refine a_callVr (rest := [.int (nI ((vx (S1.1 2) k) * (vx (S1.1 1) k)))]) (nL := 6) ⟨hx, hb, hml, hown, hts⟩ (a_value l D cy ad hI S1 3 k (by first | assumption | decide | omega) (by first | assumption | decide | omega)) (cwV 2 hts gL_quotients_X4_value rfl rfl rfl (by decide +kernel) ⟨Nat.le_of_ble_eq_true rfl, Nat.le_of_ble_eq_true rfl⟩) hK hP hS (fun _ h => h) rfl hl.1 rfl (Nat.le_of_ble_eq_true rfl) dL_quotients_144 ⟨Nat.zero_le _, Nat.zero_le _⟩ (fun H locs hP hS => ?_)
                        have hP : aP D cy ad S1 H := hP
                        refine n_iadd hx hb dL_quotients_147 ?_
                        refine lv_sipush (v := nI (257)) hx hb dL_quotients_148 rfl ?_
                        refine n_irem hx hb (by omega) (by omega) (by omega) dL_quotients_151  ?_
                        refine lv_aload_n hx hb dL_quotients_152 rfl (lv_at hl 1 rfl) ?_
                        refine lv_iconst (v := nI (0)) hx hb dL_quotients_153 rfl ?_
                        refine lv_iload hx hb dL_quotients_154 (lv_at hl 0 rfl) ?_
                        refine a_callVr (rest := [.int (nI ((((vx (S1.1 2) k) * (vx (S1.1 1) k)) + (vx (S1.1 3) k)) % 257))]) (nL := 6) ⟨hx, hb, hml, hown, hts⟩ (a_value l D cy ad hI S1 0 k (by first | assumption | decide | omega) (by first | assumption | decide | omega)) (cwV 2 hts gL_quotients_X4_value rfl rfl rfl (by decide +kernel) ⟨Nat.le_of_ble_eq_true rfl, Nat.le_of_ble_eq_true rfl⟩) hK hP hS (fun _ h => h) rfl hl.1 rfl (Nat.le_of_ble_eq_true rfl) dL_quotients_156 ⟨Nat.zero_le _, Nat.zero_le _⟩ (fun H locs hP hS => ?_)
                        have hP : aP D cy ad S1 H := hP
                        refine n_icmp_eq (tgt := 164) hx hb (by omega) (by omega) dL_quotients_159 (by decide) (fun h_64 => ?_) (fun h_64 => ?_)
                        · skip
                          refine lv_iinc (v := nI (k + 1)) (lv' := [(4, .int (nI (k + 1))), (0, .ref (ad (136))), (1, .int (nI (da))), (2, .int (nI (db)))]) hx hb dL_quotients_164 hl (k := 0) rfl (nI_inc _) (by decide) rfl (fun ls hl => ?_)
                          refine lv_goto (tgt := 117) hx hb dL_quotients_167 (by decide) ?_
                          exact ih117 (k + 1) (by omega) (by omega) _ _ hP hS _ hl
                        · skip
                          exact absurd (by rw [e12, e13, e10, e11]; exact div_vx ha hb1 hdb k) h_64
                  exact lp117 (_ + 1) (0) (by omega) (Nat.lt_succ_self _) _ _ hP hS _ (lv_sub hl [0, 4, 3, 2] rfl)
                · skip
                  exact absurd h_50 (by omega)
              · skip
                have hge := h_49
                refine lv_iconst (v := nI (1)) hx hb dL_quotients_100 rfl ?_
                refine lv_goto (tgt := 109) hx hb dL_quotients_101 (by decide) ?_
                refine n_icmp_eq (tgt := 114) hx hb (by omega) (by omega) dL_quotients_109 (by decide) (fun h_65 => ?_) (fun h_65 => ?_)
                · skip
                  refine lv_iconst (v := nI (0)) hx hb dL_quotients_114 rfl ?_
                  refine lv_istore (lv' := [(4, .int (nI (0))), (3, .int (dV (rD (res (S.1 0) (S.1 1))))), (2, .int (nI (db))), (1, .int (nI (da))), (0, .ref (ad (136)))]) hx hb dL_quotients_115 hl (by decide) rfl (fun ls hl => ?_)
                  have lp117 : ∀ (fu : Nat) (k : Nat), (k ≤ 257) → 257 - k < fu → ∀ (H : Heap) (locs : List Loc), aP D cy ad S1 H → va_S (wA 143 ad) s.heap H locs → ∀ (ls : Array Slot), lv_has ls 6 [(4, .int (nI (k))), (0, .ref (ad (136))), (1, .int (nI (da))), (2, .int (nI (db)))] → W p l e ({ frames := 6, cells := 0, slots := 0, locals := 144 } : Room) s m ([.ref (ad (136))] : List Value).toArray below meth c H locs 0 0 (MQ below (gQ (wA 143 ad) (fun o H => ∃ S' : kSt, (fun o S' => o = some (.int (nI 1)) ∧ S'.1 0 = S.1 0 ∧ S'.1 1 = S.1 1) o S' ∧ aP D cy ad S' H)) ([.ref (ad (136))] : List Value).toArray s 0 0 (wA 143 ad)) (F0 m 117 ls []) := by
                    intro fu
                    induction fu with
                    | zero => intro k hk hfu; exact absurd hfu (Nat.not_lt_zero _)
                    | succ fu ih117 =>
                      intro k hk hfu H locs hP hS ls hl
                      have hv0 := vx_lt (S1.1 0) k
                      have hv3 := vx_lt (S1.1 3) k
                      have hm := mul_lt_257 (vx_lt (S1.1 2) k) (vx_lt (S1.1 1) k)
                      refine lv_iload hx hb dL_quotients_117 (lv_at hl 0 rfl) ?_
                      refine lv_sipush (v := nI (257)) hx hb dL_quotients_119 rfl ?_
                      refine n_icmp_ge (tgt := 170) hx hb (by omega) (by omega) dL_quotients_122 (by decide) (fun h_66 => ?_) (fun h_66 => ?_)
                      · skip
                        refine lv_aload_n hx hb dL_quotients_170 rfl (lv_at hl 1 rfl) ?_
                        refine lv_iconst (v := nI (0)) hx hb dL_quotients_171 rfl ?_
                        refine lv_iconst (v := nI (1)) hx hb dL_quotients_172 rfl ?_
                        refine lv_iconst (v := nI (4)) hx hb dL_quotients_173 rfl ?_
                        refine a_callV (rest := []) (nL := 6) ⟨hx, hb, hml, hown, hts⟩ (a_divisor l D cy ad hI S1 0 1 4 (by first | assumption | decide | omega) (by first | assumption | decide | omega) (by first | assumption | decide | omega) (by rw [e10, e11]; omega)) (cwV 3 hts gL_quotients_X4_divisor rfl rfl rfl (by decide +kernel) ⟨Nat.le_of_ble_eq_true rfl, Nat.le_of_ble_eq_true rfl⟩) hK hP hS (fun _ h => h) rfl hl.1 rfl (Nat.le_of_ble_eq_true rfl) dL_quotients_174 ⟨Nat.zero_le _, Nat.zero_le _⟩ (fun o S2 H locs hpost hP hS => ?_)
                        obtain ⟨ho, hS2_a, hS2_b⟩ := hpost
                        subst ho
                        have hP : aP D cy ad S2 H := hP
                        obtain ⟨g, gD, gL, g1, gle, gla, gO, gra, grb, gres, gcom⟩ := gcd_law ha hb1 hdb
                        have e24 : S2.1 4 = gcdR (S.1 0) (S.1 1) := by rw [hS2_a, e10, e11]
                        have e20 : S2.1 0 = S.1 0 := (hS2_b 0 (by decide)).trans e10
                        have e21 : S2.1 1 = S.1 1 := (hS2_b 1 (by decide)).trans e11
                        have e23 : S2.1 3 = res (S.1 0) (S.1 1) := (hS2_b 3 (by decide)).trans e13
                        have hl24 : (S2.1 4).1 = g + 1 := by rw [e24]; exact gL
                        have hn24 : (S2.1 4).2 g = 1 := by rw [e24]; exact g1
                        refine n_push (a := g) (by rw [e10, e11, gD, dV_s]) ?_
                        refine lv_istore (lv' := [(4, .int (nI (g))), (0, .ref (ad (136))), (1, .int (nI (da))), (2, .int (nI (db)))]) hx hb dL_quotients_177 hl (by decide) rfl (fun ls hl => ?_)
                        refine lv_iload hx hb dL_quotients_179 (lv_at hl 0 rfl) ?_
                        refine n_iflt (tgt := 228) hx hb (by omega) dL_quotients_181 (by decide) ?_
                        refine lv_iload hx hb dL_quotients_184 (lv_at hl 0 rfl) ?_
                        refine lv_iload_n hx hb dL_quotients_186 rfl (lv_at hl 3 rfl) ?_
                        refine n_icmp_gt (tgt := 228) hx hb (by omega) (by omega) dL_quotients_187 (by decide) (fun h_67 => ?_) (fun h_67 => ?_)
                        · skip
                          exact absurd h_67 (by omega)
                        · skip
                          refine lv_iload_n hx hb dL_quotients_190 rfl (lv_at hl 2 rfl) ?_
                          refine n_iflt (tgt := 200) hx hb (by omega) dL_quotients_191 (by decide) ?_
                          refine lv_iload hx hb dL_quotients_194 (lv_at hl 0 rfl) ?_
                          refine lv_iload_n hx hb dL_quotients_196 rfl (lv_at hl 2 rfl) ?_
                          refine n_icmp_gt (tgt := 228) hx hb (by omega) (by omega) dL_quotients_197 (by decide) (fun h_68 => ?_) (fun h_68 => ?_)
                          · skip
                            exact absurd (gla da hda) (by omega)
                          · skip
                            refine lv_aload_n hx hb dL_quotients_200 rfl (lv_at hl 1 rfl) ?_
                            refine lv_iconst (v := nI (4)) hx hb dL_quotients_201 rfl ?_
                            refine lv_iconst (v := nI (0)) hx hb dL_quotients_202 rfl ?_
                            refine a_callVr (rest := []) (nL := 6) ⟨hx, hb, hml, hown, hts⟩ (a_of0 l D cy ad hI S2 4 (by first | assumption | decide | omega)) (cwV 2 hts gL_quotients_X4_of rfl rfl rfl (by decide +kernel) ⟨Nat.le_of_ble_eq_true rfl, Nat.le_of_ble_eq_true rfl⟩) hK hP hS (fun _ h => h) rfl hl.1 rfl (Nat.le_of_ble_eq_true rfl) dL_quotients_203 ⟨Nat.zero_le _, Nat.zero_le _⟩ (fun H locs hP hS => ?_)
                            have hP : aP D cy ad S2 H := hP
                            refine lv_iload hx hb dL_quotients_206 (lv_at hl 0 rfl) ?_
                            refine lv_iconst (v := nI (1)) hx hb dL_quotients_208 rfl ?_
                            refine n_iadd hx hb dL_quotients_209 ?_
                            refine n_icmp_ne (tgt := 228) hx hb (by omega) (by omega) dL_quotients_210 (by decide) (fun h_69 => ?_) (fun h_69 => ?_)
                            · skip
                              exact absurd h_69 (by omega)
                            · skip
                              refine lv_aload_n hx hb dL_quotients_213 rfl (lv_at hl 1 rfl) ?_
                              refine lv_iconst (v := nI (4)) hx hb dL_quotients_214 rfl ?_
                              refine lv_iload hx hb dL_quotients_215 (lv_at hl 0 rfl) ?_
                              refine a_callVr (rest := []) (nL := 6) ⟨hx, hb, hml, hown, hts⟩ (a_number l D cy ad hI S2 4 g (by first | assumption | decide | omega) (by first | assumption | decide | omega)) (cwV 2 hts gL_quotients_X4_number rfl rfl rfl (by decide +kernel) ⟨Nat.le_of_ble_eq_true rfl, Nat.le_of_ble_eq_true rfl⟩) hK hP hS (fun _ h => h) rfl hl.1 rfl (Nat.le_of_ble_eq_true rfl) dL_quotients_217 ⟨Nat.zero_le _, Nat.zero_le _⟩ (fun H locs hP hS => ?_)
                              have hP : aP D cy ad S2 H := hP
                              refine lv_iconst (v := nI (1)) hx hb dL_quotients_220 rfl ?_
                              refine n_icmp_ne (tgt := 228) hx hb (by omega) (by omega) dL_quotients_221 (by decide) (fun h_70 => ?_) (fun h_70 => ?_)
                              · skip
                                exact absurd h_70 (by omega)
                              · skip
                                refine lv_iconst (v := nI (1)) hx hb dL_quotients_224 rfl ?_
                                refine lv_goto (tgt := 229) hx hb dL_quotients_225 (by decide) ?_
                                refine lv_istore (lv' := [(5, .int (nI (1))), (4, .int (nI (g))), (0, .ref (ad (136))), (1, .int (nI (da))), (2, .int (nI (db)))]) hx hb dL_quotients_229 hl (by decide) rfl (fun ls hl => ?_)
                                refine lv_iload hx hb dL_quotients_231 (lv_at hl 0 rfl) ?_
                                refine n_ifeq (tgt := 266) hx hb (by omega) dL_quotients_233 (by decide) (fun h_71 => absurd h_71 (by decide)) (fun h_71 => ?_)
                                refine lv_aload_n hx hb dL_quotients_236 rfl (lv_at hl 2 rfl) ?_
                                refine lv_iconst (v := nI (0)) hx hb dL_quotients_237 rfl ?_
                                refine lv_iconst (v := nI (4)) hx hb dL_quotients_238 rfl ?_
                                refine lv_iconst (v := nI (2)) hx hb dL_quotients_239 rfl ?_
                                refine lv_iconst (v := nI (5)) hx hb dL_quotients_240 rfl ?_
                                refine a_callV (rest := []) (nL := 6) ⟨hx, hb, hml, hown, hts⟩ (a_divide l D cy ad hI S2 0 4 2 5 (by first | assumption | decide | omega) (by first | assumption | decide | omega) (by first | assumption | decide | omega) (by first | assumption | decide | omega) (by first | assumption | decide | omega) (by rw [e24, gD]; omega)) (cwV 4 hts gL_quotients_X4_divide rfl rfl rfl (by decide +kernel) ⟨Nat.le_of_ble_eq_true rfl, Nat.le_of_ble_eq_true rfl⟩) hK hP hS (fun _ h => h) rfl hl.1 rfl (Nat.le_of_ble_eq_true rfl) dL_quotients_241 ⟨Nat.zero_le _, Nat.zero_le _⟩ (fun o S3 H locs hpost hP hS => ?_)
                                obtain ⟨ho, hS3_a, hS3_b, hS3_c⟩ := hpost
                                subst ho
                                have hP : aP D cy ad S3 H := hP
                                have e30 : S3.1 0 = S.1 0 := (hS3_c 0 (by decide) (by decide)).trans e20
                                have e31 : S3.1 1 = S.1 1 := (hS3_c 1 (by decide) (by decide)).trans e21
                                have e33 : S3.1 3 = res (S.1 0) (S.1 1) := (hS3_c 3 (by decide) (by decide)).trans e23
                                have e34 : S3.1 4 = gcdR (S.1 0) (S.1 1) := (hS3_c 4 (by decide) (by decide)).trans e24
                                refine lv_bipush (v := (-6 : Int32)) hx hb dL_quotients_244 (by decide) ?_
                                refine lv_icmp_ne (tgt := 266) hx hb dL_quotients_246 (by decide) (fun h_72 => ?_) (fun h_72 => ?_)
                                · skip
                                  exact absurd (by rw [e20, e24, gra]; rfl) h_72
                                · skip
                                  refine lv_aload_n hx hb dL_quotients_249 rfl (lv_at hl 2 rfl) ?_
                                  refine lv_iconst (v := nI (1)) hx hb dL_quotients_250 rfl ?_
                                  refine lv_iconst (v := nI (4)) hx hb dL_quotients_251 rfl ?_
                                  refine lv_iconst (v := nI (2)) hx hb dL_quotients_252 rfl ?_
                                  refine lv_iconst (v := nI (5)) hx hb dL_quotients_253 rfl ?_
                                  refine a_callV (rest := []) (nL := 6) ⟨hx, hb, hml, hown, hts⟩ (a_divide l D cy ad hI S3 1 4 2 5 (by first | assumption | decide | omega) (by first | assumption | decide | omega) (by first | assumption | decide | omega) (by first | assumption | decide | omega) (by first | assumption | decide | omega) (by rw [e34, gD]; omega)) (cwV 4 hts gL_quotients_X4_divide rfl rfl rfl (by decide +kernel) ⟨Nat.le_of_ble_eq_true rfl, Nat.le_of_ble_eq_true rfl⟩) hK hP hS (fun _ h => h) rfl hl.1 rfl (Nat.le_of_ble_eq_true rfl) dL_quotients_254 ⟨Nat.zero_le _, Nat.zero_le _⟩ (fun o S4 H locs hpost hP hS => ?_)
                                  obtain ⟨ho, hS4_a, hS4_b, hS4_c⟩ := hpost
                                  subst ho
                                  have hP : aP D cy ad S4 H := hP
                                  have e40 : S4.1 0 = S.1 0 := (hS4_c 0 (by decide) (by decide)).trans e30
                                  have e41 : S4.1 1 = S.1 1 := (hS4_c 1 (by decide) (by decide)).trans e31
                                  have e43 : S4.1 3 = res (S.1 0) (S.1 1) := (hS4_c 3 (by decide) (by decide)).trans e33
                                  have e44 : S4.1 4 = gcdR (S.1 0) (S.1 1) := (hS4_c 4 (by decide) (by decide)).trans e34
                                  refine lv_bipush (v := (-6 : Int32)) hx hb dL_quotients_257 (by decide) ?_
                                  refine lv_icmp_ne (tgt := 266) hx hb dL_quotients_259 (by decide) (fun h_73 => ?_) (fun h_73 => ?_)
                                  · skip
                                    exact absurd (by rw [e31, e34, grb]; rfl) h_73
                                  · skip
                                    refine lv_iconst (v := nI (1)) hx hb dL_quotients_262 rfl ?_
                                    refine lv_goto (tgt := 267) hx hb dL_quotients_263 (by decide) ?_
                                    refine lv_istore (lv' := [(5, .int (nI (1))), (4, .int (nI (g))), (0, .ref (ad (136))), (1, .int (nI (da))), (2, .int (nI (db)))]) hx hb dL_quotients_267 hl (by decide) rfl (fun ls hl => ?_)
                                    refine lv_iload hx hb dL_quotients_269 (lv_at hl 0 rfl) ?_
                                    refine n_ifeq (tgt := 320) hx hb (by omega) dL_quotients_271 (by decide) (fun h_74 => absurd h_74 (by decide)) (fun h_74 => ?_)
                                    refine lv_aload_n hx hb dL_quotients_274 rfl (lv_at hl 2 rfl) ?_
                                    refine lv_iconst (v := nI (1)) hx hb dL_quotients_275 rfl ?_
                                    refine lv_iconst (v := nI (3)) hx hb dL_quotients_276 rfl ?_
                                    refine lv_iconst (v := nI (5)) hx hb dL_quotients_277 rfl ?_
                                    refine a_callV (rest := []) (nL := 6) ⟨hx, hb, hml, hown, hts⟩ (a_divisor l D cy ad hI S4 1 3 5 (by first | assumption | decide | omega) (by first | assumption | decide | omega) (by first | assumption | decide | omega) (by rw [e41, hdb]; omega)) (cwV 3 hts gL_quotients_X4_divisor rfl rfl rfl (by decide +kernel) ⟨Nat.le_of_ble_eq_true rfl, Nat.le_of_ble_eq_true rfl⟩) hK hP hS (fun _ h => h) rfl hl.1 rfl (Nat.le_of_ble_eq_true rfl) dL_quotients_278 ⟨Nat.zero_le _, Nat.zero_le _⟩ (fun o S5 H locs hpost hP hS => ?_)
                                    obtain ⟨ho, hS5_a, hS5_b⟩ := hpost
                                    subst ho
                                    have hP : aP D cy ad S5 H := hP
                                    have e50 : S5.1 0 = S.1 0 := (hS5_b 0 (by decide)).trans e40
                                    have e51 : S5.1 1 = S.1 1 := (hS5_b 1 (by decide)).trans e41
                                    have e54 : S5.1 4 = gcdR (S.1 0) (S.1 1) := (hS5_b 4 (by decide)).trans e44
                                    have e55 : S5.1 5 = gcdR (S.1 0) (S.1 1) := by rw [hS5_a, e41, e43, gres]
                                    refine lv_iload hx hb dL_quotients_281 (lv_at hl 1 rfl) ?_
                                    refine lv_icmp_ne (tgt := 320) hx hb dL_quotients_283 (by decide) (fun h_75 => ?_) (fun h_75 => ?_)
                                    · skip
                                      exact absurd (by rw [e41, e43, gres, gD, dV_s]) h_75
                                    · skip
                                      refine lv_aload_n hx hb dL_quotients_286 rfl (lv_at hl 2 rfl) ?_
                                      refine lv_iconst (v := nI (4)) hx hb dL_quotients_287 rfl ?_
                                      refine lv_iconst (v := nI (5)) hx hb dL_quotients_288 rfl ?_
                                      refine a_callSr (rest := []) (nL := 6) ⟨hx, hb, hml, hown, hts⟩ (a_L_alike l D cy ad hI S5 4 5 (by first | assumption | decide | omega) (by first | assumption | decide | omega) (by rw [e54, e55])) (va_cwS 3 hts gL_quotients_L_alike rfl rfl rfl (by decide +kernel) ⟨Nat.le_of_ble_eq_true rfl, Nat.le_of_ble_eq_true rfl⟩) hK hP hS (fun _ h => h) rfl hl.1 rfl (Nat.le_of_ble_eq_true rfl) dL_quotients_289 ⟨Nat.zero_le _, Nat.zero_le _⟩ (fun H locs hP hS => ?_)
                                      have hP : aP D cy ad S5 H := hP
                                      refine n_ifeq (tgt := 320) hx hb (by omega) dL_quotients_292 (by decide) (fun h_76 => absurd h_76 (by decide)) (fun h_76 => ?_)
                                      refine lv_aload_n hx hb dL_quotients_295 rfl (lv_at hl 2 rfl) ?_
                                      refine lv_iconst (v := nI (1)) hx hb dL_quotients_296 rfl ?_
                                      refine lv_iconst (v := nI (0)) hx hb dL_quotients_297 rfl ?_
                                      refine lv_iconst (v := nI (5)) hx hb dL_quotients_298 rfl ?_
                                      refine a_callV (rest := []) (nL := 6) ⟨hx, hb, hml, hown, hts⟩ (a_divisor l D cy ad hI S5 1 0 5 (by first | assumption | decide | omega) (by first | assumption | decide | omega) (by first | assumption | decide | omega) (by rw [e51, hdb]; omega)) (cwV 3 hts gL_quotients_X4_divisor rfl rfl rfl (by decide +kernel) ⟨Nat.le_of_ble_eq_true rfl, Nat.le_of_ble_eq_true rfl⟩) hK hP hS (fun _ h => h) rfl hl.1 rfl (Nat.le_of_ble_eq_true rfl) dL_quotients_299 ⟨Nat.zero_le _, Nat.zero_le _⟩ (fun o S6 H locs hpost hP hS => ?_)
                                      obtain ⟨ho, hS6_a, hS6_b⟩ := hpost
                                      subst ho
                                      have hP : aP D cy ad S6 H := hP
                                      have e60 : S6.1 0 = S.1 0 := (hS6_b 0 (by decide)).trans e50
                                      have e61 : S6.1 1 = S.1 1 := (hS6_b 1 (by decide)).trans e51
                                      have e64 : S6.1 4 = gcdR (S.1 0) (S.1 1) := (hS6_b 4 (by decide)).trans e54
                                      have e65 : S6.1 5 = gcdR (S.1 0) (S.1 1) := by rw [hS6_a, e51, e50, gcom]
                                      refine lv_iload hx hb dL_quotients_302 (lv_at hl 1 rfl) ?_
                                      refine lv_icmp_ne (tgt := 320) hx hb dL_quotients_304 (by decide) (fun h_77 => ?_) (fun h_77 => ?_)
                                      · skip
                                        exact absurd (by rw [e51, e50, gcom, gD, dV_s]) h_77
                                      · skip
                                        refine lv_aload_n hx hb dL_quotients_307 rfl (lv_at hl 2 rfl) ?_
                                        refine lv_iconst (v := nI (4)) hx hb dL_quotients_308 rfl ?_
                                        refine lv_iconst (v := nI (5)) hx hb dL_quotients_309 rfl ?_
                                        refine a_callSr (rest := []) (nL := 6) ⟨hx, hb, hml, hown, hts⟩ (a_L_alike l D cy ad hI S6 4 5 (by first | assumption | decide | omega) (by first | assumption | decide | omega) (by rw [e64, e65])) (va_cwS 3 hts gL_quotients_L_alike rfl rfl rfl (by decide +kernel) ⟨Nat.le_of_ble_eq_true rfl, Nat.le_of_ble_eq_true rfl⟩) hK hP hS (fun _ h => h) rfl hl.1 rfl (Nat.le_of_ble_eq_true rfl) dL_quotients_310 ⟨Nat.zero_le _, Nat.zero_le _⟩ (fun H locs hP hS => ?_)
                                        have hP : aP D cy ad S6 H := hP
                                        refine n_ifeq (tgt := 320) hx hb (by omega) dL_quotients_313 (by decide) (fun h_78 => absurd h_78 (by decide)) (fun h_78 => ?_)
                                        refine lv_iconst (v := nI (1)) hx hb dL_quotients_316 rfl ?_
                                        refine lv_goto (tgt := 321) hx hb dL_quotients_317 (by decide) ?_
                                        refine a_zret hx hb hret hlocks (by rfl) hP hS dL_quotients_321 ?_
                                        exact ⟨rfl, e60, e61⟩
                      · skip
                        refine lv_aload_n hx hb dL_quotients_125 rfl (lv_at hl 1 rfl) ?_
                        refine lv_iconst (v := nI (2)) hx hb dL_quotients_126 rfl ?_
                        refine lv_iload hx hb dL_quotients_127 (lv_at hl 0 rfl) ?_
                        refine a_callVr (rest := []) (nL := 6) ⟨hx, hb, hml, hown, hts⟩ (a_value l D cy ad hI S1 2 k (by first | assumption | decide | omega) (by first | assumption | decide | omega)) (cwV 2 hts gL_quotients_X4_value rfl rfl rfl (by decide +kernel) ⟨Nat.le_of_ble_eq_true rfl, Nat.le_of_ble_eq_true rfl⟩) hK hP hS (fun _ h => h) rfl hl.1 rfl (Nat.le_of_ble_eq_true rfl) dL_quotients_129 ⟨Nat.zero_le _, Nat.zero_le _⟩ (fun H locs hP hS => ?_)
                        have hP : aP D cy ad S1 H := hP
                        refine lv_aload_n hx hb dL_quotients_132 rfl (lv_at hl 1 rfl) ?_
                        refine lv_iconst (v := nI (1)) hx hb dL_quotients_133 rfl ?_
                        refine lv_iload hx hb dL_quotients_134 (lv_at hl 0 rfl) ?_
                        refine a_callVr (rest := [.int (nI (vx (S1.1 2) k))]) (nL := 6) ⟨hx, hb, hml, hown, hts⟩ (a_value l D cy ad hI S1 1 k (by first | assumption | decide | omega) (by first | assumption | decide | omega)) (cwV 2 hts gL_quotients_X4_value rfl rfl rfl (by decide +kernel) ⟨Nat.le_of_ble_eq_true rfl, Nat.le_of_ble_eq_true rfl⟩) hK hP hS (fun _ h => h) rfl hl.1 rfl (Nat.le_of_ble_eq_true rfl) dL_quotients_136 ⟨Nat.zero_le _, Nat.zero_le _⟩ (fun H locs hP hS => ?_)
                        have hP : aP D cy ad S1 H := hP
                        refine n_imul hx hb dL_quotients_139 ?_
                        refine lv_aload_n hx hb dL_quotients_140 rfl (lv_at hl 1 rfl) ?_
                        refine lv_iconst (v := nI (3)) hx hb dL_quotients_141 rfl ?_
                        refine lv_iload hx hb dL_quotients_142 (lv_at hl 0 rfl) ?_
                        refine a_callVr (rest := [.int (nI ((vx (S1.1 2) k) * (vx (S1.1 1) k)))]) (nL := 6) ⟨hx, hb, hml, hown, hts⟩ (a_value l D cy ad hI S1 3 k (by first | assumption | decide | omega) (by first | assumption | decide | omega)) (cwV 2 hts gL_quotients_X4_value rfl rfl rfl (by decide +kernel) ⟨Nat.le_of_ble_eq_true rfl, Nat.le_of_ble_eq_true rfl⟩) hK hP hS (fun _ h => h) rfl hl.1 rfl (Nat.le_of_ble_eq_true rfl) dL_quotients_144 ⟨Nat.zero_le _, Nat.zero_le _⟩ (fun H locs hP hS => ?_)
                        have hP : aP D cy ad S1 H := hP
                        refine n_iadd hx hb dL_quotients_147 ?_
                        refine lv_sipush (v := nI (257)) hx hb dL_quotients_148 rfl ?_
                        refine n_irem hx hb (by omega) (by omega) (by omega) dL_quotients_151  ?_
                        refine lv_aload_n hx hb dL_quotients_152 rfl (lv_at hl 1 rfl) ?_
                        refine lv_iconst (v := nI (0)) hx hb dL_quotients_153 rfl ?_
                        refine lv_iload hx hb dL_quotients_154 (lv_at hl 0 rfl) ?_
                        refine a_callVr (rest := [.int (nI ((((vx (S1.1 2) k) * (vx (S1.1 1) k)) + (vx (S1.1 3) k)) % 257))]) (nL := 6) ⟨hx, hb, hml, hown, hts⟩ (a_value l D cy ad hI S1 0 k (by first | assumption | decide | omega) (by first | assumption | decide | omega)) (cwV 2 hts gL_quotients_X4_value rfl rfl rfl (by decide +kernel) ⟨Nat.le_of_ble_eq_true rfl, Nat.le_of_ble_eq_true rfl⟩) hK hP hS (fun _ h => h) rfl hl.1 rfl (Nat.le_of_ble_eq_true rfl) dL_quotients_156 ⟨Nat.zero_le _, Nat.zero_le _⟩ (fun H locs hP hS => ?_)
                        have hP : aP D cy ad S1 H := hP
                        refine n_icmp_eq (tgt := 164) hx hb (by omega) (by omega) dL_quotients_159 (by decide) (fun h_79 => ?_) (fun h_79 => ?_)
                        · skip
                          refine lv_iinc (v := nI (k + 1)) (lv' := [(4, .int (nI (k + 1))), (0, .ref (ad (136))), (1, .int (nI (da))), (2, .int (nI (db)))]) hx hb dL_quotients_164 hl (k := 0) rfl (nI_inc _) (by decide) rfl (fun ls hl => ?_)
                          refine lv_goto (tgt := 117) hx hb dL_quotients_167 (by decide) ?_
                          exact ih117 (k + 1) (by omega) (by omega) _ _ hP hS _ hl
                        · skip
                          exact absurd (by rw [e12, e13, e10, e11]; exact div_vx ha hb1 hdb k) h_79
                  exact lp117 (_ + 1) (0) (by omega) (Nat.lt_succ_self _) _ _ hP hS _ (lv_sub hl [0, 4, 3, 2] rfl)
                · skip
                  exact absurd h_65 (by omega)
          · skip
            have hdb0 := h_47
            refine lv_iconst (v := nI (1)) hx hb dL_quotients_81 rfl ?_
            refine lv_goto (tgt := 86) hx hb dL_quotients_82 (by decide) ?_
            refine n_icmp_ne (tgt := 112) hx hb (by omega) (by omega) dL_quotients_86 (by decide) (fun h_80 => ?_) (fun h_80 => ?_)
            · skip
              exact absurd h_80 (by omega)
            · skip
              refine lv_aload_n hx hb dL_quotients_89 rfl (lv_at hl 3 rfl) ?_
              refine lv_iconst (v := nI (2)) hx hb dL_quotients_90 rfl ?_
              refine lv_iconst (v := nI (0)) hx hb dL_quotients_91 rfl ?_
              refine a_callVr (rest := []) (nL := 6) ⟨hx, hb, hml, hown, hts⟩ (a_of0 l D cy ad hI S1 2 (by first | assumption | decide | omega)) (cwV 2 hts gL_quotients_X4_of rfl rfl rfl (by decide +kernel) ⟨Nat.le_of_ble_eq_true rfl, Nat.le_of_ble_eq_true rfl⟩) hK hP hS (fun _ h => h) rfl hl.1 rfl (Nat.le_of_ble_eq_true rfl) dL_quotients_92 ⟨Nat.zero_le _, Nat.zero_le _⟩ (fun H locs hP hS => ?_)
              have hP : aP D cy ad S1 H := hP
              refine lv_iload_n hx hb dL_quotients_95 rfl (lv_at hl 2 rfl) ?_
              refine lv_iload_n hx hb dL_quotients_96 rfl (lv_at hl 1 rfl) ?_
              refine n_icmp_ge (tgt := 104) hx hb (by omega) (by omega) dL_quotients_97 (by decide) (fun h_81 => ?_) (fun h_81 => ?_)
              · skip
                have hge := h_81
                refine lv_iload_n hx hb dL_quotients_104 rfl (lv_at hl 2 rfl) ?_
                refine lv_iload_n hx hb dL_quotients_105 rfl (lv_at hl 1 rfl) ?_
                refine n_isub hx hb hge dL_quotients_106 ?_
                refine lv_iconst (v := nI (1)) hx hb dL_quotients_107 rfl ?_
                refine n_iadd hx hb dL_quotients_108 ?_
                refine n_icmp_eq (tgt := 114) hx hb (by omega) (by omega) dL_quotients_109 (by decide) (fun h_82 => ?_) (fun h_82 => ?_)
                · skip
                  refine lv_iconst (v := nI (0)) hx hb dL_quotients_114 rfl ?_
                  refine lv_istore (lv' := [(4, .int (nI (0))), (3, .int (dV (rD (res (S.1 0) (S.1 1))))), (2, .int (nI (db))), (1, .int (nI (da))), (0, .ref (ad (136)))]) hx hb dL_quotients_115 hl (by decide) rfl (fun ls hl => ?_)
                  have lp117 : ∀ (fu : Nat) (k : Nat), (k ≤ 257) → 257 - k < fu → ∀ (H : Heap) (locs : List Loc), aP D cy ad S1 H → va_S (wA 143 ad) s.heap H locs → ∀ (ls : Array Slot), lv_has ls 6 [(4, .int (nI (k))), (0, .ref (ad (136))), (1, .int (nI (da))), (2, .int (nI (db)))] → W p l e ({ frames := 6, cells := 0, slots := 0, locals := 144 } : Room) s m ([.ref (ad (136))] : List Value).toArray below meth c H locs 0 0 (MQ below (gQ (wA 143 ad) (fun o H => ∃ S' : kSt, (fun o S' => o = some (.int (nI 1)) ∧ S'.1 0 = S.1 0 ∧ S'.1 1 = S.1 1) o S' ∧ aP D cy ad S' H)) ([.ref (ad (136))] : List Value).toArray s 0 0 (wA 143 ad)) (F0 m 117 ls []) := by
                    intro fu
                    induction fu with
                    | zero => intro k hk hfu; exact absurd hfu (Nat.not_lt_zero _)
                    | succ fu ih117 =>
                      intro k hk hfu H locs hP hS ls hl
                      have hv0 := vx_lt (S1.1 0) k
                      have hv3 := vx_lt (S1.1 3) k
                      have hm := mul_lt_257 (vx_lt (S1.1 2) k) (vx_lt (S1.1 1) k)
                      refine lv_iload hx hb dL_quotients_117 (lv_at hl 0 rfl) ?_
                      refine lv_sipush (v := nI (257)) hx hb dL_quotients_119 rfl ?_
                      refine n_icmp_ge (tgt := 170) hx hb (by omega) (by omega) dL_quotients_122 (by decide) (fun h_83 => ?_) (fun h_83 => ?_)
                      · skip
                        refine lv_aload_n hx hb dL_quotients_170 rfl (lv_at hl 1 rfl) ?_
                        refine lv_iconst (v := nI (0)) hx hb dL_quotients_171 rfl ?_
                        refine lv_iconst (v := nI (1)) hx hb dL_quotients_172 rfl ?_
                        refine lv_iconst (v := nI (4)) hx hb dL_quotients_173 rfl ?_
                        refine a_callV (rest := []) (nL := 6) ⟨hx, hb, hml, hown, hts⟩ (a_divisor l D cy ad hI S1 0 1 4 (by first | assumption | decide | omega) (by first | assumption | decide | omega) (by first | assumption | decide | omega) (by rw [e10, e11]; omega)) (cwV 3 hts gL_quotients_X4_divisor rfl rfl rfl (by decide +kernel) ⟨Nat.le_of_ble_eq_true rfl, Nat.le_of_ble_eq_true rfl⟩) hK hP hS (fun _ h => h) rfl hl.1 rfl (Nat.le_of_ble_eq_true rfl) dL_quotients_174 ⟨Nat.zero_le _, Nat.zero_le _⟩ (fun o S2 H locs hpost hP hS => ?_)
                        obtain ⟨ho, hS2_a, hS2_b⟩ := hpost
                        subst ho
                        have hP : aP D cy ad S2 H := hP
                        obtain ⟨g, gD, gL, g1, gle, gla, gO, gra, grb, gres, gcom⟩ := gcd_law ha hb1 hdb
                        have e24 : S2.1 4 = gcdR (S.1 0) (S.1 1) := by rw [hS2_a, e10, e11]
                        have e20 : S2.1 0 = S.1 0 := (hS2_b 0 (by decide)).trans e10
                        have e21 : S2.1 1 = S.1 1 := (hS2_b 1 (by decide)).trans e11
                        have e23 : S2.1 3 = res (S.1 0) (S.1 1) := (hS2_b 3 (by decide)).trans e13
                        have hl24 : (S2.1 4).1 = g + 1 := by rw [e24]; exact gL
                        have hn24 : (S2.1 4).2 g = 1 := by rw [e24]; exact g1
                        refine n_push (a := g) (by rw [e10, e11, gD, dV_s]) ?_
                        refine lv_istore (lv' := [(4, .int (nI (g))), (0, .ref (ad (136))), (1, .int (nI (da))), (2, .int (nI (db)))]) hx hb dL_quotients_177 hl (by decide) rfl (fun ls hl => ?_)
                        refine lv_iload hx hb dL_quotients_179 (lv_at hl 0 rfl) ?_
                        refine n_iflt (tgt := 228) hx hb (by omega) dL_quotients_181 (by decide) ?_
                        refine lv_iload hx hb dL_quotients_184 (lv_at hl 0 rfl) ?_
                        refine lv_iload_n hx hb dL_quotients_186 rfl (lv_at hl 3 rfl) ?_
                        refine n_icmp_gt (tgt := 228) hx hb (by omega) (by omega) dL_quotients_187 (by decide) (fun h_84 => ?_) (fun h_84 => ?_)
                        · skip
                          exact absurd h_84 (by omega)
                        · skip
                          refine lv_iload_n hx hb dL_quotients_190 rfl (lv_at hl 2 rfl) ?_
                          refine n_iflt (tgt := 200) hx hb (by omega) dL_quotients_191 (by decide) ?_
                          refine lv_iload hx hb dL_quotients_194 (lv_at hl 0 rfl) ?_
                          refine lv_iload_n hx hb dL_quotients_196 rfl (lv_at hl 2 rfl) ?_
                          refine n_icmp_gt (tgt := 228) hx hb (by omega) (by omega) dL_quotients_197 (by decide) (fun h_85 => ?_) (fun h_85 => ?_)
                          · skip
                            exact absurd (gla da hda) (by omega)
                          · skip
                            refine lv_aload_n hx hb dL_quotients_200 rfl (lv_at hl 1 rfl) ?_
                            refine lv_iconst (v := nI (4)) hx hb dL_quotients_201 rfl ?_
                            refine lv_iconst (v := nI (0)) hx hb dL_quotients_202 rfl ?_
                            refine a_callVr (rest := []) (nL := 6) ⟨hx, hb, hml, hown, hts⟩ (a_of0 l D cy ad hI S2 4 (by first | assumption | decide | omega)) (cwV 2 hts gL_quotients_X4_of rfl rfl rfl (by decide +kernel) ⟨Nat.le_of_ble_eq_true rfl, Nat.le_of_ble_eq_true rfl⟩) hK hP hS (fun _ h => h) rfl hl.1 rfl (Nat.le_of_ble_eq_true rfl) dL_quotients_203 ⟨Nat.zero_le _, Nat.zero_le _⟩ (fun H locs hP hS => ?_)
                            have hP : aP D cy ad S2 H := hP
                            refine lv_iload hx hb dL_quotients_206 (lv_at hl 0 rfl) ?_
                            refine lv_iconst (v := nI (1)) hx hb dL_quotients_208 rfl ?_
                            refine n_iadd hx hb dL_quotients_209 ?_
                            refine n_icmp_ne (tgt := 228) hx hb (by omega) (by omega) dL_quotients_210 (by decide) (fun h_86 => ?_) (fun h_86 => ?_)
                            · skip
                              exact absurd h_86 (by omega)
                            · skip
                              refine lv_aload_n hx hb dL_quotients_213 rfl (lv_at hl 1 rfl) ?_
                              refine lv_iconst (v := nI (4)) hx hb dL_quotients_214 rfl ?_
                              refine lv_iload hx hb dL_quotients_215 (lv_at hl 0 rfl) ?_
                              refine a_callVr (rest := []) (nL := 6) ⟨hx, hb, hml, hown, hts⟩ (a_number l D cy ad hI S2 4 g (by first | assumption | decide | omega) (by first | assumption | decide | omega)) (cwV 2 hts gL_quotients_X4_number rfl rfl rfl (by decide +kernel) ⟨Nat.le_of_ble_eq_true rfl, Nat.le_of_ble_eq_true rfl⟩) hK hP hS (fun _ h => h) rfl hl.1 rfl (Nat.le_of_ble_eq_true rfl) dL_quotients_217 ⟨Nat.zero_le _, Nat.zero_le _⟩ (fun H locs hP hS => ?_)
                              have hP : aP D cy ad S2 H := hP
                              refine lv_iconst (v := nI (1)) hx hb dL_quotients_220 rfl ?_
                              refine n_icmp_ne (tgt := 228) hx hb (by omega) (by omega) dL_quotients_221 (by decide) (fun h_87 => ?_) (fun h_87 => ?_)
                              · skip
                                exact absurd h_87 (by omega)
                              · skip
                                refine lv_iconst (v := nI (1)) hx hb dL_quotients_224 rfl ?_
                                refine lv_goto (tgt := 229) hx hb dL_quotients_225 (by decide) ?_
                                refine lv_istore (lv' := [(5, .int (nI (1))), (4, .int (nI (g))), (0, .ref (ad (136))), (1, .int (nI (da))), (2, .int (nI (db)))]) hx hb dL_quotients_229 hl (by decide) rfl (fun ls hl => ?_)
                                refine lv_iload hx hb dL_quotients_231 (lv_at hl 0 rfl) ?_
                                refine n_ifeq (tgt := 266) hx hb (by omega) dL_quotients_233 (by decide) (fun h_88 => absurd h_88 (by decide)) (fun h_88 => ?_)
                                refine lv_aload_n hx hb dL_quotients_236 rfl (lv_at hl 2 rfl) ?_
                                refine lv_iconst (v := nI (0)) hx hb dL_quotients_237 rfl ?_
                                refine lv_iconst (v := nI (4)) hx hb dL_quotients_238 rfl ?_
                                refine lv_iconst (v := nI (2)) hx hb dL_quotients_239 rfl ?_
                                refine lv_iconst (v := nI (5)) hx hb dL_quotients_240 rfl ?_
                                refine a_callV (rest := []) (nL := 6) ⟨hx, hb, hml, hown, hts⟩ (a_divide l D cy ad hI S2 0 4 2 5 (by first | assumption | decide | omega) (by first | assumption | decide | omega) (by first | assumption | decide | omega) (by first | assumption | decide | omega) (by first | assumption | decide | omega) (by rw [e24, gD]; omega)) (cwV 4 hts gL_quotients_X4_divide rfl rfl rfl (by decide +kernel) ⟨Nat.le_of_ble_eq_true rfl, Nat.le_of_ble_eq_true rfl⟩) hK hP hS (fun _ h => h) rfl hl.1 rfl (Nat.le_of_ble_eq_true rfl) dL_quotients_241 ⟨Nat.zero_le _, Nat.zero_le _⟩ (fun o S3 H locs hpost hP hS => ?_)
                                obtain ⟨ho, hS3_a, hS3_b, hS3_c⟩ := hpost
                                subst ho
                                have hP : aP D cy ad S3 H := hP
                                have e30 : S3.1 0 = S.1 0 := (hS3_c 0 (by decide) (by decide)).trans e20
                                have e31 : S3.1 1 = S.1 1 := (hS3_c 1 (by decide) (by decide)).trans e21
                                have e33 : S3.1 3 = res (S.1 0) (S.1 1) := (hS3_c 3 (by decide) (by decide)).trans e23
                                have e34 : S3.1 4 = gcdR (S.1 0) (S.1 1) := (hS3_c 4 (by decide) (by decide)).trans e24
                                refine lv_bipush (v := (-6 : Int32)) hx hb dL_quotients_244 (by decide) ?_
                                refine lv_icmp_ne (tgt := 266) hx hb dL_quotients_246 (by decide) (fun h_89 => ?_) (fun h_89 => ?_)
                                · skip
                                  exact absurd (by rw [e20, e24, gra]; rfl) h_89
                                · skip
                                  refine lv_aload_n hx hb dL_quotients_249 rfl (lv_at hl 2 rfl) ?_
                                  refine lv_iconst (v := nI (1)) hx hb dL_quotients_250 rfl ?_
                                  refine lv_iconst (v := nI (4)) hx hb dL_quotients_251 rfl ?_
                                  refine lv_iconst (v := nI (2)) hx hb dL_quotients_252 rfl ?_
                                  refine lv_iconst (v := nI (5)) hx hb dL_quotients_253 rfl ?_
                                  refine a_callV (rest := []) (nL := 6) ⟨hx, hb, hml, hown, hts⟩ (a_divide l D cy ad hI S3 1 4 2 5 (by first | assumption | decide | omega) (by first | assumption | decide | omega) (by first | assumption | decide | omega) (by first | assumption | decide | omega) (by first | assumption | decide | omega) (by rw [e34, gD]; omega)) (cwV 4 hts gL_quotients_X4_divide rfl rfl rfl (by decide +kernel) ⟨Nat.le_of_ble_eq_true rfl, Nat.le_of_ble_eq_true rfl⟩) hK hP hS (fun _ h => h) rfl hl.1 rfl (Nat.le_of_ble_eq_true rfl) dL_quotients_254 ⟨Nat.zero_le _, Nat.zero_le _⟩ (fun o S4 H locs hpost hP hS => ?_)
                                  obtain ⟨ho, hS4_a, hS4_b, hS4_c⟩ := hpost
                                  subst ho
                                  have hP : aP D cy ad S4 H := hP
                                  have e40 : S4.1 0 = S.1 0 := (hS4_c 0 (by decide) (by decide)).trans e30
                                  have e41 : S4.1 1 = S.1 1 := (hS4_c 1 (by decide) (by decide)).trans e31
                                  have e43 : S4.1 3 = res (S.1 0) (S.1 1) := (hS4_c 3 (by decide) (by decide)).trans e33
                                  have e44 : S4.1 4 = gcdR (S.1 0) (S.1 1) := (hS4_c 4 (by decide) (by decide)).trans e34
                                  refine lv_bipush (v := (-6 : Int32)) hx hb dL_quotients_257 (by decide) ?_
                                  refine lv_icmp_ne (tgt := 266) hx hb dL_quotients_259 (by decide) (fun h_90 => ?_) (fun h_90 => ?_)
                                  · skip
                                    exact absurd (by rw [e31, e34, grb]; rfl) h_90
                                  · skip
                                    refine lv_iconst (v := nI (1)) hx hb dL_quotients_262 rfl ?_
                                    refine lv_goto (tgt := 267) hx hb dL_quotients_263 (by decide) ?_
                                    refine lv_istore (lv' := [(5, .int (nI (1))), (4, .int (nI (g))), (0, .ref (ad (136))), (1, .int (nI (da))), (2, .int (nI (db)))]) hx hb dL_quotients_267 hl (by decide) rfl (fun ls hl => ?_)
                                    refine lv_iload hx hb dL_quotients_269 (lv_at hl 0 rfl) ?_
                                    refine n_ifeq (tgt := 320) hx hb (by omega) dL_quotients_271 (by decide) (fun h_91 => absurd h_91 (by decide)) (fun h_91 => ?_)
                                    refine lv_aload_n hx hb dL_quotients_274 rfl (lv_at hl 2 rfl) ?_
                                    refine lv_iconst (v := nI (1)) hx hb dL_quotients_275 rfl ?_
                                    refine lv_iconst (v := nI (3)) hx hb dL_quotients_276 rfl ?_
                                    refine lv_iconst (v := nI (5)) hx hb dL_quotients_277 rfl ?_
                                    refine a_callV (rest := []) (nL := 6) ⟨hx, hb, hml, hown, hts⟩ (a_divisor l D cy ad hI S4 1 3 5 (by first | assumption | decide | omega) (by first | assumption | decide | omega) (by first | assumption | decide | omega) (by rw [e41, hdb]; omega)) (cwV 3 hts gL_quotients_X4_divisor rfl rfl rfl (by decide +kernel) ⟨Nat.le_of_ble_eq_true rfl, Nat.le_of_ble_eq_true rfl⟩) hK hP hS (fun _ h => h) rfl hl.1 rfl (Nat.le_of_ble_eq_true rfl) dL_quotients_278 ⟨Nat.zero_le _, Nat.zero_le _⟩ (fun o S5 H locs hpost hP hS => ?_)
                                    obtain ⟨ho, hS5_a, hS5_b⟩ := hpost
                                    subst ho
                                    have hP : aP D cy ad S5 H := hP
                                    have e50 : S5.1 0 = S.1 0 := (hS5_b 0 (by decide)).trans e40
                                    have e51 : S5.1 1 = S.1 1 := (hS5_b 1 (by decide)).trans e41
                                    have e54 : S5.1 4 = gcdR (S.1 0) (S.1 1) := (hS5_b 4 (by decide)).trans e44
                                    have e55 : S5.1 5 = gcdR (S.1 0) (S.1 1) := by rw [hS5_a, e41, e43, gres]
                                    refine lv_iload hx hb dL_quotients_281 (lv_at hl 1 rfl) ?_
                                    refine lv_icmp_ne (tgt := 320) hx hb dL_quotients_283 (by decide) (fun h_92 => ?_) (fun h_92 => ?_)
                                    · skip
                                      exact absurd (by rw [e41, e43, gres, gD, dV_s]) h_92
                                    · skip
                                      refine lv_aload_n hx hb dL_quotients_286 rfl (lv_at hl 2 rfl) ?_
                                      refine lv_iconst (v := nI (4)) hx hb dL_quotients_287 rfl ?_
                                      refine lv_iconst (v := nI (5)) hx hb dL_quotients_288 rfl ?_
                                      refine a_callSr (rest := []) (nL := 6) ⟨hx, hb, hml, hown, hts⟩ (a_L_alike l D cy ad hI S5 4 5 (by first | assumption | decide | omega) (by first | assumption | decide | omega) (by rw [e54, e55])) (va_cwS 3 hts gL_quotients_L_alike rfl rfl rfl (by decide +kernel) ⟨Nat.le_of_ble_eq_true rfl, Nat.le_of_ble_eq_true rfl⟩) hK hP hS (fun _ h => h) rfl hl.1 rfl (Nat.le_of_ble_eq_true rfl) dL_quotients_289 ⟨Nat.zero_le _, Nat.zero_le _⟩ (fun H locs hP hS => ?_)
                                      have hP : aP D cy ad S5 H := hP
                                      refine n_ifeq (tgt := 320) hx hb (by omega) dL_quotients_292 (by decide) (fun h_93 => absurd h_93 (by decide)) (fun h_93 => ?_)
                                      refine lv_aload_n hx hb dL_quotients_295 rfl (lv_at hl 2 rfl) ?_
                                      refine lv_iconst (v := nI (1)) hx hb dL_quotients_296 rfl ?_
                                      refine lv_iconst (v := nI (0)) hx hb dL_quotients_297 rfl ?_
                                      refine lv_iconst (v := nI (5)) hx hb dL_quotients_298 rfl ?_
                                      refine a_callV (rest := []) (nL := 6) ⟨hx, hb, hml, hown, hts⟩ (a_divisor l D cy ad hI S5 1 0 5 (by first | assumption | decide | omega) (by first | assumption | decide | omega) (by first | assumption | decide | omega) (by rw [e51, hdb]; omega)) (cwV 3 hts gL_quotients_X4_divisor rfl rfl rfl (by decide +kernel) ⟨Nat.le_of_ble_eq_true rfl, Nat.le_of_ble_eq_true rfl⟩) hK hP hS (fun _ h => h) rfl hl.1 rfl (Nat.le_of_ble_eq_true rfl) dL_quotients_299 ⟨Nat.zero_le _, Nat.zero_le _⟩ (fun o S6 H locs hpost hP hS => ?_)
                                      obtain ⟨ho, hS6_a, hS6_b⟩ := hpost
                                      subst ho
                                      have hP : aP D cy ad S6 H := hP
                                      have e60 : S6.1 0 = S.1 0 := (hS6_b 0 (by decide)).trans e50
                                      have e61 : S6.1 1 = S.1 1 := (hS6_b 1 (by decide)).trans e51
                                      have e64 : S6.1 4 = gcdR (S.1 0) (S.1 1) := (hS6_b 4 (by decide)).trans e54
                                      have e65 : S6.1 5 = gcdR (S.1 0) (S.1 1) := by rw [hS6_a, e51, e50, gcom]
                                      refine lv_iload hx hb dL_quotients_302 (lv_at hl 1 rfl) ?_
                                      refine lv_icmp_ne (tgt := 320) hx hb dL_quotients_304 (by decide) (fun h_94 => ?_) (fun h_94 => ?_)
                                      · skip
                                        exact absurd (by rw [e51, e50, gcom, gD, dV_s]) h_94
                                      · skip
                                        refine lv_aload_n hx hb dL_quotients_307 rfl (lv_at hl 2 rfl) ?_
                                        refine lv_iconst (v := nI (4)) hx hb dL_quotients_308 rfl ?_
                                        refine lv_iconst (v := nI (5)) hx hb dL_quotients_309 rfl ?_
                                        refine a_callSr (rest := []) (nL := 6) ⟨hx, hb, hml, hown, hts⟩ (a_L_alike l D cy ad hI S6 4 5 (by first | assumption | decide | omega) (by first | assumption | decide | omega) (by rw [e64, e65])) (va_cwS 3 hts gL_quotients_L_alike rfl rfl rfl (by decide +kernel) ⟨Nat.le_of_ble_eq_true rfl, Nat.le_of_ble_eq_true rfl⟩) hK hP hS (fun _ h => h) rfl hl.1 rfl (Nat.le_of_ble_eq_true rfl) dL_quotients_310 ⟨Nat.zero_le _, Nat.zero_le _⟩ (fun H locs hP hS => ?_)
                                        have hP : aP D cy ad S6 H := hP
                                        refine n_ifeq (tgt := 320) hx hb (by omega) dL_quotients_313 (by decide) (fun h_95 => absurd h_95 (by decide)) (fun h_95 => ?_)
                                        refine lv_iconst (v := nI (1)) hx hb dL_quotients_316 rfl ?_
                                        refine lv_goto (tgt := 321) hx hb dL_quotients_317 (by decide) ?_
                                        refine a_zret hx hb hret hlocks (by rfl) hP hS dL_quotients_321 ?_
                                        exact ⟨rfl, e60, e61⟩
                      · skip
                        refine lv_aload_n hx hb dL_quotients_125 rfl (lv_at hl 1 rfl) ?_
                        refine lv_iconst (v := nI (2)) hx hb dL_quotients_126 rfl ?_
                        refine lv_iload hx hb dL_quotients_127 (lv_at hl 0 rfl) ?_
                        refine a_callVr (rest := []) (nL := 6) ⟨hx, hb, hml, hown, hts⟩ (a_value l D cy ad hI S1 2 k (by first | assumption | decide | omega) (by first | assumption | decide | omega)) (cwV 2 hts gL_quotients_X4_value rfl rfl rfl (by decide +kernel) ⟨Nat.le_of_ble_eq_true rfl, Nat.le_of_ble_eq_true rfl⟩) hK hP hS (fun _ h => h) rfl hl.1 rfl (Nat.le_of_ble_eq_true rfl) dL_quotients_129 ⟨Nat.zero_le _, Nat.zero_le _⟩ (fun H locs hP hS => ?_)
                        have hP : aP D cy ad S1 H := hP
                        refine lv_aload_n hx hb dL_quotients_132 rfl (lv_at hl 1 rfl) ?_
                        refine lv_iconst (v := nI (1)) hx hb dL_quotients_133 rfl ?_
                        refine lv_iload hx hb dL_quotients_134 (lv_at hl 0 rfl) ?_
                        refine a_callVr (rest := [.int (nI (vx (S1.1 2) k))]) (nL := 6) ⟨hx, hb, hml, hown, hts⟩ (a_value l D cy ad hI S1 1 k (by first | assumption | decide | omega) (by first | assumption | decide | omega)) (cwV 2 hts gL_quotients_X4_value rfl rfl rfl (by decide +kernel) ⟨Nat.le_of_ble_eq_true rfl, Nat.le_of_ble_eq_true rfl⟩) hK hP hS (fun _ h => h) rfl hl.1 rfl (Nat.le_of_ble_eq_true rfl) dL_quotients_136 ⟨Nat.zero_le _, Nat.zero_le _⟩ (fun H locs hP hS => ?_)
                        have hP : aP D cy ad S1 H := hP
                        refine n_imul hx hb dL_quotients_139 ?_
                        refine lv_aload_n hx hb dL_quotients_140 rfl (lv_at hl 1 rfl) ?_
                        refine lv_iconst (v := nI (3)) hx hb dL_quotients_141 rfl ?_
                        refine lv_iload hx hb dL_quotients_142 (lv_at hl 0 rfl) ?_
                        refine a_callVr (rest := [.int (nI ((vx (S1.1 2) k) * (vx (S1.1 1) k)))]) (nL := 6) ⟨hx, hb, hml, hown, hts⟩ (a_value l D cy ad hI S1 3 k (by first | assumption | decide | omega) (by first | assumption | decide | omega)) (cwV 2 hts gL_quotients_X4_value rfl rfl rfl (by decide +kernel) ⟨Nat.le_of_ble_eq_true rfl, Nat.le_of_ble_eq_true rfl⟩) hK hP hS (fun _ h => h) rfl hl.1 rfl (Nat.le_of_ble_eq_true rfl) dL_quotients_144 ⟨Nat.zero_le _, Nat.zero_le _⟩ (fun H locs hP hS => ?_)
                        have hP : aP D cy ad S1 H := hP
                        refine n_iadd hx hb dL_quotients_147 ?_
                        refine lv_sipush (v := nI (257)) hx hb dL_quotients_148 rfl ?_
                        refine n_irem hx hb (by omega) (by omega) (by omega) dL_quotients_151  ?_
                        refine lv_aload_n hx hb dL_quotients_152 rfl (lv_at hl 1 rfl) ?_
                        refine lv_iconst (v := nI (0)) hx hb dL_quotients_153 rfl ?_
                        refine lv_iload hx hb dL_quotients_154 (lv_at hl 0 rfl) ?_
                        refine a_callVr (rest := [.int (nI ((((vx (S1.1 2) k) * (vx (S1.1 1) k)) + (vx (S1.1 3) k)) % 257))]) (nL := 6) ⟨hx, hb, hml, hown, hts⟩ (a_value l D cy ad hI S1 0 k (by first | assumption | decide | omega) (by first | assumption | decide | omega)) (cwV 2 hts gL_quotients_X4_value rfl rfl rfl (by decide +kernel) ⟨Nat.le_of_ble_eq_true rfl, Nat.le_of_ble_eq_true rfl⟩) hK hP hS (fun _ h => h) rfl hl.1 rfl (Nat.le_of_ble_eq_true rfl) dL_quotients_156 ⟨Nat.zero_le _, Nat.zero_le _⟩ (fun H locs hP hS => ?_)
                        have hP : aP D cy ad S1 H := hP
                        refine n_icmp_eq (tgt := 164) hx hb (by omega) (by omega) dL_quotients_159 (by decide) (fun h_96 => ?_) (fun h_96 => ?_)
                        · skip
                          refine lv_iinc (v := nI (k + 1)) (lv' := [(4, .int (nI (k + 1))), (0, .ref (ad (136))), (1, .int (nI (da))), (2, .int (nI (db)))]) hx hb dL_quotients_164 hl (k := 0) rfl (nI_inc _) (by decide) rfl (fun ls hl => ?_)
                          refine lv_goto (tgt := 117) hx hb dL_quotients_167 (by decide) ?_
                          exact ih117 (k + 1) (by omega) (by omega) _ _ hP hS _ hl
                        · skip
                          exact absurd (by rw [e12, e13, e10, e11]; exact div_vx ha hb1 hdb k) h_96
                  exact lp117 (_ + 1) (0) (by omega) (Nat.lt_succ_self _) _ _ hP hS _ (lv_sub hl [0, 4, 3, 2] rfl)
                · skip
                  exact absurd h_82 (by omega)
              · skip
                have hge := h_81
                refine lv_iconst (v := nI (1)) hx hb dL_quotients_100 rfl ?_
                refine lv_goto (tgt := 109) hx hb dL_quotients_101 (by decide) ?_
                refine n_icmp_eq (tgt := 114) hx hb (by omega) (by omega) dL_quotients_109 (by decide) (fun h_97 => ?_) (fun h_97 => ?_)
                · skip
                  refine lv_iconst (v := nI (0)) hx hb dL_quotients_114 rfl ?_
                  refine lv_istore (lv' := [(4, .int (nI (0))), (3, .int (dV (rD (res (S.1 0) (S.1 1))))), (2, .int (nI (db))), (1, .int (nI (da))), (0, .ref (ad (136)))]) hx hb dL_quotients_115 hl (by decide) rfl (fun ls hl => ?_)
                  have lp117 : ∀ (fu : Nat) (k : Nat), (k ≤ 257) → 257 - k < fu → ∀ (H : Heap) (locs : List Loc), aP D cy ad S1 H → va_S (wA 143 ad) s.heap H locs → ∀ (ls : Array Slot), lv_has ls 6 [(4, .int (nI (k))), (0, .ref (ad (136))), (1, .int (nI (da))), (2, .int (nI (db)))] → W p l e ({ frames := 6, cells := 0, slots := 0, locals := 144 } : Room) s m ([.ref (ad (136))] : List Value).toArray below meth c H locs 0 0 (MQ below (gQ (wA 143 ad) (fun o H => ∃ S' : kSt, (fun o S' => o = some (.int (nI 1)) ∧ S'.1 0 = S.1 0 ∧ S'.1 1 = S.1 1) o S' ∧ aP D cy ad S' H)) ([.ref (ad (136))] : List Value).toArray s 0 0 (wA 143 ad)) (F0 m 117 ls []) := by
                    intro fu
                    induction fu with
                    | zero => intro k hk hfu; exact absurd hfu (Nat.not_lt_zero _)
                    | succ fu ih117 =>
                      intro k hk hfu H locs hP hS ls hl
                      have hv0 := vx_lt (S1.1 0) k
                      have hv3 := vx_lt (S1.1 3) k
                      have hm := mul_lt_257 (vx_lt (S1.1 2) k) (vx_lt (S1.1 1) k)
                      refine lv_iload hx hb dL_quotients_117 (lv_at hl 0 rfl) ?_
                      refine lv_sipush (v := nI (257)) hx hb dL_quotients_119 rfl ?_
                      refine n_icmp_ge (tgt := 170) hx hb (by omega) (by omega) dL_quotients_122 (by decide) (fun h_98 => ?_) (fun h_98 => ?_)
                      · skip
                        refine lv_aload_n hx hb dL_quotients_170 rfl (lv_at hl 1 rfl) ?_
                        refine lv_iconst (v := nI (0)) hx hb dL_quotients_171 rfl ?_
                        refine lv_iconst (v := nI (1)) hx hb dL_quotients_172 rfl ?_
                        refine lv_iconst (v := nI (4)) hx hb dL_quotients_173 rfl ?_
                        refine a_callV (rest := []) (nL := 6) ⟨hx, hb, hml, hown, hts⟩ (a_divisor l D cy ad hI S1 0 1 4 (by first | assumption | decide | omega) (by first | assumption | decide | omega) (by first | assumption | decide | omega) (by rw [e10, e11]; omega)) (cwV 3 hts gL_quotients_X4_divisor rfl rfl rfl (by decide +kernel) ⟨Nat.le_of_ble_eq_true rfl, Nat.le_of_ble_eq_true rfl⟩) hK hP hS (fun _ h => h) rfl hl.1 rfl (Nat.le_of_ble_eq_true rfl) dL_quotients_174 ⟨Nat.zero_le _, Nat.zero_le _⟩ (fun o S2 H locs hpost hP hS => ?_)
                        obtain ⟨ho, hS2_a, hS2_b⟩ := hpost
                        subst ho
                        have hP : aP D cy ad S2 H := hP
                        obtain ⟨g, gD, gL, g1, gle, gla, gO, gra, grb, gres, gcom⟩ := gcd_law ha hb1 hdb
                        have e24 : S2.1 4 = gcdR (S.1 0) (S.1 1) := by rw [hS2_a, e10, e11]
                        have e20 : S2.1 0 = S.1 0 := (hS2_b 0 (by decide)).trans e10
                        have e21 : S2.1 1 = S.1 1 := (hS2_b 1 (by decide)).trans e11
                        have e23 : S2.1 3 = res (S.1 0) (S.1 1) := (hS2_b 3 (by decide)).trans e13
                        have hl24 : (S2.1 4).1 = g + 1 := by rw [e24]; exact gL
                        have hn24 : (S2.1 4).2 g = 1 := by rw [e24]; exact g1
                        refine n_push (a := g) (by rw [e10, e11, gD, dV_s]) ?_
                        refine lv_istore (lv' := [(4, .int (nI (g))), (0, .ref (ad (136))), (1, .int (nI (da))), (2, .int (nI (db)))]) hx hb dL_quotients_177 hl (by decide) rfl (fun ls hl => ?_)
                        refine lv_iload hx hb dL_quotients_179 (lv_at hl 0 rfl) ?_
                        refine n_iflt (tgt := 228) hx hb (by omega) dL_quotients_181 (by decide) ?_
                        refine lv_iload hx hb dL_quotients_184 (lv_at hl 0 rfl) ?_
                        refine lv_iload_n hx hb dL_quotients_186 rfl (lv_at hl 3 rfl) ?_
                        refine n_icmp_gt (tgt := 228) hx hb (by omega) (by omega) dL_quotients_187 (by decide) (fun h_99 => ?_) (fun h_99 => ?_)
                        · skip
                          exact absurd h_99 (by omega)
                        · skip
                          refine lv_iload_n hx hb dL_quotients_190 rfl (lv_at hl 2 rfl) ?_
                          refine n_iflt (tgt := 200) hx hb (by omega) dL_quotients_191 (by decide) ?_
                          refine lv_iload hx hb dL_quotients_194 (lv_at hl 0 rfl) ?_
                          refine lv_iload_n hx hb dL_quotients_196 rfl (lv_at hl 2 rfl) ?_
                          refine n_icmp_gt (tgt := 228) hx hb (by omega) (by omega) dL_quotients_197 (by decide) (fun h_100 => ?_) (fun h_100 => ?_)
                          · skip
                            exact absurd (gla da hda) (by omega)
                          · skip
                            refine lv_aload_n hx hb dL_quotients_200 rfl (lv_at hl 1 rfl) ?_
                            refine lv_iconst (v := nI (4)) hx hb dL_quotients_201 rfl ?_
                            refine lv_iconst (v := nI (0)) hx hb dL_quotients_202 rfl ?_
                            refine a_callVr (rest := []) (nL := 6) ⟨hx, hb, hml, hown, hts⟩ (a_of0 l D cy ad hI S2 4 (by first | assumption | decide | omega)) (cwV 2 hts gL_quotients_X4_of rfl rfl rfl (by decide +kernel) ⟨Nat.le_of_ble_eq_true rfl, Nat.le_of_ble_eq_true rfl⟩) hK hP hS (fun _ h => h) rfl hl.1 rfl (Nat.le_of_ble_eq_true rfl) dL_quotients_203 ⟨Nat.zero_le _, Nat.zero_le _⟩ (fun H locs hP hS => ?_)
                            have hP : aP D cy ad S2 H := hP
                            refine lv_iload hx hb dL_quotients_206 (lv_at hl 0 rfl) ?_
                            refine lv_iconst (v := nI (1)) hx hb dL_quotients_208 rfl ?_
                            refine n_iadd hx hb dL_quotients_209 ?_
                            refine n_icmp_ne (tgt := 228) hx hb (by omega) (by omega) dL_quotients_210 (by decide) (fun h_101 => ?_) (fun h_101 => ?_)
                            · skip
                              exact absurd h_101 (by omega)
                            · skip
                              refine lv_aload_n hx hb dL_quotients_213 rfl (lv_at hl 1 rfl) ?_
                              refine lv_iconst (v := nI (4)) hx hb dL_quotients_214 rfl ?_
                              refine lv_iload hx hb dL_quotients_215 (lv_at hl 0 rfl) ?_
                              refine a_callVr (rest := []) (nL := 6) ⟨hx, hb, hml, hown, hts⟩ (a_number l D cy ad hI S2 4 g (by first | assumption | decide | omega) (by first | assumption | decide | omega)) (cwV 2 hts gL_quotients_X4_number rfl rfl rfl (by decide +kernel) ⟨Nat.le_of_ble_eq_true rfl, Nat.le_of_ble_eq_true rfl⟩) hK hP hS (fun _ h => h) rfl hl.1 rfl (Nat.le_of_ble_eq_true rfl) dL_quotients_217 ⟨Nat.zero_le _, Nat.zero_le _⟩ (fun H locs hP hS => ?_)
                              have hP : aP D cy ad S2 H := hP
                              refine lv_iconst (v := nI (1)) hx hb dL_quotients_220 rfl ?_
                              refine n_icmp_ne (tgt := 228) hx hb (by omega) (by omega) dL_quotients_221 (by decide) (fun h_102 => ?_) (fun h_102 => ?_)
                              · skip
                                exact absurd h_102 (by omega)
                              · skip
                                refine lv_iconst (v := nI (1)) hx hb dL_quotients_224 rfl ?_
                                refine lv_goto (tgt := 229) hx hb dL_quotients_225 (by decide) ?_
                                refine lv_istore (lv' := [(5, .int (nI (1))), (4, .int (nI (g))), (0, .ref (ad (136))), (1, .int (nI (da))), (2, .int (nI (db)))]) hx hb dL_quotients_229 hl (by decide) rfl (fun ls hl => ?_)
                                refine lv_iload hx hb dL_quotients_231 (lv_at hl 0 rfl) ?_
                                refine n_ifeq (tgt := 266) hx hb (by omega) dL_quotients_233 (by decide) (fun h_103 => absurd h_103 (by decide)) (fun h_103 => ?_)
                                refine lv_aload_n hx hb dL_quotients_236 rfl (lv_at hl 2 rfl) ?_
                                refine lv_iconst (v := nI (0)) hx hb dL_quotients_237 rfl ?_
                                refine lv_iconst (v := nI (4)) hx hb dL_quotients_238 rfl ?_
                                refine lv_iconst (v := nI (2)) hx hb dL_quotients_239 rfl ?_
                                refine lv_iconst (v := nI (5)) hx hb dL_quotients_240 rfl ?_
                                refine a_callV (rest := []) (nL := 6) ⟨hx, hb, hml, hown, hts⟩ (a_divide l D cy ad hI S2 0 4 2 5 (by first | assumption | decide | omega) (by first | assumption | decide | omega) (by first | assumption | decide | omega) (by first | assumption | decide | omega) (by first | assumption | decide | omega) (by rw [e24, gD]; omega)) (cwV 4 hts gL_quotients_X4_divide rfl rfl rfl (by decide +kernel) ⟨Nat.le_of_ble_eq_true rfl, Nat.le_of_ble_eq_true rfl⟩) hK hP hS (fun _ h => h) rfl hl.1 rfl (Nat.le_of_ble_eq_true rfl) dL_quotients_241 ⟨Nat.zero_le _, Nat.zero_le _⟩ (fun o S3 H locs hpost hP hS => ?_)
                                obtain ⟨ho, hS3_a, hS3_b, hS3_c⟩ := hpost
                                subst ho
                                have hP : aP D cy ad S3 H := hP
                                have e30 : S3.1 0 = S.1 0 := (hS3_c 0 (by decide) (by decide)).trans e20
                                have e31 : S3.1 1 = S.1 1 := (hS3_c 1 (by decide) (by decide)).trans e21
                                have e33 : S3.1 3 = res (S.1 0) (S.1 1) := (hS3_c 3 (by decide) (by decide)).trans e23
                                have e34 : S3.1 4 = gcdR (S.1 0) (S.1 1) := (hS3_c 4 (by decide) (by decide)).trans e24
                                refine lv_bipush (v := (-6 : Int32)) hx hb dL_quotients_244 (by decide) ?_
                                refine lv_icmp_ne (tgt := 266) hx hb dL_quotients_246 (by decide) (fun h_104 => ?_) (fun h_104 => ?_)
                                · skip
                                  exact absurd (by rw [e20, e24, gra]; rfl) h_104
                                · skip
                                  refine lv_aload_n hx hb dL_quotients_249 rfl (lv_at hl 2 rfl) ?_
                                  refine lv_iconst (v := nI (1)) hx hb dL_quotients_250 rfl ?_
                                  refine lv_iconst (v := nI (4)) hx hb dL_quotients_251 rfl ?_
                                  refine lv_iconst (v := nI (2)) hx hb dL_quotients_252 rfl ?_
                                  refine lv_iconst (v := nI (5)) hx hb dL_quotients_253 rfl ?_
                                  refine a_callV (rest := []) (nL := 6) ⟨hx, hb, hml, hown, hts⟩ (a_divide l D cy ad hI S3 1 4 2 5 (by first | assumption | decide | omega) (by first | assumption | decide | omega) (by first | assumption | decide | omega) (by first | assumption | decide | omega) (by first | assumption | decide | omega) (by rw [e34, gD]; omega)) (cwV 4 hts gL_quotients_X4_divide rfl rfl rfl (by decide +kernel) ⟨Nat.le_of_ble_eq_true rfl, Nat.le_of_ble_eq_true rfl⟩) hK hP hS (fun _ h => h) rfl hl.1 rfl (Nat.le_of_ble_eq_true rfl) dL_quotients_254 ⟨Nat.zero_le _, Nat.zero_le _⟩ (fun o S4 H locs hpost hP hS => ?_)
                                  obtain ⟨ho, hS4_a, hS4_b, hS4_c⟩ := hpost
                                  subst ho
                                  have hP : aP D cy ad S4 H := hP
                                  have e40 : S4.1 0 = S.1 0 := (hS4_c 0 (by decide) (by decide)).trans e30
                                  have e41 : S4.1 1 = S.1 1 := (hS4_c 1 (by decide) (by decide)).trans e31
                                  have e43 : S4.1 3 = res (S.1 0) (S.1 1) := (hS4_c 3 (by decide) (by decide)).trans e33
                                  have e44 : S4.1 4 = gcdR (S.1 0) (S.1 1) := (hS4_c 4 (by decide) (by decide)).trans e34
                                  refine lv_bipush (v := (-6 : Int32)) hx hb dL_quotients_257 (by decide) ?_
                                  refine lv_icmp_ne (tgt := 266) hx hb dL_quotients_259 (by decide) (fun h_105 => ?_) (fun h_105 => ?_)
                                  · skip
                                    exact absurd (by rw [e31, e34, grb]; rfl) h_105
                                  · skip
                                    refine lv_iconst (v := nI (1)) hx hb dL_quotients_262 rfl ?_
                                    refine lv_goto (tgt := 267) hx hb dL_quotients_263 (by decide) ?_
                                    refine lv_istore (lv' := [(5, .int (nI (1))), (4, .int (nI (g))), (0, .ref (ad (136))), (1, .int (nI (da))), (2, .int (nI (db)))]) hx hb dL_quotients_267 hl (by decide) rfl (fun ls hl => ?_)
                                    refine lv_iload hx hb dL_quotients_269 (lv_at hl 0 rfl) ?_
                                    refine n_ifeq (tgt := 320) hx hb (by omega) dL_quotients_271 (by decide) (fun h_106 => absurd h_106 (by decide)) (fun h_106 => ?_)
                                    refine lv_aload_n hx hb dL_quotients_274 rfl (lv_at hl 2 rfl) ?_
                                    refine lv_iconst (v := nI (1)) hx hb dL_quotients_275 rfl ?_
                                    refine lv_iconst (v := nI (3)) hx hb dL_quotients_276 rfl ?_
                                    refine lv_iconst (v := nI (5)) hx hb dL_quotients_277 rfl ?_
                                    refine a_callV (rest := []) (nL := 6) ⟨hx, hb, hml, hown, hts⟩ (a_divisor l D cy ad hI S4 1 3 5 (by first | assumption | decide | omega) (by first | assumption | decide | omega) (by first | assumption | decide | omega) (by rw [e41, hdb]; omega)) (cwV 3 hts gL_quotients_X4_divisor rfl rfl rfl (by decide +kernel) ⟨Nat.le_of_ble_eq_true rfl, Nat.le_of_ble_eq_true rfl⟩) hK hP hS (fun _ h => h) rfl hl.1 rfl (Nat.le_of_ble_eq_true rfl) dL_quotients_278 ⟨Nat.zero_le _, Nat.zero_le _⟩ (fun o S5 H locs hpost hP hS => ?_)
                                    obtain ⟨ho, hS5_a, hS5_b⟩ := hpost
                                    subst ho
                                    have hP : aP D cy ad S5 H := hP
                                    have e50 : S5.1 0 = S.1 0 := (hS5_b 0 (by decide)).trans e40
                                    have e51 : S5.1 1 = S.1 1 := (hS5_b 1 (by decide)).trans e41
                                    have e54 : S5.1 4 = gcdR (S.1 0) (S.1 1) := (hS5_b 4 (by decide)).trans e44
                                    have e55 : S5.1 5 = gcdR (S.1 0) (S.1 1) := by rw [hS5_a, e41, e43, gres]
                                    refine lv_iload hx hb dL_quotients_281 (lv_at hl 1 rfl) ?_
                                    refine lv_icmp_ne (tgt := 320) hx hb dL_quotients_283 (by decide) (fun h_107 => ?_) (fun h_107 => ?_)
                                    · skip
                                      exact absurd (by rw [e41, e43, gres, gD, dV_s]) h_107
                                    · skip
                                      refine lv_aload_n hx hb dL_quotients_286 rfl (lv_at hl 2 rfl) ?_
                                      refine lv_iconst (v := nI (4)) hx hb dL_quotients_287 rfl ?_
                                      refine lv_iconst (v := nI (5)) hx hb dL_quotients_288 rfl ?_
                                      refine a_callSr (rest := []) (nL := 6) ⟨hx, hb, hml, hown, hts⟩ (a_L_alike l D cy ad hI S5 4 5 (by first | assumption | decide | omega) (by first | assumption | decide | omega) (by rw [e54, e55])) (va_cwS 3 hts gL_quotients_L_alike rfl rfl rfl (by decide +kernel) ⟨Nat.le_of_ble_eq_true rfl, Nat.le_of_ble_eq_true rfl⟩) hK hP hS (fun _ h => h) rfl hl.1 rfl (Nat.le_of_ble_eq_true rfl) dL_quotients_289 ⟨Nat.zero_le _, Nat.zero_le _⟩ (fun H locs hP hS => ?_)
                                      have hP : aP D cy ad S5 H := hP
                                      refine n_ifeq (tgt := 320) hx hb (by omega) dL_quotients_292 (by decide) (fun h_108 => absurd h_108 (by decide)) (fun h_108 => ?_)
                                      refine lv_aload_n hx hb dL_quotients_295 rfl (lv_at hl 2 rfl) ?_
                                      refine lv_iconst (v := nI (1)) hx hb dL_quotients_296 rfl ?_
                                      refine lv_iconst (v := nI (0)) hx hb dL_quotients_297 rfl ?_
                                      refine lv_iconst (v := nI (5)) hx hb dL_quotients_298 rfl ?_
                                      refine a_callV (rest := []) (nL := 6) ⟨hx, hb, hml, hown, hts⟩ (a_divisor l D cy ad hI S5 1 0 5 (by first | assumption | decide | omega) (by first | assumption | decide | omega) (by first | assumption | decide | omega) (by rw [e51, hdb]; omega)) (cwV 3 hts gL_quotients_X4_divisor rfl rfl rfl (by decide +kernel) ⟨Nat.le_of_ble_eq_true rfl, Nat.le_of_ble_eq_true rfl⟩) hK hP hS (fun _ h => h) rfl hl.1 rfl (Nat.le_of_ble_eq_true rfl) dL_quotients_299 ⟨Nat.zero_le _, Nat.zero_le _⟩ (fun o S6 H locs hpost hP hS => ?_)
                                      obtain ⟨ho, hS6_a, hS6_b⟩ := hpost
                                      subst ho
                                      have hP : aP D cy ad S6 H := hP
                                      have e60 : S6.1 0 = S.1 0 := (hS6_b 0 (by decide)).trans e50
                                      have e61 : S6.1 1 = S.1 1 := (hS6_b 1 (by decide)).trans e51
                                      have e64 : S6.1 4 = gcdR (S.1 0) (S.1 1) := (hS6_b 4 (by decide)).trans e54
                                      have e65 : S6.1 5 = gcdR (S.1 0) (S.1 1) := by rw [hS6_a, e51, e50, gcom]
                                      refine lv_iload hx hb dL_quotients_302 (lv_at hl 1 rfl) ?_
                                      refine lv_icmp_ne (tgt := 320) hx hb dL_quotients_304 (by decide) (fun h_109 => ?_) (fun h_109 => ?_)
                                      · skip
                                        exact absurd (by rw [e51, e50, gcom, gD, dV_s]) h_109
                                      · skip
                                        refine lv_aload_n hx hb dL_quotients_307 rfl (lv_at hl 2 rfl) ?_
                                        refine lv_iconst (v := nI (4)) hx hb dL_quotients_308 rfl ?_
                                        refine lv_iconst (v := nI (5)) hx hb dL_quotients_309 rfl ?_
                                        refine a_callSr (rest := []) (nL := 6) ⟨hx, hb, hml, hown, hts⟩ (a_L_alike l D cy ad hI S6 4 5 (by first | assumption | decide | omega) (by first | assumption | decide | omega) (by rw [e64, e65])) (va_cwS 3 hts gL_quotients_L_alike rfl rfl rfl (by decide +kernel) ⟨Nat.le_of_ble_eq_true rfl, Nat.le_of_ble_eq_true rfl⟩) hK hP hS (fun _ h => h) rfl hl.1 rfl (Nat.le_of_ble_eq_true rfl) dL_quotients_310 ⟨Nat.zero_le _, Nat.zero_le _⟩ (fun H locs hP hS => ?_)
                                        have hP : aP D cy ad S6 H := hP
                                        refine n_ifeq (tgt := 320) hx hb (by omega) dL_quotients_313 (by decide) (fun h_110 => absurd h_110 (by decide)) (fun h_110 => ?_)
                                        refine lv_iconst (v := nI (1)) hx hb dL_quotients_316 rfl ?_
                                        refine lv_goto (tgt := 321) hx hb dL_quotients_317 (by decide) ?_
                                        refine a_zret hx hb hret hlocks (by rfl) hP hS dL_quotients_321 ?_
                                        exact ⟨rfl, e60, e61⟩
                      · skip
                        refine lv_aload_n hx hb dL_quotients_125 rfl (lv_at hl 1 rfl) ?_
                        refine lv_iconst (v := nI (2)) hx hb dL_quotients_126 rfl ?_
                        refine lv_iload hx hb dL_quotients_127 (lv_at hl 0 rfl) ?_
                        refine a_callVr (rest := []) (nL := 6) ⟨hx, hb, hml, hown, hts⟩ (a_value l D cy ad hI S1 2 k (by first | assumption | decide | omega) (by first | assumption | decide | omega)) (cwV 2 hts gL_quotients_X4_value rfl rfl rfl (by decide +kernel) ⟨Nat.le_of_ble_eq_true rfl, Nat.le_of_ble_eq_true rfl⟩) hK hP hS (fun _ h => h) rfl hl.1 rfl (Nat.le_of_ble_eq_true rfl) dL_quotients_129 ⟨Nat.zero_le _, Nat.zero_le _⟩ (fun H locs hP hS => ?_)
                        have hP : aP D cy ad S1 H := hP
                        refine lv_aload_n hx hb dL_quotients_132 rfl (lv_at hl 1 rfl) ?_
                        refine lv_iconst (v := nI (1)) hx hb dL_quotients_133 rfl ?_
                        refine lv_iload hx hb dL_quotients_134 (lv_at hl 0 rfl) ?_
                        refine a_callVr (rest := [.int (nI (vx (S1.1 2) k))]) (nL := 6) ⟨hx, hb, hml, hown, hts⟩ (a_value l D cy ad hI S1 1 k (by first | assumption | decide | omega) (by first | assumption | decide | omega)) (cwV 2 hts gL_quotients_X4_value rfl rfl rfl (by decide +kernel) ⟨Nat.le_of_ble_eq_true rfl, Nat.le_of_ble_eq_true rfl⟩) hK hP hS (fun _ h => h) rfl hl.1 rfl (Nat.le_of_ble_eq_true rfl) dL_quotients_136 ⟨Nat.zero_le _, Nat.zero_le _⟩ (fun H locs hP hS => ?_)
                        have hP : aP D cy ad S1 H := hP
                        refine n_imul hx hb dL_quotients_139 ?_
                        refine lv_aload_n hx hb dL_quotients_140 rfl (lv_at hl 1 rfl) ?_
                        refine lv_iconst (v := nI (3)) hx hb dL_quotients_141 rfl ?_
                        refine lv_iload hx hb dL_quotients_142 (lv_at hl 0 rfl) ?_
                        refine a_callVr (rest := [.int (nI ((vx (S1.1 2) k) * (vx (S1.1 1) k)))]) (nL := 6) ⟨hx, hb, hml, hown, hts⟩ (a_value l D cy ad hI S1 3 k (by first | assumption | decide | omega) (by first | assumption | decide | omega)) (cwV 2 hts gL_quotients_X4_value rfl rfl rfl (by decide +kernel) ⟨Nat.le_of_ble_eq_true rfl, Nat.le_of_ble_eq_true rfl⟩) hK hP hS (fun _ h => h) rfl hl.1 rfl (Nat.le_of_ble_eq_true rfl) dL_quotients_144 ⟨Nat.zero_le _, Nat.zero_le _⟩ (fun H locs hP hS => ?_)
                        have hP : aP D cy ad S1 H := hP
                        refine n_iadd hx hb dL_quotients_147 ?_
                        refine lv_sipush (v := nI (257)) hx hb dL_quotients_148 rfl ?_
                        refine n_irem hx hb (by omega) (by omega) (by omega) dL_quotients_151  ?_
                        refine lv_aload_n hx hb dL_quotients_152 rfl (lv_at hl 1 rfl) ?_
                        refine lv_iconst (v := nI (0)) hx hb dL_quotients_153 rfl ?_
                        refine lv_iload hx hb dL_quotients_154 (lv_at hl 0 rfl) ?_
                        refine a_callVr (rest := [.int (nI ((((vx (S1.1 2) k) * (vx (S1.1 1) k)) + (vx (S1.1 3) k)) % 257))]) (nL := 6) ⟨hx, hb, hml, hown, hts⟩ (a_value l D cy ad hI S1 0 k (by first | assumption | decide | omega) (by first | assumption | decide | omega)) (cwV 2 hts gL_quotients_X4_value rfl rfl rfl (by decide +kernel) ⟨Nat.le_of_ble_eq_true rfl, Nat.le_of_ble_eq_true rfl⟩) hK hP hS (fun _ h => h) rfl hl.1 rfl (Nat.le_of_ble_eq_true rfl) dL_quotients_156 ⟨Nat.zero_le _, Nat.zero_le _⟩ (fun H locs hP hS => ?_)
                        have hP : aP D cy ad S1 H := hP
                        refine n_icmp_eq (tgt := 164) hx hb (by omega) (by omega) dL_quotients_159 (by decide) (fun h_111 => ?_) (fun h_111 => ?_)
                        · skip
                          refine lv_iinc (v := nI (k + 1)) (lv' := [(4, .int (nI (k + 1))), (0, .ref (ad (136))), (1, .int (nI (da))), (2, .int (nI (db)))]) hx hb dL_quotients_164 hl (k := 0) rfl (nI_inc _) (by decide) rfl (fun ls hl => ?_)
                          refine lv_goto (tgt := 117) hx hb dL_quotients_167 (by decide) ?_
                          exact ih117 (k + 1) (by omega) (by omega) _ _ hP hS _ hl
                        · skip
                          exact absurd (by rw [e12, e13, e10, e11]; exact div_vx ha hb1 hdb k) h_111
                  exact lp117 (_ + 1) (0) (by omega) (Nat.lt_succ_self _) _ _ hP hS _ (lv_sub hl [0, 4, 3, 2] rfl)
                · skip
                  exact absurd h_97 (by omega)
set_option maxHeartbeats 4000000 in
set_option maxRecDepth 100000 in
theorem a_L_inverse (l : Launch) (D : va_G) (cy : Nat → ClassId) (ad : Nat → Nat) (hI : wI 143 ad) (S : kSt) (many : Nat) (hn : 1 ≤ many ∧ many ≤ 64) : aM l yL_inverse wsL_inverse ({ frames := 6, cells := 0, slots := 0, locals := 128 } : Room) D cy ad S [.ref (ad (136)), .int (nI (many))] (fun o S' => o = some (.int (nI 1)) ∧ S'.1 0 = S.1 0 ∧ S'.1 1 = S.1 1) := by
  refine g_met cL_inverse 7 (some .boolean) (by decide) rfl (Nat.le_of_ble_eq_true rfl) ?_
  intro p e s m below meth c ls hx hb hret hts hown hlocks hml hK hP hS hl
  have hl : lv_has ls 7 [(0, .ref (ad (136))), (1, .int (nI (many)))] := hl
  have hown : s.vm.findClass RL = some m.cls := hown
  have hrow : ∀ r, r < 6 → rO (S.1 r) := hP.row
  have ha := hrow 0 (by decide)
  have hb1 := hrow 1 (by decide)
  have hal := ha.2.1
  have hal1 := ha.1
  have hbl := hb1.2.1
  have hbl1 := hb1.1
  have hf0 := ha.2.2.1 0
  by_cases hz : (S.1 0).2 0 = 0
  · skip
    refine lv_aload_n hx hb dL_inverse_0 rfl (lv_at hl 0 rfl) ?_
    refine lv_iconst (v := nI (0)) hx hb dL_inverse_1 rfl ?_
    refine lv_iload_n hx hb dL_inverse_2 rfl (lv_at hl 1 rfl) ?_
    refine lv_iconst (v := nI (2)) hx hb dL_inverse_3 rfl ?_
    refine a_callVr (rest := []) (nL := 7) ⟨hx, hb, hml, hown, hts⟩ (a_inverse0 l D cy ad hI S 0 many 2 (by first | assumption | decide | omega) (by first | assumption | decide | omega) (by first | assumption | decide | omega) hz) (cwV 3 hts gL_inverse_X4_inverse rfl rfl rfl (by decide +kernel) ⟨Nat.le_of_ble_eq_true rfl, Nat.le_of_ble_eq_true rfl⟩) hK hP hS (fun _ h => h) rfl hl.1 rfl (Nat.le_of_ble_eq_true rfl) dL_inverse_4 ⟨Nat.zero_le _, Nat.zero_le _⟩ (fun H locs hP hS => ?_)
    have hP : aP D cy ad S H := hP
    refine lv_istore_n (lv' := [(2, .int (-5)), (0, .ref (ad (136))), (1, .int (nI (many)))]) hx hb dL_inverse_7 rfl hl (by decide) rfl (fun ls hl => ?_)
    refine lv_aload_n hx hb dL_inverse_8 rfl (lv_at hl 1 rfl) ?_
    refine lv_iconst (v := nI (0)) hx hb dL_inverse_9 rfl ?_
    refine lv_iconst (v := nI (0)) hx hb dL_inverse_10 rfl ?_
    refine a_callVr (rest := []) (nL := 7) ⟨hx, hb, hml, hown, hts⟩ (a_number l D cy ad hI S 0 0 (by first | assumption | decide | omega) (by first | assumption | decide | omega)) (cwV 2 hts gL_inverse_X4_number rfl rfl rfl (by decide +kernel) ⟨Nat.le_of_ble_eq_true rfl, Nat.le_of_ble_eq_true rfl⟩) hK hP hS (fun _ h => h) rfl hl.1 rfl (Nat.le_of_ble_eq_true rfl) dL_inverse_11 ⟨Nat.zero_le _, Nat.zero_le _⟩ (fun H locs hP hS => ?_)
    have hP : aP D cy ad S H := hP
    refine n_ifne (tgt := 29) hx hb (by omega) dL_inverse_14 (by decide) (fun h_1 => ?_) (fun h_1 => ?_)
    · skip
      exact absurd hz h_1
    · skip
      refine lv_iload_n hx hb dL_inverse_17 rfl (lv_at hl 0 rfl) ?_
      refine lv_bipush (v := (-5 : Int32)) hx hb dL_inverse_18 (by decide) ?_
      refine lv_icmp_ne (tgt := 27) hx hb dL_inverse_20 (by decide) (fun h_2 => ?_) (fun h_2 => ?_)
      · skip
        exact absurd rfl h_2
      · skip
        refine lv_iconst (v := nI (1)) hx hb dL_inverse_23 rfl ?_
        refine lv_goto (tgt := 28) hx hb dL_inverse_24 (by decide) ?_
        refine a_zret hx hb hret hlocks (by rfl) hP hS dL_inverse_28 ?_
        exact ⟨rfl, rfl, rfl⟩
  · skip
    refine lv_aload_n hx hb dL_inverse_0 rfl (lv_at hl 0 rfl) ?_
    refine lv_iconst (v := nI (0)) hx hb dL_inverse_1 rfl ?_
    refine lv_iload_n hx hb dL_inverse_2 rfl (lv_at hl 1 rfl) ?_
    refine lv_iconst (v := nI (2)) hx hb dL_inverse_3 rfl ?_
    refine a_callV (rest := []) (nL := 7) ⟨hx, hb, hml, hown, hts⟩ (a_inverse l D cy ad hI S 0 many 2 (by first | assumption | decide | omega) (by first | assumption | decide | omega) (by first | assumption | decide | omega) hz) (cwV 3 hts gL_inverse_X4_inverse rfl rfl rfl (by decide +kernel) ⟨Nat.le_of_ble_eq_true rfl, Nat.le_of_ble_eq_true rfl⟩) hK hP hS (fun _ h => h) rfl hl.1 rfl (Nat.le_of_ble_eq_true rfl) dL_inverse_4 ⟨Nat.zero_le _, Nat.zero_le _⟩ (fun o S1 H locs hpost hP hS => ?_)
    obtain ⟨ho, hS1_a, hS1_b⟩ := hpost
    subst ho
    have hP : aP D cy ad S1 H := hP
    have e10 : S1.1 0 = S.1 0 := hS1_b 0 (by decide)
    have e11 : S1.1 1 = S.1 1 := hS1_b 1 (by decide)
    have e12 : S1.1 2 = invR (S.1 0) many := hS1_a
    obtain ⟨dI, hdI⟩ := invR_dg ha hn hz
    have hdl := (rD_le (invR_O (a := S.1 0) hn)).2
    have hl12 : (S1.1 2).1 = many := by rw [e12]; rfl
    have hl10 : (S1.1 0).1 = (S.1 0).1 := by rw [e10]
    have hr1 := hP.row
    have hq0 := (hr1 0 (by decide)).2.2.1 0
    have hm0 := mul_lt_257 ((hr1 2 (by decide)).2.2.1 0) hq0
    refine n_push (a := dI) (by rw [hdI, dV_s]) ?_
    refine lv_istore_n (lv' := [(2, .int (nI (dI))), (0, .ref (ad (136))), (1, .int (nI (many)))]) hx hb dL_inverse_7 rfl hl (by decide) rfl (fun ls hl => ?_)
    refine lv_aload_n hx hb dL_inverse_8 rfl (lv_at hl 1 rfl) ?_
    refine lv_iconst (v := nI (0)) hx hb dL_inverse_9 rfl ?_
    refine lv_iconst (v := nI (0)) hx hb dL_inverse_10 rfl ?_
    refine a_callVr (rest := []) (nL := 7) ⟨hx, hb, hml, hown, hts⟩ (a_number l D cy ad hI S1 0 0 (by first | assumption | decide | omega) (by first | assumption | decide | omega)) (cwV 2 hts gL_inverse_X4_number rfl rfl rfl (by decide +kernel) ⟨Nat.le_of_ble_eq_true rfl, Nat.le_of_ble_eq_true rfl⟩) hK hP hS (fun _ h => h) rfl hl.1 rfl (Nat.le_of_ble_eq_true rfl) dL_inverse_11 ⟨Nat.zero_le _, Nat.zero_le _⟩ (fun H locs hP hS => ?_)
    have hP : aP D cy ad S1 H := hP
    refine n_ifne (tgt := 29) hx hb (by omega) dL_inverse_14 (by decide) (fun h_3 => ?_) (fun h_3 => ?_)
    · skip
      refine lv_iload_n hx hb dL_inverse_29 rfl (lv_at hl 0 rfl) ?_
      refine lv_aload_n hx hb dL_inverse_30 rfl (lv_at hl 1 rfl) ?_
      refine lv_iconst (v := nI (2)) hx hb dL_inverse_31 rfl ?_
      refine a_callSr (rest := [.int (nI (dI))]) (nL := 7) ⟨hx, hb, hml, hown, hts⟩ (a_L_degreeS l D cy ad hI S1 2 dI (by first | assumption | decide | omega) (by rw [e12]; exact hdI)) (va_cwS 2 hts gL_inverse_L_degree rfl rfl rfl (by decide +kernel) ⟨Nat.le_of_ble_eq_true rfl, Nat.le_of_ble_eq_true rfl⟩) hK hP hS (fun _ h => h) rfl hl.1 rfl (Nat.le_of_ble_eq_true rfl) dL_inverse_32 ⟨Nat.zero_le _, Nat.zero_le _⟩ (fun H locs hP hS => ?_)
      have hP : aP D cy ad S1 H := hP
      refine n_icmp_ne (tgt := 77) hx hb (by omega) (by omega) dL_inverse_35 (by decide) (fun h_4 => ?_) (fun h_4 => ?_)
      · skip
        exact absurd rfl h_4
      · skip
        refine lv_iload_n hx hb dL_inverse_38 rfl (lv_at hl 0 rfl) ?_
        refine n_iflt (tgt := 77) hx hb (by omega) dL_inverse_39 (by decide) ?_
        refine lv_aload_n hx hb dL_inverse_42 rfl (lv_at hl 1 rfl) ?_
        refine lv_iconst (v := nI (2)) hx hb dL_inverse_43 rfl ?_
        refine lv_iconst (v := nI (0)) hx hb dL_inverse_44 rfl ?_
        refine a_callVr (rest := []) (nL := 7) ⟨hx, hb, hml, hown, hts⟩ (a_of0 l D cy ad hI S1 2 (by first | assumption | decide | omega)) (cwV 2 hts gL_inverse_X4_of rfl rfl rfl (by decide +kernel) ⟨Nat.le_of_ble_eq_true rfl, Nat.le_of_ble_eq_true rfl⟩) hK hP hS (fun _ h => h) rfl hl.1 rfl (Nat.le_of_ble_eq_true rfl) dL_inverse_45 ⟨Nat.zero_le _, Nat.zero_le _⟩ (fun H locs hP hS => ?_)
        have hP : aP D cy ad S1 H := hP
        refine lv_iload_n hx hb dL_inverse_48 rfl (lv_at hl 2 rfl) ?_
        refine n_icmp_ne (tgt := 77) hx hb (by omega) (by omega) dL_inverse_49 (by decide) (fun h_5 => ?_) (fun h_5 => ?_)
        · skip
          exact absurd h_5 (by omega)
        · skip
          refine lv_aload_n hx hb dL_inverse_52 rfl (lv_at hl 1 rfl) ?_
          refine lv_iconst (v := nI (2)) hx hb dL_inverse_53 rfl ?_
          refine lv_iconst (v := nI (0)) hx hb dL_inverse_54 rfl ?_
          refine a_callVr (rest := []) (nL := 7) ⟨hx, hb, hml, hown, hts⟩ (a_number l D cy ad hI S1 2 0 (by first | assumption | decide | omega) (by first | assumption | decide | omega)) (cwV 2 hts gL_inverse_X4_number rfl rfl rfl (by decide +kernel) ⟨Nat.le_of_ble_eq_true rfl, Nat.le_of_ble_eq_true rfl⟩) hK hP hS (fun _ h => h) rfl hl.1 rfl (Nat.le_of_ble_eq_true rfl) dL_inverse_55 ⟨Nat.zero_le _, Nat.zero_le _⟩ (fun H locs hP hS => ?_)
          have hP : aP D cy ad S1 H := hP
          refine lv_aload_n hx hb dL_inverse_58 rfl (lv_at hl 1 rfl) ?_
          refine lv_iconst (v := nI (0)) hx hb dL_inverse_59 rfl ?_
          refine lv_iconst (v := nI (0)) hx hb dL_inverse_60 rfl ?_
          refine a_callVr (rest := [.int (nI ((S1.1 2).2 0))]) (nL := 7) ⟨hx, hb, hml, hown, hts⟩ (a_number l D cy ad hI S1 0 0 (by first | assumption | decide | omega) (by first | assumption | decide | omega)) (cwV 2 hts gL_inverse_X4_number rfl rfl rfl (by decide +kernel) ⟨Nat.le_of_ble_eq_true rfl, Nat.le_of_ble_eq_true rfl⟩) hK hP hS (fun _ h => h) rfl hl.1 rfl (Nat.le_of_ble_eq_true rfl) dL_inverse_61 ⟨Nat.zero_le _, Nat.zero_le _⟩ (fun H locs hP hS => ?_)
          have hP : aP D cy ad S1 H := hP
          refine n_imul hx hb dL_inverse_64 ?_
          refine lv_sipush (v := nI (257)) hx hb dL_inverse_65 rfl ?_
          refine n_irem hx hb (by omega) (by omega) (by omega) dL_inverse_68  ?_
          refine lv_iconst (v := nI (1)) hx hb dL_inverse_69 rfl ?_
          refine n_icmp_ne (tgt := 77) hx hb (by omega) (by omega) dL_inverse_70 (by decide) (fun h_6 => ?_) (fun h_6 => ?_)
          · skip
            exact absurd (by rw [e12, e10]; exact invR_1 ha (by omega) hz) h_6
          · skip
            refine lv_iconst (v := nI (1)) hx hb dL_inverse_73 rfl ?_
            refine lv_goto (tgt := 78) hx hb dL_inverse_74 (by decide) ?_
            refine lv_istore_n (lv' := [(3, .int (nI (1))), (2, .int (nI (dI))), (0, .ref (ad (136))), (1, .int (nI (many)))]) hx hb dL_inverse_78 rfl hl (by decide) rfl (fun ls hl => ?_)
            refine lv_iconst (v := nI (1)) hx hb dL_inverse_79 rfl ?_
            refine lv_istore (lv' := [(4, .int (nI (1))), (3, .int (nI (1))), (2, .int (nI (dI))), (0, .ref (ad (136))), (1, .int (nI (many)))]) hx hb dL_inverse_80 hl (by decide) rfl (fun ls hl => ?_)
            have lp82 : ∀ (fu : Nat) (k : Nat), (1 ≤ k ∧ k ≤ many) → many - k < fu → ∀ (H : Heap) (locs : List Loc), aP D cy ad S1 H → va_S (wA 143 ad) s.heap H locs → ∀ (ls : Array Slot), lv_has ls 7 [(4, .int (nI (k))), (3, .int (nI (1))), (0, .ref (ad (136))), (1, .int (nI (many)))] → W p l e ({ frames := 6, cells := 0, slots := 0, locals := 128 } : Room) s m ([.ref (ad (136)), .int (nI (many))] : List Value).toArray below meth c H locs 0 0 (MQ below (gQ (wA 143 ad) (fun o H => ∃ S' : kSt, (fun o S' => o = some (.int (nI 1)) ∧ S'.1 0 = S.1 0 ∧ S'.1 1 = S.1 1) o S' ∧ aP D cy ad S' H)) ([.ref (ad (136)), .int (nI (many))] : List Value).toArray s 0 0 (wA 143 ad)) (F0 m 82 ls []) := by
              intro fu
              induction fu with
              | zero => intro k hk hfu; exact absurd hfu (Nat.not_lt_zero _)
              | succ fu ih82 =>
                intro k hk hfu H locs hP hS ls hl
                refine lv_iload hx hb dL_inverse_82 (lv_at hl 0 rfl) ?_
                refine lv_iload_n hx hb dL_inverse_84 rfl (lv_at hl 3 rfl) ?_
                refine n_icmp_ge (tgt := 155) hx hb (by omega) (by omega) dL_inverse_85 (by decide) (fun h_7 => ?_) (fun h_7 => ?_)
                · skip
                  refine lv_iload_n hx hb dL_inverse_155 rfl (lv_at hl 1 rfl) ?_
                  refine a_zret hx hb hret hlocks (by rfl) hP hS dL_inverse_156 ?_
                  exact ⟨rfl, e10, e11⟩
                · skip
                  refine lv_iconst (v := nI (0)) hx hb dL_inverse_88 rfl ?_
                  refine lv_istore (lv' := [(5, .int (nI (0))), (4, .int (nI (k))), (3, .int (nI (1))), (0, .ref (ad (136))), (1, .int (nI (many)))]) hx hb dL_inverse_89 hl (by decide) rfl (fun ls hl => ?_)
                  refine lv_iconst (v := nI (0)) hx hb dL_inverse_91 rfl ?_
                  refine lv_istore (lv' := [(6, .int (nI (0))), (5, .int (nI (0))), (4, .int (nI (k))), (3, .int (nI (1))), (0, .ref (ad (136))), (1, .int (nI (many)))]) hx hb dL_inverse_92 hl (by decide) rfl (fun ls hl => ?_)
                  have lp94 : ∀ (fu : Nat) (i : Nat) (t : Nat), (i ≤ k + 1) → (t = cvs (S1.1 0).2 (S1.1 2).2 k i) → k + 1 - i < fu → ∀ (H : Heap) (locs : List Loc), aP D cy ad S1 H → va_S (wA 143 ad) s.heap H locs → ∀ (ls : Array Slot), lv_has ls 7 [(6, .int (nI (i))), (5, .int (nI (t))), (4, .int (nI (k))), (3, .int (nI (1))), (0, .ref (ad (136))), (1, .int (nI (many)))] → W p l e ({ frames := 6, cells := 0, slots := 0, locals := 128 } : Room) s m ([.ref (ad (136)), .int (nI (many))] : List Value).toArray below meth c H locs 0 0 (MQ below (gQ (wA 143 ad) (fun o H => ∃ S' : kSt, (fun o S' => o = some (.int (nI 1)) ∧ S'.1 0 = S.1 0 ∧ S'.1 1 = S.1 1) o S' ∧ aP D cy ad S' H)) ([.ref (ad (136)), .int (nI (many))] : List Value).toArray s 0 0 (wA 143 ad)) (F0 m 94 ls []) := by
                    intro fu
                    induction fu with
                    | zero => intro i t hi ht hfu; exact absurd hfu (Nat.not_lt_zero _)
                    | succ fu ih94 =>
                      intro i t hi ht hfu H locs hP hS ls hl
                      have ht2 : t < 257 := by rw [ht]; exact cvs_lt _ _ _ _
                      have hm := mul_lt_257 ((hr1 0 (by decide)).2.2.1 i) ((hr1 2 (by decide)).2.2.1 (k - i))
                      refine lv_iload hx hb dL_inverse_94 (lv_at hl 0 rfl) ?_
                      refine lv_iload hx hb dL_inverse_96 (lv_at hl 2 rfl) ?_
                      refine n_icmp_gt (tgt := 134) hx hb (by omega) (by omega) dL_inverse_98 (by decide) (fun h_8 => ?_) (fun h_8 => ?_)
                      · skip
                        have hik := h_8
                        have ht0 : t = 0 := by rw [ht, show i = k + 1 by omega, e12, e10]; exact invR_k ha hz (by omega) (by omega)
                        refine lv_iload_n hx hb dL_inverse_134 rfl (lv_at hl 3 rfl) ?_
                        refine n_ifeq (tgt := 147) hx hb (by omega) dL_inverse_135 (by decide) (fun h_9 => absurd h_9 (by decide)) (fun h_9 => ?_)
                        refine lv_iload hx hb dL_inverse_138 (lv_at hl 1 rfl) ?_
                        refine n_ifne (tgt := 147) hx hb (by omega) dL_inverse_140 (by decide) (fun h_10 => ?_) (fun h_10 => ?_)
                        · skip
                          exact absurd h_10 (by omega)
                        · skip
                          refine lv_iconst (v := nI (1)) hx hb dL_inverse_143 rfl ?_
                          refine lv_goto (tgt := 148) hx hb dL_inverse_144 (by decide) ?_
                          refine lv_istore_n (lv' := [(3, .int (nI (1))), (6, .int (nI (i))), (5, .int (nI (t))), (4, .int (nI (k))), (0, .ref (ad (136))), (1, .int (nI (many)))]) hx hb dL_inverse_148 rfl hl (by decide) rfl (fun ls hl => ?_)
                          refine lv_iinc (v := nI (k + 1)) (lv' := [(4, .int (nI (k + 1))), (3, .int (nI (1))), (6, .int (nI (i))), (5, .int (nI (t))), (0, .ref (ad (136))), (1, .int (nI (many)))]) hx hb dL_inverse_149 hl (k := 3) rfl (nI_inc _) (by decide) rfl (fun ls hl => ?_)
                          refine lv_goto (tgt := 82) hx hb dL_inverse_152 (by decide) ?_
                          exact ih82 (k + 1) ⟨by omega, by omega⟩ (by omega) _ _ hP hS _ (lv_sub hl [0, 1, 4, 5] rfl)
                      · skip
                        have hik := h_8
                        refine lv_iload hx hb dL_inverse_101 (lv_at hl 1 rfl) ?_
                        refine lv_aload_n hx hb dL_inverse_103 rfl (lv_at hl 4 rfl) ?_
                        refine lv_iconst (v := nI (0)) hx hb dL_inverse_104 rfl ?_
                        refine lv_iload hx hb dL_inverse_105 (lv_at hl 0 rfl) ?_
                        refine a_callSr (rest := [.int (nI (t))]) (nL := 7) ⟨hx, hb, hml, hown, hts⟩ (a_L_at l D cy ad hI S1 0 i (by first | assumption | decide | omega) (by first | assumption | decide | omega)) (va_cwS 3 hts gL_inverse_L_at rfl rfl rfl (by decide +kernel) ⟨Nat.le_of_ble_eq_true rfl, Nat.le_of_ble_eq_true rfl⟩) hK hP hS (fun _ h => h) rfl hl.1 rfl (Nat.le_of_ble_eq_true rfl) dL_inverse_107 ⟨Nat.zero_le _, Nat.zero_le _⟩ (fun H locs hP hS => ?_)
                        have hP : aP D cy ad S1 H := hP
                        refine lv_aload_n hx hb dL_inverse_110 rfl (lv_at hl 4 rfl) ?_
                        refine lv_iconst (v := nI (2)) hx hb dL_inverse_111 rfl ?_
                        refine lv_iload hx hb dL_inverse_112 (lv_at hl 2 rfl) ?_
                        refine lv_iload hx hb dL_inverse_114 (lv_at hl 0 rfl) ?_
                        refine n_isub hx hb hik dL_inverse_116 ?_
                        refine a_callVr (rest := [.int (nI ((S1.1 0).2 i)), .int (nI (t))]) (nL := 7) ⟨hx, hb, hml, hown, hts⟩ (a_number l D cy ad hI S1 2 (k - i) (by first | assumption | decide | omega) (by first | assumption | decide | omega)) (cwV 2 hts gL_inverse_X4_number rfl rfl rfl (by decide +kernel) ⟨Nat.le_of_ble_eq_true rfl, Nat.le_of_ble_eq_true rfl⟩) hK hP hS (fun _ h => h) rfl hl.1 rfl (Nat.le_of_ble_eq_true rfl) dL_inverse_117 ⟨Nat.zero_le _, Nat.zero_le _⟩ (fun H locs hP hS => ?_)
                        have hP : aP D cy ad S1 H := hP
                        refine n_imul hx hb dL_inverse_120 ?_
                        refine n_iadd hx hb dL_inverse_121 ?_
                        refine lv_sipush (v := nI (257)) hx hb dL_inverse_122 rfl ?_
                        refine n_irem hx hb (by omega) (by omega) (by omega) dL_inverse_125  ?_
                        refine lv_istore (lv' := [(5, .int (nI ((t + (((S1.1 0).2 i) * ((S1.1 2).2 (k - i)))) % 257))), (6, .int (nI (i))), (4, .int (nI (k))), (3, .int (nI (1))), (0, .ref (ad (136))), (1, .int (nI (many)))]) hx hb dL_inverse_126 hl (by decide) rfl (fun ls hl => ?_)
                        refine lv_iinc (v := nI (i + 1)) (lv' := [(6, .int (nI (i + 1))), (5, .int (nI ((t + (((S1.1 0).2 i) * ((S1.1 2).2 (k - i)))) % 257))), (4, .int (nI (k))), (3, .int (nI (1))), (0, .ref (ad (136))), (1, .int (nI (many)))]) hx hb dL_inverse_128 hl (k := 1) rfl (nI_inc _) (by decide) rfl (fun ls hl => ?_)
                        refine lv_goto (tgt := 94) hx hb dL_inverse_131 (by decide) ?_
                        exact ih94 (i + 1) ((t + (S1.1 0).2 i * (S1.1 2).2 (k - i)) % 257) (by omega) (by rw [cvs_s, ← ht]) (by omega) _ _ hP hS _ hl
                  exact lp94 (_ + 1) (0) (0) (Nat.zero_le _) rfl (Nat.lt_succ_self _) _ _ hP hS _ hl
            exact lp82 (_ + 1) (1) ⟨Nat.le_refl _, hn.1⟩ (Nat.lt_succ_self _) _ _ hP hS _ (lv_sub hl [0, 1, 3, 4] rfl)
    · skip
      rw [e10] at h_3
      exact absurd h_3 hz
set_option maxHeartbeats 4000000 in
set_option maxRecDepth 100000 in
theorem a_L_turns (l : Launch) (D : va_G) (cy : Nat → ClassId) (ad : Nat → Nat) (hI : wI 143 ad) (S : kSt) (n : Nat) (hn : isz n) : aM l yL_turns wsL_turns ({ frames := 6, cells := 0, slots := 0, locals := 129 } : Room) D cy ad S [.ref (ad (136)), .int (nI (n))] (fun o S' => o = some (.int (nI 1)) ∧ S'.1 0 = S.1 0 ∧ S'.1 1 = S.1 1) := by
  refine g_met cL_turns 7 (some .boolean) (by decide) rfl (Nat.le_of_ble_eq_true rfl) ?_
  intro p e s m below meth c ls hx hb hret hts hown hlocks hml hK hP hS hl
  have hl : lv_has ls 7 [(0, .ref (ad (136))), (1, .int (nI (n)))] := hl
  have hown : s.vm.findClass RL = some m.cls := hown
  have hrow : ∀ r, r < 6 → rO (S.1 r) := hP.row
  have ha := hrow 0 (by decide)
  have hb1 := hrow 1 (by decide)
  have hal := ha.2.1
  have hal1 := ha.1
  have hbl := hb1.2.1
  have hbl1 := hb1.1
  have hn64 := isz_le hn
  have hpt := tpt_lt n
  by_cases hle : (S.1 0).1 ≤ n
  · skip
    have hgt : n < (S.1 0).1 → False := fun q => by omega
    refine lv_aload_n hx hb dL_turns_0 rfl (lv_at hl 0 rfl) ?_
    refine lv_iconst (v := nI (0)) hx hb dL_turns_1 rfl ?_
    refine lv_iload_n hx hb dL_turns_2 rfl (lv_at hl 1 rfl) ?_
    refine lv_iconst (v := nI (2)) hx hb dL_turns_3 rfl ?_
    refine a_callV (rest := []) (nL := 7) ⟨hx, hb, hml, hown, hts⟩ (a_turn l D cy ad hI S 0 n 2 (by first | assumption | decide | omega) (by first | assumption | decide | omega) (by first | assumption | decide | omega) (by first | assumption | decide | omega)) (cwV 3 hts gL_turns_X4_turn rfl rfl rfl (by decide +kernel) ⟨Nat.le_of_ble_eq_true rfl, Nat.le_of_ble_eq_true rfl⟩) hK hP hS (fun _ h => h) rfl hl.1 rfl (Nat.le_of_ble_eq_true rfl) dL_turns_4 ⟨Nat.zero_le _, Nat.zero_le _⟩ (fun o S1 H locs hpost hP hS => ?_)
    obtain ⟨ho, hS1_a, hS1_b⟩ := hpost
    subst ho
    have hP : aP D cy ad S1 H := hP
    have e10 : S1.1 0 = S.1 0 := hS1_b 0 (by decide)
    have e11 : S1.1 1 = S.1 1 := hS1_b 1 (by decide)
    have e12 : S1.1 2 = turR (S.1 0) n := hS1_a
    have hl12 : (S1.1 2).1 = n := by rw [e12]; rfl
    have hl10 : (S1.1 0).1 = (S.1 0).1 := by rw [e10]
    have hr1 := hP.row
    refine lv_istore_n (lv' := [(2, .int (nI (cq (turR (S.1 0) n).2 n))), (0, .ref (ad (136))), (1, .int (nI (n)))]) hx hb dL_turns_7 rfl hl (by decide) rfl (fun ls hl => ?_)
    refine lv_aload_n hx hb dL_turns_8 rfl (lv_at hl 1 rfl) ?_
    refine lv_iconst (v := nI (0)) hx hb dL_turns_9 rfl ?_
    refine lv_iconst (v := nI (0)) hx hb dL_turns_10 rfl ?_
    refine a_callVr (rest := []) (nL := 7) ⟨hx, hb, hml, hown, hts⟩ (a_of0 l D cy ad hI S1 0 (by first | assumption | decide | omega)) (cwV 2 hts gL_turns_X4_of rfl rfl rfl (by decide +kernel) ⟨Nat.le_of_ble_eq_true rfl, Nat.le_of_ble_eq_true rfl⟩) hK hP hS (fun _ h => h) rfl hl.1 rfl (Nat.le_of_ble_eq_true rfl) dL_turns_11 ⟨Nat.zero_le _, Nat.zero_le _⟩ (fun H locs hP hS => ?_)
    have hP : aP D cy ad S1 H := hP
    refine lv_iload_n hx hb dL_turns_14 rfl (lv_at hl 2 rfl) ?_
    refine n_icmp_le (tgt := 30) hx hb (by omega) (by omega) dL_turns_15 (by decide) (fun h_1 => ?_) (fun h_1 => ?_)
    · skip
      refine lv_aload_n hx hb dL_turns_30 rfl (lv_at hl 1 rfl) ?_
      refine lv_iload_n hx hb dL_turns_31 rfl (lv_at hl 2 rfl) ?_
      refine lv_iconst (v := nI (1)) hx hb dL_turns_32 rfl ?_
      refine a_callVr (rest := []) (nL := 7) ⟨hx, hb, hml, hown, hts⟩ (a_tp l D cy ad hI S1 n 1 (by first | assumption | decide | omega) (by first | assumption | decide | omega)) (cwV 2 hts gL_turns_X4_turningPoint rfl rfl rfl (by decide +kernel) ⟨Nat.le_of_ble_eq_true rfl, Nat.le_of_ble_eq_true rfl⟩) hK hP hS (fun _ h => h) rfl hl.1 rfl (Nat.le_of_ble_eq_true rfl) dL_turns_33 ⟨Nat.zero_le _, Nat.zero_le _⟩ (fun H locs hP hS => ?_)
      have hP : aP D cy ad S1 H := hP
      refine n_push (a := tpt n) (by rw [pw_1 hpt]) ?_
      refine lv_istore_n (lv' := [(3, .int (nI (tpt n))), (2, .int (nI (cq (turR (S.1 0) n).2 n))), (0, .ref (ad (136))), (1, .int (nI (n)))]) hx hb dL_turns_36 rfl hl (by decide) rfl (fun ls hl => ?_)
      refine lv_iconst (v := nI (1)) hx hb dL_turns_37 rfl ?_
      refine lv_istore (lv' := [(4, .int (nI (1))), (3, .int (nI (tpt n))), (2, .int (nI (cq (turR (S.1 0) n).2 n))), (0, .ref (ad (136))), (1, .int (nI (n)))]) hx hb dL_turns_38 hl (by decide) rfl (fun ls hl => ?_)
      refine lv_iconst (v := nI (0)) hx hb dL_turns_40 rfl ?_
      refine lv_istore (lv' := [(5, .int (nI (0))), (4, .int (nI (1))), (3, .int (nI (tpt n))), (2, .int (nI (cq (turR (S.1 0) n).2 n))), (0, .ref (ad (136))), (1, .int (nI (n)))]) hx hb dL_turns_41 hl (by decide) rfl (fun ls hl => ?_)
      refine lv_iconst (v := nI (0)) hx hb dL_turns_43 rfl ?_
      refine lv_istore (lv' := [(6, .int (nI (0))), (5, .int (nI (0))), (4, .int (nI (1))), (3, .int (nI (tpt n))), (2, .int (nI (cq (turR (S.1 0) n).2 n))), (0, .ref (ad (136))), (1, .int (nI (n)))]) hx hb dL_turns_44 hl (by decide) rfl (fun ls hl => ?_)
      have lp46 : ∀ (fu : Nat) (k : Nat) (y : Nat) (t : Nat), (k ≤ n) → (y = pw (tpt n) k) → (t = cq (turR (S.1 0) n).2 k) → n - k < fu → ∀ (H : Heap) (locs : List Loc), aP D cy ad S1 H → va_S (wA 143 ad) s.heap H locs → ∀ (ls : Array Slot), lv_has ls 7 [(6, .int (nI (k))), (4, .int (nI (y))), (5, .int (nI (t))), (3, .int (nI (tpt n))), (0, .ref (ad (136))), (1, .int (nI (n))), (2, .int (nI (cq (turR (S.1 0) n).2 n)))] → W p l e ({ frames := 6, cells := 0, slots := 0, locals := 129 } : Room) s m ([.ref (ad (136)), .int (nI (n))] : List Value).toArray below meth c H locs 0 0 (MQ below (gQ (wA 143 ad) (fun o H => ∃ S' : kSt, (fun o S' => o = some (.int (nI 1)) ∧ S'.1 0 = S.1 0 ∧ S'.1 1 = S.1 1) o S' ∧ aP D cy ad S' H)) ([.ref (ad (136)), .int (nI (n))] : List Value).toArray s 0 0 (wA 143 ad)) (F0 m 46 ls []) := by
        intro fu
        induction fu with
        | zero => intro k y t hk hyk ht hfu; exact absurd hfu (Nat.not_lt_zero _)
        | succ fu ih46 =>
          intro k y t hk hyk ht hfu H locs hP hS ls hl
          have hy2 : y < 257 := by rw [hyk]; exact pw_lt _ _
          have hyp := pw_lt (tpt n) k
          have hm := mul_lt_257 hy2 hpt
          have hv := vx_lt (S1.1 0) y
          have hq2 := (hr1 2 (by decide)).2.2.1 k
          have hc1 := cq_le (turR (S.1 0) n).2 n
          have hc2 := cq_le (turR (S.1 0) n).2 k
          refine lv_iload hx hb dL_turns_46 (lv_at hl 0 rfl) ?_
          refine lv_iload_n hx hb dL_turns_48 rfl (lv_at hl 5 rfl) ?_
          refine n_icmp_ge (tgt := 135) hx hb (by omega) (by omega) dL_turns_49 (by decide) (fun h_2 => ?_) (fun h_2 => ?_)
          · skip
            have hkn : k = n := by omega
            have hy1 : y = 1 := by rw [hyk, hkn]; exact isz_1 hn
            have htn : t = cq (turR (S.1 0) n).2 n := by rw [ht, hkn]
            refine lv_iload hx hb dL_turns_135 (lv_at hl 1 rfl) ?_
            refine lv_iconst (v := nI (1)) hx hb dL_turns_137 rfl ?_
            refine n_icmp_ne (tgt := 181) hx hb (by omega) (by omega) dL_turns_138 (by decide) (fun h_3 => ?_) (fun h_3 => ?_)
            · skip
              exact absurd h_3 (by omega)
            · skip
              refine lv_iload_n hx hb dL_turns_141 rfl (lv_at hl 6 rfl) ?_
              refine lv_iload hx hb dL_turns_142 (lv_at hl 2 rfl) ?_
              refine n_icmp_ne (tgt := 181) hx hb (by omega) (by omega) dL_turns_144 (by decide) (fun h_4 => ?_) (fun h_4 => ?_)
              · skip
                exact absurd htn.symm h_4
              · skip
                refine lv_aload_n hx hb dL_turns_147 rfl (lv_at hl 4 rfl) ?_
                refine lv_iconst (v := nI (2)) hx hb dL_turns_148 rfl ?_
                refine lv_iconst (v := nI (0)) hx hb dL_turns_149 rfl ?_
                refine a_callVr (rest := []) (nL := 7) ⟨hx, hb, hml, hown, hts⟩ (a_of0 l D cy ad hI S1 2 (by first | assumption | decide | omega)) (cwV 2 hts gL_turns_X4_of rfl rfl rfl (by decide +kernel) ⟨Nat.le_of_ble_eq_true rfl, Nat.le_of_ble_eq_true rfl⟩) hK hP hS (fun _ h => h) rfl hl.1 rfl (Nat.le_of_ble_eq_true rfl) dL_turns_150 ⟨Nat.zero_le _, Nat.zero_le _⟩ (fun H locs hP hS => ?_)
                have hP : aP D cy ad S1 H := hP
                refine lv_iload_n hx hb dL_turns_153 rfl (lv_at hl 5 rfl) ?_
                refine n_icmp_ne (tgt := 181) hx hb (by omega) (by omega) dL_turns_154 (by decide) (fun h_5 => ?_) (fun h_5 => ?_)
                · skip
                  exact absurd h_5 (by omega)
                · skip
                  refine lv_aload_n hx hb dL_turns_157 rfl (lv_at hl 4 rfl) ?_
                  refine lv_iconst (v := nI (2)) hx hb dL_turns_158 rfl ?_
                  refine lv_iconst (v := nI (3)) hx hb dL_turns_159 rfl ?_
                  refine a_callV (rest := []) (nL := 7) ⟨hx, hb, hml, hown, hts⟩ (a_turnBack l D cy ad hI S1 2 3 (by first | assumption | decide | omega) (by first | assumption | decide | omega) (by rw [hl12]; exact hn)) (cwV 2 hts gL_turns_X4_turnBack rfl rfl rfl (by decide +kernel) ⟨Nat.le_of_ble_eq_true rfl, Nat.le_of_ble_eq_true rfl⟩) hK hP hS (fun _ h => h) rfl hl.1 rfl (Nat.le_of_ble_eq_true rfl) dL_turns_160 ⟨Nat.zero_le _, Nat.zero_le _⟩ (fun o S2 H locs hpost hP hS => ?_)
                  obtain ⟨ho, hS2_a, hS2_b⟩ := hpost
                  subst ho
                  have hP : aP D cy ad S2 H := hP
                  have e20 : S2.1 0 = S.1 0 := (hS2_b 0 (by decide)).trans e10
                  have e21 : S2.1 1 = S.1 1 := (hS2_b 1 (by decide)).trans e11
                  have e23 : S2.1 3 = trbR (turR (S.1 0) n) := by rw [hS2_a, e12]
                  have hl23 : (S2.1 3).1 = n := by rw [e23]; rfl
                  have hr2 := hP.row
                  refine lv_aload_n hx hb dL_turns_163 rfl (lv_at hl 4 rfl) ?_
                  refine lv_iconst (v := nI (0)) hx hb dL_turns_164 rfl ?_
                  refine a_callSr (rest := [.int (dV (rD (trbR (S1.1 2))))]) (nL := 7) ⟨hx, hb, hml, hown, hts⟩ (a_L_degree l D cy ad hI S2 0 (by first | assumption | decide | omega)) (va_cwS 2 hts gL_turns_L_degree rfl rfl rfl (by decide +kernel) ⟨Nat.le_of_ble_eq_true rfl, Nat.le_of_ble_eq_true rfl⟩) hK hP hS (fun _ h => h) rfl hl.1 rfl (Nat.le_of_ble_eq_true rfl) dL_turns_165 ⟨Nat.zero_le _, Nat.zero_le _⟩ (fun H locs hP hS => ?_)
                  have hP : aP D cy ad S2 H := hP
                  refine lv_icmp_ne (tgt := 181) hx hb dL_turns_168 (by decide) (fun h_6 => ?_) (fun h_6 => ?_)
                  · skip
                    exact absurd (by rw [e12, e20, tb_dg hn ha hle]) h_6
                  · skip
                    refine lv_aload_n hx hb dL_turns_171 rfl (lv_at hl 4 rfl) ?_
                    refine lv_iconst (v := nI (3)) hx hb dL_turns_172 rfl ?_
                    refine lv_iconst (v := nI (0)) hx hb dL_turns_173 rfl ?_
                    refine a_callVr (rest := []) (nL := 7) ⟨hx, hb, hml, hown, hts⟩ (a_of0 l D cy ad hI S2 3 (by first | assumption | decide | omega)) (cwV 2 hts gL_turns_X4_of rfl rfl rfl (by decide +kernel) ⟨Nat.le_of_ble_eq_true rfl, Nat.le_of_ble_eq_true rfl⟩) hK hP hS (fun _ h => h) rfl hl.1 rfl (Nat.le_of_ble_eq_true rfl) dL_turns_174 ⟨Nat.zero_le _, Nat.zero_le _⟩ (fun H locs hP hS => ?_)
                    have hP : aP D cy ad S2 H := hP
                    refine lv_iload_n hx hb dL_turns_177 rfl (lv_at hl 5 rfl) ?_
                    refine n_icmp_eq (tgt := 183) hx hb (by omega) (by omega) dL_turns_178 (by decide) (fun h_7 => ?_) (fun h_7 => ?_)
                    · skip
                      refine lv_iconst (v := nI (0)) hx hb dL_turns_183 rfl ?_
                      refine lv_istore (lv' := [(6, .int (nI (0))), (4, .int (nI (y))), (5, .int (nI (t))), (3, .int (nI (tpt n))), (0, .ref (ad (136))), (1, .int (nI (n))), (2, .int (nI (cq (turR (S.1 0) n).2 n)))]) hx hb dL_turns_184 hl (by decide) rfl (fun ls hl => ?_)
                      have lp186 : ∀ (fu : Nat) (j : Nat), (j ≤ n) → n - j < fu → ∀ (H : Heap) (locs : List Loc), aP D cy ad S2 H → va_S (wA 143 ad) s.heap H locs → ∀ (ls : Array Slot), lv_has ls 7 [(6, .int (nI (j))), (0, .ref (ad (136))), (1, .int (nI (n)))] → W p l e ({ frames := 6, cells := 0, slots := 0, locals := 129 } : Room) s m ([.ref (ad (136)), .int (nI (n))] : List Value).toArray below meth c H locs 0 0 (MQ below (gQ (wA 143 ad) (fun o H => ∃ S' : kSt, (fun o S' => o = some (.int (nI 1)) ∧ S'.1 0 = S.1 0 ∧ S'.1 1 = S.1 1) o S' ∧ aP D cy ad S' H)) ([.ref (ad (136)), .int (nI (n))] : List Value).toArray s 0 0 (wA 143 ad)) (F0 m 186 ls []) := by
                        intro fu
                        induction fu with
                        | zero => intro j hj hfu; exact absurd hfu (Nat.not_lt_zero _)
                        | succ fu ih186 =>
                          intro j hj hfu H locs hP hS ls hl
                          have hq3 := (hr2 3 (by decide)).2.2.1 j
                          have hq0 := (hr2 0 (by decide)).2.2.1 j
                          refine lv_iload hx hb dL_turns_186 (lv_at hl 0 rfl) ?_
                          refine lv_iload_n hx hb dL_turns_188 rfl (lv_at hl 2 rfl) ?_
                          refine n_icmp_ge (tgt := 217) hx hb (by omega) (by omega) dL_turns_189 (by decide) (fun h_8 => ?_) (fun h_8 => ?_)
                          · skip
                            refine lv_iconst (v := nI (1)) hx hb dL_turns_217 rfl ?_
                            refine a_zret hx hb hret hlocks (by rfl) hP hS dL_turns_218 ?_
                            exact ⟨rfl, e20, e21⟩
                          · skip
                            refine lv_aload_n hx hb dL_turns_192 rfl (lv_at hl 1 rfl) ?_
                            refine lv_iconst (v := nI (3)) hx hb dL_turns_193 rfl ?_
                            refine lv_iload hx hb dL_turns_194 (lv_at hl 0 rfl) ?_
                            refine a_callVr (rest := []) (nL := 7) ⟨hx, hb, hml, hown, hts⟩ (a_number l D cy ad hI S2 3 j (by first | assumption | decide | omega) (by first | assumption | decide | omega)) (cwV 2 hts gL_turns_X4_number rfl rfl rfl (by decide +kernel) ⟨Nat.le_of_ble_eq_true rfl, Nat.le_of_ble_eq_true rfl⟩) hK hP hS (fun _ h => h) rfl hl.1 rfl (Nat.le_of_ble_eq_true rfl) dL_turns_196 ⟨Nat.zero_le _, Nat.zero_le _⟩ (fun H locs hP hS => ?_)
                            have hP : aP D cy ad S2 H := hP
                            refine lv_aload_n hx hb dL_turns_199 rfl (lv_at hl 1 rfl) ?_
                            refine lv_iconst (v := nI (0)) hx hb dL_turns_200 rfl ?_
                            refine lv_iload hx hb dL_turns_201 (lv_at hl 0 rfl) ?_
                            refine a_callSr (rest := [.int (nI ((S2.1 3).2 j))]) (nL := 7) ⟨hx, hb, hml, hown, hts⟩ (a_L_at l D cy ad hI S2 0 j (by first | assumption | decide | omega) (by first | assumption | decide | omega)) (va_cwS 3 hts gL_turns_L_at rfl rfl rfl (by decide +kernel) ⟨Nat.le_of_ble_eq_true rfl, Nat.le_of_ble_eq_true rfl⟩) hK hP hS (fun _ h => h) rfl hl.1 rfl (Nat.le_of_ble_eq_true rfl) dL_turns_203 ⟨Nat.zero_le _, Nat.zero_le _⟩ (fun H locs hP hS => ?_)
                            have hP : aP D cy ad S2 H := hP
                            refine n_icmp_eq (tgt := 211) hx hb (by omega) (by omega) dL_turns_206 (by decide) (fun h_9 => ?_) (fun h_9 => ?_)
                            · skip
                              refine lv_iinc (v := nI (j + 1)) (lv' := [(6, .int (nI (j + 1))), (0, .ref (ad (136))), (1, .int (nI (n)))]) hx hb dL_turns_211 hl (k := 0) rfl (nI_inc _) (by decide) rfl (fun ls hl => ?_)
                              refine lv_goto (tgt := 186) hx hb dL_turns_214 (by decide) ?_
                              exact ih186 (j + 1) (by omega) (by omega) _ _ hP hS _ hl
                            · skip
                              exact absurd (by rw [e23, e20]; exact tb_at hn ha hle j) h_9
                      exact lp186 (_ + 1) (0) (Nat.zero_le _) (Nat.lt_succ_self _) _ _ hP hS _ (lv_sub hl [0, 4, 5] rfl)
                    · skip
                      exact absurd h_7 (by omega)
          · skip
            refine lv_aload_n hx hb dL_turns_52 rfl (lv_at hl 4 rfl) ?_
            refine lv_iload_n hx hb dL_turns_53 rfl (lv_at hl 5 rfl) ?_
            refine lv_iload hx hb dL_turns_54 (lv_at hl 0 rfl) ?_
            refine a_callVr (rest := []) (nL := 7) ⟨hx, hb, hml, hown, hts⟩ (a_tp l D cy ad hI S1 n k (by first | assumption | decide | omega) (by first | assumption | decide | omega)) (cwV 2 hts gL_turns_X4_turningPoint rfl rfl rfl (by decide +kernel) ⟨Nat.le_of_ble_eq_true rfl, Nat.le_of_ble_eq_true rfl⟩) hK hP hS (fun _ h => h) rfl hl.1 rfl (Nat.le_of_ble_eq_true rfl) dL_turns_56 ⟨Nat.zero_le _, Nat.zero_le _⟩ (fun H locs hP hS => ?_)
            have hP : aP D cy ad S1 H := hP
            refine lv_iload hx hb dL_turns_59 (lv_at hl 1 rfl) ?_
            refine n_icmp_ne (tgt := 81) hx hb (by omega) (by omega) dL_turns_61 (by decide) (fun h_10 => ?_) (fun h_10 => ?_)
            · skip
              exact absurd hyk.symm h_10
            · skip
              refine lv_aload_n hx hb dL_turns_64 rfl (lv_at hl 4 rfl) ?_
              refine lv_iconst (v := nI (2)) hx hb dL_turns_65 rfl ?_
              refine lv_iload hx hb dL_turns_66 (lv_at hl 0 rfl) ?_
              refine a_callVr (rest := []) (nL := 7) ⟨hx, hb, hml, hown, hts⟩ (a_number l D cy ad hI S1 2 k (by first | assumption | decide | omega) (by first | assumption | decide | omega)) (cwV 2 hts gL_turns_X4_number rfl rfl rfl (by decide +kernel) ⟨Nat.le_of_ble_eq_true rfl, Nat.le_of_ble_eq_true rfl⟩) hK hP hS (fun _ h => h) rfl hl.1 rfl (Nat.le_of_ble_eq_true rfl) dL_turns_68 ⟨Nat.zero_le _, Nat.zero_le _⟩ (fun H locs hP hS => ?_)
              have hP : aP D cy ad S1 H := hP
              refine lv_aload_n hx hb dL_turns_71 rfl (lv_at hl 4 rfl) ?_
              refine lv_iconst (v := nI (0)) hx hb dL_turns_72 rfl ?_
              refine lv_iload hx hb dL_turns_73 (lv_at hl 1 rfl) ?_
              refine a_callSr (rest := [.int (nI ((S1.1 2).2 k))]) (nL := 7) ⟨hx, hb, hml, hown, hts⟩ (a_L_value l D cy ad hI S1 0 y (by first | assumption | decide | omega) (by first | assumption | decide | omega)) (va_cwS 3 hts gL_turns_L_value rfl rfl rfl (by decide +kernel) ⟨Nat.le_of_ble_eq_true rfl, Nat.le_of_ble_eq_true rfl⟩) hK hP hS (fun _ h => h) rfl hl.1 rfl (Nat.le_of_ble_eq_true rfl) dL_turns_75 ⟨Nat.zero_le _, Nat.zero_le _⟩ (fun H locs hP hS => ?_)
              have hP : aP D cy ad S1 H := hP
              refine n_icmp_eq (tgt := 83) hx hb (by omega) (by omega) dL_turns_78 (by decide) (fun h_11 => ?_) (fun h_11 => ?_)
              · skip
                refine lv_iload hx hb dL_turns_83 (lv_at hl 2 rfl) ?_
                refine lv_aload_n hx hb dL_turns_85 rfl (lv_at hl 4 rfl) ?_
                refine lv_iconst (v := nI (2)) hx hb dL_turns_86 rfl ?_
                refine lv_iload hx hb dL_turns_87 (lv_at hl 0 rfl) ?_
                refine a_callVr (rest := [.int (nI (t))]) (nL := 7) ⟨hx, hb, hml, hown, hts⟩ (a_number l D cy ad hI S1 2 k (by first | assumption | decide | omega) (by first | assumption | decide | omega)) (cwV 2 hts gL_turns_X4_number rfl rfl rfl (by decide +kernel) ⟨Nat.le_of_ble_eq_true rfl, Nat.le_of_ble_eq_true rfl⟩) hK hP hS (fun _ h => h) rfl hl.1 rfl (Nat.le_of_ble_eq_true rfl) dL_turns_89 ⟨Nat.zero_le _, Nat.zero_le _⟩ (fun H locs hP hS => ?_)
                have hP : aP D cy ad S1 H := hP
                refine n_ifne (tgt := 99) hx hb (by omega) dL_turns_92 (by decide) (fun h_12 => ?_) (fun h_12 => ?_)
                · skip
                  have hnz : ¬ (turR (S.1 0) n).2 k = 0 := by rw [← e12]; exact h_12
                  refine lv_iconst (v := nI (0)) hx hb dL_turns_99 rfl ?_
                  refine n_iadd hx hb dL_turns_100 ?_
                  refine lv_istore (lv' := [(5, .int (nI (t + 0))), (6, .int (nI (k))), (4, .int (nI (y))), (3, .int (nI (tpt n))), (0, .ref (ad (136))), (1, .int (nI (n))), (2, .int (nI (cq (turR (S.1 0) n).2 n)))]) hx hb dL_turns_101 hl (by decide) rfl (fun ls hl => ?_)
                  refine lv_iload hx hb dL_turns_103 (lv_at hl 2 rfl) ?_
                  refine lv_iload_n hx hb dL_turns_105 rfl (lv_at hl 3 rfl) ?_
                  refine n_imul hx hb dL_turns_106 ?_
                  refine lv_sipush (v := nI (257)) hx hb dL_turns_107 rfl ?_
                  refine n_irem hx hb (by omega) (by omega) (by omega) dL_turns_110  ?_
                  refine lv_istore (lv' := [(4, .int (nI ((y * (tpt n)) % 257))), (5, .int (nI (t + 0))), (6, .int (nI (k))), (3, .int (nI (tpt n))), (0, .ref (ad (136))), (1, .int (nI (n))), (2, .int (nI (cq (turR (S.1 0) n).2 n)))]) hx hb dL_turns_111 hl (by decide) rfl (fun ls hl => ?_)
                  refine lv_iload hx hb dL_turns_113 (lv_at hl 0 rfl) ?_
                  refine lv_iconst (v := nI (1)) hx hb dL_turns_115 rfl ?_
                  refine n_icmp_ne (tgt := 129) hx hb (by omega) (by omega) dL_turns_116 (by decide) (fun h_13 => ?_) (fun h_13 => ?_)
                  · skip
                    refine lv_iinc (v := nI (k + 1)) (lv' := [(6, .int (nI (k + 1))), (4, .int (nI ((y * (tpt n)) % 257))), (5, .int (nI (t + 0))), (3, .int (nI (tpt n))), (0, .ref (ad (136))), (1, .int (nI (n))), (2, .int (nI (cq (turR (S.1 0) n).2 n)))]) hx hb dL_turns_129 hl (k := 2) rfl (nI_inc _) (by decide) rfl (fun ls hl => ?_)
                    refine lv_goto (tgt := 46) hx hb dL_turns_132 (by decide) ?_
                    exact ih46 (k + 1) (y * tpt n % 257) (t + 0) (by omega) (by rw [pw_s, ← hyk]) (by rw [cq_nz _ hnz, ht]; rfl) (by omega) _ _ hP hS _ hl
                  · skip
                    have hy1 := h_13
                    refine lv_iload hx hb dL_turns_119 (lv_at hl 2 rfl) ?_
                    refine lv_iconst (v := nI (1)) hx hb dL_turns_121 rfl ?_
                    refine n_iadd hx hb dL_turns_122 ?_
                    refine lv_iload_n hx hb dL_turns_123 rfl (lv_at hl 5 rfl) ?_
                    refine n_icmp_ge (tgt := 129) hx hb (by omega) (by omega) dL_turns_124 (by decide) (fun h_14 => ?_) (fun h_14 => ?_)
                    · skip
                      refine lv_iinc (v := nI (k + 1)) (lv' := [(6, .int (nI (k + 1))), (4, .int (nI ((y * (tpt n)) % 257))), (5, .int (nI (t + 0))), (3, .int (nI (tpt n))), (0, .ref (ad (136))), (1, .int (nI (n))), (2, .int (nI (cq (turR (S.1 0) n).2 n)))]) hx hb dL_turns_129 hl (k := 2) rfl (nI_inc _) (by decide) rfl (fun ls hl => ?_)
                      refine lv_goto (tgt := 46) hx hb dL_turns_132 (by decide) ?_
                      exact ih46 (k + 1) (y * tpt n % 257) (t + 0) (by omega) (by rw [pw_s, ← hyk]) (by rw [cq_nz _ hnz, ht]; rfl) (by omega) _ _ hP hS _ hl
                    · skip
                      exact absurd (by rw [pw_s, ← hyk]; exact hy1) (isz_first hn h_14)
                · skip
                  have hzz : (turR (S.1 0) n).2 k = 0 := by rw [← e12]; exact h_12
                  refine lv_iconst (v := nI (1)) hx hb dL_turns_95 rfl ?_
                  refine lv_goto (tgt := 100) hx hb dL_turns_96 (by decide) ?_
                  refine n_iadd hx hb dL_turns_100 ?_
                  refine lv_istore (lv' := [(5, .int (nI (t + 1))), (6, .int (nI (k))), (4, .int (nI (y))), (3, .int (nI (tpt n))), (0, .ref (ad (136))), (1, .int (nI (n))), (2, .int (nI (cq (turR (S.1 0) n).2 n)))]) hx hb dL_turns_101 hl (by decide) rfl (fun ls hl => ?_)
                  refine lv_iload hx hb dL_turns_103 (lv_at hl 2 rfl) ?_
                  refine lv_iload_n hx hb dL_turns_105 rfl (lv_at hl 3 rfl) ?_
                  refine n_imul hx hb dL_turns_106 ?_
                  refine lv_sipush (v := nI (257)) hx hb dL_turns_107 rfl ?_
                  refine n_irem hx hb (by omega) (by omega) (by omega) dL_turns_110  ?_
                  refine lv_istore (lv' := [(4, .int (nI ((y * (tpt n)) % 257))), (5, .int (nI (t + 1))), (6, .int (nI (k))), (3, .int (nI (tpt n))), (0, .ref (ad (136))), (1, .int (nI (n))), (2, .int (nI (cq (turR (S.1 0) n).2 n)))]) hx hb dL_turns_111 hl (by decide) rfl (fun ls hl => ?_)
                  refine lv_iload hx hb dL_turns_113 (lv_at hl 0 rfl) ?_
                  refine lv_iconst (v := nI (1)) hx hb dL_turns_115 rfl ?_
                  refine n_icmp_ne (tgt := 129) hx hb (by omega) (by omega) dL_turns_116 (by decide) (fun h_15 => ?_) (fun h_15 => ?_)
                  · skip
                    refine lv_iinc (v := nI (k + 1)) (lv' := [(6, .int (nI (k + 1))), (4, .int (nI ((y * (tpt n)) % 257))), (5, .int (nI (t + 1))), (3, .int (nI (tpt n))), (0, .ref (ad (136))), (1, .int (nI (n))), (2, .int (nI (cq (turR (S.1 0) n).2 n)))]) hx hb dL_turns_129 hl (k := 2) rfl (nI_inc _) (by decide) rfl (fun ls hl => ?_)
                    refine lv_goto (tgt := 46) hx hb dL_turns_132 (by decide) ?_
                    exact ih46 (k + 1) (y * tpt n % 257) (t + 1) (by omega) (by rw [pw_s, ← hyk]) (by rw [cq_zero _ hzz, ht]) (by omega) _ _ hP hS _ hl
                  · skip
                    have hy1 := h_15
                    refine lv_iload hx hb dL_turns_119 (lv_at hl 2 rfl) ?_
                    refine lv_iconst (v := nI (1)) hx hb dL_turns_121 rfl ?_
                    refine n_iadd hx hb dL_turns_122 ?_
                    refine lv_iload_n hx hb dL_turns_123 rfl (lv_at hl 5 rfl) ?_
                    refine n_icmp_ge (tgt := 129) hx hb (by omega) (by omega) dL_turns_124 (by decide) (fun h_16 => ?_) (fun h_16 => ?_)
                    · skip
                      refine lv_iinc (v := nI (k + 1)) (lv' := [(6, .int (nI (k + 1))), (4, .int (nI ((y * (tpt n)) % 257))), (5, .int (nI (t + 1))), (3, .int (nI (tpt n))), (0, .ref (ad (136))), (1, .int (nI (n))), (2, .int (nI (cq (turR (S.1 0) n).2 n)))]) hx hb dL_turns_129 hl (k := 2) rfl (nI_inc _) (by decide) rfl (fun ls hl => ?_)
                      refine lv_goto (tgt := 46) hx hb dL_turns_132 (by decide) ?_
                      exact ih46 (k + 1) (y * tpt n % 257) (t + 1) (by omega) (by rw [pw_s, ← hyk]) (by rw [cq_zero _ hzz, ht]) (by omega) _ _ hP hS _ hl
                    · skip
                      exact absurd (by rw [pw_s, ← hyk]; exact hy1) (isz_first hn h_16)
              · skip
                exact absurd (by rw [e12, e10]; show (if k < n then vx (S.1 0) (pw (tpt n) k) else 0) = _; rw [if_pos (by omega), hyk]) h_11
      exact lp46 (_ + 1) (0) (1) (0) (Nat.zero_le _) (pw_0 _).symm rfl (Nat.lt_succ_self _) _ _ hP hS _ (lv_sub hl [0, 2, 1, 3, 5, 6, 4] rfl)
    · skip
      exact absurd h_1 (by omega)
  · skip
    have hgt : n < (S.1 0).1 := by omega
    refine lv_aload_n hx hb dL_turns_0 rfl (lv_at hl 0 rfl) ?_
    refine lv_iconst (v := nI (0)) hx hb dL_turns_1 rfl ?_
    refine lv_iload_n hx hb dL_turns_2 rfl (lv_at hl 1 rfl) ?_
    refine lv_iconst (v := nI (2)) hx hb dL_turns_3 rfl ?_
    refine a_callVr (rest := []) (nL := 7) ⟨hx, hb, hml, hown, hts⟩ (a_turnL l D cy ad hI S 0 n 2 (by first | assumption | decide | omega) (by first | assumption | decide | omega) (by first | assumption | decide | omega) (by first | assumption | decide | omega)) (cwV 3 hts gL_turns_X4_turn rfl rfl rfl (by decide +kernel) ⟨Nat.le_of_ble_eq_true rfl, Nat.le_of_ble_eq_true rfl⟩) hK hP hS (fun _ h => h) rfl hl.1 rfl (Nat.le_of_ble_eq_true rfl) dL_turns_4 ⟨Nat.zero_le _, Nat.zero_le _⟩ (fun H locs hP hS => ?_)
    have hP : aP D cy ad S H := hP
    refine lv_istore_n (lv' := [(2, .int (-5)), (0, .ref (ad (136))), (1, .int (nI (n)))]) hx hb dL_turns_7 rfl hl (by decide) rfl (fun ls hl => ?_)
    refine lv_aload_n hx hb dL_turns_8 rfl (lv_at hl 1 rfl) ?_
    refine lv_iconst (v := nI (0)) hx hb dL_turns_9 rfl ?_
    refine lv_iconst (v := nI (0)) hx hb dL_turns_10 rfl ?_
    refine a_callVr (rest := []) (nL := 7) ⟨hx, hb, hml, hown, hts⟩ (a_of0 l D cy ad hI S 0 (by first | assumption | decide | omega)) (cwV 2 hts gL_turns_X4_of rfl rfl rfl (by decide +kernel) ⟨Nat.le_of_ble_eq_true rfl, Nat.le_of_ble_eq_true rfl⟩) hK hP hS (fun _ h => h) rfl hl.1 rfl (Nat.le_of_ble_eq_true rfl) dL_turns_11 ⟨Nat.zero_le _, Nat.zero_le _⟩ (fun H locs hP hS => ?_)
    have hP : aP D cy ad S H := hP
    refine lv_iload_n hx hb dL_turns_14 rfl (lv_at hl 2 rfl) ?_
    refine n_icmp_le (tgt := 30) hx hb (by omega) (by omega) dL_turns_15 (by decide) (fun h_17 => ?_) (fun h_17 => ?_)
    · skip
      exact absurd h_17 (by omega)
    · skip
      refine lv_iload_n hx hb dL_turns_18 rfl (lv_at hl 0 rfl) ?_
      refine lv_bipush (v := (-5 : Int32)) hx hb dL_turns_19 (by decide) ?_
      refine lv_icmp_ne (tgt := 28) hx hb dL_turns_21 (by decide) (fun h_18 => ?_) (fun h_18 => ?_)
      · skip
        exact absurd rfl h_18
      · skip
        refine lv_iconst (v := nI (1)) hx hb dL_turns_24 rfl ?_
        refine lv_goto (tgt := 29) hx hb dL_turns_25 (by decide) ?_
        refine a_zret hx hb hret hlocks (by rfl) hP hS dL_turns_29 ?_
        exact ⟨rfl, rfl, rfl⟩
