set_option maxHeartbeats 8000000 in
set_option maxRecDepth 100000 in
theorem law_76 {p : Program} {l : Launch} {e : Env} {s : State} {m : MethodId} {below : List Frame} {meth : Method} {c : Code} {b L : Nat} {xs : Nat → Int32} {D : va_G} {cy : Nat → ClassId} {h : Nat} {ad : Nat → Nat} (C1 : lawC p s m meth c b L xs D cy h ad) (ee : Nat) (hee : ee < 3) (next : lawN p l e s m below meth c b D cy h ad (ee + 1)) (g : Int32) (la lb : Nat) (hla : 1 ≤ la ∧ la ≤ 64) (hlb : 1 ≤ lb ∧ lb ≤ 64) {S : kSt} {H : Heap} {locs : List Loc} {ls : Array Slot} (hP : aP D cy ad S H) (hS : va_S (aF h) s.heap H locs) (hl : lv_has ls 12 [(5, .int (nI (lb))), (4, .int (nI (la))), (3, .int (g)), (2, .int (nI (ee))), (1, .ref (ad (136))), (0, .ref b)]) : lawW p l e s m below meth c b H locs 76 ls [] := by
  obtain ⟨⟨hx, hb, hret, hml, hown, hts0, hX, hbl, hlocks, hgv⟩, hL, hK, hh, hI, hAd⟩ := C1
  have hts : ∀ w ∈ wsL_law, w.before #[Value.ref b] s = true := fun w hw => hts0 w (wsL_law_in w hw)
  have hown : s.vm.findClass RL = some m.cls := hown
  have hbA : ¬ aF h b := by unfold aF; omega
  have hbA2 : ¬ wA 143 ad b := fun q => hbA (hAd b q)
  refine lv_aload_n hx hb dL_law_76 rfl (lv_at hl 4 rfl) ?_
  refine lv_iconst (v := nI (0)) hx hb dL_law_77 rfl ?_
  refine a_callS (rest := []) (nL := 12) ⟨hx, hb, hml, hown, hts⟩ (a_L_fresh l D cy ad hI S 0 (by first | assumption | decide | omega)) (va_cwS 2 hts gL_law_L_fresh rfl rfl rfl (by decide +kernel) ⟨Nat.le_of_ble_eq_true rfl, Nat.le_of_ble_eq_true rfl⟩) hK hP hS hAd rfl hl.1 rfl (Nat.le_of_ble_eq_true rfl) dL_law_78 ⟨Nat.le_of_ble_eq_true rfl, Nat.le_of_ble_eq_true rfl⟩ (fun o S1 H locs hpost hP hS => ?_)
  obtain ⟨ho, hS1_a, hS1_b⟩ := hpost
  subst ho
  have hP : aP D cy ad S1 H := hP
  refine n_ifeq (tgt := 165) hx hb (by omega) dL_law_81 (by decide) (fun h_1 => absurd h_1 (by decide)) (fun h_1 => ?_)
  refine lv_aload_n hx hb dL_law_84 rfl (lv_at hl 4 rfl) ?_
  refine lv_iconst (v := nI (1)) hx hb dL_law_85 rfl ?_
  refine a_callS (rest := []) (nL := 12) ⟨hx, hb, hml, hown, hts⟩ (a_L_fresh l D cy ad hI S1 1 (by first | assumption | decide | omega)) (va_cwS 2 hts gL_law_L_fresh rfl rfl rfl (by decide +kernel) ⟨Nat.le_of_ble_eq_true rfl, Nat.le_of_ble_eq_true rfl⟩) hK hP hS hAd rfl hl.1 rfl (Nat.le_of_ble_eq_true rfl) dL_law_86 ⟨Nat.le_of_ble_eq_true rfl, Nat.le_of_ble_eq_true rfl⟩ (fun o S2 H locs hpost hP hS => ?_)
  obtain ⟨ho, hS2_a, hS2_b⟩ := hpost
  subst ho
  have hP : aP D cy ad S2 H := hP
  refine n_ifeq (tgt := 165) hx hb (by omega) dL_law_89 (by decide) (fun h_2 => absurd h_2 (by decide)) (fun h_2 => ?_)
  refine lv_aload_n hx hb dL_law_92 rfl (lv_at hl 4 rfl) ?_
  refine lv_iconst (v := nI (0)) hx hb dL_law_93 rfl ?_
  refine lv_aload_n hx hb dL_law_94 rfl (lv_at hl 5 rfl) ?_
  refine lv_iconst (v := nI (3)) hx hb dL_law_95 rfl ?_
  refine lv_bipush (v := nI (20)) hx hb dL_law_96 rfl ?_
  refine lv_iload_n hx hb dL_law_98 rfl (lv_at hl 3 rfl) ?_
  refine n_imul hx hb dL_law_99 ?_
  refine n_iadd hx hb dL_law_100 ?_
  refine lv_iload hx hb dL_law_101 (lv_at hl 1 rfl) ?_
  refine lv_iload_n hx hb dL_law_103 rfl (lv_at hl 2 rfl) ?_
  refine lv_bipush (v := nI (16)) hx hb dL_law_104 rfl ?_
  refine lv_ishr hx hb dL_law_106 ?_
  refine lv_iconst (v := nI (3)) hx hb dL_law_107 rfl ?_
  refine a_call0 (rest := [.int (nI (la)), .int (nI (3 + (20 * ee))), .ref b, .int (nI (0)), .ref (ad (136))]) (nL := 12) ⟨hx, hb, hml, hown, hts⟩ (a_L_low l D cy (g >>> ((nI (16)) &&& 31)) 3 (by first | assumption | decide | omega) (by first | assumption | decide | omega)) (va_cwS 2 hts gL_law_L_low rfl rfl rfl (by decide +kernel) ⟨Nat.le_of_ble_eq_true rfl, Nat.le_of_ble_eq_true rfl⟩) hK trivial hP hS rfl hl.1 rfl (Nat.le_of_ble_eq_true rfl) dL_law_108 ⟨Nat.le_of_ble_eq_true rfl, Nat.le_of_ble_eq_true rfl⟩ (fun o H locs hpost hP hS => ?_)
  obtain ⟨w1, hw1, ho⟩ := hpost
  subst ho
  have hP : aP D cy ad S2 H := hP
  refine a_callXS (rest := []) (nL := 12) ⟨hx, hb, hml, hown, hts⟩ (a_L_fill l D cy ad hI S2 0 b L xs (3 + (20 * ee)) la w1 (by first | assumption | decide | omega) (by omega) hbA2 (by omega) hla hw1 (by rw [hS2_b 0 (by decide)]; exact hS1_a)) (va_cwS 6 hts gL_law_L_fill rfl rfl rfl (by decide +kernel) ⟨Nat.le_of_ble_eq_true rfl, Nat.le_of_ble_eq_true rfl⟩) hK (scr_now hX hbl hS hbA) hP hS hAd rfl hl.1 rfl (Nat.le_of_ble_eq_true rfl) dL_law_111 ⟨Nat.le_of_ble_eq_true rfl, Nat.le_of_ble_eq_true rfl⟩ (fun o S3 H locs hpost hP hS => ?_)
  obtain ⟨ho, hS3_a, hS3_b⟩ := hpost
  subst ho
  have hP : aP D cy ad S3 H := hP
  refine n_ifeq (tgt := 165) hx hb (by omega) dL_law_114 (by decide) (fun h_3 => absurd h_3 (by decide)) (fun h_3 => ?_)
  refine lv_aload_n hx hb dL_law_117 rfl (lv_at hl 4 rfl) ?_
  refine lv_iconst (v := nI (1)) hx hb dL_law_118 rfl ?_
  refine lv_aload_n hx hb dL_law_119 rfl (lv_at hl 5 rfl) ?_
  refine lv_bipush (v := nI (12)) hx hb dL_law_120 rfl ?_
  refine lv_bipush (v := nI (20)) hx hb dL_law_122 rfl ?_
  refine lv_iload_n hx hb dL_law_124 rfl (lv_at hl 3 rfl) ?_
  refine n_imul hx hb dL_law_125 ?_
  refine n_iadd hx hb dL_law_126 ?_
  refine lv_iload hx hb dL_law_127 (lv_at hl 0 rfl) ?_
  refine lv_iload_n hx hb dL_law_129 rfl (lv_at hl 2 rfl) ?_
  refine lv_bipush (v := nI (18)) hx hb dL_law_130 rfl ?_
  refine lv_ishr hx hb dL_law_132 ?_
  refine lv_iconst (v := nI (3)) hx hb dL_law_133 rfl ?_
  refine a_call0 (rest := [.int (nI (lb)), .int (nI (12 + (20 * ee))), .ref b, .int (nI (1)), .ref (ad (136))]) (nL := 12) ⟨hx, hb, hml, hown, hts⟩ (a_L_low l D cy (g >>> ((nI (18)) &&& 31)) 3 (by first | assumption | decide | omega) (by first | assumption | decide | omega)) (va_cwS 2 hts gL_law_L_low rfl rfl rfl (by decide +kernel) ⟨Nat.le_of_ble_eq_true rfl, Nat.le_of_ble_eq_true rfl⟩) hK trivial hP hS rfl hl.1 rfl (Nat.le_of_ble_eq_true rfl) dL_law_134 ⟨Nat.le_of_ble_eq_true rfl, Nat.le_of_ble_eq_true rfl⟩ (fun o H locs hpost hP hS => ?_)
  obtain ⟨w2, hw2, ho⟩ := hpost
  subst ho
  have hP : aP D cy ad S3 H := hP
  refine a_callXS (rest := []) (nL := 12) ⟨hx, hb, hml, hown, hts⟩ (a_L_fill l D cy ad hI S3 1 b L xs (12 + (20 * ee)) lb w2 (by first | assumption | decide | omega) (by omega) hbA2 (by omega) hlb hw2 (by rw [hS3_b 1 (by decide)]; exact hS2_a)) (va_cwS 6 hts gL_law_L_fill rfl rfl rfl (by decide +kernel) ⟨Nat.le_of_ble_eq_true rfl, Nat.le_of_ble_eq_true rfl⟩) hK (scr_now hX hbl hS hbA) hP hS hAd rfl hl.1 rfl (Nat.le_of_ble_eq_true rfl) dL_law_137 ⟨Nat.le_of_ble_eq_true rfl, Nat.le_of_ble_eq_true rfl⟩ (fun o S4 H locs hpost hP hS => ?_)
  obtain ⟨ho, hS4_a, hS4_b⟩ := hpost
  subst ho
  have hP : aP D cy ad S4 H := hP
  have q0 : (S4.1 0).1 = la := by rw [hS4_b 0 (by decide)]; exact hS3_a
  have q1 : (S4.1 1).1 = lb := hS4_a
  refine n_ifeq (tgt := 165) hx hb (by omega) dL_law_140 (by decide) (fun h_4 => absurd h_4 (by decide)) (fun h_4 => ?_)
  refine lv_aload_n hx hb dL_law_143 rfl (lv_at hl 4 rfl) ?_
  refine lv_iconst (v := nI (0)) hx hb dL_law_144 rfl ?_
  refine lv_iconst (v := nI (0)) hx hb dL_law_145 rfl ?_
  refine a_callVr (rest := []) (nL := 12) ⟨hx, hb, hml, hown, hts⟩ (a_of0 l D cy ad hI S4 0 (by first | assumption | decide | omega)) (cwV 2 hts gL_law_X4_of rfl rfl rfl (by decide +kernel) ⟨Nat.le_of_ble_eq_true rfl, Nat.le_of_ble_eq_true rfl⟩) hK hP hS hAd rfl hl.1 rfl (Nat.le_of_ble_eq_true rfl) dL_law_146 ⟨Nat.le_of_ble_eq_true rfl, Nat.le_of_ble_eq_true rfl⟩ (fun H locs hP hS => ?_)
  have hP : aP D cy ad S4 H := hP
  refine lv_iload hx hb dL_law_149 (lv_at hl 1 rfl) ?_
  refine n_icmp_ne (tgt := 165) hx hb (by omega) (by omega) dL_law_151 (by decide) (fun h_5 => ?_) (fun h_5 => ?_)
  · skip
    exact absurd h_5 (by omega)
  · skip
    refine lv_aload_n hx hb dL_law_154 rfl (lv_at hl 4 rfl) ?_
    refine lv_iconst (v := nI (1)) hx hb dL_law_155 rfl ?_
    refine lv_iconst (v := nI (0)) hx hb dL_law_156 rfl ?_
    refine a_callVr (rest := []) (nL := 12) ⟨hx, hb, hml, hown, hts⟩ (a_of0 l D cy ad hI S4 1 (by first | assumption | decide | omega)) (cwV 2 hts gL_law_X4_of rfl rfl rfl (by decide +kernel) ⟨Nat.le_of_ble_eq_true rfl, Nat.le_of_ble_eq_true rfl⟩) hK hP hS hAd rfl hl.1 rfl (Nat.le_of_ble_eq_true rfl) dL_law_157 ⟨Nat.le_of_ble_eq_true rfl, Nat.le_of_ble_eq_true rfl⟩ (fun H locs hP hS => ?_)
    have hP : aP D cy ad S4 H := hP
    refine lv_iload hx hb dL_law_160 (lv_at hl 0 rfl) ?_
    refine n_icmp_eq (tgt := 167) hx hb (by omega) (by omega) dL_law_162 (by decide) (fun h_6 => ?_) (fun h_6 => ?_)
    · skip
      refine lv_aload_n hx hb dL_law_167 rfl (lv_at hl 4 rfl) ?_
      refine lv_iconst (v := nI (0)) hx hb dL_law_168 rfl ?_
      refine a_callSr (rest := []) (nL := 12) ⟨hx, hb, hml, hown, hts⟩ (a_L_isRow l D cy ad hI S4 0 (by first | assumption | decide | omega)) (va_cwS 2 hts gL_law_L_isRow rfl rfl rfl (by decide +kernel) ⟨Nat.le_of_ble_eq_true rfl, Nat.le_of_ble_eq_true rfl⟩) hK hP hS hAd rfl hl.1 rfl (Nat.le_of_ble_eq_true rfl) dL_law_169 ⟨Nat.le_of_ble_eq_true rfl, Nat.le_of_ble_eq_true rfl⟩ (fun H locs hP hS => ?_)
      have hP : aP D cy ad S4 H := hP
      refine n_ifeq (tgt := 241) hx hb (by omega) dL_law_172 (by decide) (fun h_7 => absurd h_7 (by decide)) (fun h_7 => ?_)
      refine lv_aload_n hx hb dL_law_175 rfl (lv_at hl 4 rfl) ?_
      refine lv_iconst (v := nI (1)) hx hb dL_law_176 rfl ?_
      refine a_callSr (rest := []) (nL := 12) ⟨hx, hb, hml, hown, hts⟩ (a_L_isRow l D cy ad hI S4 1 (by first | assumption | decide | omega)) (va_cwS 2 hts gL_law_L_isRow rfl rfl rfl (by decide +kernel) ⟨Nat.le_of_ble_eq_true rfl, Nat.le_of_ble_eq_true rfl⟩) hK hP hS hAd rfl hl.1 rfl (Nat.le_of_ble_eq_true rfl) dL_law_177 ⟨Nat.le_of_ble_eq_true rfl, Nat.le_of_ble_eq_true rfl⟩ (fun H locs hP hS => ?_)
      have hP : aP D cy ad S4 H := hP
      refine n_ifeq (tgt := 241) hx hb (by omega) dL_law_180 (by decide) (fun h_8 => absurd h_8 (by decide)) (fun h_8 => ?_)
      refine lv_aload_n hx hb dL_law_183 rfl (lv_at hl 4 rfl) ?_
      refine lv_iload_n hx hb dL_law_184 rfl (lv_at hl 2 rfl) ?_
      refine lv_bipush (v := nI (20)) hx hb dL_law_185 rfl ?_
      refine lv_ishr hx hb dL_law_187 ?_
      refine lv_sipush (v := nI (257)) hx hb dL_law_188 rfl ?_
      refine a_call0 (rest := [.ref (ad (136))]) (nL := 12) ⟨hx, hb, hml, hown, hts⟩ (a_L_low l D cy (g >>> ((nI (20)) &&& 31)) 257 (by first | assumption | decide | omega) (by first | assumption | decide | omega)) (va_cwS 2 hts gL_law_L_low rfl rfl rfl (by decide +kernel) ⟨Nat.le_of_ble_eq_true rfl, Nat.le_of_ble_eq_true rfl⟩) hK trivial hP hS rfl hl.1 rfl (Nat.le_of_ble_eq_true rfl) dL_law_191 ⟨Nat.le_of_ble_eq_true rfl, Nat.le_of_ble_eq_true rfl⟩ (fun o H locs hpost hP hS => ?_)
      obtain ⟨w3, hw3, ho⟩ := hpost
      subst ho
      have hP : aP D cy ad S4 H := hP
      refine a_callS (rest := []) (nL := 12) ⟨hx, hb, hml, hown, hts⟩ (a_L_products l D cy ad hI S4 w3 (by first | assumption | decide | omega)) (va_cwS 2 hts gL_law_L_products rfl rfl rfl (by decide +kernel) ⟨Nat.le_of_ble_eq_true rfl, Nat.le_of_ble_eq_true rfl⟩) hK hP hS hAd rfl hl.1 rfl (Nat.le_of_ble_eq_true rfl) dL_law_194 ⟨Nat.le_of_ble_eq_true rfl, Nat.le_of_ble_eq_true rfl⟩ (fun o S5 H locs hpost hP hS => ?_)
      obtain ⟨ho, hS5_a, hS5_b⟩ := hpost
      subst ho
      have hP : aP D cy ad S5 H := hP
      refine n_ifeq (tgt := 241) hx hb (by omega) dL_law_197 (by decide) (fun h_9 => absurd h_9 (by decide)) (fun h_9 => ?_)
      refine lv_aload_n hx hb dL_law_200 rfl (lv_at hl 4 rfl) ?_
      refine a_callS (rest := []) (nL := 12) ⟨hx, hb, hml, hown, hts⟩ (a_L_quotients l D cy ad hI S5) (va_cwS 1 hts gL_law_L_quotients rfl rfl rfl (by decide +kernel) ⟨Nat.le_of_ble_eq_true rfl, Nat.le_of_ble_eq_true rfl⟩) hK hP hS hAd rfl hl.1 rfl (Nat.le_of_ble_eq_true rfl) dL_law_201 ⟨Nat.le_of_ble_eq_true rfl, Nat.le_of_ble_eq_true rfl⟩ (fun o S6 H locs hpost hP hS => ?_)
      obtain ⟨ho, hS6_a, hS6_b⟩ := hpost
      subst ho
      have hP : aP D cy ad S6 H := hP
      refine n_ifeq (tgt := 241) hx hb (by omega) dL_law_204 (by decide) (fun h_10 => absurd h_10 (by decide)) (fun h_10 => ?_)
      refine lv_aload_n hx hb dL_law_207 rfl (lv_at hl 4 rfl) ?_
      refine lv_iconst (v := nI (1)) hx hb dL_law_208 rfl ?_
      refine lv_iload_n hx hb dL_law_209 rfl (lv_at hl 2 rfl) ?_
      refine lv_iconst (v := nI (3)) hx hb dL_law_210 rfl ?_
      refine lv_ishr hx hb dL_law_211 ?_
      refine lv_bipush (v := nI (64)) hx hb dL_law_212 rfl ?_
      refine a_call0 (rest := [.int (nI (1)), .ref (ad (136))]) (nL := 12) ⟨hx, hb, hml, hown, hts⟩ (a_L_low l D cy (g >>> ((nI (3)) &&& 31)) 64 (by first | assumption | decide | omega) (by first | assumption | decide | omega)) (va_cwS 2 hts gL_law_L_low rfl rfl rfl (by decide +kernel) ⟨Nat.le_of_ble_eq_true rfl, Nat.le_of_ble_eq_true rfl⟩) hK trivial hP hS rfl hl.1 rfl (Nat.le_of_ble_eq_true rfl) dL_law_214 ⟨Nat.le_of_ble_eq_true rfl, Nat.le_of_ble_eq_true rfl⟩ (fun o H locs hpost hP hS => ?_)
      obtain ⟨w4, hw4, ho⟩ := hpost
      subst ho
      have hP : aP D cy ad S6 H := hP
      refine n_iadd hx hb dL_law_217 ?_
      refine a_callS (rest := []) (nL := 12) ⟨hx, hb, hml, hown, hts⟩ (a_L_inverse l D cy ad hI S6 (1 + w4) ⟨by omega, by omega⟩) (va_cwS 2 hts gL_law_L_inverse rfl rfl rfl (by decide +kernel) ⟨Nat.le_of_ble_eq_true rfl, Nat.le_of_ble_eq_true rfl⟩) hK hP hS hAd rfl hl.1 rfl (Nat.le_of_ble_eq_true rfl) dL_law_218 ⟨Nat.le_of_ble_eq_true rfl, Nat.le_of_ble_eq_true rfl⟩ (fun o S7 H locs hpost hP hS => ?_)
      obtain ⟨ho, hS7_a, hS7_b⟩ := hpost
      subst ho
      have hP : aP D cy ad S7 H := hP
      refine n_ifeq (tgt := 241) hx hb (by omega) dL_law_221 (by decide) (fun h_11 => absurd h_11 (by decide)) (fun h_11 => ?_)
      refine lv_aload_n hx hb dL_law_224 rfl (lv_at hl 4 rfl) ?_
      refine lv_iconst (v := nI (1)) hx hb dL_law_225 rfl ?_
      refine lv_iload_n hx hb dL_law_226 rfl (lv_at hl 2 rfl) ?_
      refine lv_iconst (v := nI (5)) hx hb dL_law_227 rfl ?_
      refine lv_ishr hx hb dL_law_228 ?_
      refine lv_bipush (v := nI (7)) hx hb dL_law_229 rfl ?_
      refine a_call0 (rest := [.int (nI (1)), .ref (ad (136))]) (nL := 12) ⟨hx, hb, hml, hown, hts⟩ (a_L_low l D cy (g >>> ((nI (5)) &&& 31)) 7 (by first | assumption | decide | omega) (by first | assumption | decide | omega)) (va_cwS 2 hts gL_law_L_low rfl rfl rfl (by decide +kernel) ⟨Nat.le_of_ble_eq_true rfl, Nat.le_of_ble_eq_true rfl⟩) hK trivial hP hS rfl hl.1 rfl (Nat.le_of_ble_eq_true rfl) dL_law_231 ⟨Nat.le_of_ble_eq_true rfl, Nat.le_of_ble_eq_true rfl⟩ (fun o H locs hpost hP hS => ?_)
      obtain ⟨w5, hw5, ho⟩ := hpost
      subst ho
      have hP : aP D cy ad S7 H := hP
      refine lv_ishl hx hb dL_law_234 ?_
      refine n_push (a := 2 ^ w5) (shl1 w5 hw5) ?_
      refine a_callS (rest := []) (nL := 12) ⟨hx, hb, hml, hown, hts⟩ (a_L_turns l D cy ad hI S7 (2 ^ w5) (isz_pow w5 hw5)) (va_cwS 2 hts gL_law_L_turns rfl rfl rfl (by decide +kernel) ⟨Nat.le_of_ble_eq_true rfl, Nat.le_of_ble_eq_true rfl⟩) hK hP hS hAd rfl hl.1 rfl (Nat.le_of_ble_eq_true rfl) dL_law_235 ⟨Nat.le_of_ble_eq_true rfl, Nat.le_of_ble_eq_true rfl⟩ (fun o S8 H locs hpost hP hS => ?_)
      obtain ⟨ho, hS8_a, hS8_b⟩ := hpost
      subst ho
      have hP : aP D cy ad S8 H := hP
      refine n_ifne (tgt := 243) hx hb (by omega) dL_law_238 (by decide) (fun h_12 => ?_) (fun h_12 => absurd h_12 (by decide))
      refine lv_iconst (v := nI (1)) hx hb dL_law_243 rfl ?_
      refine lv_iload_n hx hb dL_law_244 rfl (lv_at hl 2 rfl) ?_
      refine lv_bipush (v := nI (11)) hx hb dL_law_245 rfl ?_
      refine lv_ishr hx hb dL_law_247 ?_
      refine lv_bipush (v := nI (64)) hx hb dL_law_248 rfl ?_
      refine a_call0 (rest := [.int (nI (1))]) (nL := 12) ⟨hx, hb, hml, hown, hts⟩ (a_L_low l D cy (g >>> ((nI (11)) &&& 31)) 64 (by first | assumption | decide | omega) (by first | assumption | decide | omega)) (va_cwS 2 hts gL_law_L_low rfl rfl rfl (by decide +kernel) ⟨Nat.le_of_ble_eq_true rfl, Nat.le_of_ble_eq_true rfl⟩) hK trivial hP hS rfl hl.1 rfl (Nat.le_of_ble_eq_true rfl) dL_law_250 ⟨Nat.le_of_ble_eq_true rfl, Nat.le_of_ble_eq_true rfl⟩ (fun o H locs hpost hP hS => ?_)
      obtain ⟨sz, hsz, ho⟩ := hpost
      subst ho
      have hP : aP D cy ad S8 H := hP
      refine n_iadd hx hb dL_law_253 ?_
      refine lv_istore (lv' := [(6, .int (nI (1 + sz))), (5, .int (nI (lb))), (4, .int (nI (la))), (3, .int (g)), (2, .int (nI (ee))), (1, .ref (ad (136))), (0, .ref b)]) hx hb dL_law_254 hl (by decide) rfl (fun ls hl => ?_)
      refine lv_aload_n hx hb dL_law_256 rfl (lv_at hl 5 rfl) ?_
      refine lv_iconst (v := nI (0)) hx hb dL_law_257 rfl ?_
      refine lv_iconst (v := nI (1)) hx hb dL_law_258 rfl ?_
      refine lv_iload hx hb dL_law_259 (lv_at hl 0 rfl) ?_
      refine lv_iconst (v := nI (2)) hx hb dL_law_261 rfl ?_
      refine a_callV (rest := []) (nL := 12) ⟨hx, hb, hml, hown, hts⟩ (a_round l D cy ad hI S8 0 1 (1 + sz) 2 (by first | assumption | decide | omega) (by first | assumption | decide | omega) (by first | assumption | decide | omega) ⟨by omega, by omega⟩) (cwV 4 hts gL_law_X4_round rfl rfl rfl (by decide +kernel) ⟨Nat.le_of_ble_eq_true rfl, Nat.le_of_ble_eq_true rfl⟩) hK hP hS hAd rfl hl.1 rfl (Nat.le_of_ble_eq_true rfl) dL_law_262 ⟨Nat.le_of_ble_eq_true rfl, Nat.le_of_ble_eq_true rfl⟩ (fun o S9 H locs hpost hP hS => ?_)
      obtain ⟨ho, hS9_a, hS9_b⟩ := hpost
      subst ho
      have hP : aP D cy ad S9 H := hP
      have g0 : S8.1 0 = S4.1 0 := by rw [hS8_a, hS7_a, hS6_a, hS5_a]
      have g1 : S8.1 1 = S4.1 1 := by rw [hS8_b, hS7_b, hS6_b, hS5_b]
      have f0 : S9.1 0 = S8.1 0 := hS9_b 0 (by decide)
      have f1 : S9.1 1 = S8.1 1 := hS9_b 1 (by decide)
      have l0 : (S9.1 0).1 = la := by rw [f0, g0]; exact q0
      have l1 : (S9.1 1).1 = lb := by rw [f1, g1]; exact q1
      have l2 : (S9.1 2).1 = 1 + sz := by rw [hS9_a]; rfl
      have m2 : S9.1 2 = mulR (S9.1 0) (S9.1 1) (1 + sz) := by rw [hS9_a, f0, f1]
      have hr9 := hP.row
      refine lv_istore (lv' := [(7, .int (dV (rD (mulR (S8.1 0) (S8.1 1) (1 + sz))))), (6, .int (nI (1 + sz))), (5, .int (nI (lb))), (4, .int (nI (la))), (3, .int (g)), (2, .int (nI (ee))), (1, .ref (ad (136))), (0, .ref b)]) hx hb dL_law_265 hl (by decide) rfl (fun ls hl => ?_)
      refine lv_iload hx hb dL_law_267 (lv_at hl 0 rfl) ?_
      refine lv_aload_n hx hb dL_law_269 rfl (lv_at hl 6 rfl) ?_
      refine lv_iconst (v := nI (2)) hx hb dL_law_270 rfl ?_
      refine a_callSr (rest := [.int (dV (rD (mulR (S8.1 0) (S8.1 1) (1 + sz))))]) (nL := 12) ⟨hx, hb, hml, hown, hts⟩ (a_L_degree l D cy ad hI S9 2 (by first | assumption | decide | omega)) (va_cwS 2 hts gL_law_L_degree rfl rfl rfl (by decide +kernel) ⟨Nat.le_of_ble_eq_true rfl, Nat.le_of_ble_eq_true rfl⟩) hK hP hS hAd rfl hl.1 rfl (Nat.le_of_ble_eq_true rfl) dL_law_271 ⟨Nat.le_of_ble_eq_true rfl, Nat.le_of_ble_eq_true rfl⟩ (fun H locs hP hS => ?_)
      have hP : aP D cy ad S9 H := hP
      refine lv_icmp_ne (tgt := 288) hx hb dL_law_274 (by decide) (fun h_13 => ?_) (fun h_13 => ?_)
      · skip
        exact absurd (by rw [hS9_a]) h_13
      · skip
        refine lv_aload_n hx hb dL_law_277 rfl (lv_at hl 6 rfl) ?_
        refine lv_iconst (v := nI (2)) hx hb dL_law_278 rfl ?_
        refine lv_iconst (v := nI (0)) hx hb dL_law_279 rfl ?_
        refine a_callVr (rest := []) (nL := 12) ⟨hx, hb, hml, hown, hts⟩ (a_of0 l D cy ad hI S9 2 (by first | assumption | decide | omega)) (cwV 2 hts gL_law_X4_of rfl rfl rfl (by decide +kernel) ⟨Nat.le_of_ble_eq_true rfl, Nat.le_of_ble_eq_true rfl⟩) hK hP hS hAd rfl hl.1 rfl (Nat.le_of_ble_eq_true rfl) dL_law_280 ⟨Nat.le_of_ble_eq_true rfl, Nat.le_of_ble_eq_true rfl⟩ (fun H locs hP hS => ?_)
        have hP : aP D cy ad S9 H := hP
        refine lv_iload hx hb dL_law_283 (lv_at hl 1 rfl) ?_
        refine n_icmp_eq (tgt := 290) hx hb (by omega) (by omega) dL_law_285 (by decide) (fun h_14 => ?_) (fun h_14 => ?_)
        · skip
          refine lv_iconst (v := nI (0)) hx hb dL_law_290 rfl ?_
          refine lv_istore (lv' := [(8, .int (nI (0))), (7, .int (dV (rD (mulR (S8.1 0) (S8.1 1) (1 + sz))))), (6, .int (nI (1 + sz))), (5, .int (nI (lb))), (4, .int (nI (la))), (3, .int (g)), (2, .int (nI (ee))), (1, .ref (ad (136))), (0, .ref b)]) hx hb dL_law_291 hl (by decide) rfl (fun ls hl => ?_)
          have lp293 : ∀ (fu : Nat) (k : Nat), (k ≤ 1 + sz) → 1 + sz - k < fu → ∀ (H : Heap) (locs : List Loc), aP D cy ad S9 H → va_S (aF h) s.heap H locs → ∀ (ls : Array Slot), lv_has ls 12 [(8, .int (nI (k))), (4, .int (nI (la))), (5, .int (nI (lb))), (6, .int (nI (1 + sz))), (2, .int (nI (ee))), (1, .ref (ad (136))), (0, .ref b)] → lawW p l e s m below meth c b H locs 293 ls [] := by
            intro fu
            induction fu with
            | zero => intro k hk hfu; exact absurd hfu (Nat.not_lt_zero _)
            | succ fu ih293 =>
              intro k hk hfu H locs hP hS ls hl
              have hq2 := (hr9 2 (by decide)).2.2.1 k
              refine lv_iload hx hb dL_law_293 (lv_at hl 0 rfl) ?_
              refine lv_iload hx hb dL_law_295 (lv_at hl 3 rfl) ?_
              refine n_icmp_ge (tgt := 400) hx hb (by omega) (by omega) dL_law_297 (by decide) (fun h_15 => ?_) (fun h_15 => ?_)
              · skip
                refine lv_iinc (v := nI (ee + 1)) (lv' := [(2, .int (nI (ee + 1))), (8, .int (nI (k))), (4, .int (nI (la))), (5, .int (nI (lb))), (6, .int (nI (1 + sz))), (1, .ref (ad (136))), (0, .ref b)]) hx hb dL_law_400 hl (k := 4) rfl (nI_inc _) (by decide) rfl (fun ls hl => ?_)
                refine lv_goto (tgt := 10) hx hb dL_law_403 (by decide) ?_
                exact next _ _ _ _ hP hS (lv_sub hl [0, 5, 6] rfl)
              · skip
                refine lv_iconst (v := nI (0)) hx hb dL_law_300 rfl ?_
                refine lv_istore (lv' := [(9, .int (nI (0))), (8, .int (nI (k))), (4, .int (nI (la))), (5, .int (nI (lb))), (6, .int (nI (1 + sz))), (2, .int (nI (ee))), (1, .ref (ad (136))), (0, .ref b)]) hx hb dL_law_301 hl (by decide) rfl (fun ls hl => ?_)
                refine lv_iconst (v := nI (0)) hx hb dL_law_303 rfl ?_
                refine lv_istore (lv' := [(10, .int (nI (0))), (9, .int (nI (0))), (8, .int (nI (k))), (4, .int (nI (la))), (5, .int (nI (lb))), (6, .int (nI (1 + sz))), (2, .int (nI (ee))), (1, .ref (ad (136))), (0, .ref b)]) hx hb dL_law_304 hl (by decide) rfl (fun ls hl => ?_)
                have lp306 : ∀ (fu : Nat) (i : Nat) (t : Nat), (i ≤ la) → (t = rsO (S9.1 0).2 (S9.1 1).2 lb (1 + sz) k i) → la - i < fu → ∀ (H : Heap) (locs : List Loc), aP D cy ad S9 H → va_S (aF h) s.heap H locs → ∀ (ls : Array Slot), lv_has ls 12 [(10, .int (nI (i))), (9, .int (nI (t))), (8, .int (nI (k))), (4, .int (nI (la))), (5, .int (nI (lb))), (6, .int (nI (1 + sz))), (2, .int (nI (ee))), (1, .ref (ad (136))), (0, .ref b)] → lawW p l e s m below meth c b H locs 306 ls [] := by
                  intro fu
                  induction fu with
                  | zero => intro i t hi ht hfu; exact absurd hfu (Nat.not_lt_zero _)
                  | succ fu ih306 =>
                    intro i t hi ht hfu H locs hP hS ls hl
                    have hbo := rsO_le (S9.1 0).2 (S9.1 1).2 (1 + sz) k i hlb.2
                    refine lv_iload hx hb dL_law_306 (lv_at hl 0 rfl) ?_
                    refine lv_iload hx hb dL_law_308 (lv_at hl 3 rfl) ?_
                    refine n_icmp_ge (tgt := 376) hx hb (by omega) (by omega) dL_law_310 (by decide) (fun h_16 => ?_) (fun h_16 => ?_)
                    · skip
                      have hia : i = la := by omega
                      refine lv_aload_n hx hb dL_law_376 rfl (lv_at hl 7 rfl) ?_
                      refine lv_iconst (v := nI (2)) hx hb dL_law_377 rfl ?_
                      refine lv_iload hx hb dL_law_378 (lv_at hl 2 rfl) ?_
                      refine a_callVr (rest := []) (nL := 12) ⟨hx, hb, hml, hown, hts⟩ (a_number l D cy ad hI S9 2 k (by first | assumption | decide | omega) (by omega)) (cwV 2 hts gL_law_X4_number rfl rfl rfl (by decide +kernel) ⟨Nat.le_of_ble_eq_true rfl, Nat.le_of_ble_eq_true rfl⟩) hK hP hS hAd rfl hl.1 rfl (Nat.le_of_ble_eq_true rfl) dL_law_380 ⟨Nat.le_of_ble_eq_true rfl, Nat.le_of_ble_eq_true rfl⟩ (fun H locs hP hS => ?_)
                      have hP : aP D cy ad S9 H := hP
                      refine lv_iload hx hb dL_law_383 (lv_at hl 1 rfl) ?_
                      refine lv_sipush (v := nI (257)) hx hb dL_law_385 rfl ?_
                      refine n_irem hx hb (by omega) (by omega) (by omega) dL_law_388  ?_
                      refine n_icmp_eq (tgt := 394) hx hb (by omega) (by omega) dL_law_389 (by decide) (fun h_17 => ?_) (fun h_17 => ?_)
                      · skip
                        refine lv_iinc (v := nI (k + 1)) (lv' := [(8, .int (nI (k + 1))), (10, .int (nI (i))), (9, .int (nI (t))), (4, .int (nI (la))), (5, .int (nI (lb))), (6, .int (nI (1 + sz))), (2, .int (nI (ee))), (1, .ref (ad (136))), (0, .ref b)]) hx hb dL_law_394 hl (k := 2) rfl (nI_inc _) (by decide) rfl (fun ls hl => ?_)
                        refine lv_goto (tgt := 293) hx hb dL_law_397 (by decide) ?_
                        exact ih293 (k + 1) (by omega) (by omega) _ _ hP hS _ (lv_sub hl [0, 3, 4, 5, 6, 7, 8] rfl)
                      · skip
                        exact absurd (by rw [m2, round_k, ht, hia, l0, l1]) h_17
                    · skip
                      have hia := h_16
                      refine lv_iconst (v := nI (0)) hx hb dL_law_313 rfl ?_
                      refine lv_istore (lv' := [(11, .int (nI (0))), (10, .int (nI (i))), (9, .int (nI (t))), (8, .int (nI (k))), (4, .int (nI (la))), (5, .int (nI (lb))), (6, .int (nI (1 + sz))), (2, .int (nI (ee))), (1, .ref (ad (136))), (0, .ref b)]) hx hb dL_law_314 hl (by decide) rfl (fun ls hl => ?_)
                      have lp316 : ∀ (fu : Nat) (j : Nat) (u : Nat), (j ≤ lb) → (u = rsO (S9.1 0).2 (S9.1 1).2 lb (1 + sz) k i + rsJ ((S9.1 0).2 i) (S9.1 1).2 (1 + sz) k i j) → lb - j < fu → ∀ (H : Heap) (locs : List Loc), aP D cy ad S9 H → va_S (aF h) s.heap H locs → ∀ (ls : Array Slot), lv_has ls 12 [(11, .int (nI (j))), (9, .int (nI (u))), (10, .int (nI (i))), (8, .int (nI (k))), (4, .int (nI (la))), (5, .int (nI (lb))), (6, .int (nI (1 + sz))), (2, .int (nI (ee))), (1, .ref (ad (136))), (0, .ref b)] → lawW p l e s m below meth c b H locs 316 ls [] := by
                        intro fu
                        induction fu with
                        | zero => intro j u hj hu hfu; exact absurd hfu (Nat.not_lt_zero _)
                        | succ fu ih316 =>
                          intro j u hj hu hfu H locs hP hS ls hl
                          have hmd := Nat.mod_lt (i + j) (show 0 < 1 + sz by omega)
                          have hbj := rsJ_le ((S9.1 0).2 i) (S9.1 1).2 (1 + sz) k i j
                          have hm := mul_lt_257 ((hr9 0 (by decide)).2.2.1 i) ((hr9 1 (by decide)).2.2.1 j)
                          refine lv_iload hx hb dL_law_316 (lv_at hl 0 rfl) ?_
                          refine lv_iload hx hb dL_law_318 (lv_at hl 5 rfl) ?_
                          refine n_icmp_ge (tgt := 370) hx hb (by omega) (by omega) dL_law_320 (by decide) (fun h_18 => ?_) (fun h_18 => ?_)
                          · skip
                            have hjb : j = lb := by omega
                            refine lv_iinc (v := nI (i + 1)) (lv' := [(10, .int (nI (i + 1))), (11, .int (nI (j))), (9, .int (nI (u))), (8, .int (nI (k))), (4, .int (nI (la))), (5, .int (nI (lb))), (6, .int (nI (1 + sz))), (2, .int (nI (ee))), (1, .ref (ad (136))), (0, .ref b)]) hx hb dL_law_370 hl (k := 2) rfl (nI_inc _) (by decide) rfl (fun ls hl => ?_)
                            refine lv_goto (tgt := 306) hx hb dL_law_373 (by decide) ?_
                            exact ih306 (i + 1) (u) (by omega) (by rw [hu, rsO_s, hjb]) (by omega) _ _ hP hS _ (lv_sub hl [0, 2, 3, 4, 5, 6, 7, 8, 9] rfl)
                          · skip
                            have hjb := h_18
                            refine lv_iload hx hb dL_law_323 (lv_at hl 1 rfl) ?_
                            refine lv_iload hx hb dL_law_325 (lv_at hl 2 rfl) ?_
                            refine lv_iload hx hb dL_law_327 (lv_at hl 0 rfl) ?_
                            refine n_iadd hx hb dL_law_329 ?_
                            refine lv_iload hx hb dL_law_330 (lv_at hl 6 rfl) ?_
                            refine n_irem hx hb (by omega) (by omega) (by omega) dL_law_332  ?_
                            refine lv_iload hx hb dL_law_333 (lv_at hl 3 rfl) ?_
                            refine n_icmp_ne (tgt := 360) hx hb (by omega) (by omega) dL_law_335 (by decide) (fun h_19 => ?_) (fun h_19 => ?_)
                            · skip
                              have hne := h_19
                              refine lv_iconst (v := nI (0)) hx hb dL_law_360 rfl ?_
                              refine n_iadd hx hb dL_law_361 ?_
                              refine lv_istore (lv' := [(9, .int (nI (u + 0))), (11, .int (nI (j))), (10, .int (nI (i))), (8, .int (nI (k))), (4, .int (nI (la))), (5, .int (nI (lb))), (6, .int (nI (1 + sz))), (2, .int (nI (ee))), (1, .ref (ad (136))), (0, .ref b)]) hx hb dL_law_362 hl (by decide) rfl (fun ls hl => ?_)
                              refine lv_iinc (v := nI (j + 1)) (lv' := [(11, .int (nI (j + 1))), (9, .int (nI (u + 0))), (10, .int (nI (i))), (8, .int (nI (k))), (4, .int (nI (la))), (5, .int (nI (lb))), (6, .int (nI (1 + sz))), (2, .int (nI (ee))), (1, .ref (ad (136))), (0, .ref b)]) hx hb dL_law_364 hl (k := 1) rfl (nI_inc _) (by decide) rfl (fun ls hl => ?_)
                              refine lv_goto (tgt := 316) hx hb dL_law_367 (by decide) ?_
                              exact ih316 (j + 1) (u + 0) (by omega) (by rw [rsJ_s, if_neg hne]; omega) (by omega) _ _ hP hS _ hl
                            · skip
                              have heq := h_19
                              refine lv_aload_n hx hb dL_law_338 rfl (lv_at hl 8 rfl) ?_
                              refine lv_iconst (v := nI (0)) hx hb dL_law_339 rfl ?_
                              refine lv_iload hx hb dL_law_340 (lv_at hl 2 rfl) ?_
                              refine a_callVr (rest := [.int (nI (u))]) (nL := 12) ⟨hx, hb, hml, hown, hts⟩ (a_number l D cy ad hI S9 0 i (by first | assumption | decide | omega) (by omega)) (cwV 2 hts gL_law_X4_number rfl rfl rfl (by decide +kernel) ⟨Nat.le_of_ble_eq_true rfl, Nat.le_of_ble_eq_true rfl⟩) hK hP hS hAd rfl hl.1 rfl (Nat.le_of_ble_eq_true rfl) dL_law_342 ⟨Nat.le_of_ble_eq_true rfl, Nat.le_of_ble_eq_true rfl⟩ (fun H locs hP hS => ?_)
                              have hP : aP D cy ad S9 H := hP
                              refine lv_aload_n hx hb dL_law_345 rfl (lv_at hl 8 rfl) ?_
                              refine lv_iconst (v := nI (1)) hx hb dL_law_346 rfl ?_
                              refine lv_iload hx hb dL_law_347 (lv_at hl 0 rfl) ?_
                              refine a_callVr (rest := [.int (nI ((S9.1 0).2 i)), .int (nI (u))]) (nL := 12) ⟨hx, hb, hml, hown, hts⟩ (a_number l D cy ad hI S9 1 j (by first | assumption | decide | omega) (by omega)) (cwV 2 hts gL_law_X4_number rfl rfl rfl (by decide +kernel) ⟨Nat.le_of_ble_eq_true rfl, Nat.le_of_ble_eq_true rfl⟩) hK hP hS hAd rfl hl.1 rfl (Nat.le_of_ble_eq_true rfl) dL_law_349 ⟨Nat.le_of_ble_eq_true rfl, Nat.le_of_ble_eq_true rfl⟩ (fun H locs hP hS => ?_)
                              have hP : aP D cy ad S9 H := hP
                              refine n_imul hx hb dL_law_352 ?_
                              refine lv_sipush (v := nI (257)) hx hb dL_law_353 rfl ?_
                              refine n_irem hx hb (by omega) (by omega) (by omega) dL_law_356  ?_
                              refine lv_goto (tgt := 361) hx hb dL_law_357 (by decide) ?_
                              refine n_iadd hx hb dL_law_361 ?_
                              refine lv_istore (lv' := [(9, .int (nI (u + ((((S9.1 0).2 i) * ((S9.1 1).2 j)) % 257)))), (11, .int (nI (j))), (10, .int (nI (i))), (8, .int (nI (k))), (4, .int (nI (la))), (5, .int (nI (lb))), (6, .int (nI (1 + sz))), (2, .int (nI (ee))), (1, .ref (ad (136))), (0, .ref b)]) hx hb dL_law_362 hl (by decide) rfl (fun ls hl => ?_)
                              refine lv_iinc (v := nI (j + 1)) (lv' := [(11, .int (nI (j + 1))), (9, .int (nI (u + ((((S9.1 0).2 i) * ((S9.1 1).2 j)) % 257)))), (10, .int (nI (i))), (8, .int (nI (k))), (4, .int (nI (la))), (5, .int (nI (lb))), (6, .int (nI (1 + sz))), (2, .int (nI (ee))), (1, .ref (ad (136))), (0, .ref b)]) hx hb dL_law_364 hl (k := 1) rfl (nI_inc _) (by decide) rfl (fun ls hl => ?_)
                              refine lv_goto (tgt := 316) hx hb dL_law_367 (by decide) ?_
                              exact ih316 (j + 1) (u + (S9.1 0).2 i * (S9.1 1).2 j % 257) (by omega) (by rw [rsJ_s, if_pos heq]; omega) (by omega) _ _ hP hS _ hl
                      exact lp316 (_ + 1) (0) (t) (Nat.zero_le _) (by rw [ht]; rfl) (Nat.lt_succ_self _) _ _ hP hS _ (lv_sub hl [0, 2, 1, 3, 4, 5, 6, 7, 8, 9] rfl)
                exact lp306 (_ + 1) (0) (0) (Nat.zero_le _) rfl (Nat.lt_succ_self _) _ _ hP hS _ hl
          exact lp293 (_ + 1) (0) (Nat.zero_le _) (Nat.lt_succ_self _) _ _ hP hS _ (lv_sub hl [0, 4, 3, 2, 6, 7, 8] rfl)
        · skip
          exact absurd h_14 (by omega)
    · skip
      exact absurd h_6 (by omega)
set_option maxHeartbeats 8000000 in
set_option maxRecDepth 100000 in
theorem law_47 {p : Program} {l : Launch} {e : Env} {s : State} {m : MethodId} {below : List Frame} {meth : Method} {c : Code} {b L : Nat} {xs : Nat → Int32} {D : va_G} {cy : Nat → ClassId} {h : Nat} {ad : Nat → Nat} (C1 : lawC p s m meth c b L xs D cy h ad) (ee : Nat) (hee : ee < 3) (next : lawN p l e s m below meth c b D cy h ad (ee + 1)) (g : Int32) (la : Nat) (hla : 1 ≤ la ∧ la ≤ 64) {S : kSt} {H : Heap} {locs : List Loc} {ls : Array Slot} (hP : aP D cy ad S H) (hS : va_S (aF h) s.heap H locs) (hl : lv_has ls 12 [(4, .int (nI (la))), (3, .int (g)), (2, .int (nI (ee))), (1, .ref (ad (136))), (0, .ref b)]) : lawW p l e s m below meth c b H locs 47 ls [] := by
  obtain ⟨⟨hx, hb, hret, hml, hown, hts0, hX, hbl, hlocks, hgv⟩, hL, hK, hh, hI, hAd⟩ := C1
  have hts : ∀ w ∈ wsL_law, w.before #[Value.ref b] s = true := fun w hw => hts0 w (wsL_law_in w hw)
  have hown : s.vm.findClass RL = some m.cls := hown
  have hbA : ¬ aF h b := by unfold aF; omega
  have hbA2 : ¬ wA 143 ad b := fun q => hbA (hAd b q)
  refine lv_iconst (v := nI (1)) hx hb dL_law_47 rfl ?_
  refine lv_iload_n hx hb dL_law_48 rfl (lv_at hl 1 rfl) ?_
  refine lv_bipush (v := nI (8)) hx hb dL_law_49 rfl ?_
  refine lv_ishr hx hb dL_law_51 ?_
  refine lv_iload_n hx hb dL_law_52 rfl (lv_at hl 1 rfl) ?_
  refine lv_bipush (v := nI (14)) hx hb dL_law_53 rfl ?_
  refine lv_ishr hx hb dL_law_55 ?_
  refine lv_iconst (v := nI (3)) hx hb dL_law_56 rfl ?_
  refine a_call0 (rest := [.int (g >>> ((nI (8)) &&& 31)), .int (nI (1))]) (nL := 12) ⟨hx, hb, hml, hown, hts⟩ (a_L_low l D cy (g >>> ((nI (14)) &&& 31)) 3 (by first | assumption | decide | omega) (by first | assumption | decide | omega)) (va_cwS 2 hts gL_law_L_low rfl rfl rfl (by decide +kernel) ⟨Nat.le_of_ble_eq_true rfl, Nat.le_of_ble_eq_true rfl⟩) hK trivial hP hS rfl hl.1 rfl (Nat.le_of_ble_eq_true rfl) dL_law_57 ⟨Nat.le_of_ble_eq_true rfl, Nat.le_of_ble_eq_true rfl⟩ (fun o H locs hpost hP hS => ?_)
  obtain ⟨w1, hw1, ho⟩ := hpost
  subst ho
  have hP : aP D cy ad S H := hP
  refine n_ifne (tgt := 68) hx hb (by omega) dL_law_60 (by decide) (fun h_1 => ?_) (fun h_1 => ?_)
  · skip
    refine lv_bipush (v := nI (20)) hx hb dL_law_68 rfl ?_
    refine a_call0 (rest := [.int (nI (1))]) (nL := 12) ⟨hx, hb, hml, hown, hts⟩ (a_L_low l D cy (g >>> ((nI (8)) &&& 31)) 20 (by first | assumption | decide | omega) (by first | assumption | decide | omega)) (va_cwS 2 hts gL_law_L_low rfl rfl rfl (by decide +kernel) ⟨Nat.le_of_ble_eq_true rfl, Nat.le_of_ble_eq_true rfl⟩) hK trivial hP hS rfl hl.1 rfl (Nat.le_of_ble_eq_true rfl) dL_law_70 ⟨Nat.le_of_ble_eq_true rfl, Nat.le_of_ble_eq_true rfl⟩ (fun o H locs hpost hP hS => ?_)
    obtain ⟨w2, hw2, ho⟩ := hpost
    subst ho
    have hP : aP D cy ad S H := hP
    refine n_iadd hx hb dL_law_73 ?_
    refine lv_istore (lv' := [(5, .int (nI (1 + w2))), (4, .int (nI (la))), (3, .int (g)), (2, .int (nI (ee))), (1, .ref (ad (136))), (0, .ref b)]) hx hb dL_law_74 hl (by decide) rfl (fun ls hl => ?_)
    exact law_76 ⟨⟨hx, hb, hret, hml, hown, hts0, hX, hbl, hlocks, hgv⟩, hL, hK, hh, hI, hAd⟩ ee hee next g la (1 + w2) hla ⟨by omega, by omega⟩ hP hS (lv_sub hl [0, 1, 2, 3, 4, 5] rfl)
  · skip
    refine lv_bipush (v := nI (64)) hx hb dL_law_63 rfl ?_
    refine lv_goto (tgt := 70) hx hb dL_law_65 (by decide) ?_
    refine a_call0 (rest := [.int (nI (1))]) (nL := 12) ⟨hx, hb, hml, hown, hts⟩ (a_L_low l D cy (g >>> ((nI (8)) &&& 31)) 64 (by first | assumption | decide | omega) (by first | assumption | decide | omega)) (va_cwS 2 hts gL_law_L_low rfl rfl rfl (by decide +kernel) ⟨Nat.le_of_ble_eq_true rfl, Nat.le_of_ble_eq_true rfl⟩) hK trivial hP hS rfl hl.1 rfl (Nat.le_of_ble_eq_true rfl) dL_law_70 ⟨Nat.le_of_ble_eq_true rfl, Nat.le_of_ble_eq_true rfl⟩ (fun o H locs hpost hP hS => ?_)
    obtain ⟨w2, hw2, ho⟩ := hpost
    subst ho
    have hP : aP D cy ad S H := hP
    refine n_iadd hx hb dL_law_73 ?_
    refine lv_istore (lv' := [(5, .int (nI (1 + w2))), (4, .int (nI (la))), (3, .int (g)), (2, .int (nI (ee))), (1, .ref (ad (136))), (0, .ref b)]) hx hb dL_law_74 hl (by decide) rfl (fun ls hl => ?_)
    exact law_76 ⟨⟨hx, hb, hret, hml, hown, hts0, hX, hbl, hlocks, hgv⟩, hL, hK, hh, hI, hAd⟩ ee hee next g la (1 + w2) hla ⟨by omega, by omega⟩ hP hS (lv_sub hl [0, 1, 2, 3, 4, 5] rfl)
set_option maxHeartbeats 8000000 in
set_option maxRecDepth 100000 in
theorem law_15 {p : Program} {l : Launch} {e : Env} {s : State} {m : MethodId} {below : List Frame} {meth : Method} {c : Code} {b L : Nat} {xs : Nat → Int32} {D : va_G} {cy : Nat → ClassId} {h : Nat} {ad : Nat → Nat} (C1 : lawC p s m meth c b L xs D cy h ad) (ee : Nat) (hee : ee < 3) (next : lawN p l e s m below meth c b D cy h ad (ee + 1)) {S : kSt} {H : Heap} {locs : List Loc} {ls : Array Slot} (hP : aP D cy ad S H) (hS : va_S (aF h) s.heap H locs) (hl : lv_has ls 12 [(2, .int (nI (ee))), (1, .ref (ad (136))), (0, .ref b)]) : lawW p l e s m below meth c b H locs 15 ls [] := by
  obtain ⟨⟨hx, hb, hret, hml, hown, hts0, hX, hbl, hlocks, hgv⟩, hL, hK, hh, hI, hAd⟩ := C1
  have hts : ∀ w ∈ wsL_law, w.before #[Value.ref b] s = true := fun w hw => hts0 w (wsL_law_in w hw)
  have hown : s.vm.findClass RL = some m.cls := hown
  have hbA : ¬ aF h b := by unfold aF; omega
  have hbA2 : ¬ wA 143 ad b := fun q => hbA (hAd b q)
  refine lv_aload_n hx hb dL_law_15 rfl (lv_at hl 2 rfl) ?_
  refine lv_iload_n hx hb dL_law_16 rfl (lv_at hl 0 rfl) ?_
  refine a_call1 (rest := []) (nL := 12) ⟨hx, hb, hml, hown, hts⟩ (a_L_cell l D cy b L xs ee (by omega) (by omega)) (va_cwS 2 hts gL_law_L_cell rfl rfl rfl (by decide +kernel) ⟨Nat.le_of_ble_eq_true rfl, Nat.le_of_ble_eq_true rfl⟩) hK (scr_now hX hbl hS hbA) hP hS rfl hl.1 rfl (Nat.le_of_ble_eq_true rfl) dL_law_17 ⟨Nat.le_of_ble_eq_true rfl, Nat.le_of_ble_eq_true rfl⟩ (fun o H locs hpost hP hS => ?_)
  obtain ⟨g, ho⟩ := hpost
  subst ho
  have hP : aP D cy ad S H := hP
  refine lv_istore_n (lv' := [(3, .int (g)), (2, .int (nI (ee))), (1, .ref (ad (136))), (0, .ref b)]) hx hb dL_law_20 rfl hl (by decide) rfl (fun ls hl => ?_)
  refine lv_iconst (v := nI (1)) hx hb dL_law_21 rfl ?_
  refine lv_iload_n hx hb dL_law_22 rfl (lv_at hl 0 rfl) ?_
  refine lv_iload_n hx hb dL_law_23 rfl (lv_at hl 0 rfl) ?_
  refine lv_bipush (v := nI (6)) hx hb dL_law_24 rfl ?_
  refine lv_ishr hx hb dL_law_26 ?_
  refine lv_iconst (v := nI (3)) hx hb dL_law_27 rfl ?_
  refine a_call0 (rest := [.int (g), .int (nI (1))]) (nL := 12) ⟨hx, hb, hml, hown, hts⟩ (a_L_low l D cy (g >>> ((nI (6)) &&& 31)) 3 (by first | assumption | decide | omega) (by first | assumption | decide | omega)) (va_cwS 2 hts gL_law_L_low rfl rfl rfl (by decide +kernel) ⟨Nat.le_of_ble_eq_true rfl, Nat.le_of_ble_eq_true rfl⟩) hK trivial hP hS rfl hl.1 rfl (Nat.le_of_ble_eq_true rfl) dL_law_28 ⟨Nat.le_of_ble_eq_true rfl, Nat.le_of_ble_eq_true rfl⟩ (fun o H locs hpost hP hS => ?_)
  obtain ⟨w1, hw1, ho⟩ := hpost
  subst ho
  have hP : aP D cy ad S H := hP
  refine n_ifne (tgt := 39) hx hb (by omega) dL_law_31 (by decide) (fun h_1 => ?_) (fun h_1 => ?_)
  · skip
    refine lv_bipush (v := nI (20)) hx hb dL_law_39 rfl ?_
    refine a_call0 (rest := [.int (nI (1))]) (nL := 12) ⟨hx, hb, hml, hown, hts⟩ (a_L_low l D cy g 20 (by first | assumption | decide | omega) (by first | assumption | decide | omega)) (va_cwS 2 hts gL_law_L_low rfl rfl rfl (by decide +kernel) ⟨Nat.le_of_ble_eq_true rfl, Nat.le_of_ble_eq_true rfl⟩) hK trivial hP hS rfl hl.1 rfl (Nat.le_of_ble_eq_true rfl) dL_law_41 ⟨Nat.le_of_ble_eq_true rfl, Nat.le_of_ble_eq_true rfl⟩ (fun o H locs hpost hP hS => ?_)
    obtain ⟨w2, hw2, ho⟩ := hpost
    subst ho
    have hP : aP D cy ad S H := hP
    refine n_iadd hx hb dL_law_44 ?_
    refine lv_istore (lv' := [(4, .int (nI (1 + w2))), (3, .int (g)), (2, .int (nI (ee))), (1, .ref (ad (136))), (0, .ref b)]) hx hb dL_law_45 hl (by decide) rfl (fun ls hl => ?_)
    exact law_47 ⟨⟨hx, hb, hret, hml, hown, hts0, hX, hbl, hlocks, hgv⟩, hL, hK, hh, hI, hAd⟩ ee hee next g (1 + w2) ⟨by omega, by omega⟩ hP hS (lv_sub hl [0, 1, 2, 3, 4] rfl)
  · skip
    refine lv_bipush (v := nI (64)) hx hb dL_law_34 rfl ?_
    refine lv_goto (tgt := 41) hx hb dL_law_36 (by decide) ?_
    refine a_call0 (rest := [.int (nI (1))]) (nL := 12) ⟨hx, hb, hml, hown, hts⟩ (a_L_low l D cy g 64 (by first | assumption | decide | omega) (by first | assumption | decide | omega)) (va_cwS 2 hts gL_law_L_low rfl rfl rfl (by decide +kernel) ⟨Nat.le_of_ble_eq_true rfl, Nat.le_of_ble_eq_true rfl⟩) hK trivial hP hS rfl hl.1 rfl (Nat.le_of_ble_eq_true rfl) dL_law_41 ⟨Nat.le_of_ble_eq_true rfl, Nat.le_of_ble_eq_true rfl⟩ (fun o H locs hpost hP hS => ?_)
    obtain ⟨w2, hw2, ho⟩ := hpost
    subst ho
    have hP : aP D cy ad S H := hP
    refine n_iadd hx hb dL_law_44 ?_
    refine lv_istore (lv' := [(4, .int (nI (1 + w2))), (3, .int (g)), (2, .int (nI (ee))), (1, .ref (ad (136))), (0, .ref b)]) hx hb dL_law_45 hl (by decide) rfl (fun ls hl => ?_)
    exact law_47 ⟨⟨hx, hb, hret, hml, hown, hts0, hX, hbl, hlocks, hgv⟩, hL, hK, hh, hI, hAd⟩ ee hee next g (1 + w2) ⟨by omega, by omega⟩ hP hS (lv_sub hl [0, 1, 2, 3, 4] rfl)
set_option maxHeartbeats 4000000 in
set_option maxRecDepth 100000 in
theorem law_loop {p : Program} {l : Launch} {e : Env} {s : State} {m : MethodId} {below : List Frame} {meth : Method} {c : Code} {b L : Nat} {xs : Nat → Int32} {D : va_G} {cy : Nat → ClassId} {h : Nat} {ad : Nat → Nat} (C1 : lawC p s m meth c b L xs D cy h ad) : ∀ (fu ee : Nat), 3 - ee < fu → ee ≤ 3 → lawN p l e s m below meth c b D cy h ad ee := by
  intro fu
  induction fu with
  | zero => intro ee hfu; exact absurd hfu (Nat.not_lt_zero _)
  | succ fu ih =>
    intro ee hfu he3 S H locs ls hP hS hl
    obtain ⟨⟨hx, hb, hret, hml, hown, hts0, hX, hbl, hlocks, hgv⟩, hL, hK, hh, hI, hAd⟩ := id C1
    refine lv_iload_n hx hb dL_law_10 rfl (lv_at hl 0 rfl) ?_
    refine lv_iconst (v := nI 3) hx hb dL_law_11 rfl ?_
    refine n_icmp_ge (tgt := 406) hx hb (by omega) (by omega) dL_law_12 (by decide) (fun h_1 => ?_) (fun h_1 => ?_)
    · refine lv_iconst (v := 1) hx hb dL_law_406 (by decide) ?_
      refine va_forget (fun q hq => by have := hS.2.2 q hq; unfold aF at this; omega) ?_
      refine W.widen (k := 600000) (n := 7302250) (Nat.le_of_ble_eq_true rfl) (Nat.le_of_ble_eq_true rfl) ?_
      exact lw_ret hx hb hret hlocks dL_law_407
    · exact law_15 C1 ee h_1 (ih (ee + 1) (by omega) (by omega)) hP hS hl
