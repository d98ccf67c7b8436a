set_option maxHeartbeats 4000000 in
set_option maxRecDepth 100000 in
theorem law_read {p : Program} {l : Launch} {e : Env} {s : State} {m : MethodId} {below : List Frame} {meth : Method} {c : Code} {b L : Nat} {xs : Nat → Int32} {D : va_G} {cy : Nat → ClassId} {h i : Nat} (C1 : lwC p s m meth c b L xs D cy h) (hi : i + 5 ≤ L) (next : lwN p l e s m below meth c b D cy h i) {S : kSt} {ρ : Nat → kR} {x : kX} {v : kV} {H : Heap} {locs : List Loc} (hJ : lwI D cy h S ρ x v H) (hS : va_S (aF h) s.heap H locs) {ls : Array Slot} (hl : lv_has ls 4 (lwL b h i)) : lwW p l e s m below meth c b H locs 148 ls [] := by
  obtain ⟨⟨hx, hb, hr, hml, hown, hts0, hX, hbl, hlocks, hgv⟩, hL, hK, hh⟩ := C1
  obtain ⟨hSI, hR, hM, hP1, hP2⟩ := hJ
  have hts : ∀ w ∈ wsL_law, w.before #[Value.ref b] s = true := fun w hw => hts0 w (wsL_law_in w hw)
  have hown : s.vm.findClass RL = some m.cls := hown
  have hbA : ¬ aF h b := by unfold aF; omega
  refine lv_aload_n hx hb dL_law_148 rfl (lv_at hl 1 rfl) ?_
  refine lv_aload_n hx hb dL_law_149 rfl (lv_at hl 0 rfl) ?_
  refine lv_iload_n hx hb dL_law_150 rfl (lv_at hl 3 rfl) ?_
  refine lv_iconst (v := nI 1) hx hb dL_law_151 rfl ?_
  refine n_iadd hx hb dL_law_152 ?_
  refine va_sld hx hb hX hbl hbA hS (vp_in_nI (show i + 1 < L by omega) (by omega)) dL_law_153 ?_
  refine i_push (b := xs (i + 1)) (by rw [nI_clamp (by omega)]) ?_
  refine k_callV (rest := []) (nL := 4) ⟨hx, hb, hml, hown, hts⟩ (c_X4_read l D cy (ad1 h) (ad1_I h) ρ x S (xs (i + 1)) hSI hR) (cwV 1 hts gL_law_X4_read rfl rfl rfl (by decide +kernel) ⟨Nat.le_of_ble_eq_true rfl, Nat.le_of_ble_eq_true rfl⟩) hK hP1 hS ad1_A (q0 := 136) (ci := 4) rfl (by decide) cW_top rfl rfl rfl hl.1 rfl (Nat.le_of_ble_eq_true rfl) dL_law_154 ⟨Nat.le_of_ble_eq_true rfl, Nat.le_of_ble_eq_true rfl⟩ (fun o u H1 locs hpost hP1 hS hfr => ?_)
  have hP2 := keepP hP2 hfr ad1_2
  obtain ⟨ρ, x⟩ := u
  obtain ⟨ho, hR⟩ := hpost
  subst ho
  refine lv_aload_n hx hb dL_law_157 rfl (lv_at hl 2 rfl) ?_
  refine lv_aload_n hx hb dL_law_158 rfl (lv_at hl 0 rfl) ?_
  refine lv_iload_n hx hb dL_law_159 rfl (lv_at hl 3 rfl) ?_
  refine lv_iconst (v := nI 1) hx hb dL_law_160 rfl ?_
  refine n_iadd hx hb dL_law_161 ?_
  refine va_sld hx hb hX hbl hbA hS (vp_in_nI (show i + 1 < L by omega) (by omega)) dL_law_162 ?_
  refine i_push (b := xs (i + 1)) (by rw [nI_clamp (by omega)]) ?_
  refine k_callV (rest := [.int (op_read S (xs (i + 1))).1]) (nL := 4) ⟨hx, hb, hml, hown, hts⟩ (c_X5_read l D cy (aA (h + 143)) (aA_I 9 (h + 143)) v S (xs (i + 1)) hSI hM) (cwV 1 hts gL_law_X5_read rfl rfl rfl (by decide +kernel) ⟨Nat.le_of_ble_eq_true rfl, Nat.le_of_ble_eq_true rfl⟩) hK hP2 hS aA_A (q0 := 0) (ci := 5) rfl (by decide) mW_obj rfl rfl rfl hl.1 rfl (Nat.le_of_ble_eq_true rfl) dL_law_163 ⟨Nat.le_of_ble_eq_true rfl, Nat.le_of_ble_eq_true rfl⟩ (fun o u H2 locs hpost hP2 hS hfr => ?_)
  have hP1 := keepP hP1 hfr ad2_1
  obtain ⟨ho, hM⟩ := hpost
  subst ho
  exact lv_icmp_eq (tgt := 1034) hx hb dL_law_166 (by decide) (fun _ => next _ _ _ _ _ _ _ ⟨inv_read hSI _, hR, hM, hP1, hP2⟩ hS hl) (fun q => absurd rfl q)
set_option maxHeartbeats 4000000 in
set_option maxRecDepth 100000 in
theorem law_set {p : Program} {l : Launch} {e : Env} {s : State} {m : MethodId} {below : List Frame} {meth : Method} {c : Code} {b L : Nat} {xs : Nat → Int32} {D : va_G} {cy : Nat → ClassId} {h i : Nat} (C1 : lwC p s m meth c b L xs D cy h) (hi : i + 5 ≤ L) (next : lwN p l e s m below meth c b D cy h i) {S : kSt} {ρ : Nat → kR} {x : kX} {v : kV} {H : Heap} {locs : List Loc} (hJ : lwI D cy h S ρ x v H) (hS : va_S (aF h) s.heap H locs) {ls : Array Slot} (hl : lv_has ls 4 (lwL b h i)) : lwW p l e s m below meth c b H locs 171 ls [] := by
  obtain ⟨⟨hx, hb, hr, hml, hown, hts0, hX, hbl, hlocks, hgv⟩, hL, hK, hh⟩ := C1
  obtain ⟨hSI, hR, hM, hP1, hP2⟩ := hJ
  have hts : ∀ w ∈ wsL_law, w.before #[Value.ref b] s = true := fun w hw => hts0 w (wsL_law_in w hw)
  have hown : s.vm.findClass RL = some m.cls := hown
  have hbA : ¬ aF h b := by unfold aF; omega
  refine lv_aload_n hx hb dL_law_171 rfl (lv_at hl 1 rfl) ?_
  refine lv_aload_n hx hb dL_law_172 rfl (lv_at hl 0 rfl) ?_
  refine lv_iload_n hx hb dL_law_173 rfl (lv_at hl 3 rfl) ?_
  refine lv_iconst (v := nI 1) hx hb dL_law_174 rfl ?_
  refine n_iadd hx hb dL_law_175 ?_
  refine va_sld hx hb hX hbl hbA hS (vp_in_nI (show i + 1 < L by omega) (by omega)) dL_law_176 ?_
  refine i_push (b := xs (i + 1)) (by rw [nI_clamp (by omega)]) ?_
  refine lv_aload_n hx hb dL_law_177 rfl (lv_at hl 0 rfl) ?_
  refine lv_iload_n hx hb dL_law_178 rfl (lv_at hl 3 rfl) ?_
  refine lv_iconst (v := nI 2) hx hb dL_law_179 rfl ?_
  refine n_iadd hx hb dL_law_180 ?_
  refine va_sld hx hb hX hbl hbA hS (vp_in_nI (show i + 2 < L by omega) (by omega)) dL_law_181 ?_
  refine i_push (b := xs (i + 2)) (by rw [nI_clamp (by omega)]) ?_
  refine lv_aload_n hx hb dL_law_182 rfl (lv_at hl 0 rfl) ?_
  refine lv_iload_n hx hb dL_law_183 rfl (lv_at hl 3 rfl) ?_
  refine lv_iconst (v := nI 3) hx hb dL_law_184 rfl ?_
  refine n_iadd hx hb dL_law_185 ?_
  refine va_sld hx hb hX hbl hbA hS (vp_in_nI (show i + 3 < L by omega) (by omega)) dL_law_186 ?_
  refine i_push (b := xs (i + 3)) (by rw [nI_clamp (by omega)]) ?_
  refine k_callV (rest := []) (nL := 4) ⟨hx, hb, hml, hown, hts⟩ (c_X4_set l D cy (ad1 h) (ad1_I h) ρ x S (xs (i + 1)) (xs (i + 2)) (xs (i + 3)) hSI hR) (cwV 3 hts gL_law_X4_set rfl rfl rfl (by decide +kernel) ⟨Nat.le_of_ble_eq_true rfl, Nat.le_of_ble_eq_true rfl⟩) hK hP1 hS ad1_A (q0 := 136) (ci := 4) rfl (by decide) cW_top rfl rfl rfl hl.1 rfl (Nat.le_of_ble_eq_true rfl) dL_law_187 ⟨Nat.le_of_ble_eq_true rfl, Nat.le_of_ble_eq_true rfl⟩ (fun o u H1 locs hpost hP1 hS hfr => ?_)
  have hP2 := keepP hP2 hfr ad1_2
  obtain ⟨ρ, x⟩ := u
  obtain ⟨ho, hR⟩ := hpost
  subst ho
  refine lv_aload_n hx hb dL_law_190 rfl (lv_at hl 2 rfl) ?_
  refine lv_aload_n hx hb dL_law_191 rfl (lv_at hl 0 rfl) ?_
  refine lv_iload_n hx hb dL_law_192 rfl (lv_at hl 3 rfl) ?_
  refine lv_iconst (v := nI 1) hx hb dL_law_193 rfl ?_
  refine n_iadd hx hb dL_law_194 ?_
  refine va_sld hx hb hX hbl hbA hS (vp_in_nI (show i + 1 < L by omega) (by omega)) dL_law_195 ?_
  refine i_push (b := xs (i + 1)) (by rw [nI_clamp (by omega)]) ?_
  refine lv_aload_n hx hb dL_law_196 rfl (lv_at hl 0 rfl) ?_
  refine lv_iload_n hx hb dL_law_197 rfl (lv_at hl 3 rfl) ?_
  refine lv_iconst (v := nI 2) hx hb dL_law_198 rfl ?_
  refine n_iadd hx hb dL_law_199 ?_
  refine va_sld hx hb hX hbl hbA hS (vp_in_nI (show i + 2 < L by omega) (by omega)) dL_law_200 ?_
  refine i_push (b := xs (i + 2)) (by rw [nI_clamp (by omega)]) ?_
  refine lv_aload_n hx hb dL_law_201 rfl (lv_at hl 0 rfl) ?_
  refine lv_iload_n hx hb dL_law_202 rfl (lv_at hl 3 rfl) ?_
  refine lv_iconst (v := nI 3) hx hb dL_law_203 rfl ?_
  refine n_iadd hx hb dL_law_204 ?_
  refine va_sld hx hb hX hbl hbA hS (vp_in_nI (show i + 3 < L by omega) (by omega)) dL_law_205 ?_
  refine i_push (b := xs (i + 3)) (by rw [nI_clamp (by omega)]) ?_
  refine k_callV (rest := [.int (op_set S (xs (i + 1)) (xs (i + 2)) (xs (i + 3))).1]) (nL := 4) ⟨hx, hb, hml, hown, hts⟩ (c_X5_set l D cy (aA (h + 143)) (aA_I 9 (h + 143)) v S (xs (i + 1)) (xs (i + 2)) (xs (i + 3)) hSI hM) (cwV 3 hts gL_law_X5_set rfl rfl rfl (by decide +kernel) ⟨Nat.le_of_ble_eq_true rfl, Nat.le_of_ble_eq_true rfl⟩) hK hP2 hS aA_A (q0 := 0) (ci := 5) rfl (by decide) mW_obj rfl rfl rfl hl.1 rfl (Nat.le_of_ble_eq_true rfl) dL_law_206 ⟨Nat.le_of_ble_eq_true rfl, Nat.le_of_ble_eq_true rfl⟩ (fun o u H2 locs hpost hP2 hS hfr => ?_)
  have hP1 := keepP hP1 hfr ad2_1
  obtain ⟨ho, hM⟩ := hpost
  subst ho
  exact lv_icmp_eq (tgt := 1034) hx hb dL_law_209 (by decide) (fun _ => next _ _ _ _ _ _ _ ⟨inv_set hSI _ _ _, hR, hM, hP1, hP2⟩ hS hl) (fun q => absurd rfl q)
set_option maxHeartbeats 4000000 in
set_option maxRecDepth 100000 in
theorem law_add {p : Program} {l : Launch} {e : Env} {s : State} {m : MethodId} {below : List Frame} {meth : Method} {c : Code} {b L : Nat} {xs : Nat → Int32} {D : va_G} {cy : Nat → ClassId} {h i : Nat} (C1 : lwC p s m meth c b L xs D cy h) (hi : i + 5 ≤ L) (next : lwN p l e s m below meth c b D cy h i) {S : kSt} {ρ : Nat → kR} {x : kX} {v : kV} {H : Heap} {locs : List Loc} (hJ : lwI D cy h S ρ x v H) (hS : va_S (aF h) s.heap H locs) {ls : Array Slot} (hl : lv_has ls 4 (lwL b h i)) : lwW p l e s m below meth c b H locs 214 ls [] := by
  obtain ⟨⟨hx, hb, hr, hml, hown, hts0, hX, hbl, hlocks, hgv⟩, hL, hK, hh⟩ := C1
  obtain ⟨hSI, hR, hM, hP1, hP2⟩ := hJ
  have hts : ∀ w ∈ wsL_law, w.before #[Value.ref b] s = true := fun w hw => hts0 w (wsL_law_in w hw)
  have hown : s.vm.findClass RL = some m.cls := hown
  have hbA : ¬ aF h b := by unfold aF; omega
  refine lv_aload_n hx hb dL_law_214 rfl (lv_at hl 1 rfl) ?_
  refine lv_aload_n hx hb dL_law_215 rfl (lv_at hl 0 rfl) ?_
  refine lv_iload_n hx hb dL_law_216 rfl (lv_at hl 3 rfl) ?_
  refine lv_iconst (v := nI 1) hx hb dL_law_217 rfl ?_
  refine n_iadd hx hb dL_law_218 ?_
  refine va_sld hx hb hX hbl hbA hS (vp_in_nI (show i + 1 < L by omega) (by omega)) dL_law_219 ?_
  refine i_push (b := xs (i + 1)) (by rw [nI_clamp (by omega)]) ?_
  refine lv_aload_n hx hb dL_law_220 rfl (lv_at hl 0 rfl) ?_
  refine lv_iload_n hx hb dL_law_221 rfl (lv_at hl 3 rfl) ?_
  refine lv_iconst (v := nI 2) hx hb dL_law_222 rfl ?_
  refine n_iadd hx hb dL_law_223 ?_
  refine va_sld hx hb hX hbl hbA hS (vp_in_nI (show i + 2 < L by omega) (by omega)) dL_law_224 ?_
  refine i_push (b := xs (i + 2)) (by rw [nI_clamp (by omega)]) ?_
  refine lv_aload_n hx hb dL_law_225 rfl (lv_at hl 0 rfl) ?_
  refine lv_iload_n hx hb dL_law_226 rfl (lv_at hl 3 rfl) ?_
  refine lv_iconst (v := nI 3) hx hb dL_law_227 rfl ?_
  refine n_iadd hx hb dL_law_228 ?_
  refine va_sld hx hb hX hbl hbA hS (vp_in_nI (show i + 3 < L by omega) (by omega)) dL_law_229 ?_
  refine i_push (b := xs (i + 3)) (by rw [nI_clamp (by omega)]) ?_
  refine lv_aload_n hx hb dL_law_230 rfl (lv_at hl 0 rfl) ?_
  refine lv_iload_n hx hb dL_law_231 rfl (lv_at hl 3 rfl) ?_
  refine lv_iconst (v := nI 4) hx hb dL_law_232 rfl ?_
  refine n_iadd hx hb dL_law_233 ?_
  refine va_sld hx hb hX hbl hbA hS (vp_in_nI (show i + 4 < L by omega) (by omega)) dL_law_234 ?_
  refine i_push (b := xs (i + 4)) (by rw [nI_clamp (by omega)]) ?_
  refine k_callV (rest := []) (nL := 4) ⟨hx, hb, hml, hown, hts⟩ (c_X4_add l D cy (ad1 h) (ad1_I h) ρ x S (xs (i + 1)) (xs (i + 2)) (xs (i + 3)) (xs (i + 4)) hSI hR) (cwV 4 hts gL_law_X4_add rfl rfl rfl (by decide +kernel) ⟨Nat.le_of_ble_eq_true rfl, Nat.le_of_ble_eq_true rfl⟩) hK hP1 hS ad1_A (q0 := 136) (ci := 4) rfl (by decide) cW_top rfl rfl rfl hl.1 rfl (Nat.le_of_ble_eq_true rfl) dL_law_235 ⟨Nat.le_of_ble_eq_true rfl, Nat.le_of_ble_eq_true rfl⟩ (fun o u H1 locs hpost hP1 hS hfr => ?_)
  have hP2 := keepP hP2 hfr ad1_2
  obtain ⟨ρ, x⟩ := u
  obtain ⟨ho, hR⟩ := hpost
  subst ho
  refine lv_aload_n hx hb dL_law_238 rfl (lv_at hl 2 rfl) ?_
  refine lv_aload_n hx hb dL_law_239 rfl (lv_at hl 0 rfl) ?_
  refine lv_iload_n hx hb dL_law_240 rfl (lv_at hl 3 rfl) ?_
  refine lv_iconst (v := nI 1) hx hb dL_law_241 rfl ?_
  refine n_iadd hx hb dL_law_242 ?_
  refine va_sld hx hb hX hbl hbA hS (vp_in_nI (show i + 1 < L by omega) (by omega)) dL_law_243 ?_
  refine i_push (b := xs (i + 1)) (by rw [nI_clamp (by omega)]) ?_
  refine lv_aload_n hx hb dL_law_244 rfl (lv_at hl 0 rfl) ?_
  refine lv_iload_n hx hb dL_law_245 rfl (lv_at hl 3 rfl) ?_
  refine lv_iconst (v := nI 2) hx hb dL_law_246 rfl ?_
  refine n_iadd hx hb dL_law_247 ?_
  refine va_sld hx hb hX hbl hbA hS (vp_in_nI (show i + 2 < L by omega) (by omega)) dL_law_248 ?_
  refine i_push (b := xs (i + 2)) (by rw [nI_clamp (by omega)]) ?_
  refine lv_aload_n hx hb dL_law_249 rfl (lv_at hl 0 rfl) ?_
  refine lv_iload_n hx hb dL_law_250 rfl (lv_at hl 3 rfl) ?_
  refine lv_iconst (v := nI 3) hx hb dL_law_251 rfl ?_
  refine n_iadd hx hb dL_law_252 ?_
  refine va_sld hx hb hX hbl hbA hS (vp_in_nI (show i + 3 < L by omega) (by omega)) dL_law_253 ?_
  refine i_push (b := xs (i + 3)) (by rw [nI_clamp (by omega)]) ?_
  refine lv_aload_n hx hb dL_law_254 rfl (lv_at hl 0 rfl) ?_
  refine lv_iload_n hx hb dL_law_255 rfl (lv_at hl 3 rfl) ?_
  refine lv_iconst (v := nI 4) hx hb dL_law_256 rfl ?_
  refine n_iadd hx hb dL_law_257 ?_
  refine va_sld hx hb hX hbl hbA hS (vp_in_nI (show i + 4 < L by omega) (by omega)) dL_law_258 ?_
  refine i_push (b := xs (i + 4)) (by rw [nI_clamp (by omega)]) ?_
  refine k_callV (rest := [.int (op_add S (xs (i + 1)) (xs (i + 2)) (xs (i + 3)) (xs (i + 4))).1]) (nL := 4) ⟨hx, hb, hml, hown, hts⟩ (c_X5_add l D cy (aA (h + 143)) (aA_I 9 (h + 143)) v S (xs (i + 1)) (xs (i + 2)) (xs (i + 3)) (xs (i + 4)) hSI hM) (cwV 4 hts gL_law_X5_add rfl rfl rfl (by decide +kernel) ⟨Nat.le_of_ble_eq_true rfl, Nat.le_of_ble_eq_true rfl⟩) hK hP2 hS aA_A (q0 := 0) (ci := 5) rfl (by decide) mW_obj rfl rfl rfl hl.1 rfl (Nat.le_of_ble_eq_true rfl) dL_law_259 ⟨Nat.le_of_ble_eq_true rfl, Nat.le_of_ble_eq_true rfl⟩ (fun o u H2 locs hpost hP2 hS hfr => ?_)
  have hP1 := keepP hP1 hfr ad2_1
  obtain ⟨ho, hM⟩ := hpost
  subst ho
  exact lv_icmp_eq (tgt := 1034) hx hb dL_law_262 (by decide) (fun _ => next _ _ _ _ _ _ _ ⟨inv_add hSI _ _ _ _, hR, hM, hP1, hP2⟩ hS hl) (fun q => absurd rfl q)
set_option maxHeartbeats 4000000 in
set_option maxRecDepth 100000 in
theorem law_product {p : Program} {l : Launch} {e : Env} {s : State} {m : MethodId} {below : List Frame} {meth : Method} {c : Code} {b L : Nat} {xs : Nat → Int32} {D : va_G} {cy : Nat → ClassId} {h i : Nat} (C1 : lwC p s m meth c b L xs D cy h) (hi : i + 5 ≤ L) (next : lwN p l e s m below meth c b D cy h i) {S : kSt} {ρ : Nat → kR} {x : kX} {v : kV} {H : Heap} {locs : List Loc} (hJ : lwI D cy h S ρ x v H) (hS : va_S (aF h) s.heap H locs) {ls : Array Slot} (hl : lv_has ls 4 (lwL b h i)) : lwW p l e s m below meth c b H locs 267 ls [] := by
  obtain ⟨⟨hx, hb, hr, hml, hown, hts0, hX, hbl, hlocks, hgv⟩, hL, hK, hh⟩ := C1
  obtain ⟨hSI, hR, hM, hP1, hP2⟩ := hJ
  have hts : ∀ w ∈ wsL_law, w.before #[Value.ref b] s = true := fun w hw => hts0 w (wsL_law_in w hw)
  have hown : s.vm.findClass RL = some m.cls := hown
  have hbA : ¬ aF h b := by unfold aF; omega
  refine lv_aload_n hx hb dL_law_267 rfl (lv_at hl 1 rfl) ?_
  refine lv_aload_n hx hb dL_law_268 rfl (lv_at hl 0 rfl) ?_
  refine lv_iload_n hx hb dL_law_269 rfl (lv_at hl 3 rfl) ?_
  refine lv_iconst (v := nI 1) hx hb dL_law_270 rfl ?_
  refine n_iadd hx hb dL_law_271 ?_
  refine va_sld hx hb hX hbl hbA hS (vp_in_nI (show i + 1 < L by omega) (by omega)) dL_law_272 ?_
  refine i_push (b := xs (i + 1)) (by rw [nI_clamp (by omega)]) ?_
  refine lv_aload_n hx hb dL_law_273 rfl (lv_at hl 0 rfl) ?_
  refine lv_iload_n hx hb dL_law_274 rfl (lv_at hl 3 rfl) ?_
  refine lv_iconst (v := nI 2) hx hb dL_law_275 rfl ?_
  refine n_iadd hx hb dL_law_276 ?_
  refine va_sld hx hb hX hbl hbA hS (vp_in_nI (show i + 2 < L by omega) (by omega)) dL_law_277 ?_
  refine i_push (b := xs (i + 2)) (by rw [nI_clamp (by omega)]) ?_
  refine lv_aload_n hx hb dL_law_278 rfl (lv_at hl 0 rfl) ?_
  refine lv_iload_n hx hb dL_law_279 rfl (lv_at hl 3 rfl) ?_
  refine lv_iconst (v := nI 3) hx hb dL_law_280 rfl ?_
  refine n_iadd hx hb dL_law_281 ?_
  refine va_sld hx hb hX hbl hbA hS (vp_in_nI (show i + 3 < L by omega) (by omega)) dL_law_282 ?_
  refine i_push (b := xs (i + 3)) (by rw [nI_clamp (by omega)]) ?_
  refine k_callV (rest := []) (nL := 4) ⟨hx, hb, hml, hown, hts⟩ (c_X4_product l D cy (ad1 h) (ad1_I h) ρ x S (xs (i + 1)) (xs (i + 2)) (xs (i + 3)) hSI hR) (cwV 3 hts gL_law_X4_product rfl rfl rfl (by decide +kernel) ⟨Nat.le_of_ble_eq_true rfl, Nat.le_of_ble_eq_true rfl⟩) hK hP1 hS ad1_A (q0 := 136) (ci := 4) rfl (by decide) cW_top rfl rfl rfl hl.1 rfl (Nat.le_of_ble_eq_true rfl) dL_law_283 ⟨Nat.le_of_ble_eq_true rfl, Nat.le_of_ble_eq_true rfl⟩ (fun o u H1 locs hpost hP1 hS hfr => ?_)
  have hP2 := keepP hP2 hfr ad1_2
  obtain ⟨ρ, x⟩ := u
  obtain ⟨ho, hR⟩ := hpost
  subst ho
  refine lv_aload_n hx hb dL_law_286 rfl (lv_at hl 2 rfl) ?_
  refine lv_aload_n hx hb dL_law_287 rfl (lv_at hl 0 rfl) ?_
  refine lv_iload_n hx hb dL_law_288 rfl (lv_at hl 3 rfl) ?_
  refine lv_iconst (v := nI 1) hx hb dL_law_289 rfl ?_
  refine n_iadd hx hb dL_law_290 ?_
  refine va_sld hx hb hX hbl hbA hS (vp_in_nI (show i + 1 < L by omega) (by omega)) dL_law_291 ?_
  refine i_push (b := xs (i + 1)) (by rw [nI_clamp (by omega)]) ?_
  refine lv_aload_n hx hb dL_law_292 rfl (lv_at hl 0 rfl) ?_
  refine lv_iload_n hx hb dL_law_293 rfl (lv_at hl 3 rfl) ?_
  refine lv_iconst (v := nI 2) hx hb dL_law_294 rfl ?_
  refine n_iadd hx hb dL_law_295 ?_
  refine va_sld hx hb hX hbl hbA hS (vp_in_nI (show i + 2 < L by omega) (by omega)) dL_law_296 ?_
  refine i_push (b := xs (i + 2)) (by rw [nI_clamp (by omega)]) ?_
  refine lv_aload_n hx hb dL_law_297 rfl (lv_at hl 0 rfl) ?_
  refine lv_iload_n hx hb dL_law_298 rfl (lv_at hl 3 rfl) ?_
  refine lv_iconst (v := nI 3) hx hb dL_law_299 rfl ?_
  refine n_iadd hx hb dL_law_300 ?_
  refine va_sld hx hb hX hbl hbA hS (vp_in_nI (show i + 3 < L by omega) (by omega)) dL_law_301 ?_
  refine i_push (b := xs (i + 3)) (by rw [nI_clamp (by omega)]) ?_
  refine k_callV (rest := [.int (op_product S (xs (i + 1)) (xs (i + 2)) (xs (i + 3))).1]) (nL := 4) ⟨hx, hb, hml, hown, hts⟩ (c_X5_product l D cy (aA (h + 143)) (aA_I 9 (h + 143)) v S (xs (i + 1)) (xs (i + 2)) (xs (i + 3)) hSI hM) (cwV 3 hts gL_law_X5_product rfl rfl rfl (by decide +kernel) ⟨Nat.le_of_ble_eq_true rfl, Nat.le_of_ble_eq_true rfl⟩) hK hP2 hS aA_A (q0 := 0) (ci := 5) rfl (by decide) mW_obj rfl rfl rfl hl.1 rfl (Nat.le_of_ble_eq_true rfl) dL_law_302 ⟨Nat.le_of_ble_eq_true rfl, Nat.le_of_ble_eq_true rfl⟩ (fun o u H2 locs hpost hP2 hS hfr => ?_)
  have hP1 := keepP hP1 hfr ad2_1
  obtain ⟨ho, hM⟩ := hpost
  subst ho
  exact lv_icmp_eq (tgt := 1034) hx hb dL_law_305 (by decide) (fun _ => next _ _ _ _ _ _ _ ⟨inv_product hSI _ _ _, hR, hM, hP1, hP2⟩ hS hl) (fun q => absurd rfl q)
set_option maxHeartbeats 4000000 in
set_option maxRecDepth 100000 in
theorem law_round {p : Program} {l : Launch} {e : Env} {s : State} {m : MethodId} {below : List Frame} {meth : Method} {c : Code} {b L : Nat} {xs : Nat → Int32} {D : va_G} {cy : Nat → ClassId} {h i : Nat} (C1 : lwC p s m meth c b L xs D cy h) (hi : i + 5 ≤ L) (next : lwN p l e s m below meth c b D cy h i) {S : kSt} {ρ : Nat → kR} {x : kX} {v : kV} {H : Heap} {locs : List Loc} (hJ : lwI D cy h S ρ x v H) (hS : va_S (aF h) s.heap H locs) {ls : Array Slot} (hl : lv_has ls 4 (lwL b h i)) : lwW p l e s m below meth c b H locs 310 ls [] := by
  obtain ⟨⟨hx, hb, hr, hml, hown, hts0, hX, hbl, hlocks, hgv⟩, hL, hK, hh⟩ := C1
  obtain ⟨hSI, hR, hM, hP1, hP2⟩ := hJ
  have hts : ∀ w ∈ wsL_law, w.before #[Value.ref b] s = true := fun w hw => hts0 w (wsL_law_in w hw)
  have hown : s.vm.findClass RL = some m.cls := hown
  have hbA : ¬ aF h b := by unfold aF; omega
  refine lv_aload_n hx hb dL_law_310 rfl (lv_at hl 1 rfl) ?_
  refine lv_aload_n hx hb dL_law_311 rfl (lv_at hl 0 rfl) ?_
  refine lv_iload_n hx hb dL_law_312 rfl (lv_at hl 3 rfl) ?_
  refine lv_iconst (v := nI 1) hx hb dL_law_313 rfl ?_
  refine n_iadd hx hb dL_law_314 ?_
  refine va_sld hx hb hX hbl hbA hS (vp_in_nI (show i + 1 < L by omega) (by omega)) dL_law_315 ?_
  refine i_push (b := xs (i + 1)) (by rw [nI_clamp (by omega)]) ?_
  refine lv_aload_n hx hb dL_law_316 rfl (lv_at hl 0 rfl) ?_
  refine lv_iload_n hx hb dL_law_317 rfl (lv_at hl 3 rfl) ?_
  refine lv_iconst (v := nI 2) hx hb dL_law_318 rfl ?_
  refine n_iadd hx hb dL_law_319 ?_
  refine va_sld hx hb hX hbl hbA hS (vp_in_nI (show i + 2 < L by omega) (by omega)) dL_law_320 ?_
  refine i_push (b := xs (i + 2)) (by rw [nI_clamp (by omega)]) ?_
  refine lv_aload_n hx hb dL_law_321 rfl (lv_at hl 0 rfl) ?_
  refine lv_iload_n hx hb dL_law_322 rfl (lv_at hl 3 rfl) ?_
  refine lv_iconst (v := nI 3) hx hb dL_law_323 rfl ?_
  refine n_iadd hx hb dL_law_324 ?_
  refine va_sld hx hb hX hbl hbA hS (vp_in_nI (show i + 3 < L by omega) (by omega)) dL_law_325 ?_
  refine i_push (b := xs (i + 3)) (by rw [nI_clamp (by omega)]) ?_
  refine lv_aload_n hx hb dL_law_326 rfl (lv_at hl 0 rfl) ?_
  refine lv_iload_n hx hb dL_law_327 rfl (lv_at hl 3 rfl) ?_
  refine lv_iconst (v := nI 4) hx hb dL_law_328 rfl ?_
  refine n_iadd hx hb dL_law_329 ?_
  refine va_sld hx hb hX hbl hbA hS (vp_in_nI (show i + 4 < L by omega) (by omega)) dL_law_330 ?_
  refine i_push (b := xs (i + 4)) (by rw [nI_clamp (by omega)]) ?_
  refine k_callV (rest := []) (nL := 4) ⟨hx, hb, hml, hown, hts⟩ (c_X4_round l D cy (ad1 h) (ad1_I h) ρ x S (xs (i + 1)) (xs (i + 2)) (xs (i + 3)) (xs (i + 4)) hSI hR) (cwV 4 hts gL_law_X4_round rfl rfl rfl (by decide +kernel) ⟨Nat.le_of_ble_eq_true rfl, Nat.le_of_ble_eq_true rfl⟩) hK hP1 hS ad1_A (q0 := 136) (ci := 4) rfl (by decide) cW_top rfl rfl rfl hl.1 rfl (Nat.le_of_ble_eq_true rfl) dL_law_331 ⟨Nat.le_of_ble_eq_true rfl, Nat.le_of_ble_eq_true rfl⟩ (fun o u H1 locs hpost hP1 hS hfr => ?_)
  have hP2 := keepP hP2 hfr ad1_2
  obtain ⟨ρ, x⟩ := u
  obtain ⟨ho, hR⟩ := hpost
  subst ho
  refine lv_aload_n hx hb dL_law_334 rfl (lv_at hl 2 rfl) ?_
  refine lv_aload_n hx hb dL_law_335 rfl (lv_at hl 0 rfl) ?_
  refine lv_iload_n hx hb dL_law_336 rfl (lv_at hl 3 rfl) ?_
  refine lv_iconst (v := nI 1) hx hb dL_law_337 rfl ?_
  refine n_iadd hx hb dL_law_338 ?_
  refine va_sld hx hb hX hbl hbA hS (vp_in_nI (show i + 1 < L by omega) (by omega)) dL_law_339 ?_
  refine i_push (b := xs (i + 1)) (by rw [nI_clamp (by omega)]) ?_
  refine lv_aload_n hx hb dL_law_340 rfl (lv_at hl 0 rfl) ?_
  refine lv_iload_n hx hb dL_law_341 rfl (lv_at hl 3 rfl) ?_
  refine lv_iconst (v := nI 2) hx hb dL_law_342 rfl ?_
  refine n_iadd hx hb dL_law_343 ?_
  refine va_sld hx hb hX hbl hbA hS (vp_in_nI (show i + 2 < L by omega) (by omega)) dL_law_344 ?_
  refine i_push (b := xs (i + 2)) (by rw [nI_clamp (by omega)]) ?_
  refine lv_aload_n hx hb dL_law_345 rfl (lv_at hl 0 rfl) ?_
  refine lv_iload_n hx hb dL_law_346 rfl (lv_at hl 3 rfl) ?_
  refine lv_iconst (v := nI 3) hx hb dL_law_347 rfl ?_
  refine n_iadd hx hb dL_law_348 ?_
  refine va_sld hx hb hX hbl hbA hS (vp_in_nI (show i + 3 < L by omega) (by omega)) dL_law_349 ?_
  refine i_push (b := xs (i + 3)) (by rw [nI_clamp (by omega)]) ?_
  refine lv_aload_n hx hb dL_law_350 rfl (lv_at hl 0 rfl) ?_
  refine lv_iload_n hx hb dL_law_351 rfl (lv_at hl 3 rfl) ?_
  refine lv_iconst (v := nI 4) hx hb dL_law_352 rfl ?_
  refine n_iadd hx hb dL_law_353 ?_
  refine va_sld hx hb hX hbl hbA hS (vp_in_nI (show i + 4 < L by omega) (by omega)) dL_law_354 ?_
  refine i_push (b := xs (i + 4)) (by rw [nI_clamp (by omega)]) ?_
  refine k_callV (rest := [.int (op_round S (xs (i + 1)) (xs (i + 2)) (xs (i + 3)) (xs (i + 4))).1]) (nL := 4) ⟨hx, hb, hml, hown, hts⟩ (c_X5_round l D cy (aA (h + 143)) (aA_I 9 (h + 143)) v S (xs (i + 1)) (xs (i + 2)) (xs (i + 3)) (xs (i + 4)) hSI hM) (cwV 4 hts gL_law_X5_round rfl rfl rfl (by decide +kernel) ⟨Nat.le_of_ble_eq_true rfl, Nat.le_of_ble_eq_true rfl⟩) hK hP2 hS aA_A (q0 := 0) (ci := 5) rfl (by decide) mW_obj rfl rfl rfl hl.1 rfl (Nat.le_of_ble_eq_true rfl) dL_law_355 ⟨Nat.le_of_ble_eq_true rfl, Nat.le_of_ble_eq_true rfl⟩ (fun o u H2 locs hpost hP2 hS hfr => ?_)
  have hP1 := keepP hP1 hfr ad2_1
  obtain ⟨ho, hM⟩ := hpost
  subst ho
  exact lv_icmp_eq (tgt := 1034) hx hb dL_law_358 (by decide) (fun _ => next _ _ _ _ _ _ _ ⟨inv_round hSI _ _ _ _, hR, hM, hP1, hP2⟩ hS hl) (fun q => absurd rfl q)
set_option maxHeartbeats 4000000 in
set_option maxRecDepth 100000 in
theorem law_power {p : Program} {l : Launch} {e : Env} {s : State} {m : MethodId} {below : List Frame} {meth : Method} {c : Code} {b L : Nat} {xs : Nat → Int32} {D : va_G} {cy : Nat → ClassId} {h i : Nat} (C1 : lwC p s m meth c b L xs D cy h) (hi : i + 5 ≤ L) (next : lwN p l e s m below meth c b D cy h i) {S : kSt} {ρ : Nat → kR} {x : kX} {v : kV} {H : Heap} {locs : List Loc} (hJ : lwI D cy h S ρ x v H) (hS : va_S (aF h) s.heap H locs) {ls : Array Slot} (hl : lv_has ls 4 (lwL b h i)) : lwW p l e s m below meth c b H locs 363 ls [] := by
  obtain ⟨⟨hx, hb, hr, hml, hown, hts0, hX, hbl, hlocks, hgv⟩, hL, hK, hh⟩ := C1
  obtain ⟨hSI, hR, hM, hP1, hP2⟩ := hJ
  have hts : ∀ w ∈ wsL_law, w.before #[Value.ref b] s = true := fun w hw => hts0 w (wsL_law_in w hw)
  have hown : s.vm.findClass RL = some m.cls := hown
  have hbA : ¬ aF h b := by unfold aF; omega
  refine lv_aload_n hx hb dL_law_363 rfl (lv_at hl 1 rfl) ?_
  refine lv_aload_n hx hb dL_law_364 rfl (lv_at hl 0 rfl) ?_
  refine lv_iload_n hx hb dL_law_365 rfl (lv_at hl 3 rfl) ?_
  refine lv_iconst (v := nI 1) hx hb dL_law_366 rfl ?_
  refine n_iadd hx hb dL_law_367 ?_
  refine va_sld hx hb hX hbl hbA hS (vp_in_nI (show i + 1 < L by omega) (by omega)) dL_law_368 ?_
  refine i_push (b := xs (i + 1)) (by rw [nI_clamp (by omega)]) ?_
  refine lv_aload_n hx hb dL_law_369 rfl (lv_at hl 0 rfl) ?_
  refine lv_iload_n hx hb dL_law_370 rfl (lv_at hl 3 rfl) ?_
  refine lv_iconst (v := nI 2) hx hb dL_law_371 rfl ?_
  refine n_iadd hx hb dL_law_372 ?_
  refine va_sld hx hb hX hbl hbA hS (vp_in_nI (show i + 2 < L by omega) (by omega)) dL_law_373 ?_
  refine i_push (b := xs (i + 2)) (by rw [nI_clamp (by omega)]) ?_
  refine lv_aload_n hx hb dL_law_374 rfl (lv_at hl 0 rfl) ?_
  refine lv_iload_n hx hb dL_law_375 rfl (lv_at hl 3 rfl) ?_
  refine lv_iconst (v := nI 3) hx hb dL_law_376 rfl ?_
  refine n_iadd hx hb dL_law_377 ?_
  refine va_sld hx hb hX hbl hbA hS (vp_in_nI (show i + 3 < L by omega) (by omega)) dL_law_378 ?_
  refine i_push (b := xs (i + 3)) (by rw [nI_clamp (by omega)]) ?_
  refine k_callV (rest := []) (nL := 4) ⟨hx, hb, hml, hown, hts⟩ (c_X4_power l D cy (ad1 h) (ad1_I h) ρ x S (xs (i + 1)) (xs (i + 2)) (xs (i + 3)) hSI hR) (cwV 3 hts gL_law_X4_power rfl rfl rfl (by decide +kernel) ⟨Nat.le_of_ble_eq_true rfl, Nat.le_of_ble_eq_true rfl⟩) hK hP1 hS ad1_A (q0 := 136) (ci := 4) rfl (by decide) cW_top rfl rfl rfl hl.1 rfl (Nat.le_of_ble_eq_true rfl) dL_law_379 ⟨Nat.le_of_ble_eq_true rfl, Nat.le_of_ble_eq_true rfl⟩ (fun o u H1 locs hpost hP1 hS hfr => ?_)
  have hP2 := keepP hP2 hfr ad1_2
  obtain ⟨ρ, x⟩ := u
  obtain ⟨ho, hR⟩ := hpost
  subst ho
  refine lv_aload_n hx hb dL_law_382 rfl (lv_at hl 2 rfl) ?_
  refine lv_aload_n hx hb dL_law_383 rfl (lv_at hl 0 rfl) ?_
  refine lv_iload_n hx hb dL_law_384 rfl (lv_at hl 3 rfl) ?_
  refine lv_iconst (v := nI 1) hx hb dL_law_385 rfl ?_
  refine n_iadd hx hb dL_law_386 ?_
  refine va_sld hx hb hX hbl hbA hS (vp_in_nI (show i + 1 < L by omega) (by omega)) dL_law_387 ?_
  refine i_push (b := xs (i + 1)) (by rw [nI_clamp (by omega)]) ?_
  refine lv_aload_n hx hb dL_law_388 rfl (lv_at hl 0 rfl) ?_
  refine lv_iload_n hx hb dL_law_389 rfl (lv_at hl 3 rfl) ?_
  refine lv_iconst (v := nI 2) hx hb dL_law_390 rfl ?_
  refine n_iadd hx hb dL_law_391 ?_
  refine va_sld hx hb hX hbl hbA hS (vp_in_nI (show i + 2 < L by omega) (by omega)) dL_law_392 ?_
  refine i_push (b := xs (i + 2)) (by rw [nI_clamp (by omega)]) ?_
  refine lv_aload_n hx hb dL_law_393 rfl (lv_at hl 0 rfl) ?_
  refine lv_iload_n hx hb dL_law_394 rfl (lv_at hl 3 rfl) ?_
  refine lv_iconst (v := nI 3) hx hb dL_law_395 rfl ?_
  refine n_iadd hx hb dL_law_396 ?_
  refine va_sld hx hb hX hbl hbA hS (vp_in_nI (show i + 3 < L by omega) (by omega)) dL_law_397 ?_
  refine i_push (b := xs (i + 3)) (by rw [nI_clamp (by omega)]) ?_
  refine k_callV (rest := [.int (op_power S (xs (i + 1)) (xs (i + 2)) (xs (i + 3))).1]) (nL := 4) ⟨hx, hb, hml, hown, hts⟩ (c_X5_power l D cy (aA (h + 143)) (aA_I 9 (h + 143)) v S (xs (i + 1)) (xs (i + 2)) (xs (i + 3)) hSI hM) (cwV 3 hts gL_law_X5_power rfl rfl rfl (by decide +kernel) ⟨Nat.le_of_ble_eq_true rfl, Nat.le_of_ble_eq_true rfl⟩) hK hP2 hS aA_A (q0 := 0) (ci := 5) rfl (by decide) mW_obj rfl rfl rfl hl.1 rfl (Nat.le_of_ble_eq_true rfl) dL_law_398 ⟨Nat.le_of_ble_eq_true rfl, Nat.le_of_ble_eq_true rfl⟩ (fun o u H2 locs hpost hP2 hS hfr => ?_)
  have hP1 := keepP hP1 hfr ad2_1
  obtain ⟨ho, hM⟩ := hpost
  subst ho
  exact lv_icmp_eq (tgt := 1034) hx hb dL_law_401 (by decide) (fun _ => next _ _ _ _ _ _ _ ⟨inv_power hSI _ _ _, hR, hM, hP1, hP2⟩ hS hl) (fun q => absurd rfl q)
