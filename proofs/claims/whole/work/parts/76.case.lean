set_option maxHeartbeats 4000000 in
set_option maxRecDepth 100000 in
theorem law_found {p : Program} {l : Launch} {e : Env} {s : State} {m : MethodId} {below : List Frame} {meth : Method} {c : Code} {b L : Nat} {xs : Nat → Int32} {D : va_G} {cy : Nat → ClassId} {h i : Nat} (C1 : lwC p s m meth c b L xs D cy h) (hi : i + 5 ≤ L) (next : lwN p l e s m below meth c b D cy h i) {S : kSt} {ρ : Nat → kR} {x : kX} {v : kV} {H : Heap} {locs : List Loc} (hJ : lwI D cy h S ρ x v H) (hS : va_S (aF h) s.heap H locs) {ls : Array Slot} (hl : lv_has ls 4 (lwL b h i)) : lwW p l e s m below meth c b H locs 853 ls [] := by
  obtain ⟨⟨hx, hb, hr, hml, hown, hts0, hX, hbl, hlocks, hgv⟩, hL, hK, hh⟩ := C1
  obtain ⟨hSI, hR, hM, hP1, hP2⟩ := hJ
  have hts : ∀ w ∈ wsL_law, w.before #[Value.ref b] s = true := fun w hw => hts0 w (wsL_law_in w hw)
  have hown : s.vm.findClass RL = some m.cls := hown
  have hbA : ¬ aF h b := by unfold aF; omega
  refine lv_aload_n hx hb dL_law_853 rfl (lv_at hl 1 rfl) ?_
  refine lv_aload_n hx hb dL_law_854 rfl (lv_at hl 0 rfl) ?_
  refine lv_iload_n hx hb dL_law_855 rfl (lv_at hl 3 rfl) ?_
  refine lv_iconst (v := nI 1) hx hb dL_law_856 rfl ?_
  refine n_iadd hx hb dL_law_857 ?_
  refine va_sld hx hb hX hbl hbA hS (vp_in_nI (show i + 1 < L by omega) (by omega)) dL_law_858 ?_
  refine i_push (b := xs (i + 1)) (by rw [nI_clamp (by omega)]) ?_
  refine lv_aload_n hx hb dL_law_859 rfl (lv_at hl 0 rfl) ?_
  refine lv_iload_n hx hb dL_law_860 rfl (lv_at hl 3 rfl) ?_
  refine lv_iconst (v := nI 2) hx hb dL_law_861 rfl ?_
  refine n_iadd hx hb dL_law_862 ?_
  refine va_sld hx hb hX hbl hbA hS (vp_in_nI (show i + 2 < L by omega) (by omega)) dL_law_863 ?_
  refine i_push (b := xs (i + 2)) (by rw [nI_clamp (by omega)]) ?_
  refine lv_aload_n hx hb dL_law_864 rfl (lv_at hl 0 rfl) ?_
  refine lv_iload_n hx hb dL_law_865 rfl (lv_at hl 3 rfl) ?_
  refine lv_iconst (v := nI 3) hx hb dL_law_866 rfl ?_
  refine n_iadd hx hb dL_law_867 ?_
  refine va_sld hx hb hX hbl hbA hS (vp_in_nI (show i + 3 < L by omega) (by omega)) dL_law_868 ?_
  refine i_push (b := xs (i + 3)) (by rw [nI_clamp (by omega)]) ?_
  refine k_callV (rest := []) (nL := 4) ⟨hx, hb, hml, hown, hts⟩ (c_X4_found l D cy (ad1 h) (ad1_I h) ρ x S (xs (i + 1)) (xs (i + 2)) (xs (i + 3)) hSI hR) (cwV 3 hts gL_law_X4_found rfl rfl rfl (by decide +kernel) ⟨Nat.le_of_ble_eq_true rfl, Nat.le_of_ble_eq_true rfl⟩) hK hP1 hS ad1_A (q0 := 136) (ci := 4) rfl (by decide) cW_top rfl rfl rfl hl.1 rfl (Nat.le_of_ble_eq_true rfl) dL_law_869 ⟨Nat.le_of_ble_eq_true rfl, Nat.le_of_ble_eq_true rfl⟩ (fun o u H1 locs hpost hP1 hS hfr => ?_)
  have hP2 := keepP hP2 hfr ad1_2
  obtain ⟨ρ, x⟩ := u
  obtain ⟨ho, hR⟩ := hpost
  subst ho
  refine lv_aload_n hx hb dL_law_872 rfl (lv_at hl 2 rfl) ?_
  refine lv_aload_n hx hb dL_law_873 rfl (lv_at hl 0 rfl) ?_
  refine lv_iload_n hx hb dL_law_874 rfl (lv_at hl 3 rfl) ?_
  refine lv_iconst (v := nI 1) hx hb dL_law_875 rfl ?_
  refine n_iadd hx hb dL_law_876 ?_
  refine va_sld hx hb hX hbl hbA hS (vp_in_nI (show i + 1 < L by omega) (by omega)) dL_law_877 ?_
  refine i_push (b := xs (i + 1)) (by rw [nI_clamp (by omega)]) ?_
  refine lv_aload_n hx hb dL_law_878 rfl (lv_at hl 0 rfl) ?_
  refine lv_iload_n hx hb dL_law_879 rfl (lv_at hl 3 rfl) ?_
  refine lv_iconst (v := nI 2) hx hb dL_law_880 rfl ?_
  refine n_iadd hx hb dL_law_881 ?_
  refine va_sld hx hb hX hbl hbA hS (vp_in_nI (show i + 2 < L by omega) (by omega)) dL_law_882 ?_
  refine i_push (b := xs (i + 2)) (by rw [nI_clamp (by omega)]) ?_
  refine lv_aload_n hx hb dL_law_883 rfl (lv_at hl 0 rfl) ?_
  refine lv_iload_n hx hb dL_law_884 rfl (lv_at hl 3 rfl) ?_
  refine lv_iconst (v := nI 3) hx hb dL_law_885 rfl ?_
  refine n_iadd hx hb dL_law_886 ?_
  refine va_sld hx hb hX hbl hbA hS (vp_in_nI (show i + 3 < L by omega) (by omega)) dL_law_887 ?_
  refine i_push (b := xs (i + 3)) (by rw [nI_clamp (by omega)]) ?_
  refine k_callV (rest := [.int (op_found S (xs (i + 1)) (xs (i + 2)) (xs (i + 3))).1]) (nL := 4) ⟨hx, hb, hml, hown, hts⟩ (c_X5_found l D cy (aA (h + 143)) (aA_I 9 (h + 143)) v S (xs (i + 1)) (xs (i + 2)) (xs (i + 3)) hSI hM) (cwV 3 hts gL_law_X5_found rfl rfl rfl (by decide +kernel) ⟨Nat.le_of_ble_eq_true rfl, Nat.le_of_ble_eq_true rfl⟩) hK hP2 hS aA_A (q0 := 0) (ci := 5) rfl (by decide) mW_obj rfl rfl rfl hl.1 rfl (Nat.le_of_ble_eq_true rfl) dL_law_888 ⟨Nat.le_of_ble_eq_true rfl, Nat.le_of_ble_eq_true rfl⟩ (fun o u H2 locs hpost hP2 hS hfr => ?_)
  have hP1 := keepP hP1 hfr ad2_1
  obtain ⟨ho, hM⟩ := hpost
  subst ho
  exact lv_icmp_eq (tgt := 1034) hx hb dL_law_891 (by decide) (fun _ => next _ _ _ _ _ _ _ ⟨inv_found hSI _ _ _, hR, hM, hP1, hP2⟩ hS hl) (fun q => absurd rfl q)
set_option maxHeartbeats 4000000 in
set_option maxRecDepth 100000 in
theorem law_put {p : Program} {l : Launch} {e : Env} {s : State} {m : MethodId} {below : List Frame} {meth : Method} {c : Code} {b L : Nat} {xs : Nat → Int32} {D : va_G} {cy : Nat → ClassId} {h i : Nat} (C1 : lwC p s m meth c b L xs D cy h) (hi : i + 5 ≤ L) (next : lwN p l e s m below meth c b D cy h i) {S : kSt} {ρ : Nat → kR} {x : kX} {v : kV} {H : Heap} {locs : List Loc} (hJ : lwI D cy h S ρ x v H) (hS : va_S (aF h) s.heap H locs) {ls : Array Slot} (hl : lv_has ls 4 (lwL b h i)) : lwW p l e s m below meth c b H locs 896 ls [] := by
  obtain ⟨⟨hx, hb, hr, hml, hown, hts0, hX, hbl, hlocks, hgv⟩, hL, hK, hh⟩ := C1
  obtain ⟨hSI, hR, hM, hP1, hP2⟩ := hJ
  have hts : ∀ w ∈ wsL_law, w.before #[Value.ref b] s = true := fun w hw => hts0 w (wsL_law_in w hw)
  have hown : s.vm.findClass RL = some m.cls := hown
  have hbA : ¬ aF h b := by unfold aF; omega
  obtain ⟨u1, hu1, eu⟩ := wb_of ((xs (i + 1)).toInt64 <<< ((nI 32).toInt64 &&& 63) ||| (xs (i + 2)).toInt64 &&& 4294967295)
  refine lv_aload_n hx hb dL_law_896 rfl (lv_at hl 1 rfl) ?_
  refine lv_aload_n hx hb dL_law_897 rfl (lv_at hl 0 rfl) ?_
  refine lv_iload_n hx hb dL_law_898 rfl (lv_at hl 3 rfl) ?_
  refine lv_iconst (v := nI 1) hx hb dL_law_899 rfl ?_
  refine n_iadd hx hb dL_law_900 ?_
  refine va_sld hx hb hX hbl hbA hS (vp_in_nI (show i + 1 < L by omega) (by omega)) dL_law_901 ?_
  refine i_push (b := xs (i + 1)) (by rw [nI_clamp (by omega)]) ?_
  refine lv_i2l (v := (xs (i + 1)).toInt64) hx hb dL_law_902 rfl ?_
  refine lv_bipush (v := nI 32) hx hb dL_law_903 rfl ?_
  refine lv_lshl hx hb dL_law_905 rfl ?_
  refine lv_aload_n hx hb dL_law_906 rfl (lv_at hl 0 rfl) ?_
  refine lv_iload_n hx hb dL_law_907 rfl (lv_at hl 3 rfl) ?_
  refine lv_iconst (v := nI 2) hx hb dL_law_908 rfl ?_
  refine n_iadd hx hb dL_law_909 ?_
  refine va_sld hx hb hX hbl hbA hS (vp_in_nI (show i + 2 < L by omega) (by omega)) dL_law_910 ?_
  refine i_push (b := xs (i + 2)) (by rw [nI_clamp (by omega)]) ?_
  refine lv_i2l (v := (xs (i + 2)).toInt64) hx hb dL_law_911 rfl ?_
  refine lv_ldc2 hx hb hown (hts (.constantLong RL 94 (4294967295)) (by decide +kernel)) dL_law_912 ?_
  refine lv_land hx hb dL_law_915 ?_
  refine lv_lor hx hb dL_law_916 ?_
  refine l_push (b := lN u1) eu ?_
  refine k_callV (rest := []) (nL := 4) ⟨hx, hb, hml, hown, hts⟩ (c_X4_put l D cy (ad1 h) (ad1_I h) ρ x S u1 hSI hR hu1) (cwV 1 hts gL_law_X4_put rfl rfl rfl (by decide +kernel) ⟨Nat.le_of_ble_eq_true rfl, Nat.le_of_ble_eq_true rfl⟩) hK hP1 hS ad1_A (q0 := 136) (ci := 4) rfl (by decide) cW_top rfl rfl rfl hl.1 rfl (Nat.le_of_ble_eq_true rfl) dL_law_917 ⟨Nat.le_of_ble_eq_true rfl, Nat.le_of_ble_eq_true rfl⟩ (fun o u H1 locs hpost hP1 hS hfr => ?_)
  have hP2 := keepP hP2 hfr ad1_2
  obtain ⟨ρ, x⟩ := u
  obtain ⟨ho, hR⟩ := hpost
  subst ho
  refine lv_aload_n hx hb dL_law_920 rfl (lv_at hl 2 rfl) ?_
  refine lv_aload_n hx hb dL_law_921 rfl (lv_at hl 0 rfl) ?_
  refine lv_iload_n hx hb dL_law_922 rfl (lv_at hl 3 rfl) ?_
  refine lv_iconst (v := nI 1) hx hb dL_law_923 rfl ?_
  refine n_iadd hx hb dL_law_924 ?_
  refine va_sld hx hb hX hbl hbA hS (vp_in_nI (show i + 1 < L by omega) (by omega)) dL_law_925 ?_
  refine i_push (b := xs (i + 1)) (by rw [nI_clamp (by omega)]) ?_
  refine lv_i2l (v := (xs (i + 1)).toInt64) hx hb dL_law_926 rfl ?_
  refine lv_bipush (v := nI 32) hx hb dL_law_927 rfl ?_
  refine lv_lshl hx hb dL_law_929 rfl ?_
  refine lv_aload_n hx hb dL_law_930 rfl (lv_at hl 0 rfl) ?_
  refine lv_iload_n hx hb dL_law_931 rfl (lv_at hl 3 rfl) ?_
  refine lv_iconst (v := nI 2) hx hb dL_law_932 rfl ?_
  refine n_iadd hx hb dL_law_933 ?_
  refine va_sld hx hb hX hbl hbA hS (vp_in_nI (show i + 2 < L by omega) (by omega)) dL_law_934 ?_
  refine i_push (b := xs (i + 2)) (by rw [nI_clamp (by omega)]) ?_
  refine lv_i2l (v := (xs (i + 2)).toInt64) hx hb dL_law_935 rfl ?_
  refine lv_ldc2 hx hb hown (hts (.constantLong RL 94 (4294967295)) (by decide +kernel)) dL_law_936 ?_
  refine lv_land hx hb dL_law_939 ?_
  refine lv_lor hx hb dL_law_940 ?_
  refine l_push (b := lN u1) eu ?_
  refine k_callV (rest := [.int (op_put S u1).1]) (nL := 4) ⟨hx, hb, hml, hown, hts⟩ (c_X5_put l D cy (aA (h + 143)) (aA_I 9 (h + 143)) v S u1 hSI hM hu1) (cwV 1 hts gL_law_X5_put rfl rfl rfl (by decide +kernel) ⟨Nat.le_of_ble_eq_true rfl, Nat.le_of_ble_eq_true rfl⟩) hK hP2 hS aA_A (q0 := 0) (ci := 5) rfl (by decide) mW_obj rfl rfl rfl hl.1 rfl (Nat.le_of_ble_eq_true rfl) dL_law_941 ⟨Nat.le_of_ble_eq_true rfl, Nat.le_of_ble_eq_true rfl⟩ (fun o u H2 locs hpost hP2 hS hfr => ?_)
  have hP1 := keepP hP1 hfr ad2_1
  obtain ⟨ho, hM⟩ := hpost
  subst ho
  exact lv_icmp_eq (tgt := 1034) hx hb dL_law_944 (by decide) (fun _ => next _ _ _ _ _ _ _ ⟨inv_put hSI _, hR, hM, hP1, hP2⟩ hS hl) (fun q => absurd rfl q)
set_option maxHeartbeats 4000000 in
set_option maxRecDepth 100000 in
theorem law_wipe {p : Program} {l : Launch} {e : Env} {s : State} {m : MethodId} {below : List Frame} {meth : Method} {c : Code} {b L : Nat} {xs : Nat → Int32} {D : va_G} {cy : Nat → ClassId} {h i : Nat} (C1 : lwC p s m meth c b L xs D cy h) (hi : i + 5 ≤ L) (next : lwN p l e s m below meth c b D cy h i) {S : kSt} {ρ : Nat → kR} {x : kX} {v : kV} {H : Heap} {locs : List Loc} (hJ : lwI D cy h S ρ x v H) (hS : va_S (aF h) s.heap H locs) {ls : Array Slot} (hl : lv_has ls 4 (lwL b h i)) : lwW p l e s m below meth c b H locs 949 ls [] := by
  obtain ⟨⟨hx, hb, hr, hml, hown, hts0, hX, hbl, hlocks, hgv⟩, hL, hK, hh⟩ := C1
  obtain ⟨hSI, hR, hM, hP1, hP2⟩ := hJ
  have hts : ∀ w ∈ wsL_law, w.before #[Value.ref b] s = true := fun w hw => hts0 w (wsL_law_in w hw)
  have hown : s.vm.findClass RL = some m.cls := hown
  have hbA : ¬ aF h b := by unfold aF; omega
  refine lv_aload_n hx hb dL_law_949 rfl (lv_at hl 1 rfl) ?_
  refine k_callV (rest := []) (nL := 4) ⟨hx, hb, hml, hown, hts⟩ (c_X4_wipe l D cy (ad1 h) (ad1_I h) ρ x S  hSI hR) (cwV 0 hts gL_law_X4_wipe rfl rfl rfl (by decide +kernel) ⟨Nat.le_of_ble_eq_true rfl, Nat.le_of_ble_eq_true rfl⟩) hK hP1 hS ad1_A (q0 := 136) (ci := 4) rfl (by decide) cW_top rfl rfl rfl hl.1 rfl (Nat.le_of_ble_eq_true rfl) dL_law_950 ⟨Nat.le_of_ble_eq_true rfl, Nat.le_of_ble_eq_true rfl⟩ (fun o u H1 locs hpost hP1 hS hfr => ?_)
  have hP2 := keepP hP2 hfr ad1_2
  obtain ⟨ρ, x⟩ := u
  obtain ⟨ho, hR⟩ := hpost
  subst ho
  refine lv_aload_n hx hb dL_law_953 rfl (lv_at hl 2 rfl) ?_
  refine k_callV (rest := [.int (op_wipe S).1]) (nL := 4) ⟨hx, hb, hml, hown, hts⟩ (c_X5_wipe l D cy (aA (h + 143)) (aA_I 9 (h + 143)) v S  hSI hM) (cwV 0 hts gL_law_X5_wipe rfl rfl rfl (by decide +kernel) ⟨Nat.le_of_ble_eq_true rfl, Nat.le_of_ble_eq_true rfl⟩) hK hP2 hS aA_A (q0 := 0) (ci := 5) rfl (by decide) mW_obj rfl rfl rfl hl.1 rfl (Nat.le_of_ble_eq_true rfl) dL_law_954 ⟨Nat.le_of_ble_eq_true rfl, Nat.le_of_ble_eq_true rfl⟩ (fun o u H2 locs hpost hP2 hS hfr => ?_)
  have hP1 := keepP hP1 hfr ad2_1
  obtain ⟨ho, hM⟩ := hpost
  subst ho
  exact lv_icmp_eq (tgt := 1034) hx hb dL_law_957 (by decide) (fun _ => next _ _ _ _ _ _ _ ⟨inv_wipe hSI, hR, hM, hP1, hP2⟩ hS hl) (fun q => absurd rfl q)
set_option maxHeartbeats 4000000 in
set_option maxRecDepth 100000 in
theorem law_fault {p : Program} {l : Launch} {e : Env} {s : State} {m : MethodId} {below : List Frame} {meth : Method} {c : Code} {b L : Nat} {xs : Nat → Int32} {D : va_G} {cy : Nat → ClassId} {h i : Nat} (C1 : lwC p s m meth c b L xs D cy h) (hi : i + 5 ≤ L) (next : lwN p l e s m below meth c b D cy h i) {S : kSt} {ρ : Nat → kR} {x : kX} {v : kV} {H : Heap} {locs : List Loc} (hJ : lwI D cy h S ρ x v H) (hS : va_S (aF h) s.heap H locs) {ls : Array Slot} (hl : lv_has ls 4 (lwL b h i)) : lwW p l e s m below meth c b H locs 962 ls [] := by
  obtain ⟨⟨hx, hb, hr, hml, hown, hts0, hX, hbl, hlocks, hgv⟩, hL, hK, hh⟩ := C1
  obtain ⟨hSI, hR, hM, hP1, hP2⟩ := hJ
  have hts : ∀ w ∈ wsL_law, w.before #[Value.ref b] s = true := fun w hw => hts0 w (wsL_law_in w hw)
  have hown : s.vm.findClass RL = some m.cls := hown
  have hbA : ¬ aF h b := by unfold aF; omega
  refine lv_aload_n hx hb dL_law_962 rfl (lv_at hl 1 rfl) ?_
  refine k_callV (rest := []) (nL := 4) ⟨hx, hb, hml, hown, hts⟩ (c_X4_fault l D cy (ad1 h) (ad1_I h) ρ x S  hSI hR) (cwV 0 hts gL_law_X4_fault rfl rfl rfl (by decide +kernel) ⟨Nat.le_of_ble_eq_true rfl, Nat.le_of_ble_eq_true rfl⟩) hK hP1 hS ad1_A (q0 := 136) (ci := 4) rfl (by decide) cW_top rfl rfl rfl hl.1 rfl (Nat.le_of_ble_eq_true rfl) dL_law_963 ⟨Nat.le_of_ble_eq_true rfl, Nat.le_of_ble_eq_true rfl⟩ (fun o u H1 locs hpost hP1 hS hfr => ?_)
  have hP2 := keepP hP2 hfr ad1_2
  obtain ⟨ρ, x⟩ := u
  obtain ⟨ho, hR⟩ := hpost
  subst ho
  refine lv_aload_n hx hb dL_law_966 rfl (lv_at hl 2 rfl) ?_
  refine k_callV (rest := [.int (op_fault S).1]) (nL := 4) ⟨hx, hb, hml, hown, hts⟩ (c_X5_fault l D cy (aA (h + 143)) (aA_I 9 (h + 143)) v S  hSI hM) (cwV 0 hts gL_law_X5_fault rfl rfl rfl (by decide +kernel) ⟨Nat.le_of_ble_eq_true rfl, Nat.le_of_ble_eq_true rfl⟩) hK hP2 hS aA_A (q0 := 0) (ci := 5) rfl (by decide) mW_obj rfl rfl rfl hl.1 rfl (Nat.le_of_ble_eq_true rfl) dL_law_967 ⟨Nat.le_of_ble_eq_true rfl, Nat.le_of_ble_eq_true rfl⟩ (fun o u H2 locs hpost hP2 hS hfr => ?_)
  have hP1 := keepP hP1 hfr ad2_1
  obtain ⟨ho, hM⟩ := hpost
  subst ho
  exact lv_icmp_eq (tgt := 1034) hx hb dL_law_970 (by decide) (fun _ => next _ _ _ _ _ _ _ ⟨inv_fault hSI, hR, hM, hP1, hP2⟩ hS hl) (fun q => absurd rfl q)
set_option maxHeartbeats 4000000 in
set_option maxRecDepth 100000 in
theorem law_undo {p : Program} {l : Launch} {e : Env} {s : State} {m : MethodId} {below : List Frame} {meth : Method} {c : Code} {b L : Nat} {xs : Nat → Int32} {D : va_G} {cy : Nat → ClassId} {h i : Nat} (C1 : lwC p s m meth c b L xs D cy h) (hi : i + 5 ≤ L) (next : lwN p l e s m below meth c b D cy h i) {S : kSt} {ρ : Nat → kR} {x : kX} {v : kV} {H : Heap} {locs : List Loc} (hJ : lwI D cy h S ρ x v H) (hS : va_S (aF h) s.heap H locs) {ls : Array Slot} (hl : lv_has ls 4 (lwL b h i)) : lwW p l e s m below meth c b H locs 975 ls [] := by
  obtain ⟨⟨hx, hb, hr, hml, hown, hts0, hX, hbl, hlocks, hgv⟩, hL, hK, hh⟩ := C1
  obtain ⟨hSI, hR, hM, hP1, hP2⟩ := hJ
  have hts : ∀ w ∈ wsL_law, w.before #[Value.ref b] s = true := fun w hw => hts0 w (wsL_law_in w hw)
  have hown : s.vm.findClass RL = some m.cls := hown
  have hbA : ¬ aF h b := by unfold aF; omega
  refine lv_aload_n hx hb dL_law_975 rfl (lv_at hl 1 rfl) ?_
  refine k_callV (rest := []) (nL := 4) ⟨hx, hb, hml, hown, hts⟩ (c_X4_undo l D cy (ad1 h) (ad1_I h) ρ x S  hSI hR) (cwV 0 hts gL_law_X4_undo rfl rfl rfl (by decide +kernel) ⟨Nat.le_of_ble_eq_true rfl, Nat.le_of_ble_eq_true rfl⟩) hK hP1 hS ad1_A (q0 := 136) (ci := 4) rfl (by decide) cW_top rfl rfl rfl hl.1 rfl (Nat.le_of_ble_eq_true rfl) dL_law_976 ⟨Nat.le_of_ble_eq_true rfl, Nat.le_of_ble_eq_true rfl⟩ (fun o u H1 locs hpost hP1 hS hfr => ?_)
  have hP2 := keepP hP2 hfr ad1_2
  obtain ⟨ρ, x⟩ := u
  obtain ⟨ho, hR⟩ := hpost
  subst ho
  refine lv_aload_n hx hb dL_law_979 rfl (lv_at hl 2 rfl) ?_
  refine k_callV (rest := [.int (op_undo S).1]) (nL := 4) ⟨hx, hb, hml, hown, hts⟩ (c_X5_undo l D cy (aA (h + 143)) (aA_I 9 (h + 143)) v S  hSI hM) (cwV 0 hts gL_law_X5_undo rfl rfl rfl (by decide +kernel) ⟨Nat.le_of_ble_eq_true rfl, Nat.le_of_ble_eq_true rfl⟩) hK hP2 hS aA_A (q0 := 0) (ci := 5) rfl (by decide) mW_obj rfl rfl rfl hl.1 rfl (Nat.le_of_ble_eq_true rfl) dL_law_980 ⟨Nat.le_of_ble_eq_true rfl, Nat.le_of_ble_eq_true rfl⟩ (fun o u H2 locs hpost hP2 hS hfr => ?_)
  have hP1 := keepP hP1 hfr ad2_1
  obtain ⟨ho, hM⟩ := hpost
  subst ho
  exact lv_icmp_eq (tgt := 1034) hx hb dL_law_983 (by decide) (fun _ => next _ _ _ _ _ _ _ ⟨inv_undo hSI, hR, hM, hP1, hP2⟩ hS hl) (fun q => absurd rfl q)
set_option maxHeartbeats 4000000 in
set_option maxRecDepth 100000 in
theorem law_save {p : Program} {l : Launch} {e : Env} {s : State} {m : MethodId} {below : List Frame} {meth : Method} {c : Code} {b L : Nat} {xs : Nat → Int32} {D : va_G} {cy : Nat → ClassId} {h i : Nat} (C1 : lwC p s m meth c b L xs D cy h) (hi : i + 5 ≤ L) (next : lwN p l e s m below meth c b D cy h i) {S : kSt} {ρ : Nat → kR} {x : kX} {v : kV} {H : Heap} {locs : List Loc} (hJ : lwI D cy h S ρ x v H) (hS : va_S (aF h) s.heap H locs) {ls : Array Slot} (hl : lv_has ls 4 (lwL b h i)) : lwW p l e s m below meth c b H locs 988 ls [] := by
  obtain ⟨⟨hx, hb, hr, hml, hown, hts0, hX, hbl, hlocks, hgv⟩, hL, hK, hh⟩ := C1
  obtain ⟨hSI, hR, hM, hP1, hP2⟩ := hJ
  have hts : ∀ w ∈ wsL_law, w.before #[Value.ref b] s = true := fun w hw => hts0 w (wsL_law_in w hw)
  have hown : s.vm.findClass RL = some m.cls := hown
  have hbA : ¬ aF h b := by unfold aF; omega
  refine lv_aload_n hx hb dL_law_988 rfl (lv_at hl 1 rfl) ?_
  refine lv_aload_n hx hb dL_law_989 rfl (lv_at hl 0 rfl) ?_
  refine lv_iload_n hx hb dL_law_990 rfl (lv_at hl 3 rfl) ?_
  refine lv_iconst (v := nI 1) hx hb dL_law_991 rfl ?_
  refine n_iadd hx hb dL_law_992 ?_
  refine va_sld hx hb hX hbl hbA hS (vp_in_nI (show i + 1 < L by omega) (by omega)) dL_law_993 ?_
  refine i_push (b := xs (i + 1)) (by rw [nI_clamp (by omega)]) ?_
  refine k_callV (rest := []) (nL := 4) ⟨hx, hb, hml, hown, hts⟩ (c_X4_save l D cy (ad1 h) (ad1_I h) ρ x S (xs (i + 1)) hSI hR) (cwV 1 hts gL_law_X4_save rfl rfl rfl (by decide +kernel) ⟨Nat.le_of_ble_eq_true rfl, Nat.le_of_ble_eq_true rfl⟩) hK hP1 hS ad1_A (q0 := 136) (ci := 4) rfl (by decide) cW_top rfl rfl rfl hl.1 rfl (Nat.le_of_ble_eq_true rfl) dL_law_994 ⟨Nat.le_of_ble_eq_true rfl, Nat.le_of_ble_eq_true rfl⟩ (fun o u H1 locs hpost hP1 hS hfr => ?_)
  have hP2 := keepP hP2 hfr ad1_2
  obtain ⟨ρ, x⟩ := u
  obtain ⟨ho, hR⟩ := hpost
  subst ho
  refine lv_aload_n hx hb dL_law_997 rfl (lv_at hl 2 rfl) ?_
  refine lv_aload_n hx hb dL_law_998 rfl (lv_at hl 0 rfl) ?_
  refine lv_iload_n hx hb dL_law_999 rfl (lv_at hl 3 rfl) ?_
  refine lv_iconst (v := nI 1) hx hb dL_law_1000 rfl ?_
  refine n_iadd hx hb dL_law_1001 ?_
  refine va_sld hx hb hX hbl hbA hS (vp_in_nI (show i + 1 < L by omega) (by omega)) dL_law_1002 ?_
  refine i_push (b := xs (i + 1)) (by rw [nI_clamp (by omega)]) ?_
  refine k_callV (rest := [.int (op_save S (xs (i + 1))).1]) (nL := 4) ⟨hx, hb, hml, hown, hts⟩ (c_X5_save l D cy (aA (h + 143)) (aA_I 9 (h + 143)) v S (xs (i + 1)) hSI hM) (cwV 1 hts gL_law_X5_save rfl rfl rfl (by decide +kernel) ⟨Nat.le_of_ble_eq_true rfl, Nat.le_of_ble_eq_true rfl⟩) hK hP2 hS aA_A (q0 := 0) (ci := 5) rfl (by decide) mW_obj rfl rfl rfl hl.1 rfl (Nat.le_of_ble_eq_true rfl) dL_law_1003 ⟨Nat.le_of_ble_eq_true rfl, Nat.le_of_ble_eq_true rfl⟩ (fun o u H2 locs hpost hP2 hS hfr => ?_)
  have hP1 := keepP hP1 hfr ad2_1
  obtain ⟨ho, hM⟩ := hpost
  subst ho
  exact lv_icmp_eq (tgt := 1034) hx hb dL_law_1006 (by decide) (fun _ => next _ _ _ _ _ _ _ ⟨inv_save hSI _, hR, hM, hP1, hP2⟩ hS hl) (fun q => absurd rfl q)
set_option maxHeartbeats 4000000 in
set_option maxRecDepth 100000 in
theorem law_restore {p : Program} {l : Launch} {e : Env} {s : State} {m : MethodId} {below : List Frame} {meth : Method} {c : Code} {b L : Nat} {xs : Nat → Int32} {D : va_G} {cy : Nat → ClassId} {h i : Nat} (C1 : lwC p s m meth c b L xs D cy h) (hi : i + 5 ≤ L) (next : lwN p l e s m below meth c b D cy h i) {S : kSt} {ρ : Nat → kR} {x : kX} {v : kV} {H : Heap} {locs : List Loc} (hJ : lwI D cy h S ρ x v H) (hS : va_S (aF h) s.heap H locs) {ls : Array Slot} (hl : lv_has ls 4 (lwL b h i)) : lwW p l e s m below meth c b H locs 1011 ls [] := by
  obtain ⟨⟨hx, hb, hr, hml, hown, hts0, hX, hbl, hlocks, hgv⟩, hL, hK, hh⟩ := C1
  obtain ⟨hSI, hR, hM, hP1, hP2⟩ := hJ
  have hts : ∀ w ∈ wsL_law, w.before #[Value.ref b] s = true := fun w hw => hts0 w (wsL_law_in w hw)
  have hown : s.vm.findClass RL = some m.cls := hown
  have hbA : ¬ aF h b := by unfold aF; omega
  refine lv_aload_n hx hb dL_law_1011 rfl (lv_at hl 1 rfl) ?_
  refine lv_aload_n hx hb dL_law_1012 rfl (lv_at hl 0 rfl) ?_
  refine lv_iload_n hx hb dL_law_1013 rfl (lv_at hl 3 rfl) ?_
  refine lv_iconst (v := nI 1) hx hb dL_law_1014 rfl ?_
  refine n_iadd hx hb dL_law_1015 ?_
  refine va_sld hx hb hX hbl hbA hS (vp_in_nI (show i + 1 < L by omega) (by omega)) dL_law_1016 ?_
  refine i_push (b := xs (i + 1)) (by rw [nI_clamp (by omega)]) ?_
  refine k_callV (rest := []) (nL := 4) ⟨hx, hb, hml, hown, hts⟩ (c_X4_restore l D cy (ad1 h) (ad1_I h) ρ x S (xs (i + 1)) hSI hR) (cwV 1 hts gL_law_X4_restore rfl rfl rfl (by decide +kernel) ⟨Nat.le_of_ble_eq_true rfl, Nat.le_of_ble_eq_true rfl⟩) hK hP1 hS ad1_A (q0 := 136) (ci := 4) rfl (by decide) cW_top rfl rfl rfl hl.1 rfl (Nat.le_of_ble_eq_true rfl) dL_law_1017 ⟨Nat.le_of_ble_eq_true rfl, Nat.le_of_ble_eq_true rfl⟩ (fun o u H1 locs hpost hP1 hS hfr => ?_)
  have hP2 := keepP hP2 hfr ad1_2
  obtain ⟨ρ, x⟩ := u
  obtain ⟨ho, hR⟩ := hpost
  subst ho
  refine lv_aload_n hx hb dL_law_1020 rfl (lv_at hl 2 rfl) ?_
  refine lv_aload_n hx hb dL_law_1021 rfl (lv_at hl 0 rfl) ?_
  refine lv_iload_n hx hb dL_law_1022 rfl (lv_at hl 3 rfl) ?_
  refine lv_iconst (v := nI 1) hx hb dL_law_1023 rfl ?_
  refine n_iadd hx hb dL_law_1024 ?_
  refine va_sld hx hb hX hbl hbA hS (vp_in_nI (show i + 1 < L by omega) (by omega)) dL_law_1025 ?_
  refine i_push (b := xs (i + 1)) (by rw [nI_clamp (by omega)]) ?_
  refine k_callV (rest := [.int (op_restore S (xs (i + 1))).1]) (nL := 4) ⟨hx, hb, hml, hown, hts⟩ (c_X5_restore l D cy (aA (h + 143)) (aA_I 9 (h + 143)) v S (xs (i + 1)) hSI hM) (cwV 1 hts gL_law_X5_restore rfl rfl rfl (by decide +kernel) ⟨Nat.le_of_ble_eq_true rfl, Nat.le_of_ble_eq_true rfl⟩) hK hP2 hS aA_A (q0 := 0) (ci := 5) rfl (by decide) mW_obj rfl rfl rfl hl.1 rfl (Nat.le_of_ble_eq_true rfl) dL_law_1026 ⟨Nat.le_of_ble_eq_true rfl, Nat.le_of_ble_eq_true rfl⟩ (fun o u H2 locs hpost hP2 hS hfr => ?_)
  have hP1 := keepP hP1 hfr ad2_1
  obtain ⟨ho, hM⟩ := hpost
  subst ho
  exact lv_icmp_eq (tgt := 1034) hx hb dL_law_1029 (by decide) (fun _ => next _ _ _ _ _ _ _ ⟨inv_restore hSI _, hR, hM, hP1, hP2⟩ hS hl) (fun q => absurd rfl q)
