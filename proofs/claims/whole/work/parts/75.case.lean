set_option maxHeartbeats 4000000 in
set_option maxRecDepth 100000 in
theorem law_number {p : Program} {l : Launch} {e : Env} {s : State} {m : MethodId} {below : List Frame} {meth : Method} {c : Code} {b L : Nat} {xs : Nat → Int32} {D : va_G} {cy : Nat → ClassId} {h i : Nat} (C1 : lwC p s m meth c b L xs D cy h) (hi : i + 5 ≤ L) (next : lwN p l e s m below meth c b D cy h i) {S : kSt} {ρ : Nat → kR} {x : kX} {v : kV} {H : Heap} {locs : List Loc} (hJ : lwI D cy h S ρ x v H) (hS : va_S (aF h) s.heap H locs) {ls : Array Slot} (hl : lv_has ls 4 (lwL b h i)) : lwW p l e s m below meth c b H locs 621 ls [] := by
  obtain ⟨⟨hx, hb, hr, hml, hown, hts0, hX, hbl, hlocks, hgv⟩, hL, hK, hh⟩ := C1
  obtain ⟨hSI, hR, hM, hP1, hP2⟩ := hJ
  have hts : ∀ w ∈ wsL_law, w.before #[Value.ref b] s = true := fun w hw => hts0 w (wsL_law_in w hw)
  have hown : s.vm.findClass RL = some m.cls := hown
  have hbA : ¬ aF h b := by unfold aF; omega
  refine lv_aload_n hx hb dL_law_621 rfl (lv_at hl 1 rfl) ?_
  refine lv_aload_n hx hb dL_law_622 rfl (lv_at hl 0 rfl) ?_
  refine lv_iload_n hx hb dL_law_623 rfl (lv_at hl 3 rfl) ?_
  refine lv_iconst (v := nI 1) hx hb dL_law_624 rfl ?_
  refine n_iadd hx hb dL_law_625 ?_
  refine va_sld hx hb hX hbl hbA hS (vp_in_nI (show i + 1 < L by omega) (by omega)) dL_law_626 ?_
  refine i_push (b := xs (i + 1)) (by rw [nI_clamp (by omega)]) ?_
  refine lv_aload_n hx hb dL_law_627 rfl (lv_at hl 0 rfl) ?_
  refine lv_iload_n hx hb dL_law_628 rfl (lv_at hl 3 rfl) ?_
  refine lv_iconst (v := nI 2) hx hb dL_law_629 rfl ?_
  refine n_iadd hx hb dL_law_630 ?_
  refine va_sld hx hb hX hbl hbA hS (vp_in_nI (show i + 2 < L by omega) (by omega)) dL_law_631 ?_
  refine i_push (b := xs (i + 2)) (by rw [nI_clamp (by omega)]) ?_
  refine k_callV (rest := []) (nL := 4) ⟨hx, hb, hml, hown, hts⟩ (c_X4_number l D cy (ad1 h) (ad1_I h) ρ x S (xs (i + 1)) (xs (i + 2)) hSI hR) (cwV 2 hts gL_law_X4_number rfl rfl rfl (by decide +kernel) ⟨Nat.le_of_ble_eq_true rfl, Nat.le_of_ble_eq_true rfl⟩) hK hP1 hS ad1_A (q0 := 136) (ci := 4) rfl (by decide) cW_top rfl rfl rfl hl.1 rfl (Nat.le_of_ble_eq_true rfl) dL_law_632 ⟨Nat.le_of_ble_eq_true rfl, Nat.le_of_ble_eq_true rfl⟩ (fun o u H1 locs hpost hP1 hS hfr => ?_)
  have hP2 := keepP hP2 hfr ad1_2
  obtain ⟨ρ, x⟩ := u
  obtain ⟨ho, hR⟩ := hpost
  subst ho
  refine lv_aload_n hx hb dL_law_635 rfl (lv_at hl 2 rfl) ?_
  refine lv_aload_n hx hb dL_law_636 rfl (lv_at hl 0 rfl) ?_
  refine lv_iload_n hx hb dL_law_637 rfl (lv_at hl 3 rfl) ?_
  refine lv_iconst (v := nI 1) hx hb dL_law_638 rfl ?_
  refine n_iadd hx hb dL_law_639 ?_
  refine va_sld hx hb hX hbl hbA hS (vp_in_nI (show i + 1 < L by omega) (by omega)) dL_law_640 ?_
  refine i_push (b := xs (i + 1)) (by rw [nI_clamp (by omega)]) ?_
  refine lv_aload_n hx hb dL_law_641 rfl (lv_at hl 0 rfl) ?_
  refine lv_iload_n hx hb dL_law_642 rfl (lv_at hl 3 rfl) ?_
  refine lv_iconst (v := nI 2) hx hb dL_law_643 rfl ?_
  refine n_iadd hx hb dL_law_644 ?_
  refine va_sld hx hb hX hbl hbA hS (vp_in_nI (show i + 2 < L by omega) (by omega)) dL_law_645 ?_
  refine i_push (b := xs (i + 2)) (by rw [nI_clamp (by omega)]) ?_
  refine k_callV (rest := [.int (op_number S (xs (i + 1)) (xs (i + 2))).1]) (nL := 4) ⟨hx, hb, hml, hown, hts⟩ (c_X5_number l D cy (aA (h + 143)) (aA_I 9 (h + 143)) v S (xs (i + 1)) (xs (i + 2)) hSI hM) (cwV 2 hts gL_law_X5_number rfl rfl rfl (by decide +kernel) ⟨Nat.le_of_ble_eq_true rfl, Nat.le_of_ble_eq_true rfl⟩) hK hP2 hS aA_A (q0 := 0) (ci := 5) rfl (by decide) mW_obj rfl rfl rfl hl.1 rfl (Nat.le_of_ble_eq_true rfl) dL_law_646 ⟨Nat.le_of_ble_eq_true rfl, Nat.le_of_ble_eq_true rfl⟩ (fun o u H2 locs hpost hP2 hS hfr => ?_)
  have hP1 := keepP hP1 hfr ad2_1
  obtain ⟨ho, hM⟩ := hpost
  subst ho
  exact lv_icmp_eq (tgt := 1034) hx hb dL_law_649 (by decide) (fun _ => next _ _ _ _ _ _ _ ⟨inv_number hSI _ _, hR, hM, hP1, hP2⟩ hS hl) (fun q => absurd rfl q)
set_option maxHeartbeats 4000000 in
set_option maxRecDepth 100000 in
theorem law_of {p : Program} {l : Launch} {e : Env} {s : State} {m : MethodId} {below : List Frame} {meth : Method} {c : Code} {b L : Nat} {xs : Nat → Int32} {D : va_G} {cy : Nat → ClassId} {h i : Nat} (C1 : lwC p s m meth c b L xs D cy h) (hi : i + 5 ≤ L) (next : lwN p l e s m below meth c b D cy h i) {S : kSt} {ρ : Nat → kR} {x : kX} {v : kV} {H : Heap} {locs : List Loc} (hJ : lwI D cy h S ρ x v H) (hS : va_S (aF h) s.heap H locs) {ls : Array Slot} (hl : lv_has ls 4 (lwL b h i)) : lwW p l e s m below meth c b H locs 654 ls [] := by
  obtain ⟨⟨hx, hb, hr, hml, hown, hts0, hX, hbl, hlocks, hgv⟩, hL, hK, hh⟩ := C1
  obtain ⟨hSI, hR, hM, hP1, hP2⟩ := hJ
  have hts : ∀ w ∈ wsL_law, w.before #[Value.ref b] s = true := fun w hw => hts0 w (wsL_law_in w hw)
  have hown : s.vm.findClass RL = some m.cls := hown
  have hbA : ¬ aF h b := by unfold aF; omega
  refine lv_aload_n hx hb dL_law_654 rfl (lv_at hl 1 rfl) ?_
  refine lv_aload_n hx hb dL_law_655 rfl (lv_at hl 0 rfl) ?_
  refine lv_iload_n hx hb dL_law_656 rfl (lv_at hl 3 rfl) ?_
  refine lv_iconst (v := nI 1) hx hb dL_law_657 rfl ?_
  refine n_iadd hx hb dL_law_658 ?_
  refine va_sld hx hb hX hbl hbA hS (vp_in_nI (show i + 1 < L by omega) (by omega)) dL_law_659 ?_
  refine i_push (b := xs (i + 1)) (by rw [nI_clamp (by omega)]) ?_
  refine lv_aload_n hx hb dL_law_660 rfl (lv_at hl 0 rfl) ?_
  refine lv_iload_n hx hb dL_law_661 rfl (lv_at hl 3 rfl) ?_
  refine lv_iconst (v := nI 2) hx hb dL_law_662 rfl ?_
  refine n_iadd hx hb dL_law_663 ?_
  refine va_sld hx hb hX hbl hbA hS (vp_in_nI (show i + 2 < L by omega) (by omega)) dL_law_664 ?_
  refine i_push (b := xs (i + 2)) (by rw [nI_clamp (by omega)]) ?_
  refine k_callV (rest := []) (nL := 4) ⟨hx, hb, hml, hown, hts⟩ (c_X4_of l D cy (ad1 h) (ad1_I h) ρ x S (xs (i + 1)) (xs (i + 2)) hSI hR) (cwV 2 hts gL_law_X4_of rfl rfl rfl (by decide +kernel) ⟨Nat.le_of_ble_eq_true rfl, Nat.le_of_ble_eq_true rfl⟩) hK hP1 hS ad1_A (q0 := 136) (ci := 4) rfl (by decide) cW_top rfl rfl rfl hl.1 rfl (Nat.le_of_ble_eq_true rfl) dL_law_665 ⟨Nat.le_of_ble_eq_true rfl, Nat.le_of_ble_eq_true rfl⟩ (fun o u H1 locs hpost hP1 hS hfr => ?_)
  have hP2 := keepP hP2 hfr ad1_2
  obtain ⟨ρ, x⟩ := u
  obtain ⟨ho, hR⟩ := hpost
  subst ho
  refine lv_aload_n hx hb dL_law_668 rfl (lv_at hl 2 rfl) ?_
  refine lv_aload_n hx hb dL_law_669 rfl (lv_at hl 0 rfl) ?_
  refine lv_iload_n hx hb dL_law_670 rfl (lv_at hl 3 rfl) ?_
  refine lv_iconst (v := nI 1) hx hb dL_law_671 rfl ?_
  refine n_iadd hx hb dL_law_672 ?_
  refine va_sld hx hb hX hbl hbA hS (vp_in_nI (show i + 1 < L by omega) (by omega)) dL_law_673 ?_
  refine i_push (b := xs (i + 1)) (by rw [nI_clamp (by omega)]) ?_
  refine lv_aload_n hx hb dL_law_674 rfl (lv_at hl 0 rfl) ?_
  refine lv_iload_n hx hb dL_law_675 rfl (lv_at hl 3 rfl) ?_
  refine lv_iconst (v := nI 2) hx hb dL_law_676 rfl ?_
  refine n_iadd hx hb dL_law_677 ?_
  refine va_sld hx hb hX hbl hbA hS (vp_in_nI (show i + 2 < L by omega) (by omega)) dL_law_678 ?_
  refine i_push (b := xs (i + 2)) (by rw [nI_clamp (by omega)]) ?_
  refine k_callV (rest := [.int (op_of S (xs (i + 1)) (xs (i + 2))).1]) (nL := 4) ⟨hx, hb, hml, hown, hts⟩ (c_X5_of l D cy (aA (h + 143)) (aA_I 9 (h + 143)) v S (xs (i + 1)) (xs (i + 2)) hSI hM) (cwV 2 hts gL_law_X5_of rfl rfl rfl (by decide +kernel) ⟨Nat.le_of_ble_eq_true rfl, Nat.le_of_ble_eq_true rfl⟩) hK hP2 hS aA_A (q0 := 0) (ci := 5) rfl (by decide) mW_obj rfl rfl rfl hl.1 rfl (Nat.le_of_ble_eq_true rfl) dL_law_679 ⟨Nat.le_of_ble_eq_true rfl, Nat.le_of_ble_eq_true rfl⟩ (fun o u H2 locs hpost hP2 hS hfr => ?_)
  have hP1 := keepP hP1 hfr ad2_1
  obtain ⟨ho, hM⟩ := hpost
  subst ho
  exact lv_icmp_eq (tgt := 1034) hx hb dL_law_682 (by decide) (fun _ => next _ _ _ _ _ _ _ ⟨inv_of hSI _ _, hR, hM, hP1, hP2⟩ hS hl) (fun q => absurd rfl q)
set_option maxHeartbeats 4000000 in
set_option maxRecDepth 100000 in
theorem law_value {p : Program} {l : Launch} {e : Env} {s : State} {m : MethodId} {below : List Frame} {meth : Method} {c : Code} {b L : Nat} {xs : Nat → Int32} {D : va_G} {cy : Nat → ClassId} {h i : Nat} (C1 : lwC p s m meth c b L xs D cy h) (hi : i + 5 ≤ L) (next : lwN p l e s m below meth c b D cy h i) {S : kSt} {ρ : Nat → kR} {x : kX} {v : kV} {H : Heap} {locs : List Loc} (hJ : lwI D cy h S ρ x v H) (hS : va_S (aF h) s.heap H locs) {ls : Array Slot} (hl : lv_has ls 4 (lwL b h i)) : lwW p l e s m below meth c b H locs 687 ls [] := by
  obtain ⟨⟨hx, hb, hr, hml, hown, hts0, hX, hbl, hlocks, hgv⟩, hL, hK, hh⟩ := C1
  obtain ⟨hSI, hR, hM, hP1, hP2⟩ := hJ
  have hts : ∀ w ∈ wsL_law, w.before #[Value.ref b] s = true := fun w hw => hts0 w (wsL_law_in w hw)
  have hown : s.vm.findClass RL = some m.cls := hown
  have hbA : ¬ aF h b := by unfold aF; omega
  refine lv_aload_n hx hb dL_law_687 rfl (lv_at hl 1 rfl) ?_
  refine lv_aload_n hx hb dL_law_688 rfl (lv_at hl 0 rfl) ?_
  refine lv_iload_n hx hb dL_law_689 rfl (lv_at hl 3 rfl) ?_
  refine lv_iconst (v := nI 1) hx hb dL_law_690 rfl ?_
  refine n_iadd hx hb dL_law_691 ?_
  refine va_sld hx hb hX hbl hbA hS (vp_in_nI (show i + 1 < L by omega) (by omega)) dL_law_692 ?_
  refine i_push (b := xs (i + 1)) (by rw [nI_clamp (by omega)]) ?_
  refine lv_aload_n hx hb dL_law_693 rfl (lv_at hl 0 rfl) ?_
  refine lv_iload_n hx hb dL_law_694 rfl (lv_at hl 3 rfl) ?_
  refine lv_iconst (v := nI 2) hx hb dL_law_695 rfl ?_
  refine n_iadd hx hb dL_law_696 ?_
  refine va_sld hx hb hX hbl hbA hS (vp_in_nI (show i + 2 < L by omega) (by omega)) dL_law_697 ?_
  refine i_push (b := xs (i + 2)) (by rw [nI_clamp (by omega)]) ?_
  refine k_callV (rest := []) (nL := 4) ⟨hx, hb, hml, hown, hts⟩ (c_X4_value l D cy (ad1 h) (ad1_I h) ρ x S (xs (i + 1)) (xs (i + 2)) hSI hR) (cwV 2 hts gL_law_X4_value rfl rfl rfl (by decide +kernel) ⟨Nat.le_of_ble_eq_true rfl, Nat.le_of_ble_eq_true rfl⟩) hK hP1 hS ad1_A (q0 := 136) (ci := 4) rfl (by decide) cW_top rfl rfl rfl hl.1 rfl (Nat.le_of_ble_eq_true rfl) dL_law_698 ⟨Nat.le_of_ble_eq_true rfl, Nat.le_of_ble_eq_true rfl⟩ (fun o u H1 locs hpost hP1 hS hfr => ?_)
  have hP2 := keepP hP2 hfr ad1_2
  obtain ⟨ρ, x⟩ := u
  obtain ⟨ho, hR⟩ := hpost
  subst ho
  refine lv_aload_n hx hb dL_law_701 rfl (lv_at hl 2 rfl) ?_
  refine lv_aload_n hx hb dL_law_702 rfl (lv_at hl 0 rfl) ?_
  refine lv_iload_n hx hb dL_law_703 rfl (lv_at hl 3 rfl) ?_
  refine lv_iconst (v := nI 1) hx hb dL_law_704 rfl ?_
  refine n_iadd hx hb dL_law_705 ?_
  refine va_sld hx hb hX hbl hbA hS (vp_in_nI (show i + 1 < L by omega) (by omega)) dL_law_706 ?_
  refine i_push (b := xs (i + 1)) (by rw [nI_clamp (by omega)]) ?_
  refine lv_aload_n hx hb dL_law_707 rfl (lv_at hl 0 rfl) ?_
  refine lv_iload_n hx hb dL_law_708 rfl (lv_at hl 3 rfl) ?_
  refine lv_iconst (v := nI 2) hx hb dL_law_709 rfl ?_
  refine n_iadd hx hb dL_law_710 ?_
  refine va_sld hx hb hX hbl hbA hS (vp_in_nI (show i + 2 < L by omega) (by omega)) dL_law_711 ?_
  refine i_push (b := xs (i + 2)) (by rw [nI_clamp (by omega)]) ?_
  refine k_callV (rest := [.int (op_value S (xs (i + 1)) (xs (i + 2))).1]) (nL := 4) ⟨hx, hb, hml, hown, hts⟩ (c_X5_value l D cy (aA (h + 143)) (aA_I 9 (h + 143)) v S (xs (i + 1)) (xs (i + 2)) hSI hM) (cwV 2 hts gL_law_X5_value rfl rfl rfl (by decide +kernel) ⟨Nat.le_of_ble_eq_true rfl, Nat.le_of_ble_eq_true rfl⟩) hK hP2 hS aA_A (q0 := 0) (ci := 5) rfl (by decide) mW_obj rfl rfl rfl hl.1 rfl (Nat.le_of_ble_eq_true rfl) dL_law_712 ⟨Nat.le_of_ble_eq_true rfl, Nat.le_of_ble_eq_true rfl⟩ (fun o u H2 locs hpost hP2 hS hfr => ?_)
  have hP1 := keepP hP1 hfr ad2_1
  obtain ⟨ho, hM⟩ := hpost
  subst ho
  exact lv_icmp_eq (tgt := 1034) hx hb dL_law_715 (by decide) (fun _ => next _ _ _ _ _ _ _ ⟨inv_value hSI _ _, hR, hM, hP1, hP2⟩ hS hl) (fun q => absurd rfl q)
set_option maxHeartbeats 4000000 in
set_option maxRecDepth 100000 in
theorem law_turningPoint {p : Program} {l : Launch} {e : Env} {s : State} {m : MethodId} {below : List Frame} {meth : Method} {c : Code} {b L : Nat} {xs : Nat → Int32} {D : va_G} {cy : Nat → ClassId} {h i : Nat} (C1 : lwC p s m meth c b L xs D cy h) (hi : i + 5 ≤ L) (next : lwN p l e s m below meth c b D cy h i) {S : kSt} {ρ : Nat → kR} {x : kX} {v : kV} {H : Heap} {locs : List Loc} (hJ : lwI D cy h S ρ x v H) (hS : va_S (aF h) s.heap H locs) {ls : Array Slot} (hl : lv_has ls 4 (lwL b h i)) : lwW p l e s m below meth c b H locs 720 ls [] := by
  obtain ⟨⟨hx, hb, hr, hml, hown, hts0, hX, hbl, hlocks, hgv⟩, hL, hK, hh⟩ := C1
  obtain ⟨hSI, hR, hM, hP1, hP2⟩ := hJ
  have hts : ∀ w ∈ wsL_law, w.before #[Value.ref b] s = true := fun w hw => hts0 w (wsL_law_in w hw)
  have hown : s.vm.findClass RL = some m.cls := hown
  have hbA : ¬ aF h b := by unfold aF; omega
  refine lv_aload_n hx hb dL_law_720 rfl (lv_at hl 1 rfl) ?_
  refine lv_aload_n hx hb dL_law_721 rfl (lv_at hl 0 rfl) ?_
  refine lv_iload_n hx hb dL_law_722 rfl (lv_at hl 3 rfl) ?_
  refine lv_iconst (v := nI 1) hx hb dL_law_723 rfl ?_
  refine n_iadd hx hb dL_law_724 ?_
  refine va_sld hx hb hX hbl hbA hS (vp_in_nI (show i + 1 < L by omega) (by omega)) dL_law_725 ?_
  refine i_push (b := xs (i + 1)) (by rw [nI_clamp (by omega)]) ?_
  refine lv_aload_n hx hb dL_law_726 rfl (lv_at hl 0 rfl) ?_
  refine lv_iload_n hx hb dL_law_727 rfl (lv_at hl 3 rfl) ?_
  refine lv_iconst (v := nI 2) hx hb dL_law_728 rfl ?_
  refine n_iadd hx hb dL_law_729 ?_
  refine va_sld hx hb hX hbl hbA hS (vp_in_nI (show i + 2 < L by omega) (by omega)) dL_law_730 ?_
  refine i_push (b := xs (i + 2)) (by rw [nI_clamp (by omega)]) ?_
  refine k_callV (rest := []) (nL := 4) ⟨hx, hb, hml, hown, hts⟩ (c_X4_turningPoint l D cy (ad1 h) (ad1_I h) ρ x S (xs (i + 1)) (xs (i + 2)) hSI hR) (cwV 2 hts gL_law_X4_turningPoint rfl rfl rfl (by decide +kernel) ⟨Nat.le_of_ble_eq_true rfl, Nat.le_of_ble_eq_true rfl⟩) hK hP1 hS ad1_A (q0 := 136) (ci := 4) rfl (by decide) cW_top rfl rfl rfl hl.1 rfl (Nat.le_of_ble_eq_true rfl) dL_law_731 ⟨Nat.le_of_ble_eq_true rfl, Nat.le_of_ble_eq_true rfl⟩ (fun o u H1 locs hpost hP1 hS hfr => ?_)
  have hP2 := keepP hP2 hfr ad1_2
  obtain ⟨ρ, x⟩ := u
  obtain ⟨ho, hR⟩ := hpost
  subst ho
  refine lv_aload_n hx hb dL_law_734 rfl (lv_at hl 2 rfl) ?_
  refine lv_aload_n hx hb dL_law_735 rfl (lv_at hl 0 rfl) ?_
  refine lv_iload_n hx hb dL_law_736 rfl (lv_at hl 3 rfl) ?_
  refine lv_iconst (v := nI 1) hx hb dL_law_737 rfl ?_
  refine n_iadd hx hb dL_law_738 ?_
  refine va_sld hx hb hX hbl hbA hS (vp_in_nI (show i + 1 < L by omega) (by omega)) dL_law_739 ?_
  refine i_push (b := xs (i + 1)) (by rw [nI_clamp (by omega)]) ?_
  refine lv_aload_n hx hb dL_law_740 rfl (lv_at hl 0 rfl) ?_
  refine lv_iload_n hx hb dL_law_741 rfl (lv_at hl 3 rfl) ?_
  refine lv_iconst (v := nI 2) hx hb dL_law_742 rfl ?_
  refine n_iadd hx hb dL_law_743 ?_
  refine va_sld hx hb hX hbl hbA hS (vp_in_nI (show i + 2 < L by omega) (by omega)) dL_law_744 ?_
  refine i_push (b := xs (i + 2)) (by rw [nI_clamp (by omega)]) ?_
  refine k_callV (rest := [.int (op_turningPoint S (xs (i + 1)) (xs (i + 2))).1]) (nL := 4) ⟨hx, hb, hml, hown, hts⟩ (c_X5_turningPoint l D cy (aA (h + 143)) (aA_I 9 (h + 143)) v S (xs (i + 1)) (xs (i + 2)) hSI hM) (cwV 2 hts gL_law_X5_turningPoint rfl rfl rfl (by decide +kernel) ⟨Nat.le_of_ble_eq_true rfl, Nat.le_of_ble_eq_true rfl⟩) hK hP2 hS aA_A (q0 := 0) (ci := 5) rfl (by decide) mW_obj rfl rfl rfl hl.1 rfl (Nat.le_of_ble_eq_true rfl) dL_law_745 ⟨Nat.le_of_ble_eq_true rfl, Nat.le_of_ble_eq_true rfl⟩ (fun o u H2 locs hpost hP2 hS hfr => ?_)
  have hP1 := keepP hP1 hfr ad2_1
  obtain ⟨ho, hM⟩ := hpost
  subst ho
  exact lv_icmp_eq (tgt := 1034) hx hb dL_law_748 (by decide) (fun _ => next _ _ _ _ _ _ _ ⟨inv_turningPoint hSI _ _, hR, hM, hP1, hP2⟩ hS hl) (fun q => absurd rfl q)
set_option maxHeartbeats 4000000 in
set_option maxRecDepth 100000 in
theorem law_count {p : Program} {l : Launch} {e : Env} {s : State} {m : MethodId} {below : List Frame} {meth : Method} {c : Code} {b L : Nat} {xs : Nat → Int32} {D : va_G} {cy : Nat → ClassId} {h i : Nat} (C1 : lwC p s m meth c b L xs D cy h) (hi : i + 5 ≤ L) (next : lwN p l e s m below meth c b D cy h i) {S : kSt} {ρ : Nat → kR} {x : kX} {v : kV} {H : Heap} {locs : List Loc} (hJ : lwI D cy h S ρ x v H) (hS : va_S (aF h) s.heap H locs) {ls : Array Slot} (hl : lv_has ls 4 (lwL b h i)) : lwW p l e s m below meth c b H locs 753 ls [] := by
  obtain ⟨⟨hx, hb, hr, hml, hown, hts0, hX, hbl, hlocks, hgv⟩, hL, hK, hh⟩ := C1
  obtain ⟨hSI, hR, hM, hP1, hP2⟩ := hJ
  have hts : ∀ w ∈ wsL_law, w.before #[Value.ref b] s = true := fun w hw => hts0 w (wsL_law_in w hw)
  have hown : s.vm.findClass RL = some m.cls := hown
  have hbA : ¬ aF h b := by unfold aF; omega
  refine lv_aload_n hx hb dL_law_753 rfl (lv_at hl 1 rfl) ?_
  refine lv_aload_n hx hb dL_law_754 rfl (lv_at hl 0 rfl) ?_
  refine lv_iload_n hx hb dL_law_755 rfl (lv_at hl 3 rfl) ?_
  refine lv_iconst (v := nI 1) hx hb dL_law_756 rfl ?_
  refine n_iadd hx hb dL_law_757 ?_
  refine va_sld hx hb hX hbl hbA hS (vp_in_nI (show i + 1 < L by omega) (by omega)) dL_law_758 ?_
  refine i_push (b := xs (i + 1)) (by rw [nI_clamp (by omega)]) ?_
  refine k_callV (rest := []) (nL := 4) ⟨hx, hb, hml, hown, hts⟩ (c_X4_count l D cy (ad1 h) (ad1_I h) ρ x S (xs (i + 1)) hSI hR) (cwV 1 hts gL_law_X4_count rfl rfl rfl (by decide +kernel) ⟨Nat.le_of_ble_eq_true rfl, Nat.le_of_ble_eq_true rfl⟩) hK hP1 hS ad1_A (q0 := 136) (ci := 4) rfl (by decide) cW_top rfl rfl rfl hl.1 rfl (Nat.le_of_ble_eq_true rfl) dL_law_759 ⟨Nat.le_of_ble_eq_true rfl, Nat.le_of_ble_eq_true rfl⟩ (fun o u H1 locs hpost hP1 hS hfr => ?_)
  have hP2 := keepP hP2 hfr ad1_2
  obtain ⟨ρ, x⟩ := u
  obtain ⟨ho, hR⟩ := hpost
  subst ho
  refine lv_aload_n hx hb dL_law_762 rfl (lv_at hl 2 rfl) ?_
  refine lv_aload_n hx hb dL_law_763 rfl (lv_at hl 0 rfl) ?_
  refine lv_iload_n hx hb dL_law_764 rfl (lv_at hl 3 rfl) ?_
  refine lv_iconst (v := nI 1) hx hb dL_law_765 rfl ?_
  refine n_iadd hx hb dL_law_766 ?_
  refine va_sld hx hb hX hbl hbA hS (vp_in_nI (show i + 1 < L by omega) (by omega)) dL_law_767 ?_
  refine i_push (b := xs (i + 1)) (by rw [nI_clamp (by omega)]) ?_
  refine k_callV (rest := [.int (op_count S (xs (i + 1))).1]) (nL := 4) ⟨hx, hb, hml, hown, hts⟩ (c_X5_count l D cy (aA (h + 143)) (aA_I 9 (h + 143)) v S (xs (i + 1)) hSI hM) (cwV 1 hts gL_law_X5_count rfl rfl rfl (by decide +kernel) ⟨Nat.le_of_ble_eq_true rfl, Nat.le_of_ble_eq_true rfl⟩) hK hP2 hS aA_A (q0 := 0) (ci := 5) rfl (by decide) mW_obj rfl rfl rfl hl.1 rfl (Nat.le_of_ble_eq_true rfl) dL_law_768 ⟨Nat.le_of_ble_eq_true rfl, Nat.le_of_ble_eq_true rfl⟩ (fun o u H2 locs hpost hP2 hS hfr => ?_)
  have hP1 := keepP hP1 hfr ad2_1
  obtain ⟨ho, hM⟩ := hpost
  subst ho
  exact lv_icmp_eq (tgt := 1034) hx hb dL_law_771 (by decide) (fun _ => next _ _ _ _ _ _ _ ⟨inv_count hSI _, hR, hM, hP1, hP2⟩ hS hl) (fun q => absurd rfl q)
set_option maxHeartbeats 4000000 in
set_option maxRecDepth 100000 in
theorem law_fits {p : Program} {l : Launch} {e : Env} {s : State} {m : MethodId} {below : List Frame} {meth : Method} {c : Code} {b L : Nat} {xs : Nat → Int32} {D : va_G} {cy : Nat → ClassId} {h i : Nat} (C1 : lwC p s m meth c b L xs D cy h) (hi : i + 5 ≤ L) (next : lwN p l e s m below meth c b D cy h i) {S : kSt} {ρ : Nat → kR} {x : kX} {v : kV} {H : Heap} {locs : List Loc} (hJ : lwI D cy h S ρ x v H) (hS : va_S (aF h) s.heap H locs) {ls : Array Slot} (hl : lv_has ls 4 (lwL b h i)) : lwW p l e s m below meth c b H locs 776 ls [] := by
  obtain ⟨⟨hx, hb, hr, hml, hown, hts0, hX, hbl, hlocks, hgv⟩, hL, hK, hh⟩ := C1
  obtain ⟨hSI, hR, hM, hP1, hP2⟩ := hJ
  have hts : ∀ w ∈ wsL_law, w.before #[Value.ref b] s = true := fun w hw => hts0 w (wsL_law_in w hw)
  have hown : s.vm.findClass RL = some m.cls := hown
  have hbA : ¬ aF h b := by unfold aF; omega
  refine lv_aload_n hx hb dL_law_776 rfl (lv_at hl 1 rfl) ?_
  refine lv_aload_n hx hb dL_law_777 rfl (lv_at hl 0 rfl) ?_
  refine lv_iload_n hx hb dL_law_778 rfl (lv_at hl 3 rfl) ?_
  refine lv_iconst (v := nI 1) hx hb dL_law_779 rfl ?_
  refine n_iadd hx hb dL_law_780 ?_
  refine va_sld hx hb hX hbl hbA hS (vp_in_nI (show i + 1 < L by omega) (by omega)) dL_law_781 ?_
  refine i_push (b := xs (i + 1)) (by rw [nI_clamp (by omega)]) ?_
  refine lv_aload_n hx hb dL_law_782 rfl (lv_at hl 0 rfl) ?_
  refine lv_iload_n hx hb dL_law_783 rfl (lv_at hl 3 rfl) ?_
  refine lv_iconst (v := nI 2) hx hb dL_law_784 rfl ?_
  refine n_iadd hx hb dL_law_785 ?_
  refine va_sld hx hb hX hbl hbA hS (vp_in_nI (show i + 2 < L by omega) (by omega)) dL_law_786 ?_
  refine i_push (b := xs (i + 2)) (by rw [nI_clamp (by omega)]) ?_
  refine k_callV (rest := []) (nL := 4) ⟨hx, hb, hml, hown, hts⟩ (c_X4_fits l D cy (ad1 h) (ad1_I h) ρ x S (xs (i + 1)) (xs (i + 2)) hSI hR) (cwV 2 hts gL_law_X4_fits rfl rfl rfl (by decide +kernel) ⟨Nat.le_of_ble_eq_true rfl, Nat.le_of_ble_eq_true rfl⟩) hK hP1 hS ad1_A (q0 := 136) (ci := 4) rfl (by decide) cW_top rfl rfl rfl hl.1 rfl (Nat.le_of_ble_eq_true rfl) dL_law_787 ⟨Nat.le_of_ble_eq_true rfl, Nat.le_of_ble_eq_true rfl⟩ (fun o u H1 locs hpost hP1 hS hfr => ?_)
  have hP2 := keepP hP2 hfr ad1_2
  obtain ⟨ρ, x⟩ := u
  obtain ⟨ho, hR⟩ := hpost
  subst ho
  refine lv_aload_n hx hb dL_law_790 rfl (lv_at hl 2 rfl) ?_
  refine lv_aload_n hx hb dL_law_791 rfl (lv_at hl 0 rfl) ?_
  refine lv_iload_n hx hb dL_law_792 rfl (lv_at hl 3 rfl) ?_
  refine lv_iconst (v := nI 1) hx hb dL_law_793 rfl ?_
  refine n_iadd hx hb dL_law_794 ?_
  refine va_sld hx hb hX hbl hbA hS (vp_in_nI (show i + 1 < L by omega) (by omega)) dL_law_795 ?_
  refine i_push (b := xs (i + 1)) (by rw [nI_clamp (by omega)]) ?_
  refine lv_aload_n hx hb dL_law_796 rfl (lv_at hl 0 rfl) ?_
  refine lv_iload_n hx hb dL_law_797 rfl (lv_at hl 3 rfl) ?_
  refine lv_iconst (v := nI 2) hx hb dL_law_798 rfl ?_
  refine n_iadd hx hb dL_law_799 ?_
  refine va_sld hx hb hX hbl hbA hS (vp_in_nI (show i + 2 < L by omega) (by omega)) dL_law_800 ?_
  refine i_push (b := xs (i + 2)) (by rw [nI_clamp (by omega)]) ?_
  refine k_callV (rest := [.long (op_fits S (xs (i + 1)) (xs (i + 2))).1]) (nL := 4) ⟨hx, hb, hml, hown, hts⟩ (c_X5_fits l D cy (aA (h + 143)) (aA_I 9 (h + 143)) v S (xs (i + 1)) (xs (i + 2)) hSI hM) (cwV 2 hts gL_law_X5_fits rfl rfl rfl (by decide +kernel) ⟨Nat.le_of_ble_eq_true rfl, Nat.le_of_ble_eq_true rfl⟩) hK hP2 hS aA_A (q0 := 0) (ci := 5) rfl (by decide) mW_obj rfl rfl rfl hl.1 rfl (Nat.le_of_ble_eq_true rfl) dL_law_801 ⟨Nat.le_of_ble_eq_true rfl, Nat.le_of_ble_eq_true rfl⟩ (fun o u H2 locs hpost hP2 hS hfr => ?_)
  have hP1 := keepP hP1 hfr ad2_1
  obtain ⟨ho, hM⟩ := hpost
  subst ho
  refine W.lcmp hx hb dL_law_804 ?_
  exact lv_if_eq (tgt := 1034) hx hb dL_law_805 (by decide) (fun _ => next _ _ _ _ _ _ _ ⟨inv_fits hSI _ _, hR, hM, hP1, hP2⟩ hS hl) (fun q => absurd (lg_eq _) q)
set_option maxHeartbeats 4000000 in
set_option maxRecDepth 100000 in
theorem law_sum {p : Program} {l : Launch} {e : Env} {s : State} {m : MethodId} {below : List Frame} {meth : Method} {c : Code} {b L : Nat} {xs : Nat → Int32} {D : va_G} {cy : Nat → ClassId} {h i : Nat} (C1 : lwC p s m meth c b L xs D cy h) (hi : i + 5 ≤ L) (next : lwN p l e s m below meth c b D cy h i) {S : kSt} {ρ : Nat → kR} {x : kX} {v : kV} {H : Heap} {locs : List Loc} (hJ : lwI D cy h S ρ x v H) (hS : va_S (aF h) s.heap H locs) {ls : Array Slot} (hl : lv_has ls 4 (lwL b h i)) : lwW p l e s m below meth c b H locs 810 ls [] := by
  obtain ⟨⟨hx, hb, hr, hml, hown, hts0, hX, hbl, hlocks, hgv⟩, hL, hK, hh⟩ := C1
  obtain ⟨hSI, hR, hM, hP1, hP2⟩ := hJ
  have hts : ∀ w ∈ wsL_law, w.before #[Value.ref b] s = true := fun w hw => hts0 w (wsL_law_in w hw)
  have hown : s.vm.findClass RL = some m.cls := hown
  have hbA : ¬ aF h b := by unfold aF; omega
  refine lv_aload_n hx hb dL_law_810 rfl (lv_at hl 1 rfl) ?_
  refine lv_aload_n hx hb dL_law_811 rfl (lv_at hl 0 rfl) ?_
  refine lv_iload_n hx hb dL_law_812 rfl (lv_at hl 3 rfl) ?_
  refine lv_iconst (v := nI 1) hx hb dL_law_813 rfl ?_
  refine n_iadd hx hb dL_law_814 ?_
  refine va_sld hx hb hX hbl hbA hS (vp_in_nI (show i + 1 < L by omega) (by omega)) dL_law_815 ?_
  refine i_push (b := xs (i + 1)) (by rw [nI_clamp (by omega)]) ?_
  refine lv_aload_n hx hb dL_law_816 rfl (lv_at hl 0 rfl) ?_
  refine lv_iload_n hx hb dL_law_817 rfl (lv_at hl 3 rfl) ?_
  refine lv_iconst (v := nI 2) hx hb dL_law_818 rfl ?_
  refine n_iadd hx hb dL_law_819 ?_
  refine va_sld hx hb hX hbl hbA hS (vp_in_nI (show i + 2 < L by omega) (by omega)) dL_law_820 ?_
  refine i_push (b := xs (i + 2)) (by rw [nI_clamp (by omega)]) ?_
  refine lv_aload_n hx hb dL_law_821 rfl (lv_at hl 0 rfl) ?_
  refine lv_iload_n hx hb dL_law_822 rfl (lv_at hl 3 rfl) ?_
  refine lv_iconst (v := nI 3) hx hb dL_law_823 rfl ?_
  refine n_iadd hx hb dL_law_824 ?_
  refine va_sld hx hb hX hbl hbA hS (vp_in_nI (show i + 3 < L by omega) (by omega)) dL_law_825 ?_
  refine i_push (b := xs (i + 3)) (by rw [nI_clamp (by omega)]) ?_
  refine k_callV (rest := []) (nL := 4) ⟨hx, hb, hml, hown, hts⟩ (c_X4_sum l D cy (ad1 h) (ad1_I h) ρ x S (xs (i + 1)) (xs (i + 2)) (xs (i + 3)) hSI hR) (cwV 3 hts gL_law_X4_sum rfl rfl rfl (by decide +kernel) ⟨Nat.le_of_ble_eq_true rfl, Nat.le_of_ble_eq_true rfl⟩) hK hP1 hS ad1_A (q0 := 136) (ci := 4) rfl (by decide) cW_top rfl rfl rfl hl.1 rfl (Nat.le_of_ble_eq_true rfl) dL_law_826 ⟨Nat.le_of_ble_eq_true rfl, Nat.le_of_ble_eq_true rfl⟩ (fun o u H1 locs hpost hP1 hS hfr => ?_)
  have hP2 := keepP hP2 hfr ad1_2
  obtain ⟨ρ, x⟩ := u
  obtain ⟨ho, hR⟩ := hpost
  subst ho
  refine lv_aload_n hx hb dL_law_829 rfl (lv_at hl 2 rfl) ?_
  refine lv_aload_n hx hb dL_law_830 rfl (lv_at hl 0 rfl) ?_
  refine lv_iload_n hx hb dL_law_831 rfl (lv_at hl 3 rfl) ?_
  refine lv_iconst (v := nI 1) hx hb dL_law_832 rfl ?_
  refine n_iadd hx hb dL_law_833 ?_
  refine va_sld hx hb hX hbl hbA hS (vp_in_nI (show i + 1 < L by omega) (by omega)) dL_law_834 ?_
  refine i_push (b := xs (i + 1)) (by rw [nI_clamp (by omega)]) ?_
  refine lv_aload_n hx hb dL_law_835 rfl (lv_at hl 0 rfl) ?_
  refine lv_iload_n hx hb dL_law_836 rfl (lv_at hl 3 rfl) ?_
  refine lv_iconst (v := nI 2) hx hb dL_law_837 rfl ?_
  refine n_iadd hx hb dL_law_838 ?_
  refine va_sld hx hb hX hbl hbA hS (vp_in_nI (show i + 2 < L by omega) (by omega)) dL_law_839 ?_
  refine i_push (b := xs (i + 2)) (by rw [nI_clamp (by omega)]) ?_
  refine lv_aload_n hx hb dL_law_840 rfl (lv_at hl 0 rfl) ?_
  refine lv_iload_n hx hb dL_law_841 rfl (lv_at hl 3 rfl) ?_
  refine lv_iconst (v := nI 3) hx hb dL_law_842 rfl ?_
  refine n_iadd hx hb dL_law_843 ?_
  refine va_sld hx hb hX hbl hbA hS (vp_in_nI (show i + 3 < L by omega) (by omega)) dL_law_844 ?_
  refine i_push (b := xs (i + 3)) (by rw [nI_clamp (by omega)]) ?_
  refine k_callV (rest := [.int (op_sum S (xs (i + 1)) (xs (i + 2)) (xs (i + 3))).1]) (nL := 4) ⟨hx, hb, hml, hown, hts⟩ (c_X5_sum l D cy (aA (h + 143)) (aA_I 9 (h + 143)) v S (xs (i + 1)) (xs (i + 2)) (xs (i + 3)) hSI hM) (cwV 3 hts gL_law_X5_sum rfl rfl rfl (by decide +kernel) ⟨Nat.le_of_ble_eq_true rfl, Nat.le_of_ble_eq_true rfl⟩) hK hP2 hS aA_A (q0 := 0) (ci := 5) rfl (by decide) mW_obj rfl rfl rfl hl.1 rfl (Nat.le_of_ble_eq_true rfl) dL_law_845 ⟨Nat.le_of_ble_eq_true rfl, Nat.le_of_ble_eq_true rfl⟩ (fun o u H2 locs hpost hP2 hS hfr => ?_)
  have hP1 := keepP hP1 hfr ad2_1
  obtain ⟨ho, hM⟩ := hpost
  subst ho
  exact lv_icmp_eq (tgt := 1034) hx hb dL_law_848 (by decide) (fun _ => next _ _ _ _ _ _ _ ⟨inv_sum hSI _ _ _, hR, hM, hP1, hP2⟩ hS hl) (fun q => absurd rfl q)
