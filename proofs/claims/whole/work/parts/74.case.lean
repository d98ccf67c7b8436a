set_option maxHeartbeats 4000000 in
set_option maxRecDepth 100000 in
theorem law_inverse {p : Program} {l : Launch} {e : Env} {s : State} {m : MethodId} {below : List Frame} {meth : Method} {c : Code} {b L : Nat} {xs : Nat → Int32} {D : va_G} {cy : Nat → ClassId} {h i : Nat} (C1 : lwC p s m meth c b L xs D cy h) (hi : i + 5 ≤ L) (next : lwN p l e s m below meth c b D cy h i) {S : kSt} {ρ : Nat → kR} {x : kX} {v : kV} {H : Heap} {locs : List Loc} (hJ : lwI D cy h S ρ x v H) (hS : va_S (aF h) s.heap H locs) {ls : Array Slot} (hl : lv_has ls 4 (lwL b h i)) : lwW p l e s m below meth c b H locs 406 ls [] := by
  obtain ⟨⟨hx, hb, hr, hml, hown, hts0, hX, hbl, hlocks, hgv⟩, hL, hK, hh⟩ := C1
  obtain ⟨hSI, hR, hM, hP1, hP2⟩ := hJ
  have hts : ∀ w ∈ wsL_law, w.before #[Value.ref b] s = true := fun w hw => hts0 w (wsL_law_in w hw)
  have hown : s.vm.findClass RL = some m.cls := hown
  have hbA : ¬ aF h b := by unfold aF; omega
  refine lv_aload_n hx hb dL_law_406 rfl (lv_at hl 1 rfl) ?_
  refine lv_aload_n hx hb dL_law_407 rfl (lv_at hl 0 rfl) ?_
  refine lv_iload_n hx hb dL_law_408 rfl (lv_at hl 3 rfl) ?_
  refine lv_iconst (v := nI 1) hx hb dL_law_409 rfl ?_
  refine n_iadd hx hb dL_law_410 ?_
  refine va_sld hx hb hX hbl hbA hS (vp_in_nI (show i + 1 < L by omega) (by omega)) dL_law_411 ?_
  refine i_push (b := xs (i + 1)) (by rw [nI_clamp (by omega)]) ?_
  refine lv_aload_n hx hb dL_law_412 rfl (lv_at hl 0 rfl) ?_
  refine lv_iload_n hx hb dL_law_413 rfl (lv_at hl 3 rfl) ?_
  refine lv_iconst (v := nI 2) hx hb dL_law_414 rfl ?_
  refine n_iadd hx hb dL_law_415 ?_
  refine va_sld hx hb hX hbl hbA hS (vp_in_nI (show i + 2 < L by omega) (by omega)) dL_law_416 ?_
  refine i_push (b := xs (i + 2)) (by rw [nI_clamp (by omega)]) ?_
  refine lv_aload_n hx hb dL_law_417 rfl (lv_at hl 0 rfl) ?_
  refine lv_iload_n hx hb dL_law_418 rfl (lv_at hl 3 rfl) ?_
  refine lv_iconst (v := nI 3) hx hb dL_law_419 rfl ?_
  refine n_iadd hx hb dL_law_420 ?_
  refine va_sld hx hb hX hbl hbA hS (vp_in_nI (show i + 3 < L by omega) (by omega)) dL_law_421 ?_
  refine i_push (b := xs (i + 3)) (by rw [nI_clamp (by omega)]) ?_
  refine k_callV (rest := []) (nL := 4) ⟨hx, hb, hml, hown, hts⟩ (c_X4_inverse l D cy (ad1 h) (ad1_I h) ρ x S (xs (i + 1)) (xs (i + 2)) (xs (i + 3)) hSI hR) (cwV 3 hts gL_law_X4_inverse rfl rfl rfl (by decide +kernel) ⟨Nat.le_of_ble_eq_true rfl, Nat.le_of_ble_eq_true rfl⟩) hK hP1 hS ad1_A (q0 := 136) (ci := 4) rfl (by decide) cW_top rfl rfl rfl hl.1 rfl (Nat.le_of_ble_eq_true rfl) dL_law_422 ⟨Nat.le_of_ble_eq_true rfl, Nat.le_of_ble_eq_true rfl⟩ (fun o u H1 locs hpost hP1 hS hfr => ?_)
  have hP2 := keepP hP2 hfr ad1_2
  obtain ⟨ρ, x⟩ := u
  obtain ⟨ho, hR⟩ := hpost
  subst ho
  refine lv_aload_n hx hb dL_law_425 rfl (lv_at hl 2 rfl) ?_
  refine lv_aload_n hx hb dL_law_426 rfl (lv_at hl 0 rfl) ?_
  refine lv_iload_n hx hb dL_law_427 rfl (lv_at hl 3 rfl) ?_
  refine lv_iconst (v := nI 1) hx hb dL_law_428 rfl ?_
  refine n_iadd hx hb dL_law_429 ?_
  refine va_sld hx hb hX hbl hbA hS (vp_in_nI (show i + 1 < L by omega) (by omega)) dL_law_430 ?_
  refine i_push (b := xs (i + 1)) (by rw [nI_clamp (by omega)]) ?_
  refine lv_aload_n hx hb dL_law_431 rfl (lv_at hl 0 rfl) ?_
  refine lv_iload_n hx hb dL_law_432 rfl (lv_at hl 3 rfl) ?_
  refine lv_iconst (v := nI 2) hx hb dL_law_433 rfl ?_
  refine n_iadd hx hb dL_law_434 ?_
  refine va_sld hx hb hX hbl hbA hS (vp_in_nI (show i + 2 < L by omega) (by omega)) dL_law_435 ?_
  refine i_push (b := xs (i + 2)) (by rw [nI_clamp (by omega)]) ?_
  refine lv_aload_n hx hb dL_law_436 rfl (lv_at hl 0 rfl) ?_
  refine lv_iload_n hx hb dL_law_437 rfl (lv_at hl 3 rfl) ?_
  refine lv_iconst (v := nI 3) hx hb dL_law_438 rfl ?_
  refine n_iadd hx hb dL_law_439 ?_
  refine va_sld hx hb hX hbl hbA hS (vp_in_nI (show i + 3 < L by omega) (by omega)) dL_law_440 ?_
  refine i_push (b := xs (i + 3)) (by rw [nI_clamp (by omega)]) ?_
  refine k_callV (rest := [.int (op_inverse S (xs (i + 1)) (xs (i + 2)) (xs (i + 3))).1]) (nL := 4) ⟨hx, hb, hml, hown, hts⟩ (c_X5_inverse l D cy (aA (h + 143)) (aA_I 9 (h + 143)) v S (xs (i + 1)) (xs (i + 2)) (xs (i + 3)) hSI hM) (cwV 3 hts gL_law_X5_inverse rfl rfl rfl (by decide +kernel) ⟨Nat.le_of_ble_eq_true rfl, Nat.le_of_ble_eq_true rfl⟩) hK hP2 hS aA_A (q0 := 0) (ci := 5) rfl (by decide) mW_obj rfl rfl rfl hl.1 rfl (Nat.le_of_ble_eq_true rfl) dL_law_441 ⟨Nat.le_of_ble_eq_true rfl, Nat.le_of_ble_eq_true rfl⟩ (fun o u H2 locs hpost hP2 hS hfr => ?_)
  have hP1 := keepP hP1 hfr ad2_1
  obtain ⟨ho, hM⟩ := hpost
  subst ho
  exact lv_icmp_eq (tgt := 1034) hx hb dL_law_444 (by decide) (fun _ => next _ _ _ _ _ _ _ ⟨inv_inverse hSI _ _ _, hR, hM, hP1, hP2⟩ hS hl) (fun q => absurd rfl q)
set_option maxHeartbeats 4000000 in
set_option maxRecDepth 100000 in
theorem law_divide {p : Program} {l : Launch} {e : Env} {s : State} {m : MethodId} {below : List Frame} {meth : Method} {c : Code} {b L : Nat} {xs : Nat → Int32} {D : va_G} {cy : Nat → ClassId} {h i : Nat} (C1 : lwC p s m meth c b L xs D cy h) (hi : i + 5 ≤ L) (next : lwN p l e s m below meth c b D cy h i) {S : kSt} {ρ : Nat → kR} {x : kX} {v : kV} {H : Heap} {locs : List Loc} (hJ : lwI D cy h S ρ x v H) (hS : va_S (aF h) s.heap H locs) {ls : Array Slot} (hl : lv_has ls 4 (lwL b h i)) : lwW p l e s m below meth c b H locs 449 ls [] := by
  obtain ⟨⟨hx, hb, hr, hml, hown, hts0, hX, hbl, hlocks, hgv⟩, hL, hK, hh⟩ := C1
  obtain ⟨hSI, hR, hM, hP1, hP2⟩ := hJ
  have hts : ∀ w ∈ wsL_law, w.before #[Value.ref b] s = true := fun w hw => hts0 w (wsL_law_in w hw)
  have hown : s.vm.findClass RL = some m.cls := hown
  have hbA : ¬ aF h b := by unfold aF; omega
  refine lv_aload_n hx hb dL_law_449 rfl (lv_at hl 1 rfl) ?_
  refine lv_aload_n hx hb dL_law_450 rfl (lv_at hl 0 rfl) ?_
  refine lv_iload_n hx hb dL_law_451 rfl (lv_at hl 3 rfl) ?_
  refine lv_iconst (v := nI 1) hx hb dL_law_452 rfl ?_
  refine n_iadd hx hb dL_law_453 ?_
  refine va_sld hx hb hX hbl hbA hS (vp_in_nI (show i + 1 < L by omega) (by omega)) dL_law_454 ?_
  refine i_push (b := xs (i + 1)) (by rw [nI_clamp (by omega)]) ?_
  refine lv_aload_n hx hb dL_law_455 rfl (lv_at hl 0 rfl) ?_
  refine lv_iload_n hx hb dL_law_456 rfl (lv_at hl 3 rfl) ?_
  refine lv_iconst (v := nI 2) hx hb dL_law_457 rfl ?_
  refine n_iadd hx hb dL_law_458 ?_
  refine va_sld hx hb hX hbl hbA hS (vp_in_nI (show i + 2 < L by omega) (by omega)) dL_law_459 ?_
  refine i_push (b := xs (i + 2)) (by rw [nI_clamp (by omega)]) ?_
  refine lv_aload_n hx hb dL_law_460 rfl (lv_at hl 0 rfl) ?_
  refine lv_iload_n hx hb dL_law_461 rfl (lv_at hl 3 rfl) ?_
  refine lv_iconst (v := nI 3) hx hb dL_law_462 rfl ?_
  refine n_iadd hx hb dL_law_463 ?_
  refine va_sld hx hb hX hbl hbA hS (vp_in_nI (show i + 3 < L by omega) (by omega)) dL_law_464 ?_
  refine i_push (b := xs (i + 3)) (by rw [nI_clamp (by omega)]) ?_
  refine lv_aload_n hx hb dL_law_465 rfl (lv_at hl 0 rfl) ?_
  refine lv_iload_n hx hb dL_law_466 rfl (lv_at hl 3 rfl) ?_
  refine lv_iconst (v := nI 4) hx hb dL_law_467 rfl ?_
  refine n_iadd hx hb dL_law_468 ?_
  refine va_sld hx hb hX hbl hbA hS (vp_in_nI (show i + 4 < L by omega) (by omega)) dL_law_469 ?_
  refine i_push (b := xs (i + 4)) (by rw [nI_clamp (by omega)]) ?_
  refine k_callV (rest := []) (nL := 4) ⟨hx, hb, hml, hown, hts⟩ (c_X4_divide l D cy (ad1 h) (ad1_I h) ρ x S (xs (i + 1)) (xs (i + 2)) (xs (i + 3)) (xs (i + 4)) hSI hR) (cwV 4 hts gL_law_X4_divide rfl rfl rfl (by decide +kernel) ⟨Nat.le_of_ble_eq_true rfl, Nat.le_of_ble_eq_true rfl⟩) hK hP1 hS ad1_A (q0 := 136) (ci := 4) rfl (by decide) cW_top rfl rfl rfl hl.1 rfl (Nat.le_of_ble_eq_true rfl) dL_law_470 ⟨Nat.le_of_ble_eq_true rfl, Nat.le_of_ble_eq_true rfl⟩ (fun o u H1 locs hpost hP1 hS hfr => ?_)
  have hP2 := keepP hP2 hfr ad1_2
  obtain ⟨ρ, x⟩ := u
  obtain ⟨ho, hR⟩ := hpost
  subst ho
  refine lv_aload_n hx hb dL_law_473 rfl (lv_at hl 2 rfl) ?_
  refine lv_aload_n hx hb dL_law_474 rfl (lv_at hl 0 rfl) ?_
  refine lv_iload_n hx hb dL_law_475 rfl (lv_at hl 3 rfl) ?_
  refine lv_iconst (v := nI 1) hx hb dL_law_476 rfl ?_
  refine n_iadd hx hb dL_law_477 ?_
  refine va_sld hx hb hX hbl hbA hS (vp_in_nI (show i + 1 < L by omega) (by omega)) dL_law_478 ?_
  refine i_push (b := xs (i + 1)) (by rw [nI_clamp (by omega)]) ?_
  refine lv_aload_n hx hb dL_law_479 rfl (lv_at hl 0 rfl) ?_
  refine lv_iload_n hx hb dL_law_480 rfl (lv_at hl 3 rfl) ?_
  refine lv_iconst (v := nI 2) hx hb dL_law_481 rfl ?_
  refine n_iadd hx hb dL_law_482 ?_
  refine va_sld hx hb hX hbl hbA hS (vp_in_nI (show i + 2 < L by omega) (by omega)) dL_law_483 ?_
  refine i_push (b := xs (i + 2)) (by rw [nI_clamp (by omega)]) ?_
  refine lv_aload_n hx hb dL_law_484 rfl (lv_at hl 0 rfl) ?_
  refine lv_iload_n hx hb dL_law_485 rfl (lv_at hl 3 rfl) ?_
  refine lv_iconst (v := nI 3) hx hb dL_law_486 rfl ?_
  refine n_iadd hx hb dL_law_487 ?_
  refine va_sld hx hb hX hbl hbA hS (vp_in_nI (show i + 3 < L by omega) (by omega)) dL_law_488 ?_
  refine i_push (b := xs (i + 3)) (by rw [nI_clamp (by omega)]) ?_
  refine lv_aload_n hx hb dL_law_489 rfl (lv_at hl 0 rfl) ?_
  refine lv_iload_n hx hb dL_law_490 rfl (lv_at hl 3 rfl) ?_
  refine lv_iconst (v := nI 4) hx hb dL_law_491 rfl ?_
  refine n_iadd hx hb dL_law_492 ?_
  refine va_sld hx hb hX hbl hbA hS (vp_in_nI (show i + 4 < L by omega) (by omega)) dL_law_493 ?_
  refine i_push (b := xs (i + 4)) (by rw [nI_clamp (by omega)]) ?_
  refine k_callV (rest := [.int (op_divide S (xs (i + 1)) (xs (i + 2)) (xs (i + 3)) (xs (i + 4))).1]) (nL := 4) ⟨hx, hb, hml, hown, hts⟩ (c_X5_divide l D cy (aA (h + 143)) (aA_I 9 (h + 143)) v S (xs (i + 1)) (xs (i + 2)) (xs (i + 3)) (xs (i + 4)) hSI hM) (cwV 4 hts gL_law_X5_divide rfl rfl rfl (by decide +kernel) ⟨Nat.le_of_ble_eq_true rfl, Nat.le_of_ble_eq_true rfl⟩) hK hP2 hS aA_A (q0 := 0) (ci := 5) rfl (by decide) mW_obj rfl rfl rfl hl.1 rfl (Nat.le_of_ble_eq_true rfl) dL_law_494 ⟨Nat.le_of_ble_eq_true rfl, Nat.le_of_ble_eq_true rfl⟩ (fun o u H2 locs hpost hP2 hS hfr => ?_)
  have hP1 := keepP hP1 hfr ad2_1
  obtain ⟨ho, hM⟩ := hpost
  subst ho
  exact lv_icmp_eq (tgt := 1034) hx hb dL_law_497 (by decide) (fun _ => next _ _ _ _ _ _ _ ⟨inv_divide hSI _ _ _ _, hR, hM, hP1, hP2⟩ hS hl) (fun q => absurd rfl q)
set_option maxHeartbeats 4000000 in
set_option maxRecDepth 100000 in
theorem law_divisor {p : Program} {l : Launch} {e : Env} {s : State} {m : MethodId} {below : List Frame} {meth : Method} {c : Code} {b L : Nat} {xs : Nat → Int32} {D : va_G} {cy : Nat → ClassId} {h i : Nat} (C1 : lwC p s m meth c b L xs D cy h) (hi : i + 5 ≤ L) (next : lwN p l e s m below meth c b D cy h i) {S : kSt} {ρ : Nat → kR} {x : kX} {v : kV} {H : Heap} {locs : List Loc} (hJ : lwI D cy h S ρ x v H) (hS : va_S (aF h) s.heap H locs) {ls : Array Slot} (hl : lv_has ls 4 (lwL b h i)) : lwW p l e s m below meth c b H locs 502 ls [] := by
  obtain ⟨⟨hx, hb, hr, hml, hown, hts0, hX, hbl, hlocks, hgv⟩, hL, hK, hh⟩ := C1
  obtain ⟨hSI, hR, hM, hP1, hP2⟩ := hJ
  have hts : ∀ w ∈ wsL_law, w.before #[Value.ref b] s = true := fun w hw => hts0 w (wsL_law_in w hw)
  have hown : s.vm.findClass RL = some m.cls := hown
  have hbA : ¬ aF h b := by unfold aF; omega
  refine lv_aload_n hx hb dL_law_502 rfl (lv_at hl 1 rfl) ?_
  refine lv_aload_n hx hb dL_law_503 rfl (lv_at hl 0 rfl) ?_
  refine lv_iload_n hx hb dL_law_504 rfl (lv_at hl 3 rfl) ?_
  refine lv_iconst (v := nI 1) hx hb dL_law_505 rfl ?_
  refine n_iadd hx hb dL_law_506 ?_
  refine va_sld hx hb hX hbl hbA hS (vp_in_nI (show i + 1 < L by omega) (by omega)) dL_law_507 ?_
  refine i_push (b := xs (i + 1)) (by rw [nI_clamp (by omega)]) ?_
  refine lv_aload_n hx hb dL_law_508 rfl (lv_at hl 0 rfl) ?_
  refine lv_iload_n hx hb dL_law_509 rfl (lv_at hl 3 rfl) ?_
  refine lv_iconst (v := nI 2) hx hb dL_law_510 rfl ?_
  refine n_iadd hx hb dL_law_511 ?_
  refine va_sld hx hb hX hbl hbA hS (vp_in_nI (show i + 2 < L by omega) (by omega)) dL_law_512 ?_
  refine i_push (b := xs (i + 2)) (by rw [nI_clamp (by omega)]) ?_
  refine lv_aload_n hx hb dL_law_513 rfl (lv_at hl 0 rfl) ?_
  refine lv_iload_n hx hb dL_law_514 rfl (lv_at hl 3 rfl) ?_
  refine lv_iconst (v := nI 3) hx hb dL_law_515 rfl ?_
  refine n_iadd hx hb dL_law_516 ?_
  refine va_sld hx hb hX hbl hbA hS (vp_in_nI (show i + 3 < L by omega) (by omega)) dL_law_517 ?_
  refine i_push (b := xs (i + 3)) (by rw [nI_clamp (by omega)]) ?_
  refine k_callV (rest := []) (nL := 4) ⟨hx, hb, hml, hown, hts⟩ (c_X4_divisor l D cy (ad1 h) (ad1_I h) ρ x S (xs (i + 1)) (xs (i + 2)) (xs (i + 3)) hSI hR) (cwV 3 hts gL_law_X4_divisor rfl rfl rfl (by decide +kernel) ⟨Nat.le_of_ble_eq_true rfl, Nat.le_of_ble_eq_true rfl⟩) hK hP1 hS ad1_A (q0 := 136) (ci := 4) rfl (by decide) cW_top rfl rfl rfl hl.1 rfl (Nat.le_of_ble_eq_true rfl) dL_law_518 ⟨Nat.le_of_ble_eq_true rfl, Nat.le_of_ble_eq_true rfl⟩ (fun o u H1 locs hpost hP1 hS hfr => ?_)
  have hP2 := keepP hP2 hfr ad1_2
  obtain ⟨ρ, x⟩ := u
  obtain ⟨ho, hR⟩ := hpost
  subst ho
  refine lv_aload_n hx hb dL_law_521 rfl (lv_at hl 2 rfl) ?_
  refine lv_aload_n hx hb dL_law_522 rfl (lv_at hl 0 rfl) ?_
  refine lv_iload_n hx hb dL_law_523 rfl (lv_at hl 3 rfl) ?_
  refine lv_iconst (v := nI 1) hx hb dL_law_524 rfl ?_
  refine n_iadd hx hb dL_law_525 ?_
  refine va_sld hx hb hX hbl hbA hS (vp_in_nI (show i + 1 < L by omega) (by omega)) dL_law_526 ?_
  refine i_push (b := xs (i + 1)) (by rw [nI_clamp (by omega)]) ?_
  refine lv_aload_n hx hb dL_law_527 rfl (lv_at hl 0 rfl) ?_
  refine lv_iload_n hx hb dL_law_528 rfl (lv_at hl 3 rfl) ?_
  refine lv_iconst (v := nI 2) hx hb dL_law_529 rfl ?_
  refine n_iadd hx hb dL_law_530 ?_
  refine va_sld hx hb hX hbl hbA hS (vp_in_nI (show i + 2 < L by omega) (by omega)) dL_law_531 ?_
  refine i_push (b := xs (i + 2)) (by rw [nI_clamp (by omega)]) ?_
  refine lv_aload_n hx hb dL_law_532 rfl (lv_at hl 0 rfl) ?_
  refine lv_iload_n hx hb dL_law_533 rfl (lv_at hl 3 rfl) ?_
  refine lv_iconst (v := nI 3) hx hb dL_law_534 rfl ?_
  refine n_iadd hx hb dL_law_535 ?_
  refine va_sld hx hb hX hbl hbA hS (vp_in_nI (show i + 3 < L by omega) (by omega)) dL_law_536 ?_
  refine i_push (b := xs (i + 3)) (by rw [nI_clamp (by omega)]) ?_
  refine k_callV (rest := [.int (op_divisor S (xs (i + 1)) (xs (i + 2)) (xs (i + 3))).1]) (nL := 4) ⟨hx, hb, hml, hown, hts⟩ (c_X5_divisor l D cy (aA (h + 143)) (aA_I 9 (h + 143)) v S (xs (i + 1)) (xs (i + 2)) (xs (i + 3)) hSI hM) (cwV 3 hts gL_law_X5_divisor rfl rfl rfl (by decide +kernel) ⟨Nat.le_of_ble_eq_true rfl, Nat.le_of_ble_eq_true rfl⟩) hK hP2 hS aA_A (q0 := 0) (ci := 5) rfl (by decide) mW_obj rfl rfl rfl hl.1 rfl (Nat.le_of_ble_eq_true rfl) dL_law_537 ⟨Nat.le_of_ble_eq_true rfl, Nat.le_of_ble_eq_true rfl⟩ (fun o u H2 locs hpost hP2 hS hfr => ?_)
  have hP1 := keepP hP1 hfr ad2_1
  obtain ⟨ho, hM⟩ := hpost
  subst ho
  exact lv_icmp_eq (tgt := 1034) hx hb dL_law_540 (by decide) (fun _ => next _ _ _ _ _ _ _ ⟨inv_divisor hSI _ _ _, hR, hM, hP1, hP2⟩ hS hl) (fun q => absurd rfl q)
set_option maxHeartbeats 4000000 in
set_option maxRecDepth 100000 in
theorem law_turn {p : Program} {l : Launch} {e : Env} {s : State} {m : MethodId} {below : List Frame} {meth : Method} {c : Code} {b L : Nat} {xs : Nat → Int32} {D : va_G} {cy : Nat → ClassId} {h i : Nat} (C1 : lwC p s m meth c b L xs D cy h) (hi : i + 5 ≤ L) (next : lwN p l e s m below meth c b D cy h i) {S : kSt} {ρ : Nat → kR} {x : kX} {v : kV} {H : Heap} {locs : List Loc} (hJ : lwI D cy h S ρ x v H) (hS : va_S (aF h) s.heap H locs) {ls : Array Slot} (hl : lv_has ls 4 (lwL b h i)) : lwW p l e s m below meth c b H locs 545 ls [] := by
  obtain ⟨⟨hx, hb, hr, hml, hown, hts0, hX, hbl, hlocks, hgv⟩, hL, hK, hh⟩ := C1
  obtain ⟨hSI, hR, hM, hP1, hP2⟩ := hJ
  have hts : ∀ w ∈ wsL_law, w.before #[Value.ref b] s = true := fun w hw => hts0 w (wsL_law_in w hw)
  have hown : s.vm.findClass RL = some m.cls := hown
  have hbA : ¬ aF h b := by unfold aF; omega
  refine lv_aload_n hx hb dL_law_545 rfl (lv_at hl 1 rfl) ?_
  refine lv_aload_n hx hb dL_law_546 rfl (lv_at hl 0 rfl) ?_
  refine lv_iload_n hx hb dL_law_547 rfl (lv_at hl 3 rfl) ?_
  refine lv_iconst (v := nI 1) hx hb dL_law_548 rfl ?_
  refine n_iadd hx hb dL_law_549 ?_
  refine va_sld hx hb hX hbl hbA hS (vp_in_nI (show i + 1 < L by omega) (by omega)) dL_law_550 ?_
  refine i_push (b := xs (i + 1)) (by rw [nI_clamp (by omega)]) ?_
  refine lv_aload_n hx hb dL_law_551 rfl (lv_at hl 0 rfl) ?_
  refine lv_iload_n hx hb dL_law_552 rfl (lv_at hl 3 rfl) ?_
  refine lv_iconst (v := nI 2) hx hb dL_law_553 rfl ?_
  refine n_iadd hx hb dL_law_554 ?_
  refine va_sld hx hb hX hbl hbA hS (vp_in_nI (show i + 2 < L by omega) (by omega)) dL_law_555 ?_
  refine i_push (b := xs (i + 2)) (by rw [nI_clamp (by omega)]) ?_
  refine lv_aload_n hx hb dL_law_556 rfl (lv_at hl 0 rfl) ?_
  refine lv_iload_n hx hb dL_law_557 rfl (lv_at hl 3 rfl) ?_
  refine lv_iconst (v := nI 3) hx hb dL_law_558 rfl ?_
  refine n_iadd hx hb dL_law_559 ?_
  refine va_sld hx hb hX hbl hbA hS (vp_in_nI (show i + 3 < L by omega) (by omega)) dL_law_560 ?_
  refine i_push (b := xs (i + 3)) (by rw [nI_clamp (by omega)]) ?_
  refine k_callV (rest := []) (nL := 4) ⟨hx, hb, hml, hown, hts⟩ (c_X4_turn l D cy (ad1 h) (ad1_I h) ρ x S (xs (i + 1)) (xs (i + 2)) (xs (i + 3)) hSI hR) (cwV 3 hts gL_law_X4_turn rfl rfl rfl (by decide +kernel) ⟨Nat.le_of_ble_eq_true rfl, Nat.le_of_ble_eq_true rfl⟩) hK hP1 hS ad1_A (q0 := 136) (ci := 4) rfl (by decide) cW_top rfl rfl rfl hl.1 rfl (Nat.le_of_ble_eq_true rfl) dL_law_561 ⟨Nat.le_of_ble_eq_true rfl, Nat.le_of_ble_eq_true rfl⟩ (fun o u H1 locs hpost hP1 hS hfr => ?_)
  have hP2 := keepP hP2 hfr ad1_2
  obtain ⟨ρ, x⟩ := u
  obtain ⟨ho, hR⟩ := hpost
  subst ho
  refine lv_aload_n hx hb dL_law_564 rfl (lv_at hl 2 rfl) ?_
  refine lv_aload_n hx hb dL_law_565 rfl (lv_at hl 0 rfl) ?_
  refine lv_iload_n hx hb dL_law_566 rfl (lv_at hl 3 rfl) ?_
  refine lv_iconst (v := nI 1) hx hb dL_law_567 rfl ?_
  refine n_iadd hx hb dL_law_568 ?_
  refine va_sld hx hb hX hbl hbA hS (vp_in_nI (show i + 1 < L by omega) (by omega)) dL_law_569 ?_
  refine i_push (b := xs (i + 1)) (by rw [nI_clamp (by omega)]) ?_
  refine lv_aload_n hx hb dL_law_570 rfl (lv_at hl 0 rfl) ?_
  refine lv_iload_n hx hb dL_law_571 rfl (lv_at hl 3 rfl) ?_
  refine lv_iconst (v := nI 2) hx hb dL_law_572 rfl ?_
  refine n_iadd hx hb dL_law_573 ?_
  refine va_sld hx hb hX hbl hbA hS (vp_in_nI (show i + 2 < L by omega) (by omega)) dL_law_574 ?_
  refine i_push (b := xs (i + 2)) (by rw [nI_clamp (by omega)]) ?_
  refine lv_aload_n hx hb dL_law_575 rfl (lv_at hl 0 rfl) ?_
  refine lv_iload_n hx hb dL_law_576 rfl (lv_at hl 3 rfl) ?_
  refine lv_iconst (v := nI 3) hx hb dL_law_577 rfl ?_
  refine n_iadd hx hb dL_law_578 ?_
  refine va_sld hx hb hX hbl hbA hS (vp_in_nI (show i + 3 < L by omega) (by omega)) dL_law_579 ?_
  refine i_push (b := xs (i + 3)) (by rw [nI_clamp (by omega)]) ?_
  refine k_callV (rest := [.int (op_turn S (xs (i + 1)) (xs (i + 2)) (xs (i + 3))).1]) (nL := 4) ⟨hx, hb, hml, hown, hts⟩ (c_X5_turn l D cy (aA (h + 143)) (aA_I 9 (h + 143)) v S (xs (i + 1)) (xs (i + 2)) (xs (i + 3)) hSI hM) (cwV 3 hts gL_law_X5_turn rfl rfl rfl (by decide +kernel) ⟨Nat.le_of_ble_eq_true rfl, Nat.le_of_ble_eq_true rfl⟩) hK hP2 hS aA_A (q0 := 0) (ci := 5) rfl (by decide) mW_obj rfl rfl rfl hl.1 rfl (Nat.le_of_ble_eq_true rfl) dL_law_580 ⟨Nat.le_of_ble_eq_true rfl, Nat.le_of_ble_eq_true rfl⟩ (fun o u H2 locs hpost hP2 hS hfr => ?_)
  have hP1 := keepP hP1 hfr ad2_1
  obtain ⟨ho, hM⟩ := hpost
  subst ho
  exact lv_icmp_eq (tgt := 1034) hx hb dL_law_583 (by decide) (fun _ => next _ _ _ _ _ _ _ ⟨inv_turn hSI _ _ _, hR, hM, hP1, hP2⟩ hS hl) (fun q => absurd rfl q)
set_option maxHeartbeats 4000000 in
set_option maxRecDepth 100000 in
theorem law_turnBack {p : Program} {l : Launch} {e : Env} {s : State} {m : MethodId} {below : List Frame} {meth : Method} {c : Code} {b L : Nat} {xs : Nat → Int32} {D : va_G} {cy : Nat → ClassId} {h i : Nat} (C1 : lwC p s m meth c b L xs D cy h) (hi : i + 5 ≤ L) (next : lwN p l e s m below meth c b D cy h i) {S : kSt} {ρ : Nat → kR} {x : kX} {v : kV} {H : Heap} {locs : List Loc} (hJ : lwI D cy h S ρ x v H) (hS : va_S (aF h) s.heap H locs) {ls : Array Slot} (hl : lv_has ls 4 (lwL b h i)) : lwW p l e s m below meth c b H locs 588 ls [] := by
  obtain ⟨⟨hx, hb, hr, hml, hown, hts0, hX, hbl, hlocks, hgv⟩, hL, hK, hh⟩ := C1
  obtain ⟨hSI, hR, hM, hP1, hP2⟩ := hJ
  have hts : ∀ w ∈ wsL_law, w.before #[Value.ref b] s = true := fun w hw => hts0 w (wsL_law_in w hw)
  have hown : s.vm.findClass RL = some m.cls := hown
  have hbA : ¬ aF h b := by unfold aF; omega
  refine lv_aload_n hx hb dL_law_588 rfl (lv_at hl 1 rfl) ?_
  refine lv_aload_n hx hb dL_law_589 rfl (lv_at hl 0 rfl) ?_
  refine lv_iload_n hx hb dL_law_590 rfl (lv_at hl 3 rfl) ?_
  refine lv_iconst (v := nI 1) hx hb dL_law_591 rfl ?_
  refine n_iadd hx hb dL_law_592 ?_
  refine va_sld hx hb hX hbl hbA hS (vp_in_nI (show i + 1 < L by omega) (by omega)) dL_law_593 ?_
  refine i_push (b := xs (i + 1)) (by rw [nI_clamp (by omega)]) ?_
  refine lv_aload_n hx hb dL_law_594 rfl (lv_at hl 0 rfl) ?_
  refine lv_iload_n hx hb dL_law_595 rfl (lv_at hl 3 rfl) ?_
  refine lv_iconst (v := nI 2) hx hb dL_law_596 rfl ?_
  refine n_iadd hx hb dL_law_597 ?_
  refine va_sld hx hb hX hbl hbA hS (vp_in_nI (show i + 2 < L by omega) (by omega)) dL_law_598 ?_
  refine i_push (b := xs (i + 2)) (by rw [nI_clamp (by omega)]) ?_
  refine k_callV (rest := []) (nL := 4) ⟨hx, hb, hml, hown, hts⟩ (c_X4_turnBack l D cy (ad1 h) (ad1_I h) ρ x S (xs (i + 1)) (xs (i + 2)) hSI hR) (cwV 2 hts gL_law_X4_turnBack rfl rfl rfl (by decide +kernel) ⟨Nat.le_of_ble_eq_true rfl, Nat.le_of_ble_eq_true rfl⟩) hK hP1 hS ad1_A (q0 := 136) (ci := 4) rfl (by decide) cW_top rfl rfl rfl hl.1 rfl (Nat.le_of_ble_eq_true rfl) dL_law_599 ⟨Nat.le_of_ble_eq_true rfl, Nat.le_of_ble_eq_true rfl⟩ (fun o u H1 locs hpost hP1 hS hfr => ?_)
  have hP2 := keepP hP2 hfr ad1_2
  obtain ⟨ρ, x⟩ := u
  obtain ⟨ho, hR⟩ := hpost
  subst ho
  refine lv_aload_n hx hb dL_law_602 rfl (lv_at hl 2 rfl) ?_
  refine lv_aload_n hx hb dL_law_603 rfl (lv_at hl 0 rfl) ?_
  refine lv_iload_n hx hb dL_law_604 rfl (lv_at hl 3 rfl) ?_
  refine lv_iconst (v := nI 1) hx hb dL_law_605 rfl ?_
  refine n_iadd hx hb dL_law_606 ?_
  refine va_sld hx hb hX hbl hbA hS (vp_in_nI (show i + 1 < L by omega) (by omega)) dL_law_607 ?_
  refine i_push (b := xs (i + 1)) (by rw [nI_clamp (by omega)]) ?_
  refine lv_aload_n hx hb dL_law_608 rfl (lv_at hl 0 rfl) ?_
  refine lv_iload_n hx hb dL_law_609 rfl (lv_at hl 3 rfl) ?_
  refine lv_iconst (v := nI 2) hx hb dL_law_610 rfl ?_
  refine n_iadd hx hb dL_law_611 ?_
  refine va_sld hx hb hX hbl hbA hS (vp_in_nI (show i + 2 < L by omega) (by omega)) dL_law_612 ?_
  refine i_push (b := xs (i + 2)) (by rw [nI_clamp (by omega)]) ?_
  refine k_callV (rest := [.int (op_turnBack S (xs (i + 1)) (xs (i + 2))).1]) (nL := 4) ⟨hx, hb, hml, hown, hts⟩ (c_X5_turnBack l D cy (aA (h + 143)) (aA_I 9 (h + 143)) v S (xs (i + 1)) (xs (i + 2)) hSI hM) (cwV 2 hts gL_law_X5_turnBack rfl rfl rfl (by decide +kernel) ⟨Nat.le_of_ble_eq_true rfl, Nat.le_of_ble_eq_true rfl⟩) hK hP2 hS aA_A (q0 := 0) (ci := 5) rfl (by decide) mW_obj rfl rfl rfl hl.1 rfl (Nat.le_of_ble_eq_true rfl) dL_law_613 ⟨Nat.le_of_ble_eq_true rfl, Nat.le_of_ble_eq_true rfl⟩ (fun o u H2 locs hpost hP2 hS hfr => ?_)
  have hP1 := keepP hP1 hfr ad2_1
  obtain ⟨ho, hM⟩ := hpost
  subst ho
  exact lv_icmp_eq (tgt := 1034) hx hb dL_law_616 (by decide) (fun _ => next _ _ _ _ _ _ _ ⟨inv_turnBack hSI _ _, hR, hM, hP1, hP2⟩ hS hl) (fun q => absurd rfl q)
