set_option maxHeartbeats 4000000 in
set_option maxRecDepth 100000 in
theorem c_X5_init (l : Launch) (D : va_G) (cy : Nat → ClassId) (h : Nat) : kC l yX5_init wsX5_init ({ frames := 1, cells := 8, slots := 3784, locals := 12 }) D cy h 5 [.null, .null, .null, .null, .int 0, .null, .int 0, .null, .int 0, .null, .null] 9 (mW (aA h) cy (v1K 6)) 8 3784 := by
  refine c_met cX5_init 2 (by decide) rfl rfl (Nat.le_of_ble_eq_true rfl) ?_
  intro p e s m below meth c ls hx hb hr hts hown hlocks hml hin hK hT hz hP hS hl
  have hown : s.vm.findClass RX5 = some m.cls := hown
  have hw_X5 : ∀ qw ∈ wsX50, qw.before ([.ref (aA h 0)] : List Value).toArray s = true := fun qw hq => hts qw ((by decide +kernel : ∀ qw ∈ wsX50, qw ∈ wsX5_init) qw hq)
  have hcI : s.vm.findClass ("[" ++ (newarray.typeOf .int).toString) = some (cy 0) := (hK.2 0 _ rfl).2
  have hcZ : s.vm.findClass ("[" ++ (newarray.typeOf .boolean).toString) = some (cy 1) := (hK.2 1 _ rfl).2
  have hcC : s.vm.findClass ("[" ++ (newarray.typeOf .char).toString) = some (cy 2) := (hK.2 2 _ rfl).2
  have hcR : s.vm.findClass ("[" ++ (FieldType.object RX2).toString) = some (cy 3) := by
    obtain ⟨_, _, _, _, _, z⟩ := (hK.2 3 _ rfl).2
    exact z
  have hcS : s.vm.findClass ("[" ++ (FieldType.object RX3).toString) = some (cy 4) := by
    obtain ⟨_, _, _, _, _, z⟩ := (hK.2 4 _ rfl).2
    exact z
  have hP := wL_ext (Wd' := mdW cy h (v1K 0) [.null, .null, .null, .null, .int 0, .null, .int 0, .null, .int 0, .null, .null]) (fun j hj => by rw [show j = 0 by omega]; exact mdW_0.symm) hP
  refine lv_aload_n hx hb dX5_init_0 rfl (lv_at hl 0 rfl) ?_
  refine W.objInit hx hb hown (hts (.methodLink RX5 1 objectInit) (by decide +kernel)) (hts (.instanceMethod objectInit) (by decide +kernel)) (hts (.code objectInit ⟨#[0xb1]⟩ 1 none) (by decide +kernel)) rfl (by rw [hml]; exact hl.1) rfl dX5_init_1 (Nat.le_of_ble_eq_true rfl) (Nat.le_of_ble_eq_true rfl) ?_
  refine W.eq (g2 := F0 m 4 ls []) rfl ?_
  refine lv_aload_n hx hb dX5_init_4 rfl (lv_at hl 0 rfl) ?_
  refine lv_sipush (v := nI 390) hx hb dX5_init_5 rfl ?_
  refine c_newa (atype := .int) (cA := cy 0) (a0 := (390, .inl (fun _ => nI 0))) hx hb (hts (.arrayClass .int) (by decide +kernel)) hcI hP hz hS rfl (by decide) (Nat.le_of_ble_eq_true rfl) (by show _ ≤ 8; omega) (by show _ ≤ 3784; omega) dX5_init_8 (fun H hP hz hS => ?_)
  rw [va_up_id (show mdW cy h (v1K 0) [.null, .null, .null, .null, .int 0, .null, .int 0, .null, .int 0, .null, .null] 1 = .inl (cy 0, 390, .inl (fun _ => nI 0)) from (mdW_s (by decide)).trans (congrArg (fun (f : Nat → Nat) => (Sum.inl (cy 0, 390, .inl (fun j => nI (f j))) : va_E)) z1K_0))] at hP
  refine c_putF (own := RX5) (C := RX5) (T := TX5) (Nf := 11) (ci := 5) (q0 := 0) (k := 0) (fs := [.null, .null, .null, .null, .int 0, .null, .int 0, .null, .int 0, .null, .null]) (v := .ref (aA h 1)) (ty := .array .int) (Wd' := mdW cy h (v1K 0) [.ref (aA h 1), .null, .null, .null, .int 0, .null, .int 0, .null, .int 0, .null, .null]) hx hb hw_X5 tyX5 tyX5_ok nmX5 hown hin hK hP hS (by omega) mdW_0 rfl (by decide) (hts (.fieldLink RX5 7 "TurnedRowsModel" "z" "[I") (by decide +kernel)) rfl rfl (by decide +kernel) rfl rfl (Nat.le_of_ble_eq_true rfl) mdW_fs dX5_init_10 (fun H locs hP hz1 hS => ?_)
  have hz := hz1.trans hz
  refine lv_aload_n hx hb dX5_init_13 rfl (lv_at hl 0 rfl) ?_
  refine lv_sipush (v := nI 2340) hx hb dX5_init_14 rfl ?_
  refine c_newa (atype := .int) (cA := cy 0) (a0 := (2340, .inl (fun _ => nI 0))) hx hb (hts (.arrayClass .int) (by decide +kernel)) hcI hP hz hS rfl (by decide) (Nat.le_of_ble_eq_true rfl) (by show _ ≤ 8; omega) (by show _ ≤ 3784; omega) dX5_init_17 (fun H hP hz hS => ?_)
  rw [va_up_id (show mdW cy h (v1K 0) [.ref (aA h 1), .null, .null, .null, .int 0, .null, .int 0, .null, .int 0, .null, .null] 2 = .inl (cy 0, 2340, .inl (fun _ => nI 0)) from (mdW_s (by decide)).trans rfl)] at hP
  refine c_putF (own := RX5) (C := RX5) (T := TX5) (Nf := 11) (ci := 5) (q0 := 0) (k := 1) (fs := [.ref (aA h 1), .null, .null, .null, .int 0, .null, .int 0, .null, .int 0, .null, .null]) (v := .ref (aA h 2)) (ty := .array .int) (Wd' := mdW cy h (v1K 0) [.ref (aA h 1), .ref (aA h 2), .null, .null, .int 0, .null, .int 0, .null, .int 0, .null, .null]) hx hb hw_X5 tyX5 tyX5_ok nmX5 hown hin hK hP hS (by omega) mdW_0 rfl (by decide) (hts (.fieldLink RX5 13 "TurnedRowsModel" "past" "[I") (by decide +kernel)) rfl rfl (by decide +kernel) rfl rfl (Nat.le_of_ble_eq_true rfl) mdW_fs dX5_init_19 (fun H locs hP hz1 hS => ?_)
  have hz := hz1.trans hz
  refine lv_aload_n hx hb dX5_init_22 rfl (lv_at hl 0 rfl) ?_
  refine lv_sipush (v := nI 780) hx hb dX5_init_23 rfl ?_
  refine c_newa (atype := .int) (cA := cy 0) (a0 := (780, .inl (fun _ => nI 0))) hx hb (hts (.arrayClass .int) (by decide +kernel)) hcI hP hz hS rfl (by decide) (Nat.le_of_ble_eq_true rfl) (by show _ ≤ 8; omega) (by show _ ≤ 3784; omega) dX5_init_26 (fun H hP hz hS => ?_)
  rw [va_up_id (show mdW cy h (v1K 0) [.ref (aA h 1), .ref (aA h 2), .null, .null, .int 0, .null, .int 0, .null, .int 0, .null, .null] 3 = .inl (cy 0, 780, .inl (fun _ => nI 0)) from (mdW_s (by decide)).trans rfl)] at hP
  refine c_putF (own := RX5) (C := RX5) (T := TX5) (Nf := 11) (ci := 5) (q0 := 0) (k := 2) (fs := [.ref (aA h 1), .ref (aA h 2), .null, .null, .int 0, .null, .int 0, .null, .int 0, .null, .null]) (v := .ref (aA h 3)) (ty := .array .int) (Wd' := mdW cy h (v1K 0) [.ref (aA h 1), .ref (aA h 2), .ref (aA h 3), .null, .int 0, .null, .int 0, .null, .int 0, .null, .null]) hx hb hw_X5 tyX5 tyX5_ok nmX5 hown hin hK hP hS (by omega) mdW_0 rfl (by decide) (hts (.fieldLink RX5 16 "TurnedRowsModel" "slots" "[I") (by decide +kernel)) rfl rfl (by decide +kernel) rfl rfl (Nat.le_of_ble_eq_true rfl) mdW_fs dX5_init_28 (fun H locs hP hz1 hS => ?_)
  have hz := hz1.trans hz
  refine lv_aload_n hx hb dX5_init_31 rfl (lv_at hl 0 rfl) ?_
  refine lv_iconst (v := nI 2) hx hb dX5_init_32 rfl ?_
  refine c_newa (atype := .boolean) (cA := cy 1) (a0 := (2, .inl (fun _ => nI 0))) hx hb (hts (.arrayClass .boolean) (by decide +kernel)) hcZ hP hz hS rfl (by decide) (Nat.le_of_ble_eq_true rfl) (by show _ ≤ 8; omega) (by show _ ≤ 3784; omega) dX5_init_33 (fun H hP hz hS => ?_)
  rw [va_up_id (show mdW cy h (v1K 0) [.ref (aA h 1), .ref (aA h 2), .ref (aA h 3), .null, .int 0, .null, .int 0, .null, .int 0, .null, .null] 4 = .inl (cy 1, 2, .inl (fun _ => nI 0)) from (mdW_s (by decide)).trans rfl)] at hP
  refine c_putF (own := RX5) (C := RX5) (T := TX5) (Nf := 11) (ci := 5) (q0 := 0) (k := 3) (fs := [.ref (aA h 1), .ref (aA h 2), .ref (aA h 3), .null, .int 0, .null, .int 0, .null, .int 0, .null, .null]) (v := .ref (aA h 4)) (ty := .array .boolean) (Wd' := mdW cy h (v1K 0) [.ref (aA h 1), .ref (aA h 2), .ref (aA h 3), .ref (aA h 4), .int 0, .null, .int 0, .null, .int 0, .null, .null]) hx hb hw_X5 tyX5 tyX5_ok nmX5 hown hin hK hP hS (by omega) mdW_0 rfl (by decide) (hts (.fieldLink RX5 19 "TurnedRowsModel" "isSaved" "[Z") (by decide +kernel)) rfl rfl (by decide +kernel) rfl rfl (Nat.le_of_ble_eq_true rfl) mdW_fs dX5_init_35 (fun H locs hP hz1 hS => ?_)
  have hz := hz1.trans hz
  refine lv_aload_n hx hb dX5_init_38 rfl (lv_at hl 0 rfl) ?_
  refine lv_bipush (v := nI 80) hx hb dX5_init_39 rfl ?_
  refine c_newa (atype := .char) (cA := cy 2) (a0 := (80, .inl (fun _ => nI 0))) hx hb (hts (.arrayClass .char) (by decide +kernel)) hcC hP hz hS rfl (by decide) (Nat.le_of_ble_eq_true rfl) (by show _ ≤ 8; omega) (by show _ ≤ 3784; omega) dX5_init_41 (fun H hP hz hS => ?_)
  rw [va_up_id (show mdW cy h (v1K 0) [.ref (aA h 1), .ref (aA h 2), .ref (aA h 3), .ref (aA h 4), .int 0, .null, .int 0, .null, .int 0, .null, .null] 5 = .inl (cy 2, 80, .inl (fun _ => nI 0)) from (mdW_s (by decide)).trans rfl)] at hP
  refine c_putF (own := RX5) (C := RX5) (T := TX5) (Nf := 11) (ci := 5) (q0 := 0) (k := 5) (fs := [.ref (aA h 1), .ref (aA h 2), .ref (aA h 3), .ref (aA h 4), .int 0, .null, .int 0, .null, .int 0, .null, .null]) (v := .ref (aA h 5)) (ty := .array .char) (Wd' := mdW cy h (v1K 0) [.ref (aA h 1), .ref (aA h 2), .ref (aA h 3), .ref (aA h 4), .int 0, .ref (aA h 5), .int 0, .null, .int 0, .null, .null]) hx hb hw_X5 tyX5 tyX5_ok nmX5 hown hin hK hP hS (by omega) mdW_0 rfl (by decide) (hts (.fieldLink RX5 23 "TurnedRowsModel" "pad" "[C") (by decide +kernel)) rfl rfl (by decide +kernel) rfl rfl (Nat.le_of_ble_eq_true rfl) mdW_fs dX5_init_43 (fun H locs hP hz1 hS => ?_)
  have hz := hz1.trans hz
  refine lv_aload_n hx hb dX5_init_46 rfl (lv_at hl 0 rfl) ?_
  refine lv_bipush (v := nI 64) hx hb dX5_init_47 rfl ?_
  refine c_newa (atype := .int) (cA := cy 0) (a0 := (64, .inl (fun _ => nI 0))) hx hb (hts (.arrayClass .int) (by decide +kernel)) hcI hP hz hS rfl (by decide) (Nat.le_of_ble_eq_true rfl) (by show _ ≤ 8; omega) (by show _ ≤ 3784; omega) dX5_init_49 (fun H hP hz hS => ?_)
  rw [va_up_id (show mdW cy h (v1K 0) [.ref (aA h 1), .ref (aA h 2), .ref (aA h 3), .ref (aA h 4), .int 0, .ref (aA h 5), .int 0, .null, .int 0, .null, .null] 6 = .inl (cy 0, 64, .inl (fun _ => nI 0)) from (mdW_s (by decide)).trans rfl)] at hP
  refine c_putF (own := RX5) (C := RX5) (T := TX5) (Nf := 11) (ci := 5) (q0 := 0) (k := 7) (fs := [.ref (aA h 1), .ref (aA h 2), .ref (aA h 3), .ref (aA h 4), .int 0, .ref (aA h 5), .int 0, .null, .int 0, .null, .null]) (v := .ref (aA h 6)) (ty := .array .int) (Wd' := mdW cy h (v1K 0) [.ref (aA h 1), .ref (aA h 2), .ref (aA h 3), .ref (aA h 4), .int 0, .ref (aA h 5), .int 0, .ref (aA h 6), .int 0, .null, .null]) hx hb hw_X5 tyX5 tyX5_ok nmX5 hown hin hK hP hS (by omega) mdW_0 rfl (by decide) (hts (.fieldLink RX5 27 "TurnedRowsModel" "out" "[I") (by decide +kernel)) rfl rfl (by decide +kernel) rfl rfl (Nat.le_of_ble_eq_true rfl) mdW_fs dX5_init_51 (fun H locs hP hz1 hS => ?_)
  have hz := hz1.trans hz
  refine lv_aload_n hx hb dX5_init_54 rfl (lv_at hl 0 rfl) ?_
  refine lv_bipush (v := nI 64) hx hb dX5_init_55 rfl ?_
  refine c_newa (atype := .int) (cA := cy 0) (a0 := (64, .inl (fun _ => nI 0))) hx hb (hts (.arrayClass .int) (by decide +kernel)) hcI hP hz hS rfl (by decide) (Nat.le_of_ble_eq_true rfl) (by show _ ≤ 8; omega) (by show _ ≤ 3784; omega) dX5_init_57 (fun H hP hz hS => ?_)
  rw [va_up_id (show mdW cy h (v1K 0) [.ref (aA h 1), .ref (aA h 2), .ref (aA h 3), .ref (aA h 4), .int 0, .ref (aA h 5), .int 0, .ref (aA h 6), .int 0, .null, .null] 7 = .inl (cy 0, 64, .inl (fun _ => nI 0)) from (mdW_s (by decide)).trans rfl)] at hP
  refine c_putF (own := RX5) (C := RX5) (T := TX5) (Nf := 11) (ci := 5) (q0 := 0) (k := 9) (fs := [.ref (aA h 1), .ref (aA h 2), .ref (aA h 3), .ref (aA h 4), .int 0, .ref (aA h 5), .int 0, .ref (aA h 6), .int 0, .null, .null]) (v := .ref (aA h 7)) (ty := .array .int) (Wd' := mdW cy h (v1K 0) [.ref (aA h 1), .ref (aA h 2), .ref (aA h 3), .ref (aA h 4), .int 0, .ref (aA h 5), .int 0, .ref (aA h 6), .int 0, .ref (aA h 7), .null]) hx hb hw_X5 tyX5 tyX5_ok nmX5 hown hin hK hP hS (by omega) mdW_0 rfl (by decide) (hts (.fieldLink RX5 30 "TurnedRowsModel" "one" "[I") (by decide +kernel)) rfl rfl (by decide +kernel) rfl rfl (Nat.le_of_ble_eq_true rfl) mdW_fs dX5_init_59 (fun H locs hP hz1 hS => ?_)
  have hz := hz1.trans hz
  refine lv_aload_n hx hb dX5_init_62 rfl (lv_at hl 0 rfl) ?_
  refine lv_bipush (v := nI 64) hx hb dX5_init_63 rfl ?_
  refine c_newa (atype := .int) (cA := cy 0) (a0 := (64, .inl (fun _ => nI 0))) hx hb (hts (.arrayClass .int) (by decide +kernel)) hcI hP hz hS rfl (by decide) (Nat.le_of_ble_eq_true rfl) (by show _ ≤ 8; omega) (by show _ ≤ 3784; omega) dX5_init_65 (fun H hP hz hS => ?_)
  rw [va_up_id (show mdW cy h (v1K 0) [.ref (aA h 1), .ref (aA h 2), .ref (aA h 3), .ref (aA h 4), .int 0, .ref (aA h 5), .int 0, .ref (aA h 6), .int 0, .ref (aA h 7), .null] 8 = .inl (cy 0, 64, .inl (fun _ => nI 0)) from (mdW_s (by decide)).trans rfl)] at hP
  refine c_putF (own := RX5) (C := RX5) (T := TX5) (Nf := 11) (ci := 5) (q0 := 0) (k := 10) (fs := [.ref (aA h 1), .ref (aA h 2), .ref (aA h 3), .ref (aA h 4), .int 0, .ref (aA h 5), .int 0, .ref (aA h 6), .int 0, .ref (aA h 7), .null]) (v := .ref (aA h 8)) (ty := .array .int) (Wd' := mdW cy h (v1K 0) [.ref (aA h 1), .ref (aA h 2), .ref (aA h 3), .ref (aA h 4), .int 0, .ref (aA h 5), .int 0, .ref (aA h 6), .int 0, .ref (aA h 7), .ref (aA h 8)]) hx hb hw_X5 tyX5 tyX5_ok nmX5 hown hin hK hP hS (by omega) mdW_0 rfl (by decide) (hts (.fieldLink RX5 33 "TurnedRowsModel" "two" "[I") (by decide +kernel)) rfl rfl (by decide +kernel) rfl rfl (Nat.le_of_ble_eq_true rfl) mdW_fs dX5_init_67 (fun H locs hP hz1 hS => ?_)
  have hz := hz1.trans hz
  have hP := wL_ext (Wd' := mW (aA h) cy (v1K 0)) (fun j hj => by
    by_cases z : j = 0
    · rw [z, mdW_0]; rfl
    · exact mdW_s z) hP
  refine lv_iconst (v := nI 0) hx hb dX5_init_70 rfl ?_
  refine lv_istore_n (lv' := [(1, .int (nI 0)), (0, .ref (aA h 0))]) hx hb dX5_init_71 rfl hl (by decide) rfl (fun ls hl => ?_)
  have lp : ∀ (fu k : Nat), k ≤ 6 → 6 - k < fu → ∀ (H : Heap) (locs : List Loc), va_P D vwCl (wL 9 (aA h) (mW (aA h) cy (v1K k))) H → H.size = h + 9 → va_S (aF h) s.heap H locs → ∀ (ls : Array Slot), lv_has ls 2 [(1, .int (nI k)), (0, .ref (aA h 0))] → W p l e ({ frames := 1, cells := 8, slots := 3784, locals := 12 } : Room) s m ([.ref (aA h 0)] : List Value).toArray below meth c H locs 8 3784 (MQ below (cQ D h 9 (mW (aA h) cy (v1K 6))) ([.ref (aA h 0)] : List Value).toArray s 8 3784 (aF h)) (F0 m 72 ls []) := by
    intro fu
    induction fu with
    | zero => intro k hk hfu; exact absurd hfu (Nat.not_lt_zero _)
    | succ fu ih =>
      intro k hk hfu H locs hP hz hS ls hl
      refine lv_iload_n hx hb dX5_init_72 rfl (lv_at hl 0 rfl) ?_
      refine lv_bipush (v := nI 6) hx hb dX5_init_73 rfl ?_
      refine n_icmp_ge (tgt := 94) hx hb (by omega) (by omega) dX5_init_75 (by decide) (fun h_1 => ?_) (fun h_1 => ?_)
      · obtain rfl : k = 6 := by omega
        exact c_ret hx hb hr hlocks hP hz hS (Nat.le_refl _) (Nat.le_refl _) dX5_init_94
      · skip
        refine lv_aload_n hx hb dX5_init_78 rfl (lv_at hl 1 rfl) ?_
        refine k_get (q0 := 0) (k := 0) (T := TX5) (Nf := 11) (ci := 5) (C := RX5) (v := .ref (aA h 1)) hx hb hw_X5 hown hK hP (by omega) mW_obj rfl (by decide) (hts (.fieldLink RX5 7 "TurnedRowsModel" "z" "[I") (by decide +kernel)) rfl rfl dX5_init_79 ?_
        refine lv_bipush (v := nI 65) hx hb dX5_init_82 rfl ?_
        refine lv_iload_n hx hb dX5_init_84 rfl (lv_at hl 0 rfl) ?_
        refine n_imul hx hb dX5_init_85 ?_
        refine lv_iconst (v := nI 1) hx hb dX5_init_86 rfl ?_
        refine c_iast (q0 := 1) (j := 65 * k) (v := nI 1) (Wd' := mW (aA h) cy (v1K (k + 1))) hx hb hK hP hS (by omega) mW_z (by decide) (by omega) (by rw [mW_up_z, v1K_s]) dX5_init_87 (fun H locs hP hz1 hS => ?_)
        refine lv_iinc (v := nI (k + 1)) (lv' := [(1, .int (nI (k + 1))), (0, .ref (aA h 0))]) hx hb dX5_init_88 hl (k := 0) rfl (nI_inc _) (by decide) rfl (fun ls hl => ?_)
        refine lv_goto (tgt := 72) hx hb dX5_init_91 (by decide) ?_
        exact ih (k + 1) (by omega) (by omega) _ _ hP (by omega) hS _ hl
  exact lp 7 0 (by omega) (by omega) _ _ hP hz hS _ hl
