set_option maxHeartbeats 8000000 in
set_option maxRecDepth 100000 in
theorem c_X4_init (l : Launch) (D : va_G) (cy : Nat → ClassId) (h : Nat) : kC l yX4_init wsX4_init ({ frames := 4, cells := 142, slots := 4051, locals := 74 }) D cy h 4 [.null, .null, .null, .null, .null, .null, .null, .null, .null, .null] 143 (topP cy h [.ref (aA h 1), .ref (aA h 15), .ref (aA h 101), .ref (aA h 103), .ref (aA h 104), .ref (aA h 105), .ref (aA h 107), .ref (aA h 109), .ref (aA h 111), .ref (aA h 113)] 2) 142 4051 := by
  refine c_met cX4_init 2 (by decide) rfl rfl (Nat.le_of_ble_eq_true rfl) ?_
  intro p e s m below meth c ls hx hb hr hts hown hlocks hml hin hK hT hz hP hS hl
  have hown : s.vm.findClass RX4 = some m.cls := hown
  have hw_X4 : ∀ qw ∈ wsX40, qw.before ([.ref (aA h 0)] : List Value).toArray s = true := fun qw hq => hts qw ((by decide +kernel : ∀ qw ∈ wsX40, qw ∈ wsX4_init) qw hq)
  have hw_X3 : ∀ qw ∈ wsX30, qw.before ([.ref (aA h 0)] : List Value).toArray s = true := fun qw hq => hts qw ((by decide +kernel : ∀ qw ∈ wsX30, qw ∈ wsX4_init) qw hq)
  have hw_X0 : ∀ qw ∈ wsX00, qw.before ([.ref (aA h 0)] : List Value).toArray s = true := fun qw hq => hts qw ((by decide +kernel : ∀ qw ∈ wsX00, qw ∈ wsX4_init) qw hq)
  have hw_X1 : ∀ qw ∈ wsX10, qw.before ([.ref (aA h 0)] : List Value).toArray s = true := fun qw hq => hts qw ((by decide +kernel : ∀ qw ∈ wsX10, qw ∈ wsX4_init) qw hq)
  have hw_X2 : ∀ qw ∈ wsX20, qw.before ([.ref (aA h 0)] : List Value).toArray s = true := fun qw hq => hts qw ((by decide +kernel : ∀ qw ∈ wsX20, qw ∈ wsX4_init) qw hq)
  have hcI : s.vm.findClass ("[" ++ (newarray.typeOf .int).toString) = some (cy 0) := (hK.2 0 _ rfl).2
  have hcZ : s.vm.findClass ("[" ++ (newarray.typeOf .boolean).toString) = some (cy 1) := (hK.2 1 _ rfl).2
  have hcR : s.vm.findClass ("[" ++ (FieldType.object RX2).toString) = some (cy 3) := by
    obtain ⟨_, _, _, _, _, z⟩ := (hK.2 3 _ rfl).2
    exact z
  have hcS : s.vm.findClass ("[" ++ (FieldType.object RX3).toString) = some (cy 4) := by
    obtain ⟨_, _, _, _, _, z⟩ := (hK.2 4 _ rfl).2
    exact z
  have lp : ∀ (fu k : Nat), k ≤ 2 → 2 - k < fu → ∀ (H : Heap) (locs : List Loc), va_P D vwCl (wL (115 + 14 * k) (aA h) (topP cy h [.ref (aA h 1), .ref (aA h 15), .ref (aA h 101), .ref (aA h 103), .ref (aA h 104), .ref (aA h 105), .ref (aA h 107), .ref (aA h 109), .ref (aA h 111), .ref (aA h 113)] k)) H → H.size = h + (115 + 14 * k) → va_S (aF h) s.heap H locs → ∀ (ls : Array Slot), lv_has ls 2 [(1, .int (nI k)), (0, .ref (aA h 0))] → W p l e ({ frames := 4, cells := 142, slots := 4051, locals := 74 } : Room) s m ([.ref (aA h 0)] : List Value).toArray below meth c H locs (114 + 14 * k) (3245 + 403 * k) (MQ below (cQ D h 143 (topP cy h [.ref (aA h 1), .ref (aA h 15), .ref (aA h 101), .ref (aA h 103), .ref (aA h 104), .ref (aA h 105), .ref (aA h 107), .ref (aA h 109), .ref (aA h 111), .ref (aA h 113)] 2)) ([.ref (aA h 0)] : List Value).toArray s 142 4051 (aF h)) (F0 m 109 ls []) := by
    intro fu
    induction fu with
    | zero => intro k hk hfu; exact absurd hfu (Nat.not_lt_zero _)
    | succ fu ih =>
      intro k hk hfu H locs hP hz hS ls hl
      refine lv_iload_n hx hb dX4_init_109 rfl (lv_at hl 0 rfl) ?_
      refine lv_aload_n hx hb dX4_init_110 rfl (lv_at hl 1 rfl) ?_
      refine k_get (q0 := 0) (k := 3) (T := TX4) (Nf := 10) (ci := 4) (C := RX4) (v := .ref (aA h 103)) hx hb hw_X4 hown hK hP (by omega) topP_0 rfl (by decide) (hts (.fieldLink RX4 30 "TurnedRows" "slots" "[LTurnedRows$State;") (by decide +kernel)) rfl rfl dX4_init_111 ?_
      refine k_alen (q0 := 103) hx hb hK hP 4 (by omega) topP_sl rfl 2 rfl dX4_init_114 ?_
      refine n_icmp_ge (tgt := 137) hx hb (by omega) (by omega) dX4_init_115 (by decide) (fun h_1 => ?_) (fun h_1 => ?_)
      · obtain rfl : k = 2 := by omega
        exact c_ret hx hb hr hlocks hP hz hS (Nat.le_of_ble_eq_true rfl) (Nat.le_of_ble_eq_true rfl) dX4_init_137
      · skip
        refine lv_aload_n hx hb dX4_init_118 rfl (lv_at hl 1 rfl) ?_
        refine k_get (q0 := 0) (k := 3) (T := TX4) (Nf := 10) (ci := 4) (C := RX4) (v := .ref (aA h 103)) hx hb hw_X4 hown hK hP (by omega) topP_0 rfl (by decide) (hts (.fieldLink RX4 30 "TurnedRows" "slots" "[LTurnedRows$State;") (by decide +kernel)) rfl rfl dX4_init_119 ?_
        refine lv_iload_n hx hb dX4_init_122 rfl (lv_at hl 0 rfl) ?_
        refine c_new (own := RX4) (C := RX3) (T := TX3) (Nf := 1) (ci := 3) (fs := [.null]) (n := 115 + 14 * k) hx hb hw_X3 tyX3 tyX3_ok hown (hts (.classLink RX4 7 RX3) (by decide +kernel)) (hts (.instantiable RX3 1) (by decide +kernel)) (hts (.initialized RX3) (by decide +kernel)) hK hP hz hS rfl (fun j hj => by rw [show j = 0 by omega]; rfl) (by show _ ≤ 142; omega) (by show _ ≤ 4051; omega) dX4_init_123 (fun H hP hz hS => ?_)
        refine lv_dup hx hb dX4_init_126 rfl ?_
        refine c_callI (i := 115 + 14 * k) (rest := [.ref (aA h (115 + 14 * k)), .int (nI k), .ref (aA h 103)]) (nL := 2) ⟨hx, hb, hml, hown, hts⟩ (c_X3_init l D cy (h + (115 + 14 * k))) (cwI 0 hts gX4_init_X3_init rfl rfl rfl (hts (.initialized RX3) (by decide +kernel)) (hts (.methodLink RX4 9 yX3_init) (by decide +kernel)) (hts (.instanceMethod yX3_init) (by decide +kernel)) rfl (by decide +kernel) ⟨Nat.le_of_ble_eq_true rfl, Nat.le_of_ble_eq_true rfl⟩) hK hT hP (va_up_self _ _ _) hz hS hl.1 (Nat.le_of_ble_eq_true rfl) dX4_init_127 ⟨by show _ ≤ 142; omega, by show _ ≤ 4051; omega⟩ (fun H locs hP hz hS => ?_)
        have hP := wL_ext (Wd' := topP cy h [.ref (aA h 1), .ref (aA h 15), .ref (aA h 101), .ref (aA h 103), .ref (aA h 104), .ref (aA h 105), .ref (aA h 107), .ref (aA h 109), .ref (aA h 111), .ref (aA h 113)] k) (apW_e topP_ss) hP
        refine c_aast (q0 := 103) (qk := 115 + 14 * k) (j := k) (t0 := 4) (ci := 3) (r := (RX3, TX3, 1)) (Wd' := topP cy h [.ref (aA h 1), .ref (aA h 15), .ref (aA h 101), .ref (aA h 103), .ref (aA h 104), .ref (aA h 105), .ref (aA h 107), .ref (aA h 109), .ref (aA h 111), .ref (aA h 113)] (k + 1)) hx hb hK hP hS (by omega) topP_sl rfl (by omega) ((topP_ss 0 (by decide)).symm) rfl (by decide) (by omega) topP_s dX4_init_130 (fun H locs hP hz1 hS => ?_)
        refine lv_iinc (v := nI (k + 1)) (lv' := [(1, .int (nI (k + 1))), (0, .ref (aA h 0))]) hx hb dX4_init_131 hl (k := 0) rfl (nI_inc _) (by decide) rfl (fun ls hl => ?_)
        refine lv_goto (tgt := 109) hx hb dX4_init_134 (by decide) ?_
        refine W.widen (k := 114 + 14 * (k + 1)) (n := 3245 + 403 * (k + 1)) (by omega) (by omega) ?_
        exact ih (k + 1) (by omega) (by omega) _ _ (by rw [show 115 + 14 * (k + 1) = 115 + 14 * k + 14 by omega]; exact hP) (by omega) hS _ hl
  have hP := wL_ext (Wd' := topP cy h [.null, .null, .null, .null, .null, .null, .null, .null, .null, .null] 0) (fun j hj => by rw [show j = 0 by omega]; exact topP_0.symm) hP
  refine lv_aload_n hx hb dX4_init_0 rfl (lv_at hl 0 rfl) ?_
  refine W.objInit hx hb hown (hts (.methodLink RX4 1 objectInit) (by decide +kernel)) (hts (.instanceMethod objectInit) (by decide +kernel)) (hts (.code objectInit ⟨#[0xb1]⟩ 1 none) (by decide +kernel)) rfl (by rw [hml]; exact hl.1) rfl dX4_init_1 (Nat.le_of_ble_eq_true rfl) (Nat.le_of_ble_eq_true rfl) ?_
  refine W.eq (g2 := F0 m 4 ls []) rfl ?_
  refine lv_aload_n hx hb dX4_init_4 rfl (lv_at hl 0 rfl) ?_
  refine c_new (own := RX4) (C := RX3) (T := TX3) (Nf := 1) (ci := 3) (fs := [.null]) (n := 1) hx hb hw_X3 tyX3 tyX3_ok hown (hts (.classLink RX4 7 RX3) (by decide +kernel)) (hts (.instantiable RX3 1) (by decide +kernel)) (hts (.initialized RX3) (by decide +kernel)) hK hP hz hS rfl (fun j hj => by rw [show j = 0 by omega]; rfl) (by show _ ≤ 142; omega) (by show _ ≤ 4051; omega) dX4_init_5 (fun H hP hz hS => ?_)
  refine lv_dup hx hb dX4_init_8 rfl ?_
  refine c_callI (i := 1) (rest := [.ref (aA h 1), .ref (aA h 0)]) (nL := 2) ⟨hx, hb, hml, hown, hts⟩ (c_X3_init l D cy (h + (1))) (cwI 0 hts gX4_init_X3_init rfl rfl rfl (hts (.initialized RX3) (by decide +kernel)) (hts (.methodLink RX4 9 yX3_init) (by decide +kernel)) (hts (.instanceMethod yX3_init) (by decide +kernel)) rfl (by decide +kernel) ⟨Nat.le_of_ble_eq_true rfl, Nat.le_of_ble_eq_true rfl⟩) hK hT hP (va_up_self _ _ _) hz hS hl.1 (Nat.le_of_ble_eq_true rfl) dX4_init_9 ⟨by show _ ≤ 142; omega, by show _ ≤ 4051; omega⟩ (fun H locs hP hz hS => ?_)
  have hP := wL_ext (Wd' := topP cy h [.null, .null, .null, .null, .null, .null, .null, .null, .null, .null] 0) (apW_e topP_st) hP
  refine c_putF (own := RX4) (C := RX4) (T := TX4) (Nf := 10) (ci := 4) (q0 := 0) (k := 0) (fs := [.null, .null, .null, .null, .null, .null, .null, .null, .null, .null]) (v := .ref (aA h 1)) (ty := .object "TurnedRows$State") (Wd' := topP cy h [.ref (aA h 1), .null, .null, .null, .null, .null, .null, .null, .null, .null] 0) hx hb hw_X4 tyX4 tyX4_ok nmX4 hown hin hK hP hS (by omega) topP_0 rfl (by decide) (hts (.fieldLink RX4 10 "TurnedRows" "state" "LTurnedRows$State;") (by decide +kernel)) rfl rfl (by decide +kernel) rfl rfl (Nat.le_of_ble_eq_true rfl) topP_fs dX4_init_12 (fun H locs hP hz1 hS => ?_)
  have hz := hz1.trans hz
  refine W.widen (k := 14) (n := 403) (by decide) (by decide) ?_
  refine W.eq (g2 := F0 m 15 ls []) rfl ?_
  refine lv_aload_n hx hb dX4_init_15 rfl (lv_at hl 0 rfl) ?_
  refine c_new (own := RX4) (C := RX0) (T := TX0) (Nf := 2) (ci := 0) (fs := [.null, .int 0]) (n := 15) hx hb hw_X0 tyX0 tyX0_ok hown (hts (.classLink RX4 16 RX0) (by decide +kernel)) (hts (.instantiable RX0 2) (by decide +kernel)) (hts (.initialized RX0) (by decide +kernel)) hK hP hz hS rfl (fun j hj => by rcases (show j = 0 ∨ j = 1 by omega) with rfl | rfl <;> rfl) (by show _ ≤ 142; omega) (by show _ ≤ 4051; omega) dX4_init_16 (fun H hP hz hS => ?_)
  refine lv_dup hx hb dX4_init_19 rfl ?_
  refine c_callI (i := 15) (rest := [.ref (aA h 15), .ref (aA h 0)]) (nL := 2) ⟨hx, hb, hml, hown, hts⟩ (c_X0_init l D cy (h + (15))) (cwI 0 hts gX4_init_X0_init rfl rfl rfl (hts (.initialized RX0) (by decide +kernel)) (hts (.methodLink RX4 18 yX0_init) (by decide +kernel)) (hts (.instanceMethod yX0_init) (by decide +kernel)) rfl (by decide +kernel) ⟨Nat.le_of_ble_eq_true rfl, Nat.le_of_ble_eq_true rfl⟩) hK hT hP (va_up_self _ _ _) hz hS hl.1 (Nat.le_of_ble_eq_true rfl) dX4_init_20 ⟨by show _ ≤ 142; omega, by show _ ≤ 4051; omega⟩ (fun H locs hP hz hS => ?_)
  have hP := wL_ext (Wd' := topP cy h [.ref (aA h 1), .null, .null, .null, .null, .null, .null, .null, .null, .null] 0) (apW_e topP_hi) hP
  refine c_putF (own := RX4) (C := RX4) (T := TX4) (Nf := 10) (ci := 4) (q0 := 0) (k := 1) (fs := [.ref (aA h 1), .null, .null, .null, .null, .null, .null, .null, .null, .null]) (v := .ref (aA h 15)) (ty := .object "TurnedRows$History") (Wd' := topP cy h [.ref (aA h 1), .ref (aA h 15), .null, .null, .null, .null, .null, .null, .null, .null] 0) hx hb hw_X4 tyX4 tyX4_ok nmX4 hown hin hK hP hS (by omega) topP_0 rfl (by decide) (hts (.fieldLink RX4 19 "TurnedRows" "history" "LTurnedRows$History;") (by decide +kernel)) rfl rfl (by decide +kernel) rfl rfl (Nat.le_of_ble_eq_true rfl) topP_fs dX4_init_23 (fun H locs hP hz1 hS => ?_)
  have hz := hz1.trans hz
  refine W.widen (k := 100) (n := 2829) (by decide) (by decide) ?_
  refine W.eq (g2 := F0 m 26 ls []) rfl ?_
  refine lv_aload_n hx hb dX4_init_26 rfl (lv_at hl 0 rfl) ?_
  refine c_new (own := RX4) (C := RX1) (T := TX1) (Nf := 2) (ci := 1) (fs := [.null, .int 0]) (n := 101) hx hb hw_X1 tyX1 tyX1_ok hown (hts (.classLink RX4 23 RX1) (by decide +kernel)) (hts (.instantiable RX1 2) (by decide +kernel)) (hts (.initialized RX1) (by decide +kernel)) hK hP hz hS rfl (fun j hj => by rcases (show j = 0 ∨ j = 1 by omega) with rfl | rfl <;> rfl) (by show _ ≤ 142; omega) (by show _ ≤ 4051; omega) dX4_init_27 (fun H hP hz hS => ?_)
  refine lv_dup hx hb dX4_init_30 rfl ?_
  refine c_callN (i := 101) (rest := [.ref (aA h 101), .ref (aA h 0)]) (nL := 2) ⟨hx, hb, hml, hown, hts⟩ (c_X1_init l D cy (h + (101))) ⟨va_cnB 0 hts gX4_init_X1_init_n25 rfl rfl rfl hT.2.2.2.1 (hts (.initialized RX1) (by decide +kernel)) (by decide +kernel) ⟨Nat.le_of_ble_eq_true rfl, Nat.le_of_ble_eq_true rfl⟩, rfl, hts (.instanceMethod yX1_init) (by decide +kernel)⟩ hK hT hP (va_up_self _ _ _) hz hS hl.1 (Nat.le_of_ble_eq_true rfl) dX4_init_31 ⟨by show _ ≤ 142; omega, by show _ ≤ 4051; omega⟩ (fun H locs hP hz hS => ?_)
  have hP := wL_ext (Wd' := topP cy h [.ref (aA h 1), .ref (aA h 15), .null, .null, .null, .null, .null, .null, .null, .null] 0) (apW_e topP_pd) hP
  refine c_putF (own := RX4) (C := RX4) (T := TX4) (Nf := 10) (ci := 4) (q0 := 0) (k := 2) (fs := [.ref (aA h 1), .ref (aA h 15), .null, .null, .null, .null, .null, .null, .null, .null]) (v := .ref (aA h 101)) (ty := .object "TurnedRows$Pad") (Wd' := topP cy h [.ref (aA h 1), .ref (aA h 15), .ref (aA h 101), .null, .null, .null, .null, .null, .null, .null] 0) hx hb hw_X4 tyX4 tyX4_ok nmX4 hown hin hK hP hS (by omega) topP_0 rfl (by decide) (hts (.fieldLink RX4 26 "TurnedRows" "pad" "LTurnedRows$Pad;") (by decide +kernel)) rfl rfl (by decide +kernel) rfl rfl (Nat.le_of_ble_eq_true rfl) topP_fs dX4_init_34 (fun H locs hP hz1 hS => ?_)
  have hz := hz1.trans hz
  refine W.widen (k := 102) (n := 2911) (by decide) (by decide) ?_
  refine W.eq (g2 := F0 m 37 ls []) rfl ?_
  refine lv_aload_n hx hb dX4_init_37 rfl (lv_at hl 0 rfl) ?_
  refine lv_iconst (v := nI 2) hx hb dX4_init_38 rfl ?_
  refine c_newq hx hb hown (hts (.classLink RX4 7 RX3) (by decide +kernel)) hT.2.1 hcS hP hz hS (k0 := 2) (by decide) (Nat.le_of_ble_eq_true rfl) (by show _ ≤ 142; omega) (by show _ ≤ 4051; omega) dX4_init_39 (fun H hP hz hS => ?_)
  rw [va_up_id (show topP cy h [.ref (aA h 1), .ref (aA h 15), .ref (aA h 101), .null, .null, .null, .null, .null, .null, .null] 0 103 = _ from topP_sl.trans (congrArg (fun f => (Sum.inl (cy 4, 2, va_q f) : va_E)) (none_0 h 115 14).symm))] at hP
  refine c_putF (own := RX4) (C := RX4) (T := TX4) (Nf := 10) (ci := 4) (q0 := 0) (k := 3) (fs := [.ref (aA h 1), .ref (aA h 15), .ref (aA h 101), .null, .null, .null, .null, .null, .null, .null]) (v := .ref (aA h 103)) (ty := .array (.object "TurnedRows$State")) (Wd' := topP cy h [.ref (aA h 1), .ref (aA h 15), .ref (aA h 101), .ref (aA h 103), .null, .null, .null, .null, .null, .null] 0) hx hb hw_X4 tyX4 tyX4_ok nmX4 hown hin hK hP hS (by omega) topP_0 rfl (by decide) (hts (.fieldLink RX4 30 "TurnedRows" "slots" "[LTurnedRows$State;") (by decide +kernel)) rfl rfl (by decide +kernel) rfl rfl (Nat.le_of_ble_eq_true rfl) topP_fs dX4_init_42 (fun H locs hP hz1 hS => ?_)
  have hz := hz1.trans hz
  refine W.widen (k := 103) (n := 2913) (by decide) (by decide) ?_
  refine W.eq (g2 := F0 m 45 ls []) rfl ?_
  refine lv_aload_n hx hb dX4_init_45 rfl (lv_at hl 0 rfl) ?_
  refine lv_iconst (v := nI 2) hx hb dX4_init_46 rfl ?_
  refine c_newa (atype := .boolean) (cA := cy 1) (a0 := (2, .inl (fun _ => nI 0))) hx hb (hts (.arrayClass .boolean) (by decide +kernel)) hcZ hP hz hS rfl (by decide) (Nat.le_of_ble_eq_true rfl) (by show _ ≤ 142; omega) (by show _ ≤ 4051; omega) dX4_init_47 (fun H hP hz hS => ?_)
  rw [va_up_id (show topP cy h [.ref (aA h 1), .ref (aA h 15), .ref (aA h 101), .ref (aA h 103), .null, .null, .null, .null, .null, .null] 0 104 = _ from topP_sv)] at hP
  refine c_putF (own := RX4) (C := RX4) (T := TX4) (Nf := 10) (ci := 4) (q0 := 0) (k := 4) (fs := [.ref (aA h 1), .ref (aA h 15), .ref (aA h 101), .ref (aA h 103), .null, .null, .null, .null, .null, .null]) (v := .ref (aA h 104)) (ty := .array .boolean) (Wd' := topP cy h [.ref (aA h 1), .ref (aA h 15), .ref (aA h 101), .ref (aA h 103), .ref (aA h 104), .null, .null, .null, .null, .null] 0) hx hb hw_X4 tyX4 tyX4_ok nmX4 hown hin hK hP hS (by omega) topP_0 rfl (by decide) (hts (.fieldLink RX4 34 "TurnedRows" "saved" "[Z") (by decide +kernel)) rfl rfl (by decide +kernel) rfl rfl (Nat.le_of_ble_eq_true rfl) topP_fs dX4_init_49 (fun H locs hP hz1 hS => ?_)
  have hz := hz1.trans hz
  refine W.widen (k := 104) (n := 2915) (by decide) (by decide) ?_
  refine W.eq (g2 := F0 m 52 ls []) rfl ?_
  refine lv_aload_n hx hb dX4_init_52 rfl (lv_at hl 0 rfl) ?_
  refine c_new (own := RX4) (C := RX2) (T := TX2) (Nf := 2) (ci := 2) (fs := [.null, .int 0]) (n := 105) hx hb hw_X2 tyX2 tyX2_ok hown (hts (.classLink RX4 38 RX2) (by decide +kernel)) (hts (.instantiable RX2 2) (by decide +kernel)) (hts (.initialized RX2) (by decide +kernel)) hK hP hz hS rfl (fun j hj => by rcases (show j = 0 ∨ j = 1 by omega) with rfl | rfl <;> rfl) (by show _ ≤ 142; omega) (by show _ ≤ 4051; omega) dX4_init_53 (fun H hP hz hS => ?_)
  refine lv_dup hx hb dX4_init_56 rfl ?_
  refine c_callN (i := 105) (rest := [.ref (aA h 105), .ref (aA h 0)]) (nL := 2) ⟨hx, hb, hml, hown, hts⟩ (c_X2_init l D cy (h + (105))) ⟨va_cnB 0 hts gX4_init_X2_init_n40 rfl rfl rfl hT.2.2.2.2 (hts (.initialized RX2) (by decide +kernel)) (by decide +kernel) ⟨Nat.le_of_ble_eq_true rfl, Nat.le_of_ble_eq_true rfl⟩, rfl, hts (.instanceMethod yX2_init) (by decide +kernel)⟩ hK hT hP (va_up_self _ _ _) hz hS hl.1 (Nat.le_of_ble_eq_true rfl) dX4_init_57 ⟨by show _ ≤ 142; omega, by show _ ≤ 4051; omega⟩ (fun H locs hP hz hS => ?_)
  have hP := wL_ext (Wd' := topP cy h [.ref (aA h 1), .ref (aA h 15), .ref (aA h 101), .ref (aA h 103), .ref (aA h 104), .null, .null, .null, .null, .null] 0) (apW_e (topP_rw (i := 0) (by decide))) hP
  refine c_putF (own := RX4) (C := RX4) (T := TX4) (Nf := 10) (ci := 4) (q0 := 0) (k := 5) (fs := [.ref (aA h 1), .ref (aA h 15), .ref (aA h 101), .ref (aA h 103), .ref (aA h 104), .null, .null, .null, .null, .null]) (v := .ref (aA h 105)) (ty := .object "TurnedRows$Row") (Wd' := topP cy h [.ref (aA h 1), .ref (aA h 15), .ref (aA h 101), .ref (aA h 103), .ref (aA h 104), .ref (aA h 105), .null, .null, .null, .null] 0) hx hb hw_X4 tyX4 tyX4_ok nmX4 hown hin hK hP hS (by omega) topP_0 rfl (by decide) (hts (.fieldLink RX4 41 "TurnedRows" "made" "LTurnedRows$Row;") (by decide +kernel)) rfl rfl (by decide +kernel) rfl rfl (Nat.le_of_ble_eq_true rfl) topP_fs dX4_init_60 (fun H locs hP hz1 hS => ?_)
  have hz := hz1.trans hz
  refine W.widen (k := 106) (n := 2981) (by decide) (by decide) ?_
  refine W.eq (g2 := F0 m 63 ls []) rfl ?_
  refine lv_aload_n hx hb dX4_init_63 rfl (lv_at hl 0 rfl) ?_
  refine c_new (own := RX4) (C := RX2) (T := TX2) (Nf := 2) (ci := 2) (fs := [.null, .int 0]) (n := 107) hx hb hw_X2 tyX2 tyX2_ok hown (hts (.classLink RX4 38 RX2) (by decide +kernel)) (hts (.instantiable RX2 2) (by decide +kernel)) (hts (.initialized RX2) (by decide +kernel)) hK hP hz hS rfl (fun j hj => by rcases (show j = 0 ∨ j = 1 by omega) with rfl | rfl <;> rfl) (by show _ ≤ 142; omega) (by show _ ≤ 4051; omega) dX4_init_64 (fun H hP hz hS => ?_)
  refine lv_dup hx hb dX4_init_67 rfl ?_
  refine c_callN (i := 107) (rest := [.ref (aA h 107), .ref (aA h 0)]) (nL := 2) ⟨hx, hb, hml, hown, hts⟩ (c_X2_init l D cy (h + (107))) ⟨va_cnB 0 hts gX4_init_X2_init_n40 rfl rfl rfl hT.2.2.2.2 (hts (.initialized RX2) (by decide +kernel)) (by decide +kernel) ⟨Nat.le_of_ble_eq_true rfl, Nat.le_of_ble_eq_true rfl⟩, rfl, hts (.instanceMethod yX2_init) (by decide +kernel)⟩ hK hT hP (va_up_self _ _ _) hz hS hl.1 (Nat.le_of_ble_eq_true rfl) dX4_init_68 ⟨by show _ ≤ 142; omega, by show _ ≤ 4051; omega⟩ (fun H locs hP hz hS => ?_)
  have hP := wL_ext (Wd' := topP cy h [.ref (aA h 1), .ref (aA h 15), .ref (aA h 101), .ref (aA h 103), .ref (aA h 104), .ref (aA h 105), .null, .null, .null, .null] 0) (apW_e (topP_rw (i := 1) (by decide))) hP
  refine c_putF (own := RX4) (C := RX4) (T := TX4) (Nf := 10) (ci := 4) (q0 := 0) (k := 6) (fs := [.ref (aA h 1), .ref (aA h 15), .ref (aA h 101), .ref (aA h 103), .ref (aA h 104), .ref (aA h 105), .null, .null, .null, .null]) (v := .ref (aA h 107)) (ty := .object "TurnedRows$Row") (Wd' := topP cy h [.ref (aA h 1), .ref (aA h 15), .ref (aA h 101), .ref (aA h 103), .ref (aA h 104), .ref (aA h 105), .ref (aA h 107), .null, .null, .null] 0) hx hb hw_X4 tyX4 tyX4_ok nmX4 hown hin hK hP hS (by omega) topP_0 rfl (by decide) (hts (.fieldLink RX4 45 "TurnedRows" "madeRest" "LTurnedRows$Row;") (by decide +kernel)) rfl rfl (by decide +kernel) rfl rfl (Nat.le_of_ble_eq_true rfl) topP_fs dX4_init_71 (fun H locs hP hz1 hS => ?_)
  have hz := hz1.trans hz
  refine W.widen (k := 108) (n := 3047) (by decide) (by decide) ?_
  refine W.eq (g2 := F0 m 74 ls []) rfl ?_
  refine lv_aload_n hx hb dX4_init_74 rfl (lv_at hl 0 rfl) ?_
  refine c_new (own := RX4) (C := RX2) (T := TX2) (Nf := 2) (ci := 2) (fs := [.null, .int 0]) (n := 109) hx hb hw_X2 tyX2 tyX2_ok hown (hts (.classLink RX4 38 RX2) (by decide +kernel)) (hts (.instantiable RX2 2) (by decide +kernel)) (hts (.initialized RX2) (by decide +kernel)) hK hP hz hS rfl (fun j hj => by rcases (show j = 0 ∨ j = 1 by omega) with rfl | rfl <;> rfl) (by show _ ≤ 142; omega) (by show _ ≤ 4051; omega) dX4_init_75 (fun H hP hz hS => ?_)
  refine lv_dup hx hb dX4_init_78 rfl ?_
  refine c_callN (i := 109) (rest := [.ref (aA h 109), .ref (aA h 0)]) (nL := 2) ⟨hx, hb, hml, hown, hts⟩ (c_X2_init l D cy (h + (109))) ⟨va_cnB 0 hts gX4_init_X2_init_n40 rfl rfl rfl hT.2.2.2.2 (hts (.initialized RX2) (by decide +kernel)) (by decide +kernel) ⟨Nat.le_of_ble_eq_true rfl, Nat.le_of_ble_eq_true rfl⟩, rfl, hts (.instanceMethod yX2_init) (by decide +kernel)⟩ hK hT hP (va_up_self _ _ _) hz hS hl.1 (Nat.le_of_ble_eq_true rfl) dX4_init_79 ⟨by show _ ≤ 142; omega, by show _ ≤ 4051; omega⟩ (fun H locs hP hz hS => ?_)
  have hP := wL_ext (Wd' := topP cy h [.ref (aA h 1), .ref (aA h 15), .ref (aA h 101), .ref (aA h 103), .ref (aA h 104), .ref (aA h 105), .ref (aA h 107), .null, .null, .null] 0) (apW_e (topP_rw (i := 2) (by decide))) hP
  refine c_putF (own := RX4) (C := RX4) (T := TX4) (Nf := 10) (ci := 4) (q0 := 0) (k := 7) (fs := [.ref (aA h 1), .ref (aA h 15), .ref (aA h 101), .ref (aA h 103), .ref (aA h 104), .ref (aA h 105), .ref (aA h 107), .null, .null, .null]) (v := .ref (aA h 109)) (ty := .object "TurnedRows$Row") (Wd' := topP cy h [.ref (aA h 1), .ref (aA h 15), .ref (aA h 101), .ref (aA h 103), .ref (aA h 104), .ref (aA h 105), .ref (aA h 107), .ref (aA h 109), .null, .null] 0) hx hb hw_X4 tyX4 tyX4_ok nmX4 hown hin hK hP hS (by omega) topP_0 rfl (by decide) (hts (.fieldLink RX4 48 "TurnedRows" "stepDividend" "LTurnedRows$Row;") (by decide +kernel)) rfl rfl (by decide +kernel) rfl rfl (Nat.le_of_ble_eq_true rfl) topP_fs dX4_init_82 (fun H locs hP hz1 hS => ?_)
  have hz := hz1.trans hz
  refine W.widen (k := 110) (n := 3113) (by decide) (by decide) ?_
  refine W.eq (g2 := F0 m 85 ls []) rfl ?_
  refine lv_aload_n hx hb dX4_init_85 rfl (lv_at hl 0 rfl) ?_
  refine c_new (own := RX4) (C := RX2) (T := TX2) (Nf := 2) (ci := 2) (fs := [.null, .int 0]) (n := 111) hx hb hw_X2 tyX2 tyX2_ok hown (hts (.classLink RX4 38 RX2) (by decide +kernel)) (hts (.instantiable RX2 2) (by decide +kernel)) (hts (.initialized RX2) (by decide +kernel)) hK hP hz hS rfl (fun j hj => by rcases (show j = 0 ∨ j = 1 by omega) with rfl | rfl <;> rfl) (by show _ ≤ 142; omega) (by show _ ≤ 4051; omega) dX4_init_86 (fun H hP hz hS => ?_)
  refine lv_dup hx hb dX4_init_89 rfl ?_
  refine c_callN (i := 111) (rest := [.ref (aA h 111), .ref (aA h 0)]) (nL := 2) ⟨hx, hb, hml, hown, hts⟩ (c_X2_init l D cy (h + (111))) ⟨va_cnB 0 hts gX4_init_X2_init_n40 rfl rfl rfl hT.2.2.2.2 (hts (.initialized RX2) (by decide +kernel)) (by decide +kernel) ⟨Nat.le_of_ble_eq_true rfl, Nat.le_of_ble_eq_true rfl⟩, rfl, hts (.instanceMethod yX2_init) (by decide +kernel)⟩ hK hT hP (va_up_self _ _ _) hz hS hl.1 (Nat.le_of_ble_eq_true rfl) dX4_init_90 ⟨by show _ ≤ 142; omega, by show _ ≤ 4051; omega⟩ (fun H locs hP hz hS => ?_)
  have hP := wL_ext (Wd' := topP cy h [.ref (aA h 1), .ref (aA h 15), .ref (aA h 101), .ref (aA h 103), .ref (aA h 104), .ref (aA h 105), .ref (aA h 107), .ref (aA h 109), .null, .null] 0) (apW_e (topP_rw (i := 3) (by decide))) hP
  refine c_putF (own := RX4) (C := RX4) (T := TX4) (Nf := 10) (ci := 4) (q0 := 0) (k := 8) (fs := [.ref (aA h 1), .ref (aA h 15), .ref (aA h 101), .ref (aA h 103), .ref (aA h 104), .ref (aA h 105), .ref (aA h 107), .ref (aA h 109), .null, .null]) (v := .ref (aA h 111)) (ty := .object "TurnedRows$Row") (Wd' := topP cy h [.ref (aA h 1), .ref (aA h 15), .ref (aA h 101), .ref (aA h 103), .ref (aA h 104), .ref (aA h 105), .ref (aA h 107), .ref (aA h 109), .ref (aA h 111), .null] 0) hx hb hw_X4 tyX4 tyX4_ok nmX4 hown hin hK hP hS (by omega) topP_0 rfl (by decide) (hts (.fieldLink RX4 51 "TurnedRows" "stepDivisor" "LTurnedRows$Row;") (by decide +kernel)) rfl rfl (by decide +kernel) rfl rfl (Nat.le_of_ble_eq_true rfl) topP_fs dX4_init_93 (fun H locs hP hz1 hS => ?_)
  have hz := hz1.trans hz
  refine W.widen (k := 112) (n := 3179) (by decide) (by decide) ?_
  refine W.eq (g2 := F0 m 96 ls []) rfl ?_
  refine lv_aload_n hx hb dX4_init_96 rfl (lv_at hl 0 rfl) ?_
  refine c_new (own := RX4) (C := RX2) (T := TX2) (Nf := 2) (ci := 2) (fs := [.null, .int 0]) (n := 113) hx hb hw_X2 tyX2 tyX2_ok hown (hts (.classLink RX4 38 RX2) (by decide +kernel)) (hts (.instantiable RX2 2) (by decide +kernel)) (hts (.initialized RX2) (by decide +kernel)) hK hP hz hS rfl (fun j hj => by rcases (show j = 0 ∨ j = 1 by omega) with rfl | rfl <;> rfl) (by show _ ≤ 142; omega) (by show _ ≤ 4051; omega) dX4_init_97 (fun H hP hz hS => ?_)
  refine lv_dup hx hb dX4_init_100 rfl ?_
  refine c_callN (i := 113) (rest := [.ref (aA h 113), .ref (aA h 0)]) (nL := 2) ⟨hx, hb, hml, hown, hts⟩ (c_X2_init l D cy (h + (113))) ⟨va_cnB 0 hts gX4_init_X2_init_n40 rfl rfl rfl hT.2.2.2.2 (hts (.initialized RX2) (by decide +kernel)) (by decide +kernel) ⟨Nat.le_of_ble_eq_true rfl, Nat.le_of_ble_eq_true rfl⟩, rfl, hts (.instanceMethod yX2_init) (by decide +kernel)⟩ hK hT hP (va_up_self _ _ _) hz hS hl.1 (Nat.le_of_ble_eq_true rfl) dX4_init_101 ⟨by show _ ≤ 142; omega, by show _ ≤ 4051; omega⟩ (fun H locs hP hz hS => ?_)
  have hP := wL_ext (Wd' := topP cy h [.ref (aA h 1), .ref (aA h 15), .ref (aA h 101), .ref (aA h 103), .ref (aA h 104), .ref (aA h 105), .ref (aA h 107), .ref (aA h 109), .ref (aA h 111), .null] 0) (apW_e (topP_rw (i := 4) (by decide))) hP
  refine c_putF (own := RX4) (C := RX4) (T := TX4) (Nf := 10) (ci := 4) (q0 := 0) (k := 9) (fs := [.ref (aA h 1), .ref (aA h 15), .ref (aA h 101), .ref (aA h 103), .ref (aA h 104), .ref (aA h 105), .ref (aA h 107), .ref (aA h 109), .ref (aA h 111), .null]) (v := .ref (aA h 113)) (ty := .object "TurnedRows$Row") (Wd' := topP cy h [.ref (aA h 1), .ref (aA h 15), .ref (aA h 101), .ref (aA h 103), .ref (aA h 104), .ref (aA h 105), .ref (aA h 107), .ref (aA h 109), .ref (aA h 111), .ref (aA h 113)] 0) hx hb hw_X4 tyX4 tyX4_ok nmX4 hown hin hK hP hS (by omega) topP_0 rfl (by decide) (hts (.fieldLink RX4 54 "TurnedRows" "stepResult" "LTurnedRows$Row;") (by decide +kernel)) rfl rfl (by decide +kernel) rfl rfl (Nat.le_of_ble_eq_true rfl) topP_fs dX4_init_104 (fun H locs hP hz1 hS => ?_)
  have hz := hz1.trans hz
  refine W.widen (k := 114) (n := 3245) (by decide) (by decide) ?_
  refine W.eq (g2 := F0 m 107 ls []) rfl ?_
  refine lv_iconst (v := nI 0) hx hb dX4_init_107 rfl ?_
  refine lv_istore_n (lv' := [(1, .int (nI 0)), (0, .ref (aA h 0))]) hx hb dX4_init_108 rfl hl (by decide) rfl (fun ls hl => ?_)
  exact lp 3 0 (by omega) (by omega) _ _ hP hz hS _ hl

