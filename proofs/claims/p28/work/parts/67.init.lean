set_option maxHeartbeats 4000000 in
set_option maxRecDepth 100000 in
theorem c_X2_init (l : Launch) (D : va_G) (cy : Nat → ClassId) (h : Nat) : kC l yX2_init wsX2_init ({ frames := 1, cells := 1, slots := 64, locals := 12 }) D cy h 2 [.null, .int 0] 2 (rowE cy h) 1 64 := by
  refine c_met cX2_init 1 (by decide) rfl rfl (Nat.le_of_ble_eq_true rfl) ?_
  intro p e s m below meth c ls hx hb hr hts hown hlocks hml hin hK hT hz hP hS hl
  have hown : s.vm.findClass RX2 = some m.cls := hown
  have hw_X2 : ∀ qw ∈ wsX20, qw.before ([.ref (aA h 0)] : List Value).toArray s = true := fun qw hq => hts qw ((by decide +kernel : ∀ qw ∈ wsX20, qw ∈ wsX2_init) qw hq)
  have hcI : s.vm.findClass ("[" ++ (newarray.typeOf .int).toString) = some (cy 0) := (hK.2 0 _ rfl).2
  have hcZ : s.vm.findClass ("[" ++ (newarray.typeOf .boolean).toString) = some (cy 1) := (hK.2 1 _ rfl).2
  have hcR : s.vm.findClass ("[" ++ (FieldType.object RX2).toString) = some (cy 3) := by
    obtain ⟨_, _, _, _, _, z⟩ := (hK.2 3 _ rfl).2
    exact z
  have hcS : s.vm.findClass ("[" ++ (FieldType.object RX3).toString) = some (cy 4) := by
    obtain ⟨_, _, _, _, _, z⟩ := (hK.2 4 _ rfl).2
    exact z
  refine lv_aload_n hx hb dX2_init_0 rfl (lv_at hl 0 rfl) ?_
  refine W.objInit hx hb hown (hts (.methodLink RX2 3 objectInit) (by decide +kernel)) (hts (.instanceMethod objectInit) (by decide +kernel)) (hts (.code objectInit ⟨#[0xb1]⟩ 1 none) (by decide +kernel)) rfl (by rw [hml]; exact hl.1) rfl dX2_init_1 (Nat.le_of_ble_eq_true rfl) (Nat.le_of_ble_eq_true rfl) ?_
  refine W.eq (g2 := F0 m 4 ls []) rfl ?_
  refine lv_aload_n hx hb dX2_init_4 rfl (lv_at hl 0 rfl) ?_
  refine lv_bipush (v := nI 64) hx hb dX2_init_5 rfl ?_
  refine c_newa (atype := .int) (cA := cy 0) (a0 := (64, .inl (fun _ => nI 0))) hx hb (hts (.arrayClass .int) (by decide +kernel)) hcI hP hz hS rfl (by decide) (Nat.le_of_ble_eq_true rfl) (by show _ ≤ 1; omega) (by show _ ≤ 64; omega) dX2_init_7 (fun H hP hz hS => ?_)
  refine c_putF (own := RX2) (C := RX2) (T := TX2) (Nf := 2) (ci := 2) (q0 := 0) (k := 0) (fs := [.null, .int 0]) (v := .ref (aA h 1)) (ty := .array .int) hx hb hw_X2 tyX2 tyX2_ok nmX2 hown hin hK hP hS (by omega) rfl rfl (by decide) (hts (.fieldLink RX2 9 "TurnedRows$Row" "numbers" "[I") (by decide +kernel)) rfl rfl (by decide +kernel) rfl rfl (Nat.le_of_ble_eq_true rfl) rfl dX2_init_9 (fun H locs hP hz1 hS => ?_)
  have hz := hz1.trans hz
  refine lv_aload_n hx hb dX2_init_12 rfl (lv_at hl 0 rfl) ?_
  refine lv_iconst (v := nI 1) hx hb dX2_init_13 rfl ?_
  refine c_put (own := RX2) (C := RX2) (T := TX2) (Nf := 2) (ci := 2) (q0 := 0) (k := 1) (fs := [.ref (aA h 1), .int 0]) (v := .int (nI 1)) (ty := .int) hx hb hw_X2 tyX2 tyX2_ok nmX2 hown hK hP hS (by omega) rfl rfl (by decide) (hts (.fieldLink RX2 15 "TurnedRows$Row" "length" "I") (by decide +kernel)) rfl (by decide +kernel) rfl rfl (Nat.le_of_ble_eq_true rfl) rfl dX2_init_14 (fun H locs hP hz1 hS => ?_)
  have hz := hz1.trans hz
  have hP := wL_ext (Wd' := rowE cy h) (fun j hj => by rcases (show j = 0 ∨ j = 1 by omega) with rfl | rfl <;> rfl) hP
  exact c_ret hx hb hr hlocks hP hz hS (Nat.le_of_ble_eq_true rfl) (Nat.le_of_ble_eq_true rfl) dX2_init_17
set_option maxHeartbeats 4000000 in
set_option maxRecDepth 100000 in
theorem c_X1_init (l : Launch) (D : va_G) (cy : Nat → ClassId) (h : Nat) : kC l yX1_init wsX1_init ({ frames := 1, cells := 1, slots := 80, locals := 12 }) D cy h 1 [.null, .int 0] 2 (padE cy h) 1 80 := by
  refine c_met cX1_init 1 (by decide) rfl rfl (Nat.le_of_ble_eq_true rfl) ?_
  intro p e s m below meth c ls hx hb hr hts hown hlocks hml hin hK hT hz hP hS hl
  have hown : s.vm.findClass RX1 = some m.cls := hown
  have hw_X1 : ∀ qw ∈ wsX10, qw.before ([.ref (aA h 0)] : List Value).toArray s = true := fun qw hq => hts qw ((by decide +kernel : ∀ qw ∈ wsX10, qw ∈ wsX1_init) qw hq)
  have hcI : s.vm.findClass ("[" ++ (newarray.typeOf .int).toString) = some (cy 0) := (hK.2 0 _ rfl).2
  have hcZ : s.vm.findClass ("[" ++ (newarray.typeOf .boolean).toString) = some (cy 1) := (hK.2 1 _ rfl).2
  have hcR : s.vm.findClass ("[" ++ (FieldType.object RX2).toString) = some (cy 3) := by
    obtain ⟨_, _, _, _, _, z⟩ := (hK.2 3 _ rfl).2
    exact z
  have hcS : s.vm.findClass ("[" ++ (FieldType.object RX3).toString) = some (cy 4) := by
    obtain ⟨_, _, _, _, _, z⟩ := (hK.2 4 _ rfl).2
    exact z
  refine lv_aload_n hx hb dX1_init_0 rfl (lv_at hl 0 rfl) ?_
  refine W.objInit hx hb hown (hts (.methodLink RX1 3 objectInit) (by decide +kernel)) (hts (.instanceMethod objectInit) (by decide +kernel)) (hts (.code objectInit ⟨#[0xb1]⟩ 1 none) (by decide +kernel)) rfl (by rw [hml]; exact hl.1) rfl dX1_init_1 (Nat.le_of_ble_eq_true rfl) (Nat.le_of_ble_eq_true rfl) ?_
  refine W.eq (g2 := F0 m 4 ls []) rfl ?_
  refine lv_aload_n hx hb dX1_init_4 rfl (lv_at hl 0 rfl) ?_
  refine lv_bipush (v := nI 80) hx hb dX1_init_5 rfl ?_
  refine c_newa (atype := .int) (cA := cy 0) (a0 := (80, .inl (fun _ => nI 0))) hx hb (hts (.arrayClass .int) (by decide +kernel)) hcI hP hz hS rfl (by decide) (Nat.le_of_ble_eq_true rfl) (by show _ ≤ 1; omega) (by show _ ≤ 80; omega) dX1_init_7 (fun H hP hz hS => ?_)
  refine c_putF (own := RX1) (C := RX1) (T := TX1) (Nf := 2) (ci := 1) (q0 := 0) (k := 0) (fs := [.null, .int 0]) (v := .ref (aA h 1)) (ty := .array .int) hx hb hw_X1 tyX1 tyX1_ok nmX1 hown hin hK hP hS (by omega) rfl rfl (by decide) (hts (.fieldLink RX1 9 "TurnedRows$Pad" "codes" "[I") (by decide +kernel)) rfl rfl (by decide +kernel) rfl rfl (Nat.le_of_ble_eq_true rfl) rfl dX1_init_9 (fun H locs hP hz1 hS => ?_)
  have hz := hz1.trans hz
  refine lv_aload_n hx hb dX1_init_12 rfl (lv_at hl 0 rfl) ?_
  refine lv_iconst (v := nI 0) hx hb dX1_init_13 rfl ?_
  refine c_put (own := RX1) (C := RX1) (T := TX1) (Nf := 2) (ci := 1) (q0 := 0) (k := 1) (fs := [.ref (aA h 1), .int 0]) (v := .int (nI 0)) (ty := .int) hx hb hw_X1 tyX1 tyX1_ok nmX1 hown hK hP hS (by omega) rfl rfl (by decide) (hts (.fieldLink RX1 15 "TurnedRows$Pad" "length" "I") (by decide +kernel)) rfl (by decide +kernel) rfl rfl (Nat.le_of_ble_eq_true rfl) rfl dX1_init_14 (fun H locs hP hz1 hS => ?_)
  have hz := hz1.trans hz
  have hP := wL_ext (Wd' := padE cy h) (fun j hj => by rcases (show j = 0 ∨ j = 1 by omega) with rfl | rfl <;> rfl) hP
  exact c_ret hx hb hr hlocks hP hz hS (Nat.le_of_ble_eq_true rfl) (Nat.le_of_ble_eq_true rfl) dX1_init_17
set_option maxHeartbeats 4000000 in
set_option maxRecDepth 100000 in
theorem c_X3_init (l : Launch) (D : va_G) (cy : Nat → ClassId) (h : Nat) : kC l yX3_init wsX3_init ({ frames := 2, cells := 13, slots := 402, locals := 32 }) D cy h 3 [.null] 14 (stP cy h 6) 13 402 := by
  refine c_met cX3_init 2 (by decide) rfl rfl (Nat.le_of_ble_eq_true rfl) ?_
  intro p e s m below meth c ls hx hb hr hts hown hlocks hml hin hK hT hz hP hS hl
  have hown : s.vm.findClass RX3 = some m.cls := hown
  have hw_X3 : ∀ qw ∈ wsX30, qw.before ([.ref (aA h 0)] : List Value).toArray s = true := fun qw hq => hts qw ((by decide +kernel : ∀ qw ∈ wsX30, qw ∈ wsX3_init) qw hq)
  have hw_X2 : ∀ qw ∈ wsX20, qw.before ([.ref (aA h 0)] : List Value).toArray s = true := fun qw hq => hts qw ((by decide +kernel : ∀ qw ∈ wsX20, qw ∈ wsX3_init) qw hq)
  have hcI : s.vm.findClass ("[" ++ (newarray.typeOf .int).toString) = some (cy 0) := (hK.2 0 _ rfl).2
  have hcZ : s.vm.findClass ("[" ++ (newarray.typeOf .boolean).toString) = some (cy 1) := (hK.2 1 _ rfl).2
  have hcR : s.vm.findClass ("[" ++ (FieldType.object RX2).toString) = some (cy 3) := by
    obtain ⟨_, _, _, _, _, z⟩ := (hK.2 3 _ rfl).2
    exact z
  have hcS : s.vm.findClass ("[" ++ (FieldType.object RX3).toString) = some (cy 4) := by
    obtain ⟨_, _, _, _, _, z⟩ := (hK.2 4 _ rfl).2
    exact z
  refine lv_aload_n hx hb dX3_init_0 rfl (lv_at hl 0 rfl) ?_
  refine W.objInit hx hb hown (hts (.methodLink RX3 3 objectInit) (by decide +kernel)) (hts (.instanceMethod objectInit) (by decide +kernel)) (hts (.code objectInit ⟨#[0xb1]⟩ 1 none) (by decide +kernel)) rfl (by rw [hml]; exact hl.1) rfl dX3_init_1 (Nat.le_of_ble_eq_true rfl) (Nat.le_of_ble_eq_true rfl) ?_
  refine W.eq (g2 := F0 m 4 ls []) rfl ?_
  refine lv_aload_n hx hb dX3_init_4 rfl (lv_at hl 0 rfl) ?_
  refine lv_bipush (v := nI 6) hx hb dX3_init_5 rfl ?_
  refine c_newq hx hb hown (hts (.classLink RX3 9 RX2) (by decide +kernel)) hT.1 hcR hP hz hS (k0 := 6) (by decide) (Nat.le_of_ble_eq_true rfl) (by show _ ≤ 13; omega) (by show _ ≤ 402; omega) dX3_init_7 (fun H hP hz hS => ?_)
  refine c_putF (own := RX3) (C := RX3) (T := TX3) (Nf := 1) (ci := 3) (q0 := 0) (k := 0) (fs := [.null]) (v := .ref (aA h 1)) (ty := .array (.object "TurnedRows$Row")) hx hb hw_X3 tyX3 tyX3_ok nmX3 hown hin hK hP hS (by omega) rfl rfl (by decide) (hts (.fieldLink RX3 11 "TurnedRows$State" "rows" "[LTurnedRows$Row;") (by decide +kernel)) rfl rfl (by decide +kernel) rfl rfl (Nat.le_of_ble_eq_true rfl) rfl dX3_init_10 (fun H locs hP hz1 hS => ?_)
  have hz := hz1.trans hz
  have hP := wL_ext (Wd' := stP cy h 0) (fun j hj => by
    rcases (show j = 0 ∨ j = 1 by omega) with rfl | rfl
    · rfl
    · exact congrArg (fun f => (Sum.inl (cy 3, 6, va_q f) : va_E)) (none_0 h 2 2)) hP
  refine lv_iconst (v := nI 0) hx hb dX3_init_13 rfl ?_
  refine lv_istore_n (lv' := [(1, .int (nI 0)), (0, .ref (aA h 0))]) hx hb dX3_init_14 rfl hl (by decide) rfl (fun ls hl => ?_)
  have lp : ∀ (fu k : Nat), k ≤ 6 → 6 - k < fu → ∀ (H : Heap) (locs : List Loc), va_P D vwCl (wL (2 + 2 * k) (aA h) (stP cy h k)) H → H.size = h + (2 + 2 * k) → va_S (aF h) s.heap H locs → ∀ (ls : Array Slot), lv_has ls 2 [(1, .int (nI k)), (0, .ref (aA h 0))] → W p l e ({ frames := 2, cells := 13, slots := 402, locals := 32 } : Room) s m ([.ref (aA h 0)] : List Value).toArray below meth c H locs (1 + 2 * k) (6 + 66 * k) (MQ below (cQ D h 14 (stP cy h 6)) ([.ref (aA h 0)] : List Value).toArray s 13 402 (aF h)) (F0 m 15 ls []) := by
    intro fu
    induction fu with
    | zero => intro k hk hfu; exact absurd hfu (Nat.not_lt_zero _)
    | succ fu ih =>
      intro k hk hfu H locs hP hz hS ls hl
      refine lv_iload_n hx hb dX3_init_15 rfl (lv_at hl 0 rfl) ?_
      refine lv_aload_n hx hb dX3_init_16 rfl (lv_at hl 1 rfl) ?_
      refine k_get (q0 := 0) (k := 0) (T := TX3) (Nf := 1) (ci := 3) (C := RX3) (v := .ref (aA h 1)) hx hb hw_X3 hown hK hP (by omega) rfl rfl (by decide) (hts (.fieldLink RX3 11 "TurnedRows$State" "rows" "[LTurnedRows$Row;") (by decide +kernel)) rfl rfl dX3_init_17 ?_
      refine k_alen (q0 := 1) hx hb hK hP 3 (by omega) rfl rfl 6 rfl dX3_init_20 ?_
      refine n_icmp_ge (tgt := 43) hx hb (by omega) (by omega) dX3_init_21 (by decide) (fun h_1 => ?_) (fun h_1 => ?_)
      · obtain rfl : k = 6 := by omega
        exact c_ret hx hb hr hlocks hP hz hS (Nat.le_of_ble_eq_true rfl) (Nat.le_of_ble_eq_true rfl) dX3_init_43
      · skip
        refine lv_aload_n hx hb dX3_init_24 rfl (lv_at hl 1 rfl) ?_
        refine k_get (q0 := 0) (k := 0) (T := TX3) (Nf := 1) (ci := 3) (C := RX3) (v := .ref (aA h 1)) hx hb hw_X3 hown hK hP (by omega) rfl rfl (by decide) (hts (.fieldLink RX3 11 "TurnedRows$State" "rows" "[LTurnedRows$Row;") (by decide +kernel)) rfl rfl dX3_init_25 ?_
        refine lv_iload_n hx hb dX3_init_28 rfl (lv_at hl 0 rfl) ?_
        refine c_new (own := RX3) (C := RX2) (T := TX2) (Nf := 2) (ci := 2) (fs := [.null, .int 0]) (n := 2 + 2 * k) hx hb hw_X2 tyX2 tyX2_ok hown (hts (.classLink RX3 9 RX2) (by decide +kernel)) (hts (.instantiable RX2 2) (by decide +kernel)) (hts (.initialized RX2) (by decide +kernel)) hK hP hz hS rfl (fun j hj => by rcases (show j = 0 ∨ j = 1 by omega) with rfl | rfl <;> rfl) (by show _ ≤ 13; omega) (by show _ ≤ 402; omega) dX3_init_29 (fun H hP hz hS => ?_)
        refine lv_dup hx hb dX3_init_32 rfl ?_
        refine c_callN (i := 2 + 2 * k) (rest := [.ref (aA h (2 + 2 * k)), .int (nI k), .ref (aA h 1)]) (nL := 2) ⟨hx, hb, hml, hown, hts⟩ (c_X2_init l D cy (h + (2 + 2 * k))) ⟨va_cnB 0 hts gX3_init_X2_init_n17 rfl rfl rfl hT.2.2.1 (hts (.initialized RX2) (by decide +kernel)) (by decide +kernel) ⟨Nat.le_of_ble_eq_true rfl, Nat.le_of_ble_eq_true rfl⟩, rfl, hts (.instanceMethod yX2_init) (by decide +kernel)⟩ hK hT hP (va_up_self _ _ _) hz hS hl.1 (Nat.le_of_ble_eq_true rfl) dX3_init_33 ⟨by show _ ≤ 13; omega, by show _ ≤ 402; omega⟩ (fun H locs hP hz hS => ?_)
        have hP := wL_ext (Wd' := stP cy h k) (apW_e stP_r) hP
        refine c_aast (q0 := 1) (qk := 2 + 2 * k) (j := k) (t0 := 3) (ci := 2) (r := (RX2, TX2, 2)) (Wd' := stP cy h (k + 1)) hx hb hK hP hS (by omega) rfl rfl (by omega) ((stP_r 0 (by decide)).symm) rfl (by decide) (by omega) stP_s dX3_init_36 (fun H locs hP hz1 hS => ?_)
        refine lv_iinc (v := nI (k + 1)) (lv' := [(1, .int (nI (k + 1))), (0, .ref (aA h 0))]) hx hb dX3_init_37 hl (k := 0) rfl (nI_inc _) (by decide) rfl (fun ls hl => ?_)
        refine lv_goto (tgt := 15) hx hb dX3_init_40 (by decide) ?_
        refine W.widen (k := 1 + 2 * (k + 1)) (n := 6 + 66 * (k + 1)) (by omega) (by omega) ?_
        exact ih (k + 1) (by omega) (by omega) _ _ (by rw [show 2 + 2 * (k + 1) = 2 + 2 * k + 2 by omega]; exact hP) (by omega) hS _ hl
  exact lp 7 0 (by omega) (by omega) _ _ hP hz hS _ hl
set_option maxHeartbeats 4000000 in
set_option maxRecDepth 100000 in
theorem c_X0_init (l : Launch) (D : va_G) (cy : Nat → ClassId) (h : Nat) : kC l yX0_init wsX0_init ({ frames := 3, cells := 85, slots := 2424, locals := 53 }) D cy h 0 [.null, .int 0] 86 (hiP cy h 6) 85 2424 := by
  refine c_met cX0_init 2 (by decide) rfl rfl (Nat.le_of_ble_eq_true rfl) ?_
  intro p e s m below meth c ls hx hb hr hts hown hlocks hml hin hK hT hz hP hS hl
  have hown : s.vm.findClass RX0 = some m.cls := hown
  have hw_X0 : ∀ qw ∈ wsX00, qw.before ([.ref (aA h 0)] : List Value).toArray s = true := fun qw hq => hts qw ((by decide +kernel : ∀ qw ∈ wsX00, qw ∈ wsX0_init) qw hq)
  have hw_X3 : ∀ qw ∈ wsX30, qw.before ([.ref (aA h 0)] : List Value).toArray s = true := fun qw hq => hts qw ((by decide +kernel : ∀ qw ∈ wsX30, qw ∈ wsX0_init) qw hq)
  have hcI : s.vm.findClass ("[" ++ (newarray.typeOf .int).toString) = some (cy 0) := (hK.2 0 _ rfl).2
  have hcZ : s.vm.findClass ("[" ++ (newarray.typeOf .boolean).toString) = some (cy 1) := (hK.2 1 _ rfl).2
  have hcR : s.vm.findClass ("[" ++ (FieldType.object RX2).toString) = some (cy 3) := by
    obtain ⟨_, _, _, _, _, z⟩ := (hK.2 3 _ rfl).2
    exact z
  have hcS : s.vm.findClass ("[" ++ (FieldType.object RX3).toString) = some (cy 4) := by
    obtain ⟨_, _, _, _, _, z⟩ := (hK.2 4 _ rfl).2
    exact z
  refine lv_aload_n hx hb dX0_init_0 rfl (lv_at hl 0 rfl) ?_
  refine W.objInit hx hb hown (hts (.methodLink RX0 3 objectInit) (by decide +kernel)) (hts (.instanceMethod objectInit) (by decide +kernel)) (hts (.code objectInit ⟨#[0xb1]⟩ 1 none) (by decide +kernel)) rfl (by rw [hml]; exact hl.1) rfl dX0_init_1 (Nat.le_of_ble_eq_true rfl) (Nat.le_of_ble_eq_true rfl) ?_
  refine W.eq (g2 := F0 m 4 ls []) rfl ?_
  refine lv_aload_n hx hb dX0_init_4 rfl (lv_at hl 0 rfl) ?_
  refine lv_bipush (v := nI 6) hx hb dX0_init_5 rfl ?_
  refine c_newq hx hb hown (hts (.classLink RX0 9 RX3) (by decide +kernel)) hT.2.1 hcS hP hz hS (k0 := 6) (by decide) (Nat.le_of_ble_eq_true rfl) (by show _ ≤ 85; omega) (by show _ ≤ 2424; omega) dX0_init_7 (fun H hP hz hS => ?_)
  refine c_putF (own := RX0) (C := RX0) (T := TX0) (Nf := 2) (ci := 0) (q0 := 0) (k := 0) (fs := [.null, .int 0]) (v := .ref (aA h 1)) (ty := .array (.object "TurnedRows$State")) hx hb hw_X0 tyX0 tyX0_ok nmX0 hown hin hK hP hS (by omega) rfl rfl (by decide) (hts (.fieldLink RX0 11 "TurnedRows$History" "states" "[LTurnedRows$State;") (by decide +kernel)) rfl rfl (by decide +kernel) rfl rfl (Nat.le_of_ble_eq_true rfl) rfl dX0_init_10 (fun H locs hP hz1 hS => ?_)
  have hz := hz1.trans hz
  refine lv_aload_n hx hb dX0_init_13 rfl (lv_at hl 0 rfl) ?_
  refine lv_iconst (v := nI 0) hx hb dX0_init_14 rfl ?_
  refine c_put (own := RX0) (C := RX0) (T := TX0) (Nf := 2) (ci := 0) (q0 := 0) (k := 1) (fs := [.ref (aA h 1), .int 0]) (v := .int (nI 0)) (ty := .int) hx hb hw_X0 tyX0 tyX0_ok nmX0 hown hK hP hS (by omega) rfl rfl (by decide) (hts (.fieldLink RX0 17 "TurnedRows$History" "length" "I") (by decide +kernel)) rfl (by decide +kernel) rfl rfl (Nat.le_of_ble_eq_true rfl) rfl dX0_init_15 (fun H locs hP hz1 hS => ?_)
  have hz := hz1.trans hz
  have hP := wL_ext (Wd' := hiP cy h 0) (fun j hj => by
    rcases (show j = 0 ∨ j = 1 by omega) with rfl | rfl
    · rfl
    · exact congrArg (fun f => (Sum.inl (cy 4, 6, va_q f) : va_E)) (none_0 h 2 14)) hP
  refine lv_iconst (v := nI 0) hx hb dX0_init_18 rfl ?_
  refine lv_istore_n (lv' := [(1, .int (nI 0)), (0, .ref (aA h 0))]) hx hb dX0_init_19 rfl hl (by decide) rfl (fun ls hl => ?_)
  have lp : ∀ (fu k : Nat), k ≤ 6 → 6 - k < fu → ∀ (H : Heap) (locs : List Loc), va_P D vwCl (wL (2 + 14 * k) (aA h) (hiP cy h k)) H → H.size = h + (2 + 14 * k) → va_S (aF h) s.heap H locs → ∀ (ls : Array Slot), lv_has ls 2 [(1, .int (nI k)), (0, .ref (aA h 0))] → W p l e ({ frames := 3, cells := 85, slots := 2424, locals := 53 } : Room) s m ([.ref (aA h 0)] : List Value).toArray below meth c H locs (1 + 14 * k) (6 + 403 * k) (MQ below (cQ D h 86 (hiP cy h 6)) ([.ref (aA h 0)] : List Value).toArray s 85 2424 (aF h)) (F0 m 20 ls []) := by
    intro fu
    induction fu with
    | zero => intro k hk hfu; exact absurd hfu (Nat.not_lt_zero _)
    | succ fu ih =>
      intro k hk hfu H locs hP hz hS ls hl
      refine lv_iload_n hx hb dX0_init_20 rfl (lv_at hl 0 rfl) ?_
      refine lv_aload_n hx hb dX0_init_21 rfl (lv_at hl 1 rfl) ?_
      refine k_get (q0 := 0) (k := 0) (T := TX0) (Nf := 2) (ci := 0) (C := RX0) (v := .ref (aA h 1)) hx hb hw_X0 hown hK hP (by omega) rfl rfl (by decide) (hts (.fieldLink RX0 11 "TurnedRows$History" "states" "[LTurnedRows$State;") (by decide +kernel)) rfl rfl dX0_init_22 ?_
      refine k_alen (q0 := 1) hx hb hK hP 4 (by omega) rfl rfl 6 rfl dX0_init_25 ?_
      refine n_icmp_ge (tgt := 48) hx hb (by omega) (by omega) dX0_init_26 (by decide) (fun h_1 => ?_) (fun h_1 => ?_)
      · obtain rfl : k = 6 := by omega
        exact c_ret hx hb hr hlocks hP hz hS (Nat.le_of_ble_eq_true rfl) (Nat.le_of_ble_eq_true rfl) dX0_init_48
      · skip
        refine lv_aload_n hx hb dX0_init_29 rfl (lv_at hl 1 rfl) ?_
        refine k_get (q0 := 0) (k := 0) (T := TX0) (Nf := 2) (ci := 0) (C := RX0) (v := .ref (aA h 1)) hx hb hw_X0 hown hK hP (by omega) rfl rfl (by decide) (hts (.fieldLink RX0 11 "TurnedRows$History" "states" "[LTurnedRows$State;") (by decide +kernel)) rfl rfl dX0_init_30 ?_
        refine lv_iload_n hx hb dX0_init_33 rfl (lv_at hl 0 rfl) ?_
        refine c_new (own := RX0) (C := RX3) (T := TX3) (Nf := 1) (ci := 3) (fs := [.null]) (n := 2 + 14 * k) hx hb hw_X3 tyX3 tyX3_ok hown (hts (.classLink RX0 9 RX3) (by decide +kernel)) (hts (.instantiable RX3 1) (by decide +kernel)) (hts (.initialized RX3) (by decide +kernel)) hK hP hz hS rfl (fun j hj => by rw [show j = 0 by omega]; rfl) (by show _ ≤ 85; omega) (by show _ ≤ 2424; omega) dX0_init_34 (fun H hP hz hS => ?_)
        refine lv_dup hx hb dX0_init_37 rfl ?_
        refine c_callI (i := 2 + 14 * k) (rest := [.ref (aA h (2 + 14 * k)), .int (nI k), .ref (aA h 1)]) (nL := 2) ⟨hx, hb, hml, hown, hts⟩ (c_X3_init l D cy (h + (2 + 14 * k))) (cwI 0 hts gX0_init_X3_init rfl rfl rfl (hts (.initialized RX3) (by decide +kernel)) (hts (.methodLink RX0 21 yX3_init) (by decide +kernel)) (hts (.instanceMethod yX3_init) (by decide +kernel)) rfl (by decide +kernel) ⟨Nat.le_of_ble_eq_true rfl, Nat.le_of_ble_eq_true rfl⟩) hK hT hP (va_up_self _ _ _) hz hS hl.1 (Nat.le_of_ble_eq_true rfl) dX0_init_38 ⟨by show _ ≤ 85; omega, by show _ ≤ 2424; omega⟩ (fun H locs hP hz hS => ?_)
        have hP := wL_ext (Wd' := hiP cy h k) (apW_e hiP_r) hP
        refine c_aast (q0 := 1) (qk := 2 + 14 * k) (j := k) (t0 := 4) (ci := 3) (r := (RX3, TX3, 1)) (Wd' := hiP cy h (k + 1)) hx hb hK hP hS (by omega) rfl rfl (by omega) ((hiP_r 0 (by decide)).symm) rfl (by decide) (by omega) hiP_s dX0_init_41 (fun H locs hP hz1 hS => ?_)
        refine lv_iinc (v := nI (k + 1)) (lv' := [(1, .int (nI (k + 1))), (0, .ref (aA h 0))]) hx hb dX0_init_42 hl (k := 0) rfl (nI_inc _) (by decide) rfl (fun ls hl => ?_)
        refine lv_goto (tgt := 20) hx hb dX0_init_45 (by decide) ?_
        refine W.widen (k := 1 + 14 * (k + 1)) (n := 6 + 403 * (k + 1)) (by omega) (by omega) ?_
        exact ih (k + 1) (by omega) (by omega) _ _ (by rw [show 2 + 14 * (k + 1) = 2 + 14 * k + 14 by omega]; exact hP) (by omega) hS _ hl
  exact lp 7 0 (by omega) (by omega) _ _ hP hz hS _ hl

