set_option maxHeartbeats 4000000 in
set_option maxRecDepth 100000 in
/-- THE LAW, from its entry -/
theorem whole_start {p : Program} {e : Env} {s : State} {m : MethodId} {below : List Frame} {meth : Method} {c : Code} (l : Launch) (hflags : l.flags = flags0) {b L : Nat} {xs : Nat → Int32} (hL : L ≤ 260) (C0 : lw_At p s m meth c b L xs) : W p l e room_1 s m #[Value.ref b] below meth c s.heap [] 0 0 (lw_Z below #[Value.ref b] s) (entryFrame m ([Value.ref b] : List Value).toArray 12) := by
  obtain ⟨hx, hb, hr, hml, hown, hts0, hX, hbl, hlocks, hgv⟩ := id C0
  obtain ⟨D, cy, hK, hT⟩ := law_tables hts0
  have hts : ∀ w ∈ wsL_law, w.before #[Value.ref b] s = true := fun w hw => hts0 w (wsL_law_in w hw)
  have hown : s.vm.findClass RL = some m.cls := hown
  have hw_X4 : ∀ w ∈ wsX40, w.before #[Value.ref b] s = true := fun w hw => hts0 w (inX4 w hw)
  have hl := lv_entry ([.ref b]) (n := 12) (Nat.le_of_ble_eq_true rfl)
  rw [lg_entry_eq]
  generalize (lg_sl ([.ref b]) ++ List.replicate (12 - (lg_sl ([.ref b])).length) Slot.unset).toArray = ls at hl ⊢
  have hl : lv_has ls 12 [(0, .ref b)] := hl
  obtain ⟨h, hh⟩ : ∃ h, s.heap.size = h := ⟨_, rfl⟩
  have hP : va_P D vwCl (wL 0 (aA h) (fun _ => .inr (0, []))) s.heap := fun k q hk => absurd (wL_some hk).1 (Nat.not_lt_zero _)
  have hS : va_S (aF h) s.heap s.heap [] := va_S.rf
  refine c_new (own := RL) (C := RX4) (T := TX4) (Nf := 10) (ci := 4) (fs := [.null, .null, .null, .null, .null, .null, .null, .null, .null, .null]) (n := 0) hx hb hw_X4 tyX4 tyX4_ok hown (hts (.classLink RL 11 RX4) (by decide +kernel)) (hts (.instantiable RX4 10) (by decide +kernel)) (hts (.initialized RX4) (by decide +kernel)) hK hP hh hS rfl (fun j hj => by rcases (show j = 0 ∨ j = 1 ∨ j = 2 ∨ j = 3 ∨ j = 4 ∨ j = 5 ∨ j = 6 ∨ j = 7 ∨ j = 8 ∨ j = 9 by omega) with rfl | rfl | rfl | rfl | rfl | rfl | rfl | rfl | rfl | rfl <;> rfl) (Nat.le_of_ble_eq_true rfl) (Nat.le_of_ble_eq_true rfl) dL_law_0 (fun H hP hz hS => ?_)
  refine lv_dup hx hb dL_law_3 rfl ?_
  refine c_callI (i := 0) (rest := [.ref (aA h 0)]) (nL := 12) ⟨hx, hb, hml, hown, hts⟩ (c_X4_init l D cy (h + 0)) (cwI 0 hts gL_law_X4_init rfl rfl rfl (hts (.initialized RX4) (by decide +kernel)) (hts (.methodLink RL 88 yX4_init) (by decide +kernel)) (hts (.instanceMethod yX4_init) (by decide +kernel)) rfl (by decide +kernel) ⟨Nat.le_of_ble_eq_true rfl, Nat.le_of_ble_eq_true rfl⟩) hK hT hP (va_up_self _ _ _) hz hS hl.1 (Nat.le_of_ble_eq_true rfl) dL_law_4 ⟨Nat.le_of_ble_eq_true rfl, Nat.le_of_ble_eq_true rfl⟩ (fun H locs hP hz hS => ?_)
  have hP := made_x (wL_ext (Wd' := topP cy h (FIN h) 2) (fun j _ => if_neg (Nat.not_lt_zero j)) hP)
  refine lv_astore_n (lv' := [(1, .ref (aA h 0)), (0, .ref b)]) hx hb dL_law_7 rfl hl (by decide) rfl (fun ls hl => ?_)
  refine lv_iconst (v := nI 0) hx hb dL_law_8 rfl ?_
  refine lv_istore_n (lv' := [(2, .int (nI 0)), (1, .ref (aA h 0)), (0, .ref b)]) hx hb dL_law_9 rfl hl (by decide) rfl (fun ls hl => ?_)
  have hl : lv_has ls 12 [(2, .int (nI 0)), (1, .ref (ad1 h 136)), (0, .ref b)] := hl
  refine W.widen (k := 143) (n := 4061) (Nat.le_of_ble_eq_true rfl) (Nat.le_of_ble_eq_true rfl) ?_
  refine W.eq (g2 := F0 m 10 ls []) rfl ?_
  exact law_loop (ad := ad1 h) ⟨C0, hL, hK, hh, ad1_I h, fun q hq => ad1_A q hq⟩ 4 0 (by omega) (by omega) S0 _ _ ls ⟨S0_inv, _, _, S0_cRep, hP⟩ hS hl
