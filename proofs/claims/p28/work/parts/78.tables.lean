/-! WHAT THE TABLES SAY: the classes, the arrays' classes -/
theorem law_classes {b : Nat} {s : State} (hts : ∀ w ∈ lw_tbl, w.before #[Value.ref b] s = true) : ∃ D : va_G, ∀ (k : Nat) (q : vw_C), vwCl[k]? = some q → u_Kn s q.1 q.2.1 q.2.2 (D.1 k) (D.2 k) := by
  have h2 : ∀ w ∈ wsL_law, w.before #[Value.ref b] s = true := fun w hw => hts w (wsL_law_in w hw)
  obtain ⟨c0, i0, k0⟩ := u_known (C := RX0) (T := TX0) (N := 2) (n := 2) hts inX0 (h2 (.instantiable RX0 2) (by decide +kernel))
  obtain ⟨c1, i1, k1⟩ := u_known (C := RX1) (T := TX1) (N := 2) (n := 2) hts inX1 (h2 (.instantiable RX1 2) (by decide +kernel))
  obtain ⟨c2, i2, k2⟩ := u_known (C := RX2) (T := TX2) (N := 2) (n := 2) hts inX2 (h2 (.instantiable RX2 2) (by decide +kernel))
  obtain ⟨c3, i3, k3⟩ := u_known (C := RX3) (T := TX3) (N := 1) (n := 1) hts inX3 (h2 (.instantiable RX3 1) (by decide +kernel))
  obtain ⟨c4, i4, k4⟩ := u_known (C := RX4) (T := TX4) (N := 10) (n := 10) hts inX4 (h2 (.instantiable RX4 10) (by decide +kernel))
  refine ⟨(fun k => match k with | 0 => c0 | 1 => c1 | 2 => c2 | 3 => c3 | _ => c4, fun k => match k with | 0 => i0 | 1 => i1 | 2 => i2 | 3 => i3 | _ => i4), ?_⟩
  intro k q hq
  match k, hq with
  | 0, hq => cases hq; exact k0
  | 1, hq => cases hq; exact k1
  | 2, hq => cases hq; exact k2
  | 3, hq => cases hq; exact k3
  | 4, hq => cases hq; exact k4
  | k + 5, hq => simp [vwCl] at hq
theorem arr_prim {b : Nat} {s : State} {ty : FieldType} (h : (Cond.arrayClass ty).before #[Value.ref b] s = true) : ∃ cA, ArrOfT s cA ty ∧ s.vm.findClass ("[" ++ ty.toString) = some cA := by
  obtain ⟨cA, kA, comp, f1, f2, f3⟩ := Cond.arrayClass_spec h
  exact ⟨cA, fun n z => ⟨fun k h => (by cases h), kA, f2, comp, f3⟩, f1⟩
theorem arr_obj {b : Nat} {s : State} {C : String} (h : (Cond.arrayOver (.object C)).before #[Value.ref b] s = true) : ∃ cA, ArrOfT s cA (.object C) ∧ va_RA s cA (.object C) := by
  obtain ⟨comp, cA, kA, f1, -, f3, f4, f5⟩ := Cond.arrayOver_spec h
  exact ⟨cA, fun n z => ⟨fun k h => (by cases h), kA, f3, comp, f4⟩, kA, comp, f3, f4, f1, f5⟩
theorem law_tables {b : Nat} {s : State} (hts : ∀ w ∈ lw_tbl, w.before #[Value.ref b] s = true) : ∃ (D : va_G) (cy : Nat → ClassId), va_K D vwCl (kTy cy) s ∧ aT s := by
  have h2 : ∀ w ∈ wsL_law, w.before #[Value.ref b] s = true := fun w hw => hts w (wsL_law_in w hw)
  have h3 : ∀ w ∈ tables_1, w.before #[Value.ref b] s = true := fun w hw => hts w (List.mem_append_right _ hw)
  obtain ⟨D, hD⟩ := law_classes hts
  have hoR := h3 (.arrayOver (.object RX2)) (by decide +kernel)
  have hoS := h3 (.arrayOver (.object RX3)) (by decide +kernel)
  obtain ⟨cI, a1, a2⟩ := arr_prim (ty := .int) (h2 (.arrayClass .int) (by decide +kernel))
  obtain ⟨cZ, b1, b2⟩ := arr_prim (ty := .boolean) (h2 (.arrayClass .boolean) (by decide +kernel))
  obtain ⟨cR, e1, e2⟩ := arr_obj hoR
  obtain ⟨cS, g1, g2⟩ := arr_obj hoS
  refine ⟨D, fun k => match k with | 0 => cI | 1 => cZ | 2 => cI | 3 => cR | _ => cS, ⟨hD, ?_⟩, va_AO.of hoR, va_AO.of hoS, va_Nw.of rfl (h3 (.methodLinkNest RX3 17 yX2_init RX4) (by decide +kernel)), va_Nw.of rfl (h3 (.methodLinkNest RX4 25 yX1_init RX4) (by decide +kernel)), va_Nw.of rfl (h3 (.methodLinkNest RX4 40 yX2_init RX4) (by decide +kernel))⟩
  intro k q hq
  match k, hq with
  | 0, hq => cases hq; exact ⟨a1, a2⟩
  | 1, hq => cases hq; exact ⟨b1, b2⟩
  | 2, hq => cases hq; exact ⟨a1, a2⟩
  | 3, hq => cases hq; exact ⟨e1, e2⟩
  | 4, hq => cases hq; exact ⟨g1, g2⟩
  | k + 5, hq => simp [kTy] at hq
