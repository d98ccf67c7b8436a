set_option maxHeartbeats 4000000 in
set_option maxRecDepth 100000 in
theorem a_L_at (l : Launch) (D : va_G) (cy : Nat → ClassId) (ad : Nat → Nat) (hI : wI 143 ad) (S : kSt) (r : Nat) (k : Nat) (hr : r < 6) (hk : k ≤ 1000) : aM l yL_at wsL_at ({ frames := 4, cells := 0, slots := 0, locals := 89 } : Room) D cy ad S [.ref (ad (136)), .int (nI (r)), .int (nI (k))] (aV (nI ((S.1 r).2 k)) S) := by
  refine g_met cL_at 3 (some .int) (by decide) rfl (Nat.le_of_ble_eq_true rfl) ?_
  intro p e s m below meth c ls hx hb hret hts hown hlocks hml hK hP hS hl
  have hl : lv_has ls 3 [(0, .ref (ad (136))), (1, .int (nI (r))), (2, .int (nI (k)))] := hl
  have hown : s.vm.findClass RL = some m.cls := hown
  have hrow : ∀ r, r < 6 → rO (S.1 r) := hP.row
  have hrr := hrow r hr
  have hlen := hrr.2.1
  have hlen1 := hrr.1
  refine lv_iload_n hx hb dL_at_0 rfl (lv_at hl 2 rfl) ?_
  refine lv_aload_n hx hb dL_at_1 rfl (lv_at hl 0 rfl) ?_
  refine lv_iload_n hx hb dL_at_2 rfl (lv_at hl 1 rfl) ?_
  refine lv_iconst (v := nI (0)) hx hb dL_at_3 rfl ?_
  refine a_callVr (rest := [.int (nI (k))]) (nL := 3) ⟨hx, hb, hml, hown, hts⟩ (a_of0 l D cy ad hI S r (by first | assumption | decide | omega)) (cwV 2 hts gL_at_X4_of rfl rfl rfl (by decide +kernel) ⟨Nat.le_of_ble_eq_true rfl, Nat.le_of_ble_eq_true rfl⟩) hK hP hS (fun _ h => h) rfl hl.1 rfl (Nat.le_of_ble_eq_true rfl) dL_at_4 ⟨Nat.zero_le _, Nat.zero_le _⟩ (fun H locs hP hS => ?_)
  have hP : aP D cy ad S H := hP
  refine n_icmp_ge (tgt := 19) hx hb (by omega) (by omega) dL_at_7 (by decide) (fun h_1 => ?_) (fun h_1 => ?_)
  · skip
    have hge := h_1
    refine lv_iconst (v := nI (0)) hx hb dL_at_19 rfl ?_
    refine a_iret hx hb hret hlocks hP hS dL_at_20 ?_
    exact ⟨rN (hrr.2.2.2 k hge).symm, rfl⟩
  · skip
    refine lv_aload_n hx hb dL_at_10 rfl (lv_at hl 0 rfl) ?_
    refine lv_iload_n hx hb dL_at_11 rfl (lv_at hl 1 rfl) ?_
    refine lv_iload_n hx hb dL_at_12 rfl (lv_at hl 2 rfl) ?_
    refine a_callVr (rest := []) (nL := 3) ⟨hx, hb, hml, hown, hts⟩ (a_number l D cy ad hI S r k (by first | assumption | decide | omega) (by first | assumption | decide | omega)) (cwV 2 hts gL_at_X4_number rfl rfl rfl (by decide +kernel) ⟨Nat.le_of_ble_eq_true rfl, Nat.le_of_ble_eq_true rfl⟩) hK hP hS (fun _ h => h) rfl hl.1 rfl (Nat.le_of_ble_eq_true rfl) dL_at_13 ⟨Nat.zero_le _, Nat.zero_le _⟩ (fun H locs hP hS => ?_)
    have hP : aP D cy ad S H := hP
    refine lv_goto (tgt := 20) hx hb dL_at_16 (by decide) ?_
    refine a_iret hx hb hret hlocks hP hS dL_at_20 ?_
    exact ⟨rfl, rfl⟩
set_option maxHeartbeats 4000000 in
set_option maxRecDepth 100000 in
theorem a_L_value (l : Launch) (D : va_G) (cy : Nat → ClassId) (ad : Nat → Nat) (hI : wI 143 ad) (S : kSt) (r : Nat) (z : Nat) (hr : r < 6) (hz : z < 257) : aM l yL_value wsL_value ({ frames := 4, cells := 0, slots := 0, locals := 89 } : Room) D cy ad S [.ref (ad (136)), .int (nI (r)), .int (nI (z))] (aV (nI (vx (S.1 r) z)) S) := by
  refine g_met cL_value 6 (some .int) (by decide) rfl (Nat.le_of_ble_eq_true rfl) ?_
  intro p e s m below meth c ls hx hb hret hts hown hlocks hml hK hP hS hl
  have hl : lv_has ls 6 [(0, .ref (ad (136))), (1, .int (nI (r))), (2, .int (nI (z)))] := hl
  have hown : s.vm.findClass RL = some m.cls := hown
  have hrow : ∀ r, r < 6 → rO (S.1 r) := hP.row
  have hrr := hrow r hr
  have hlen := hrr.2.1
  have hlen1 := hrr.1
  refine lv_iconst (v := nI (0)) hx hb dL_value_0 rfl ?_
  refine lv_istore_n (lv' := [(3, .int (nI (0))), (0, .ref (ad (136))), (1, .int (nI (r))), (2, .int (nI (z)))]) hx hb dL_value_1 rfl hl (by decide) rfl (fun ls hl => ?_)
  refine lv_iconst (v := nI (1)) hx hb dL_value_2 rfl ?_
  refine lv_istore (lv' := [(4, .int (nI (1))), (3, .int (nI (0))), (0, .ref (ad (136))), (1, .int (nI (r))), (2, .int (nI (z)))]) hx hb dL_value_3 hl (by decide) rfl (fun ls hl => ?_)
  refine lv_iconst (v := nI (0)) hx hb dL_value_5 rfl ?_
  refine lv_istore (lv' := [(5, .int (nI (0))), (4, .int (nI (1))), (3, .int (nI (0))), (0, .ref (ad (136))), (1, .int (nI (r))), (2, .int (nI (z)))]) hx hb dL_value_6 hl (by decide) rfl (fun ls hl => ?_)
  have lp8 : ∀ (fu : Nat) (k : Nat) (t : Nat) (u : Nat), (k ≤ (S.1 r).1) → (t = lev (S.1 r).2 z k) → (u = pw z k) → (S.1 r).1 - k < fu → ∀ (H : Heap) (locs : List Loc), aP D cy ad S H → va_S (wA 143 ad) s.heap H locs → ∀ (ls : Array Slot), lv_has ls 6 [(5, .int (nI (k))), (3, .int (nI (t))), (4, .int (nI (u))), (0, .ref (ad (136))), (1, .int (nI (r))), (2, .int (nI (z)))] → W p l e ({ frames := 4, cells := 0, slots := 0, locals := 89 } : Room) s m ([.ref (ad (136)), .int (nI (r)), .int (nI (z))] : List Value).toArray below meth c H locs 0 0 (MQ below (gQ (wA 143 ad) (fun o H => ∃ S' : kSt, (aV (nI (vx (S.1 r) z)) S) o S' ∧ aP D cy ad S' H)) ([.ref (ad (136)), .int (nI (r)), .int (nI (z))] : List Value).toArray s 0 0 (wA 143 ad)) (F0 m 8 ls []) := by
    intro fu
    induction fu with
    | zero => intro k t u hk ht hu hfu; exact absurd hfu (Nat.not_lt_zero _)
    | succ fu ih8 =>
      intro k t u hk ht hu hfu H locs hP hS ls hl
      have hu2 : u < 257 := by rw [hu]; exact pw_lt _ _
      have ht2 : t < 257 := by rw [ht]; exact lev_lt _ _ _
      have hm := mul_lt_257 (hrr.2.2.1 k) hu2
      have hm2 := mul_lt_257 hu2 hz
      refine lv_iload hx hb dL_value_8 (lv_at hl 0 rfl) ?_
      refine lv_aload_n hx hb dL_value_10 rfl (lv_at hl 3 rfl) ?_
      refine lv_iload_n hx hb dL_value_11 rfl (lv_at hl 4 rfl) ?_
      refine lv_iconst (v := nI (0)) hx hb dL_value_12 rfl ?_
      refine a_callVr (rest := [.int (nI (k))]) (nL := 6) ⟨hx, hb, hml, hown, hts⟩ (a_of0 l D cy ad hI S r (by first | assumption | decide | omega)) (cwV 2 hts gL_value_X4_of rfl rfl rfl (by decide +kernel) ⟨Nat.le_of_ble_eq_true rfl, Nat.le_of_ble_eq_true rfl⟩) hK hP hS (fun _ h => h) rfl hl.1 rfl (Nat.le_of_ble_eq_true rfl) dL_value_13 ⟨Nat.zero_le _, Nat.zero_le _⟩ (fun H locs hP hS => ?_)
      have hP : aP D cy ad S H := hP
      refine n_icmp_ge (tgt := 52) hx hb (by omega) (by omega) dL_value_16 (by decide) (fun h_1 => ?_) (fun h_1 => ?_)
      · skip
        refine lv_iload_n hx hb dL_value_52 rfl (lv_at hl 1 rfl) ?_
        refine a_iret hx hb hret hlocks hP hS dL_value_53 ?_
        exact ⟨rN (by rw [ht, show k = (S.1 r).1 by omega, lev_vx]), rfl⟩
      · skip
        refine lv_iload_n hx hb dL_value_19 rfl (lv_at hl 1 rfl) ?_
        refine lv_aload_n hx hb dL_value_20 rfl (lv_at hl 3 rfl) ?_
        refine lv_iload_n hx hb dL_value_21 rfl (lv_at hl 4 rfl) ?_
        refine lv_iload hx hb dL_value_22 (lv_at hl 0 rfl) ?_
        refine a_callVr (rest := [.int (nI (t))]) (nL := 6) ⟨hx, hb, hml, hown, hts⟩ (a_number l D cy ad hI S r k (by first | assumption | decide | omega) (by first | assumption | decide | omega)) (cwV 2 hts gL_value_X4_number rfl rfl rfl (by decide +kernel) ⟨Nat.le_of_ble_eq_true rfl, Nat.le_of_ble_eq_true rfl⟩) hK hP hS (fun _ h => h) rfl hl.1 rfl (Nat.le_of_ble_eq_true rfl) dL_value_24 ⟨Nat.zero_le _, Nat.zero_le _⟩ (fun H locs hP hS => ?_)
        have hP : aP D cy ad S H := hP
        refine lv_iload hx hb dL_value_27 (lv_at hl 2 rfl) ?_
        refine n_imul hx hb dL_value_29 ?_
        refine n_iadd hx hb dL_value_30 ?_
        refine lv_sipush (v := nI (257)) hx hb dL_value_31 rfl ?_
        refine n_irem hx hb (by omega) (by omega) (by omega) dL_value_34  ?_
        refine lv_istore_n (lv' := [(3, .int (nI ((t + (((S.1 r).2 k) * u)) % 257))), (5, .int (nI (k))), (4, .int (nI (u))), (0, .ref (ad (136))), (1, .int (nI (r))), (2, .int (nI (z)))]) hx hb dL_value_35 rfl hl (by decide) rfl (fun ls hl => ?_)
        refine lv_iload hx hb dL_value_36 (lv_at hl 2 rfl) ?_
        refine lv_iload_n hx hb dL_value_38 rfl (lv_at hl 5 rfl) ?_
        refine n_imul hx hb dL_value_39 ?_
        refine lv_sipush (v := nI (257)) hx hb dL_value_40 rfl ?_
        refine n_irem hx hb (by omega) (by omega) (by omega) dL_value_43  ?_
        refine lv_istore (lv' := [(4, .int (nI ((u * z) % 257))), (3, .int (nI ((t + (((S.1 r).2 k) * u)) % 257))), (5, .int (nI (k))), (0, .ref (ad (136))), (1, .int (nI (r))), (2, .int (nI (z)))]) hx hb dL_value_44 hl (by decide) rfl (fun ls hl => ?_)
        refine lv_iinc (v := nI (k + 1)) (lv' := [(5, .int (nI (k + 1))), (4, .int (nI ((u * z) % 257))), (3, .int (nI ((t + (((S.1 r).2 k) * u)) % 257))), (0, .ref (ad (136))), (1, .int (nI (r))), (2, .int (nI (z)))]) hx hb dL_value_46 hl (k := 2) rfl (nI_inc _) (by decide) rfl (fun ls hl => ?_)
        refine lv_goto (tgt := 8) hx hb dL_value_49 (by decide) ?_
        exact ih8 (k + 1) ((t + (S.1 r).2 k * u) % 257) (u * z % 257) (by omega) (by rw [lev_s, ← ht, ← hu]) (by rw [pw_s, ← hu]) (by omega) _ _ hP hS _ (lv_sub hl [0, 2, 1, 3, 4, 5] rfl)
  exact lp8 (_ + 1) (0) (0) (1) (Nat.zero_le _) rfl (pw_0 z).symm (Nat.lt_succ_self _) _ _ hP hS _ (lv_sub hl [0, 2, 1, 3, 4, 5] rfl)
set_option maxHeartbeats 4000000 in
set_option maxRecDepth 100000 in
theorem a_L_degree (l : Launch) (D : va_G) (cy : Nat → ClassId) (ad : Nat → Nat) (hI : wI 143 ad) (S : kSt) (r : Nat) (hr : r < 6) : aM l yL_degree wsL_degree ({ frames := 4, cells := 0, slots := 0, locals := 89 } : Room) D cy ad S [.ref (ad (136)), .int (nI (r))] (aV (dV (rD (S.1 r))) S) := by
  refine g_met cL_degree 4 (some .int) (by decide) rfl (Nat.le_of_ble_eq_true rfl) ?_
  intro p e s m below meth c ls hx hb hret hts hown hlocks hml hK hP hS hl
  have hl : lv_has ls 4 [(0, .ref (ad (136))), (1, .int (nI (r)))] := hl
  have hown : s.vm.findClass RL = some m.cls := hown
  have hrow : ∀ r, r < 6 → rO (S.1 r) := hP.row
  have hrr := hrow r hr
  have hlen := hrr.2.1
  have hlen1 := hrr.1
  refine lv_bipush (v := (-6 : Int32)) hx hb dL_degree_0 (by decide) ?_
  refine i_push (b := dV (dg (S.1 r).2 0)) rfl ?_
  refine lv_istore_n (lv' := [(2, .int (dV (dg (S.1 r).2 0))), (0, .ref (ad (136))), (1, .int (nI (r)))]) hx hb dL_degree_2 rfl hl (by decide) rfl (fun ls hl => ?_)
  refine lv_iconst (v := nI (0)) hx hb dL_degree_3 rfl ?_
  refine lv_istore_n (lv' := [(3, .int (nI (0))), (2, .int (dV (dg (S.1 r).2 0))), (0, .ref (ad (136))), (1, .int (nI (r)))]) hx hb dL_degree_4 rfl hl (by decide) rfl (fun ls hl => ?_)
  have lp5 : ∀ (fu : Nat) (k : Nat), (k ≤ (S.1 r).1) → (S.1 r).1 - k < fu → ∀ (H : Heap) (locs : List Loc), aP D cy ad S H → va_S (wA 143 ad) s.heap H locs → ∀ (ls : Array Slot), lv_has ls 4 [(3, .int (nI (k))), (2, .int (dV (dg (S.1 r).2 k))), (0, .ref (ad (136))), (1, .int (nI (r)))] → W p l e ({ frames := 4, cells := 0, slots := 0, locals := 89 } : Room) s m ([.ref (ad (136)), .int (nI (r))] : List Value).toArray below meth c H locs 0 0 (MQ below (gQ (wA 143 ad) (fun o H => ∃ S' : kSt, (aV (dV (rD (S.1 r))) S) o S' ∧ aP D cy ad S' H)) ([.ref (ad (136)), .int (nI (r))] : List Value).toArray s 0 0 (wA 143 ad)) (F0 m 5 ls []) := by
    intro fu
    induction fu with
    | zero => intro k hk hfu; exact absurd hfu (Nat.not_lt_zero _)
    | succ fu ih5 =>
      intro k hk hfu H locs hP hS ls hl
      have hbk := hrr.2.2.1 k
      refine lv_iload_n hx hb dL_degree_5 rfl (lv_at hl 0 rfl) ?_
      refine lv_aload_n hx hb dL_degree_6 rfl (lv_at hl 2 rfl) ?_
      refine lv_iload_n hx hb dL_degree_7 rfl (lv_at hl 3 rfl) ?_
      refine lv_iconst (v := nI (0)) hx hb dL_degree_8 rfl ?_
      refine a_callVr (rest := [.int (nI (k))]) (nL := 4) ⟨hx, hb, hml, hown, hts⟩ (a_of0 l D cy ad hI S r (by first | assumption | decide | omega)) (cwV 2 hts gL_degree_X4_of rfl rfl rfl (by decide +kernel) ⟨Nat.le_of_ble_eq_true rfl, Nat.le_of_ble_eq_true rfl⟩) hK hP hS (fun _ h => h) rfl hl.1 rfl (Nat.le_of_ble_eq_true rfl) dL_degree_9 ⟨Nat.zero_le _, Nat.zero_le _⟩ (fun H locs hP hS => ?_)
      have hP : aP D cy ad S H := hP
      refine n_icmp_ge (tgt := 36) hx hb (by omega) (by omega) dL_degree_12 (by decide) (fun h_1 => ?_) (fun h_1 => ?_)
      · skip
        refine lv_iload_n hx hb dL_degree_36 rfl (lv_at hl 1 rfl) ?_
        refine a_iret hx hb hret hlocks hP hS dL_degree_37 ?_
        exact ⟨by rw [show k = (S.1 r).1 by omega]; rfl, rfl⟩
      · skip
        refine lv_aload_n hx hb dL_degree_15 rfl (lv_at hl 2 rfl) ?_
        refine lv_iload_n hx hb dL_degree_16 rfl (lv_at hl 3 rfl) ?_
        refine lv_iload_n hx hb dL_degree_17 rfl (lv_at hl 0 rfl) ?_
        refine a_callVr (rest := []) (nL := 4) ⟨hx, hb, hml, hown, hts⟩ (a_number l D cy ad hI S r k (by first | assumption | decide | omega) (by first | assumption | decide | omega)) (cwV 2 hts gL_degree_X4_number rfl rfl rfl (by decide +kernel) ⟨Nat.le_of_ble_eq_true rfl, Nat.le_of_ble_eq_true rfl⟩) hK hP hS (fun _ h => h) rfl hl.1 rfl (Nat.le_of_ble_eq_true rfl) dL_degree_18 ⟨Nat.zero_le _, Nat.zero_le _⟩ (fun H locs hP hS => ?_)
        have hP : aP D cy ad S H := hP
        refine n_ifne (tgt := 28) hx hb (by omega) dL_degree_21 (by decide) (fun h_2 => ?_) (fun h_2 => ?_)
        · skip
          have hnz := h_2
          refine lv_iload_n hx hb dL_degree_28 rfl (lv_at hl 0 rfl) ?_
          refine i_push (b := dV (dg (S.1 r).2 (k + 1))) (by rw [dg_nz _ hnz, dV_s]) ?_
          refine lv_istore_n (lv' := [(2, .int (dV (dg (S.1 r).2 (k + 1)))), (3, .int (nI (k))), (0, .ref (ad (136))), (1, .int (nI (r)))]) hx hb dL_degree_29 rfl hl (by decide) rfl (fun ls hl => ?_)
          refine lv_iinc (v := nI (k + 1)) (lv' := [(3, .int (nI (k + 1))), (2, .int (dV (dg (S.1 r).2 (k + 1)))), (0, .ref (ad (136))), (1, .int (nI (r)))]) hx hb dL_degree_30 hl (k := 1) rfl (nI_inc _) (by decide) rfl (fun ls hl => ?_)
          refine lv_goto (tgt := 5) hx hb dL_degree_33 (by decide) ?_
          exact ih5 (k + 1) (by omega) (by omega) _ _ hP hS _ hl
        · skip
          have hz := h_2
          refine lv_iload_n hx hb dL_degree_24 rfl (lv_at hl 1 rfl) ?_
          refine i_push (b := dV (dg (S.1 r).2 (k + 1))) (by rw [dg_zero _ hz]) ?_
          refine lv_goto (tgt := 29) hx hb dL_degree_25 (by decide) ?_
          refine lv_istore_n (lv' := [(2, .int (dV (dg (S.1 r).2 (k + 1)))), (3, .int (nI (k))), (0, .ref (ad (136))), (1, .int (nI (r)))]) hx hb dL_degree_29 rfl hl (by decide) rfl (fun ls hl => ?_)
          refine lv_iinc (v := nI (k + 1)) (lv' := [(3, .int (nI (k + 1))), (2, .int (dV (dg (S.1 r).2 (k + 1)))), (0, .ref (ad (136))), (1, .int (nI (r)))]) hx hb dL_degree_30 hl (k := 1) rfl (nI_inc _) (by decide) rfl (fun ls hl => ?_)
          refine lv_goto (tgt := 5) hx hb dL_degree_33 (by decide) ?_
          exact ih5 (k + 1) (by omega) (by omega) _ _ hP hS _ hl
  exact lp5 (_ + 1) (0) (Nat.zero_le _) (Nat.lt_succ_self _) _ _ hP hS _ hl
theorem a_L_degree0 (l : Launch) (D : va_G) (cy : Nat → ClassId) (ad : Nat → Nat) (hI : wI 143 ad) (S : kSt) (r : Nat) (hr : r < 6) (h0 : rD (S.1 r) = 0) : aM l yL_degree wsL_degree ({ frames := 4, cells := 0, slots := 0, locals := 89 } : Room) D cy ad S [.ref (ad (136)), .int (nI r)] (aV (-6) S) := by
  have h := a_L_degree l D cy ad hI S r hr
  rw [h0] at h
  exact h
theorem a_L_degreeS (l : Launch) (D : va_G) (cy : Nat → ClassId) (ad : Nat → Nat) (hI : wI 143 ad) (S : kSt) (r d : Nat) (hr : r < 6) (hd : rD (S.1 r) = d + 1) : aM l yL_degree wsL_degree ({ frames := 4, cells := 0, slots := 0, locals := 89 } : Room) D cy ad S [.ref (ad (136)), .int (nI r)] (aV (nI d) S) := by
  have h := a_L_degree l D cy ad hI S r hr
  rw [hd, dV_s] at h
  exact h
set_option maxHeartbeats 4000000 in
set_option maxRecDepth 100000 in
theorem a_L_alike (l : Launch) (D : va_G) (cy : Nat → ClassId) (ad : Nat → Nat) (hI : wI 143 ad) (S : kSt) (r : Nat) (q : Nat) (hr : r < 6) (hq : q < 6) (he : S.1 r = S.1 q) : aM l yL_alike wsL_alike ({ frames := 4, cells := 0, slots := 0, locals := 89 } : Room) D cy ad S [.ref (ad (136)), .int (nI (r)), .int (nI (q))] (aV (nI (1)) S) := by
  refine g_met cL_alike 5 (some .boolean) (by decide) rfl (Nat.le_of_ble_eq_true rfl) ?_
  intro p e s m below meth c ls hx hb hret hts hown hlocks hml hK hP hS hl
  have hl : lv_has ls 5 [(0, .ref (ad (136))), (1, .int (nI (r))), (2, .int (nI (q)))] := hl
  have hown : s.vm.findClass RL = some m.cls := hown
  have hrow : ∀ r, r < 6 → rO (S.1 r) := hP.row
  have hrr := hrow r hr
  have hlen := hrr.2.1
  have hlen1 := hrr.1
  have hlq : (S.1 q).1 ≤ 64 := (hrow q hq).2.1
  refine lv_aload_n hx hb dL_alike_0 rfl (lv_at hl 0 rfl) ?_
  refine lv_iload_n hx hb dL_alike_1 rfl (lv_at hl 1 rfl) ?_
  refine lv_iconst (v := nI (0)) hx hb dL_alike_2 rfl ?_
  refine a_callVr (rest := []) (nL := 5) ⟨hx, hb, hml, hown, hts⟩ (a_of0 l D cy ad hI S r (by first | assumption | decide | omega)) (cwV 2 hts gL_alike_X4_of rfl rfl rfl (by decide +kernel) ⟨Nat.le_of_ble_eq_true rfl, Nat.le_of_ble_eq_true rfl⟩) hK hP hS (fun _ h => h) rfl hl.1 rfl (Nat.le_of_ble_eq_true rfl) dL_alike_3 ⟨Nat.zero_le _, Nat.zero_le _⟩ (fun H locs hP hS => ?_)
  have hP : aP D cy ad S H := hP
  refine lv_aload_n hx hb dL_alike_6 rfl (lv_at hl 0 rfl) ?_
  refine lv_iload_n hx hb dL_alike_7 rfl (lv_at hl 2 rfl) ?_
  refine lv_iconst (v := nI (0)) hx hb dL_alike_8 rfl ?_
  refine a_callVr (rest := [.int (nI ((S.1 r).1))]) (nL := 5) ⟨hx, hb, hml, hown, hts⟩ (a_of0 l D cy ad hI S q (by first | assumption | decide | omega)) (cwV 2 hts gL_alike_X4_of rfl rfl rfl (by decide +kernel) ⟨Nat.le_of_ble_eq_true rfl, Nat.le_of_ble_eq_true rfl⟩) hK hP hS (fun _ h => h) rfl hl.1 rfl (Nat.le_of_ble_eq_true rfl) dL_alike_9 ⟨Nat.zero_le _, Nat.zero_le _⟩ (fun H locs hP hS => ?_)
  have hP : aP D cy ad S H := hP
  refine n_icmp_ne (tgt := 19) hx hb (by omega) (by omega) dL_alike_12 (by decide) (fun h_1 => ?_) (fun h_1 => ?_)
  · skip
    exact absurd (by rw [he]) h_1
  · skip
    refine lv_iconst (v := nI (1)) hx hb dL_alike_15 rfl ?_
    refine lv_goto (tgt := 20) hx hb dL_alike_16 (by decide) ?_
    refine lv_istore_n (lv' := [(3, .int (nI (1))), (0, .ref (ad (136))), (1, .int (nI (r))), (2, .int (nI (q)))]) hx hb dL_alike_20 rfl hl (by decide) rfl (fun ls hl => ?_)
    refine lv_iconst (v := nI (0)) hx hb dL_alike_21 rfl ?_
    refine lv_istore (lv' := [(4, .int (nI (0))), (3, .int (nI (1))), (0, .ref (ad (136))), (1, .int (nI (r))), (2, .int (nI (q)))]) hx hb dL_alike_22 hl (by decide) rfl (fun ls hl => ?_)
    have lp24 : ∀ (fu : Nat) (k : Nat), (k ≤ (S.1 r).1) → (S.1 r).1 - k < fu → ∀ (H : Heap) (locs : List Loc), aP D cy ad S H → va_S (wA 143 ad) s.heap H locs → ∀ (ls : Array Slot), lv_has ls 5 [(4, .int (nI (k))), (3, .int (nI (1))), (0, .ref (ad (136))), (1, .int (nI (r))), (2, .int (nI (q)))] → W p l e ({ frames := 4, cells := 0, slots := 0, locals := 89 } : Room) s m ([.ref (ad (136)), .int (nI (r)), .int (nI (q))] : List Value).toArray below meth c H locs 0 0 (MQ below (gQ (wA 143 ad) (fun o H => ∃ S' : kSt, (aV (nI (1)) S) o S' ∧ aP D cy ad S' H)) ([.ref (ad (136)), .int (nI (r)), .int (nI (q))] : List Value).toArray s 0 0 (wA 143 ad)) (F0 m 24 ls []) := by
      intro fu
      induction fu with
      | zero => intro k hk hfu; exact absurd hfu (Nat.not_lt_zero _)
      | succ fu ih24 =>
        intro k hk hfu H locs hP hS ls hl
        have hbk := hrr.2.2.1 k
        have hbq := (hrow q hq).2.2.1 k
        refine lv_iload hx hb dL_alike_24 (lv_at hl 0 rfl) ?_
        refine lv_aload_n hx hb dL_alike_26 rfl (lv_at hl 2 rfl) ?_
        refine lv_iload_n hx hb dL_alike_27 rfl (lv_at hl 3 rfl) ?_
        refine lv_iconst (v := nI (0)) hx hb dL_alike_28 rfl ?_
        refine a_callVr (rest := [.int (nI (k))]) (nL := 5) ⟨hx, hb, hml, hown, hts⟩ (a_of0 l D cy ad hI S r (by first | assumption | decide | omega)) (cwV 2 hts gL_alike_X4_of rfl rfl rfl (by decide +kernel) ⟨Nat.le_of_ble_eq_true rfl, Nat.le_of_ble_eq_true rfl⟩) hK hP hS (fun _ h => h) rfl hl.1 rfl (Nat.le_of_ble_eq_true rfl) dL_alike_29 ⟨Nat.zero_le _, Nat.zero_le _⟩ (fun H locs hP hS => ?_)
        have hP : aP D cy ad S H := hP
        refine n_icmp_ge (tgt := 68) hx hb (by omega) (by omega) dL_alike_32 (by decide) (fun h_2 => ?_) (fun h_2 => ?_)
        · skip
          refine lv_iload_n hx hb dL_alike_68 rfl (lv_at hl 1 rfl) ?_
          refine a_zret hx hb hret hlocks (by rfl) hP hS dL_alike_69 ?_
          exact ⟨rfl, rfl⟩
        · skip
          refine lv_iload_n hx hb dL_alike_35 rfl (lv_at hl 1 rfl) ?_
          refine n_ifeq (tgt := 68) hx hb (by omega) dL_alike_36 (by decide) (fun h_3 => absurd h_3 (by decide)) (fun h_3 => ?_)
          refine lv_aload_n hx hb dL_alike_39 rfl (lv_at hl 2 rfl) ?_
          refine lv_iload_n hx hb dL_alike_40 rfl (lv_at hl 3 rfl) ?_
          refine lv_iload hx hb dL_alike_41 (lv_at hl 0 rfl) ?_
          refine a_callVr (rest := []) (nL := 5) ⟨hx, hb, hml, hown, hts⟩ (a_number l D cy ad hI S r k (by first | assumption | decide | omega) (by first | assumption | decide | omega)) (cwV 2 hts gL_alike_X4_number rfl rfl rfl (by decide +kernel) ⟨Nat.le_of_ble_eq_true rfl, Nat.le_of_ble_eq_true rfl⟩) hK hP hS (fun _ h => h) rfl hl.1 rfl (Nat.le_of_ble_eq_true rfl) dL_alike_43 ⟨Nat.zero_le _, Nat.zero_le _⟩ (fun H locs hP hS => ?_)
          have hP : aP D cy ad S H := hP
          refine lv_aload_n hx hb dL_alike_46 rfl (lv_at hl 2 rfl) ?_
          refine lv_iload_n hx hb dL_alike_47 rfl (lv_at hl 4 rfl) ?_
          refine lv_iload hx hb dL_alike_48 (lv_at hl 0 rfl) ?_
          refine a_callVr (rest := [.int (nI ((S.1 r).2 k))]) (nL := 5) ⟨hx, hb, hml, hown, hts⟩ (a_number l D cy ad hI S q k (by first | assumption | decide | omega) (by rw [← he]; omega)) (cwV 2 hts gL_alike_X4_number rfl rfl rfl (by decide +kernel) ⟨Nat.le_of_ble_eq_true rfl, Nat.le_of_ble_eq_true rfl⟩) hK hP hS (fun _ h => h) rfl hl.1 rfl (Nat.le_of_ble_eq_true rfl) dL_alike_50 ⟨Nat.zero_le _, Nat.zero_le _⟩ (fun H locs hP hS => ?_)
          have hP : aP D cy ad S H := hP
          refine n_icmp_ne (tgt := 60) hx hb (by omega) (by omega) dL_alike_53 (by decide) (fun h_4 => ?_) (fun h_4 => ?_)
          · skip
            exact absurd (by rw [he]) h_4
          · skip
            refine lv_iconst (v := nI (1)) hx hb dL_alike_56 rfl ?_
            refine lv_goto (tgt := 61) hx hb dL_alike_57 (by decide) ?_
            refine lv_istore_n (lv' := [(3, .int (nI (1))), (4, .int (nI (k))), (0, .ref (ad (136))), (1, .int (nI (r))), (2, .int (nI (q)))]) hx hb dL_alike_61 rfl hl (by decide) rfl (fun ls hl => ?_)
            refine lv_iinc (v := nI (k + 1)) (lv' := [(4, .int (nI (k + 1))), (3, .int (nI (1))), (0, .ref (ad (136))), (1, .int (nI (r))), (2, .int (nI (q)))]) hx hb dL_alike_62 hl (k := 1) rfl (nI_inc _) (by decide) rfl (fun ls hl => ?_)
            refine lv_goto (tgt := 24) hx hb dL_alike_65 (by decide) ?_
            exact ih24 (k + 1) (by omega) (by omega) _ _ hP hS _ hl
    exact lp24 (_ + 1) (0) (Nat.zero_le _) (Nat.lt_succ_self _) _ _ hP hS _ hl
set_option maxHeartbeats 4000000 in
set_option maxRecDepth 100000 in
theorem a_L_isRow (l : Launch) (D : va_G) (cy : Nat → ClassId) (ad : Nat → Nat) (hI : wI 143 ad) (S : kSt) (r : Nat) (hr : r < 6) : aM l yL_isRow wsL_isRow ({ frames := 5, cells := 0, slots := 0, locals := 114 } : Room) D cy ad S [.ref (ad (136)), .int (nI (r))] (aV (nI (1)) S) := by
  refine g_met cL_isRow 9 (some .boolean) (by decide) rfl (Nat.le_of_ble_eq_true rfl) ?_
  intro p e s m below meth c ls hx hb hret hts hown hlocks hml hK hP hS hl
  have hl : lv_has ls 9 [(0, .ref (ad (136))), (1, .int (nI (r)))] := hl
  have hown : s.vm.findClass RL = some m.cls := hown
  have hrow : ∀ r, r < 6 → rO (S.1 r) := hP.row
  have hrr := hrow r hr
  have hlen := hrr.2.1
  have hlen1 := hrr.1
  have hc1 := cn_le (S.1 r).2 (S.1 r).1
  have hc2 := sm_le (S.1 r).2 (S.1 r).1 hrr.2.2.1
  have hc3 := cq_le (vx (S.1 r)) 257
  refine lv_iconst (v := nI (0)) hx hb dL_isRow_0 rfl ?_
  refine lv_istore_n (lv' := [(2, .int (nI (0))), (0, .ref (ad (136))), (1, .int (nI (r)))]) hx hb dL_isRow_1 rfl hl (by decide) rfl (fun ls hl => ?_)
  refine lv_iconst (v := nI (0)) hx hb dL_isRow_2 rfl ?_
  refine lv_istore_n (lv' := [(3, .int (nI (0))), (2, .int (nI (0))), (0, .ref (ad (136))), (1, .int (nI (r)))]) hx hb dL_isRow_3 rfl hl (by decide) rfl (fun ls hl => ?_)
  refine lv_iconst (v := nI (0)) hx hb dL_isRow_4 rfl ?_
  refine lv_istore (lv' := [(4, .int (nI (0))), (3, .int (nI (0))), (2, .int (nI (0))), (0, .ref (ad (136))), (1, .int (nI (r)))]) hx hb dL_isRow_5 hl (by decide) rfl (fun ls hl => ?_)
  refine lv_bipush (v := (-6 : Int32)) hx hb dL_isRow_7 (by decide) ?_
  refine lv_istore (lv' := [(5, .int (-6)), (4, .int (nI (0))), (3, .int (nI (0))), (2, .int (nI (0))), (0, .ref (ad (136))), (1, .int (nI (r)))]) hx hb dL_isRow_9 hl (by decide) rfl (fun ls hl => ?_)
  refine lv_aload_n hx hb dL_isRow_11 rfl (lv_at hl 4 rfl) ?_
  refine lv_iload_n hx hb dL_isRow_12 rfl (lv_at hl 5 rfl) ?_
  refine lv_iconst (v := nI (0)) hx hb dL_isRow_13 rfl ?_
  refine a_callVr (rest := []) (nL := 9) ⟨hx, hb, hml, hown, hts⟩ (a_of0 l D cy ad hI S r (by first | assumption | decide | omega)) (cwV 2 hts gL_isRow_X4_of rfl rfl rfl (by decide +kernel) ⟨Nat.le_of_ble_eq_true rfl, Nat.le_of_ble_eq_true rfl⟩) hK hP hS (fun _ h => h) rfl hl.1 rfl (Nat.le_of_ble_eq_true rfl) dL_isRow_14 ⟨Nat.zero_le _, Nat.zero_le _⟩ (fun H locs hP hS => ?_)
  have hP : aP D cy ad S H := hP
  refine lv_istore (lv' := [(6, .int (nI ((S.1 r).1))), (5, .int (-6)), (4, .int (nI (0))), (3, .int (nI (0))), (2, .int (nI (0))), (0, .ref (ad (136))), (1, .int (nI (r)))]) hx hb dL_isRow_17 hl (by decide) rfl (fun ls hl => ?_)
  refine lv_iconst (v := nI (0)) hx hb dL_isRow_19 rfl ?_
  refine lv_istore (lv' := [(7, .int (nI (0))), (6, .int (nI ((S.1 r).1))), (5, .int (-6)), (4, .int (nI (0))), (3, .int (nI (0))), (2, .int (nI (0))), (0, .ref (ad (136))), (1, .int (nI (r)))]) hx hb dL_isRow_20 hl (by decide) rfl (fun ls hl => ?_)
  have lp22 : ∀ (fu : Nat) (k : Nat) (t1 : Nat) (t2 : Nat), (k ≤ (S.1 r).1) → (t1 = cn (S.1 r).2 k) → (t2 = sm (S.1 r).2 k) → (S.1 r).1 - k < fu → ∀ (H : Heap) (locs : List Loc), aP D cy ad S H → va_S (wA 143 ad) s.heap H locs → ∀ (ls : Array Slot), lv_has ls 9 [(7, .int (nI (k))), (2, .int (nI (t1))), (3, .int (nI (t2))), (6, .int (nI ((S.1 r).1))), (0, .ref (ad (136))), (1, .int (nI (r))), (4, .int (nI (0))), (5, .int (-6))] → W p l e ({ frames := 5, cells := 0, slots := 0, locals := 114 } : Room) s m ([.ref (ad (136)), .int (nI (r))] : List Value).toArray below meth c H locs 0 0 (MQ below (gQ (wA 143 ad) (fun o H => ∃ S' : kSt, (aV (nI (1)) S) o S' ∧ aP D cy ad S' H)) ([.ref (ad (136)), .int (nI (r))] : List Value).toArray s 0 0 (wA 143 ad)) (F0 m 22 ls []) := by
    intro fu
    induction fu with
    | zero => intro k t1 t2 hk h1 h2 hfu; exact absurd hfu (Nat.not_lt_zero _)
    | succ fu ih22 =>
      intro k t1 t2 hk h1 h2 hfu H locs hP hS ls hl
      have hbk := hrr.2.2.1 k
      have hd1 := cn_le (S.1 r).2 k
      have hd2 := sm_le (S.1 r).2 k hrr.2.2.1
      refine lv_iload hx hb dL_isRow_22 (lv_at hl 0 rfl) ?_
      refine lv_iload hx hb dL_isRow_24 (lv_at hl 3 rfl) ?_
      refine n_icmp_ge (tgt := 77) hx hb (by omega) (by omega) dL_isRow_26 (by decide) (fun h_1 => ?_) (fun h_1 => ?_)
      · skip
        have hke : k = (S.1 r).1 := by omega
        rw [hke] at h1 h2
        refine lv_sipush (v := nI (256)) hx hb dL_isRow_77 rfl ?_
        refine i_push (b := nI (257) - 1) (by decide) ?_
        refine lv_istore (lv' := [(7, .int (nI (257) - 1)), (2, .int (nI (t1))), (3, .int (nI (t2))), (6, .int (nI ((S.1 r).1))), (0, .ref (ad (136))), (1, .int (nI (r))), (4, .int (nI (0))), (5, .int (-6))]) hx hb dL_isRow_80 hl (by decide) rfl (fun ls hl => ?_)
        have lp82 : ∀ (fu : Nat) (n : Nat) (z0 : Nat), (n ≤ 257) → (z0 = cq (vx (S.1 r)) 257 - cq (vx (S.1 r)) n) → n < fu → ∀ (H : Heap) (locs : List Loc), aP D cy ad S H → va_S (wA 143 ad) s.heap H locs → ∀ (ls : Array Slot), lv_has ls 9 [(7, .int (nI (n) - 1)), (4, .int (nI (z0))), (5, .int (fz (vx (S.1 r)) n (257 - n))), (0, .ref (ad (136))), (1, .int (nI (r))), (2, .int (nI (t1))), (3, .int (nI (t2))), (6, .int (nI ((S.1 r).1)))] → W p l e ({ frames := 5, cells := 0, slots := 0, locals := 114 } : Room) s m ([.ref (ad (136)), .int (nI (r))] : List Value).toArray below meth c H locs 0 0 (MQ below (gQ (wA 143 ad) (fun o H => ∃ S' : kSt, (aV (nI (1)) S) o S' ∧ aP D cy ad S' H)) ([.ref (ad (136)), .int (nI (r))] : List Value).toArray s 0 0 (wA 143 ad)) (F0 m 82 ls []) := by
          intro fu
          induction fu with
          | zero => intro n z0 hn hz0 hfu; exact absurd hfu (Nat.not_lt_zero _)
          | succ fu ih82 =>
            intro n z0 hn hz0 hfu H locs hP hS ls hl
            refine lv_iload hx hb dL_isRow_82 (lv_at hl 0 rfl) ?_
            refine n_down (n := n) (tgt := 145) hx hb (by omega) dL_isRow_84 (by decide) (fun h_2 => ?_) (fun h_2 => ?_)
            · skip
              subst h_2
              have hz1 : z0 = cq (vx (S.1 r)) 257 := hz0
              refine lv_iload hx hb dL_isRow_145 (lv_at hl 7 rfl) ?_
              refine lv_iconst (v := nI (1)) hx hb dL_isRow_147 rfl ?_
              refine n_icmp_lt (tgt := 229) hx hb (by omega) (by omega) dL_isRow_148 (by decide) (fun h_3 => ?_) (fun h_3 => ?_)
              · skip
                exact absurd h_3 (by omega)
              · skip
                refine lv_iload hx hb dL_isRow_151 (lv_at hl 7 rfl) ?_
                refine lv_bipush (v := nI (64)) hx hb dL_isRow_153 rfl ?_
                refine n_icmp_gt (tgt := 229) hx hb (by omega) (by omega) dL_isRow_155 (by decide) (fun h_4 => ?_) (fun h_4 => ?_)
                · skip
                  exact absurd h_4 (by omega)
                · skip
                  refine lv_aload_n hx hb dL_isRow_158 rfl (lv_at hl 3 rfl) ?_
                  refine lv_iload_n hx hb dL_isRow_159 rfl (lv_at hl 4 rfl) ?_
                  refine lv_iconst (v := nI (1)) hx hb dL_isRow_160 rfl ?_
                  refine a_callVr (rest := []) (nL := 9) ⟨hx, hb, hml, hown, hts⟩ (a_of1 l D cy ad hI S r (by first | assumption | decide | omega)) (cwV 2 hts gL_isRow_X4_of rfl rfl rfl (by decide +kernel) ⟨Nat.le_of_ble_eq_true rfl, Nat.le_of_ble_eq_true rfl⟩) hK hP hS (fun _ h => h) rfl hl.1 rfl (Nat.le_of_ble_eq_true rfl) dL_isRow_161 ⟨Nat.zero_le _, Nat.zero_le _⟩ (fun H locs hP hS => ?_)
                  have hP : aP D cy ad S H := hP
                  refine lv_aload_n hx hb dL_isRow_164 rfl (lv_at hl 3 rfl) ?_
                  refine lv_iload_n hx hb dL_isRow_165 rfl (lv_at hl 4 rfl) ?_
                  refine a_callSr (rest := [.int (dV (rD (S.1 r)))]) (nL := 9) ⟨hx, hb, hml, hown, hts⟩ (a_L_degree l D cy ad hI S r (by first | assumption | decide | omega)) (va_cwS 2 hts gL_isRow_L_degree rfl rfl rfl (by decide +kernel) ⟨Nat.le_of_ble_eq_true rfl, Nat.le_of_ble_eq_true rfl⟩) hK hP hS (fun _ h => h) rfl hl.1 rfl (Nat.le_of_ble_eq_true rfl) dL_isRow_166 ⟨Nat.zero_le _, Nat.zero_le _⟩ (fun H locs hP hS => ?_)
                  have hP : aP D cy ad S H := hP
                  refine lv_icmp_ne (tgt := 229) hx hb dL_isRow_169 (by decide) (fun h_5 => ?_) (fun h_5 => ?_)
                  · skip
                    exact absurd rfl h_5
                  · skip
                    refine lv_aload_n hx hb dL_isRow_172 rfl (lv_at hl 3 rfl) ?_
                    refine lv_iload_n hx hb dL_isRow_173 rfl (lv_at hl 4 rfl) ?_
                    refine lv_iconst (v := nI (2)) hx hb dL_isRow_174 rfl ?_
                    refine a_callVr (rest := []) (nL := 9) ⟨hx, hb, hml, hown, hts⟩ (a_of2 l D cy ad hI S r (by first | assumption | decide | omega)) (cwV 2 hts gL_isRow_X4_of rfl rfl rfl (by decide +kernel) ⟨Nat.le_of_ble_eq_true rfl, Nat.le_of_ble_eq_true rfl⟩) hK hP hS (fun _ h => h) rfl hl.1 rfl (Nat.le_of_ble_eq_true rfl) dL_isRow_175 ⟨Nat.zero_le _, Nat.zero_le _⟩ (fun H locs hP hS => ?_)
                    have hP : aP D cy ad S H := hP
                    refine lv_iload_n hx hb dL_isRow_178 rfl (lv_at hl 5 rfl) ?_
                    refine n_icmp_ne (tgt := 229) hx hb (by omega) (by omega) dL_isRow_179 (by decide) (fun h_6 => ?_) (fun h_6 => ?_)
                    · skip
                      exact absurd h1.symm h_6
                    · skip
                      refine lv_aload_n hx hb dL_isRow_182 rfl (lv_at hl 3 rfl) ?_
                      refine lv_iload_n hx hb dL_isRow_183 rfl (lv_at hl 4 rfl) ?_
                      refine lv_iconst (v := nI (3)) hx hb dL_isRow_184 rfl ?_
                      refine a_callVr (rest := []) (nL := 9) ⟨hx, hb, hml, hown, hts⟩ (a_of3 l D cy ad hI S r (by first | assumption | decide | omega)) (cwV 2 hts gL_isRow_X4_of rfl rfl rfl (by decide +kernel) ⟨Nat.le_of_ble_eq_true rfl, Nat.le_of_ble_eq_true rfl⟩) hK hP hS (fun _ h => h) rfl hl.1 rfl (Nat.le_of_ble_eq_true rfl) dL_isRow_185 ⟨Nat.zero_le _, Nat.zero_le _⟩ (fun H locs hP hS => ?_)
                      have hP : aP D cy ad S H := hP
                      refine lv_iload_n hx hb dL_isRow_188 rfl (lv_at hl 6 rfl) ?_
                      refine n_icmp_ne (tgt := 229) hx hb (by omega) (by omega) dL_isRow_189 (by decide) (fun h_7 => ?_) (fun h_7 => ?_)
                      · skip
                        exact absurd h2.symm h_7
                      · skip
                        refine lv_aload_n hx hb dL_isRow_192 rfl (lv_at hl 3 rfl) ?_
                        refine lv_iload_n hx hb dL_isRow_193 rfl (lv_at hl 4 rfl) ?_
                        refine lv_iconst (v := nI (4)) hx hb dL_isRow_194 rfl ?_
                        refine a_callVr (rest := []) (nL := 9) ⟨hx, hb, hml, hown, hts⟩ (a_of4 l D cy ad hI S r (by first | assumption | decide | omega)) (cwV 2 hts gL_isRow_X4_of rfl rfl rfl (by decide +kernel) ⟨Nat.le_of_ble_eq_true rfl, Nat.le_of_ble_eq_true rfl⟩) hK hP hS (fun _ h => h) rfl hl.1 rfl (Nat.le_of_ble_eq_true rfl) dL_isRow_195 ⟨Nat.zero_le _, Nat.zero_le _⟩ (fun H locs hP hS => ?_)
                        have hP : aP D cy ad S H := hP
                        refine lv_iload hx hb dL_isRow_198 (lv_at hl 1 rfl) ?_
                        refine n_icmp_ne (tgt := 229) hx hb (by omega) (by omega) dL_isRow_200 (by decide) (fun h_8 => ?_) (fun h_8 => ?_)
                        · skip
                          exact absurd hz1.symm h_8
                        · skip
                          refine lv_aload_n hx hb dL_isRow_203 rfl (lv_at hl 3 rfl) ?_
                          refine lv_iload_n hx hb dL_isRow_204 rfl (lv_at hl 4 rfl) ?_
                          refine lv_iconst (v := nI (5)) hx hb dL_isRow_205 rfl ?_
                          refine a_callVr (rest := []) (nL := 9) ⟨hx, hb, hml, hown, hts⟩ (a_of5 l D cy ad hI S r (by first | assumption | decide | omega)) (cwV 2 hts gL_isRow_X4_of rfl rfl rfl (by decide +kernel) ⟨Nat.le_of_ble_eq_true rfl, Nat.le_of_ble_eq_true rfl⟩) hK hP hS (fun _ h => h) rfl hl.1 rfl (Nat.le_of_ble_eq_true rfl) dL_isRow_206 ⟨Nat.zero_le _, Nat.zero_le _⟩ (fun H locs hP hS => ?_)
                          have hP : aP D cy ad S H := hP
                          refine lv_iload hx hb dL_isRow_209 (lv_at hl 2 rfl) ?_
                          refine lv_icmp_ne (tgt := 229) hx hb dL_isRow_211 (by decide) (fun h_9 => ?_) (fun h_9 => ?_)
                          · skip
                            exact absurd rfl h_9
                          · skip
                            refine lv_aload_n hx hb dL_isRow_214 rfl (lv_at hl 3 rfl) ?_
                            refine lv_iload_n hx hb dL_isRow_215 rfl (lv_at hl 4 rfl) ?_
                            refine lv_iload hx hb dL_isRow_216 (lv_at hl 7 rfl) ?_
                            refine a_callVr (rest := []) (nL := 9) ⟨hx, hb, hml, hown, hts⟩ (a_numberN l D cy ad hI S r ((S.1 r).1) (by first | assumption | decide | omega) rfl) (cwV 2 hts gL_isRow_X4_number rfl rfl rfl (by decide +kernel) ⟨Nat.le_of_ble_eq_true rfl, Nat.le_of_ble_eq_true rfl⟩) hK hP hS (fun _ h => h) rfl hl.1 rfl (Nat.le_of_ble_eq_true rfl) dL_isRow_218 ⟨Nat.zero_le _, Nat.zero_le _⟩ (fun H locs hP hS => ?_)
                            have hP : aP D cy ad S H := hP
                            refine lv_iconst (v := (-1 : Int32)) hx hb dL_isRow_221 (by decide) ?_
                            refine lv_icmp_ne (tgt := 229) hx hb dL_isRow_222 (by decide) (fun h_10 => ?_) (fun h_10 => ?_)
                            · skip
                              exact absurd rfl h_10
                            · skip
                              refine lv_iconst (v := nI (1)) hx hb dL_isRow_225 rfl ?_
                              refine lv_goto (tgt := 230) hx hb dL_isRow_226 (by decide) ?_
                              refine a_zret hx hb hret hlocks (by rfl) hP hS dL_isRow_230 ?_
                              exact ⟨rfl, rfl⟩
            · skip
              obtain ⟨q, rfl⟩ : ∃ q, n = q + 1 := ⟨n - 1, by omega⟩
              rw [nI_pred] at hl
              have hv := vx_lt (S.1 r) q
              refine lv_aload_n hx hb dL_isRow_87 rfl (lv_at hl 3 rfl) ?_
              refine lv_iload_n hx hb dL_isRow_88 rfl (lv_at hl 4 rfl) ?_
              refine lv_iload hx hb dL_isRow_89 (lv_at hl 0 rfl) ?_
              refine a_callSr (rest := []) (nL := 9) ⟨hx, hb, hml, hown, hts⟩ (a_L_value l D cy ad hI S r q (by first | assumption | decide | omega) (by first | assumption | decide | omega)) (va_cwS 3 hts gL_isRow_L_value rfl rfl rfl (by decide +kernel) ⟨Nat.le_of_ble_eq_true rfl, Nat.le_of_ble_eq_true rfl⟩) hK hP hS (fun _ h => h) rfl hl.1 rfl (Nat.le_of_ble_eq_true rfl) dL_isRow_91 ⟨Nat.zero_le _, Nat.zero_le _⟩ (fun H locs hP hS => ?_)
              have hP : aP D cy ad S H := hP
              refine lv_istore (lv' := [(8, .int (nI (vx (S.1 r) q))), (7, .int (nI (q))), (4, .int (nI (z0))), (5, .int (fz (vx (S.1 r)) (q + 1) (257 - (q + 1)))), (0, .ref (ad (136))), (1, .int (nI (r))), (2, .int (nI (t1))), (3, .int (nI (t2))), (6, .int (nI ((S.1 r).1)))]) hx hb dL_isRow_94 hl (by decide) rfl (fun ls hl => ?_)
              refine lv_aload_n hx hb dL_isRow_96 rfl (lv_at hl 4 rfl) ?_
              refine lv_iload_n hx hb dL_isRow_97 rfl (lv_at hl 5 rfl) ?_
              refine lv_iload hx hb dL_isRow_98 (lv_at hl 1 rfl) ?_
              refine a_callVr (rest := []) (nL := 9) ⟨hx, hb, hml, hown, hts⟩ (a_value l D cy ad hI S r q (by first | assumption | decide | omega) (by first | assumption | decide | omega)) (cwV 2 hts gL_isRow_X4_value rfl rfl rfl (by decide +kernel) ⟨Nat.le_of_ble_eq_true rfl, Nat.le_of_ble_eq_true rfl⟩) hK hP hS (fun _ h => h) rfl hl.1 rfl (Nat.le_of_ble_eq_true rfl) dL_isRow_100 ⟨Nat.zero_le _, Nat.zero_le _⟩ (fun H locs hP hS => ?_)
              have hP : aP D cy ad S H := hP
              refine lv_iload hx hb dL_isRow_103 (lv_at hl 0 rfl) ?_
              refine n_icmp_eq (tgt := 110) hx hb (by omega) (by omega) dL_isRow_105 (by decide) (fun h_11 => ?_) (fun h_11 => ?_)
              · skip
                refine lv_iload hx hb dL_isRow_110 (lv_at hl 2 rfl) ?_
                refine lv_iload hx hb dL_isRow_112 (lv_at hl 0 rfl) ?_
                refine n_ifne (tgt := 121) hx hb (by omega) dL_isRow_114 (by decide) (fun h_12 => ?_) (fun h_12 => ?_)
                · skip
                  have hvn := h_12
                  refine lv_iconst (v := nI (0)) hx hb dL_isRow_121 rfl ?_
                  refine n_iadd hx hb dL_isRow_122 ?_
                  refine lv_istore (lv' := [(4, .int (nI (z0 + 0))), (8, .int (nI (vx (S.1 r) q))), (7, .int (nI (q))), (5, .int (fz (vx (S.1 r)) (q + 1) (257 - (q + 1)))), (0, .ref (ad (136))), (1, .int (nI (r))), (2, .int (nI (t1))), (3, .int (nI (t2))), (6, .int (nI ((S.1 r).1)))]) hx hb dL_isRow_123 hl (by decide) rfl (fun ls hl => ?_)
                  refine lv_iload hx hb dL_isRow_125 (lv_at hl 1 rfl) ?_
                  refine n_ifne (tgt := 135) hx hb (by omega) dL_isRow_127 (by decide) (fun h_13 => ?_) (fun h_13 => ?_)
                  · skip
                    refine lv_iload hx hb dL_isRow_135 (lv_at hl 3 rfl) ?_
                    refine i_push (b := fz (vx (S.1 r)) q (257 - q)) (by rw [show 257 - q = (257 - (q + 1)) + 1 by omega, fz_miss _ _ _ hvn]) ?_
                    refine lv_istore (lv' := [(5, .int (fz (vx (S.1 r)) q (257 - q))), (4, .int (nI (z0 + 0))), (8, .int (nI (vx (S.1 r) q))), (7, .int (nI (q))), (0, .ref (ad (136))), (1, .int (nI (r))), (2, .int (nI (t1))), (3, .int (nI (t2))), (6, .int (nI ((S.1 r).1)))]) hx hb dL_isRow_137 hl (by decide) rfl (fun ls hl => ?_)
                    refine lv_iinc (v := nI (q) - 1) (lv' := [(7, .int (nI (q) - 1)), (5, .int (fz (vx (S.1 r)) q (257 - q))), (4, .int (nI (z0 + 0))), (8, .int (nI (vx (S.1 r) q))), (0, .ref (ad (136))), (1, .int (nI (r))), (2, .int (nI (t1))), (3, .int (nI (t2))), (6, .int (nI ((S.1 r).1)))]) hx hb dL_isRow_139 hl (k := 3) rfl (nI_dec' _) (by decide) rfl (fun ls hl => ?_)
                    refine lv_goto (tgt := 82) hx hb dL_isRow_142 (by decide) ?_
                    exact ih82 (q) (z0 + 0) (by omega) (by rw [hz0, cq_nz _ hvn]; rfl) (by omega) _ _ hP hS _ (lv_sub hl [0, 2, 1, 4, 5, 6, 7, 8] rfl)
                  · skip
                    exact absurd h_13 hvn
                · skip
                  have hvz := h_12
                  refine lv_iconst (v := nI (1)) hx hb dL_isRow_117 rfl ?_
                  refine lv_goto (tgt := 122) hx hb dL_isRow_118 (by decide) ?_
                  refine n_iadd hx hb dL_isRow_122 ?_
                  refine lv_istore (lv' := [(4, .int (nI (z0 + 1))), (8, .int (nI (vx (S.1 r) q))), (7, .int (nI (q))), (5, .int (fz (vx (S.1 r)) (q + 1) (257 - (q + 1)))), (0, .ref (ad (136))), (1, .int (nI (r))), (2, .int (nI (t1))), (3, .int (nI (t2))), (6, .int (nI ((S.1 r).1)))]) hx hb dL_isRow_123 hl (by decide) rfl (fun ls hl => ?_)
                  refine lv_iload hx hb dL_isRow_125 (lv_at hl 1 rfl) ?_
                  refine n_ifne (tgt := 135) hx hb (by omega) dL_isRow_127 (by decide) (fun h_14 => ?_) (fun h_14 => ?_)
                  · skip
                    exact absurd hvz h_14
                  · skip
                    refine lv_iload hx hb dL_isRow_130 (lv_at hl 2 rfl) ?_
                    refine i_push (b := fz (vx (S.1 r)) q (257 - q)) (by rw [show 257 - q = (257 - (q + 1)) + 1 by omega, fz_hit _ _ _ hvz]) ?_
                    refine lv_goto (tgt := 137) hx hb dL_isRow_132 (by decide) ?_
                    refine lv_istore (lv' := [(5, .int (fz (vx (S.1 r)) q (257 - q))), (4, .int (nI (z0 + 1))), (8, .int (nI (vx (S.1 r) q))), (7, .int (nI (q))), (0, .ref (ad (136))), (1, .int (nI (r))), (2, .int (nI (t1))), (3, .int (nI (t2))), (6, .int (nI ((S.1 r).1)))]) hx hb dL_isRow_137 hl (by decide) rfl (fun ls hl => ?_)
                    refine lv_iinc (v := nI (q) - 1) (lv' := [(7, .int (nI (q) - 1)), (5, .int (fz (vx (S.1 r)) q (257 - q))), (4, .int (nI (z0 + 1))), (8, .int (nI (vx (S.1 r) q))), (0, .ref (ad (136))), (1, .int (nI (r))), (2, .int (nI (t1))), (3, .int (nI (t2))), (6, .int (nI ((S.1 r).1)))]) hx hb dL_isRow_139 hl (k := 3) rfl (nI_dec' _) (by decide) rfl (fun ls hl => ?_)
                    refine lv_goto (tgt := 82) hx hb dL_isRow_142 (by decide) ?_
                    exact ih82 (q) (z0 + 1) (by omega) (by have h9 := cq_mono' (vx (S.1 r)) (show q + 1 ≤ 257 by omega); rw [cq_zero _ hvz] at h9 hz0; omega) (by omega) _ _ hP hS _ (lv_sub hl [0, 2, 1, 4, 5, 6, 7, 8] rfl)
              · skip
                exact absurd rfl h_11
        exact lp82 (_ + 1) (257) (0) (Nat.le_refl _) (Nat.sub_self _).symm (Nat.lt_succ_self _) _ _ hP hS _ (lv_sub hl [0, 6, 7, 4, 5, 1, 2, 3] rfl)
      · skip
        refine lv_aload_n hx hb dL_isRow_29 rfl (lv_at hl 4 rfl) ?_
        refine lv_iload_n hx hb dL_isRow_30 rfl (lv_at hl 5 rfl) ?_
        refine lv_iload hx hb dL_isRow_31 (lv_at hl 0 rfl) ?_
        refine a_callVr (rest := []) (nL := 9) ⟨hx, hb, hml, hown, hts⟩ (a_number l D cy ad hI S r k (by first | assumption | decide | omega) (by first | assumption | decide | omega)) (cwV 2 hts gL_isRow_X4_number rfl rfl rfl (by decide +kernel) ⟨Nat.le_of_ble_eq_true rfl, Nat.le_of_ble_eq_true rfl⟩) hK hP hS (fun _ h => h) rfl hl.1 rfl (Nat.le_of_ble_eq_true rfl) dL_isRow_33 ⟨Nat.zero_le _, Nat.zero_le _⟩ (fun H locs hP hS => ?_)
        have hP : aP D cy ad S H := hP
        refine lv_istore (lv' := [(8, .int (nI ((S.1 r).2 k))), (7, .int (nI (k))), (2, .int (nI (t1))), (3, .int (nI (t2))), (6, .int (nI ((S.1 r).1))), (0, .ref (ad (136))), (1, .int (nI (r))), (4, .int (nI (0))), (5, .int (-6))]) hx hb dL_isRow_36 hl (by decide) rfl (fun ls hl => ?_)
        refine lv_iload hx hb dL_isRow_38 (lv_at hl 0 rfl) ?_
        refine n_iflt (tgt := 51) hx hb (by omega) dL_isRow_40 (by decide) ?_
        refine lv_iload hx hb dL_isRow_43 (lv_at hl 0 rfl) ?_
        refine lv_sipush (v := nI (256)) hx hb dL_isRow_45 rfl ?_
        refine n_icmp_le (tgt := 53) hx hb (by omega) (by omega) dL_isRow_48 (by decide) (fun h_15 => ?_) (fun h_15 => ?_)
        · skip
          refine lv_iload_n hx hb dL_isRow_53 rfl (lv_at hl 2 rfl) ?_
          refine lv_iload hx hb dL_isRow_54 (lv_at hl 0 rfl) ?_
          refine n_ifne (tgt := 63) hx hb (by omega) dL_isRow_56 (by decide) (fun h_16 => ?_) (fun h_16 => ?_)
          · skip
            have hnz := h_16
            refine lv_iconst (v := nI (1)) hx hb dL_isRow_63 rfl ?_
            refine n_iadd hx hb dL_isRow_64 ?_
            refine lv_istore_n (lv' := [(2, .int (nI (t1 + 1))), (8, .int (nI ((S.1 r).2 k))), (7, .int (nI (k))), (3, .int (nI (t2))), (6, .int (nI ((S.1 r).1))), (0, .ref (ad (136))), (1, .int (nI (r))), (4, .int (nI (0))), (5, .int (-6))]) hx hb dL_isRow_65 rfl hl (by decide) rfl (fun ls hl => ?_)
            refine lv_iload_n hx hb dL_isRow_66 rfl (lv_at hl 3 rfl) ?_
            refine lv_iload hx hb dL_isRow_67 (lv_at hl 1 rfl) ?_
            refine n_iadd hx hb dL_isRow_69 ?_
            refine lv_istore_n (lv' := [(3, .int (nI (t2 + ((S.1 r).2 k)))), (2, .int (nI (t1 + 1))), (8, .int (nI ((S.1 r).2 k))), (7, .int (nI (k))), (6, .int (nI ((S.1 r).1))), (0, .ref (ad (136))), (1, .int (nI (r))), (4, .int (nI (0))), (5, .int (-6))]) hx hb dL_isRow_70 rfl hl (by decide) rfl (fun ls hl => ?_)
            refine lv_iinc (v := nI (k + 1)) (lv' := [(7, .int (nI (k + 1))), (3, .int (nI (t2 + ((S.1 r).2 k)))), (2, .int (nI (t1 + 1))), (8, .int (nI ((S.1 r).2 k))), (6, .int (nI ((S.1 r).1))), (0, .ref (ad (136))), (1, .int (nI (r))), (4, .int (nI (0))), (5, .int (-6))]) hx hb dL_isRow_71 hl (k := 3) rfl (nI_inc _) (by decide) rfl (fun ls hl => ?_)
            refine lv_goto (tgt := 22) hx hb dL_isRow_74 (by decide) ?_
            exact ih22 (k + 1) (t1 + 1) (t2 + (S.1 r).2 k) (by omega) (by rw [cn_nz _ hnz, h1]) (by rw [h2]; rfl) (by omega) _ _ hP hS _ (lv_sub hl [0, 2, 1, 4, 5, 6, 7, 8] rfl)
          · skip
            have hz := h_16
            refine lv_iconst (v := nI (0)) hx hb dL_isRow_59 rfl ?_
            refine lv_goto (tgt := 64) hx hb dL_isRow_60 (by decide) ?_
            refine n_iadd hx hb dL_isRow_64 ?_
            refine lv_istore_n (lv' := [(2, .int (nI (t1 + 0))), (8, .int (nI ((S.1 r).2 k))), (7, .int (nI (k))), (3, .int (nI (t2))), (6, .int (nI ((S.1 r).1))), (0, .ref (ad (136))), (1, .int (nI (r))), (4, .int (nI (0))), (5, .int (-6))]) hx hb dL_isRow_65 rfl hl (by decide) rfl (fun ls hl => ?_)
            refine lv_iload_n hx hb dL_isRow_66 rfl (lv_at hl 3 rfl) ?_
            refine lv_iload hx hb dL_isRow_67 (lv_at hl 1 rfl) ?_
            refine n_iadd hx hb dL_isRow_69 ?_
            refine lv_istore_n (lv' := [(3, .int (nI (t2 + ((S.1 r).2 k)))), (2, .int (nI (t1 + 0))), (8, .int (nI ((S.1 r).2 k))), (7, .int (nI (k))), (6, .int (nI ((S.1 r).1))), (0, .ref (ad (136))), (1, .int (nI (r))), (4, .int (nI (0))), (5, .int (-6))]) hx hb dL_isRow_70 rfl hl (by decide) rfl (fun ls hl => ?_)
            refine lv_iinc (v := nI (k + 1)) (lv' := [(7, .int (nI (k + 1))), (3, .int (nI (t2 + ((S.1 r).2 k)))), (2, .int (nI (t1 + 0))), (8, .int (nI ((S.1 r).2 k))), (6, .int (nI ((S.1 r).1))), (0, .ref (ad (136))), (1, .int (nI (r))), (4, .int (nI (0))), (5, .int (-6))]) hx hb dL_isRow_71 hl (k := 3) rfl (nI_inc _) (by decide) rfl (fun ls hl => ?_)
            refine lv_goto (tgt := 22) hx hb dL_isRow_74 (by decide) ?_
            exact ih22 (k + 1) (t1 + 0) (t2 + (S.1 r).2 k) (by omega) (by rw [cn_zero _ hz, h1]; rfl) (by rw [h2]; rfl) (by omega) _ _ hP hS _ (lv_sub hl [0, 2, 1, 4, 5, 6, 7, 8] rfl)
        · skip
          exact absurd h_15 (by omega)
  exact lp22 (_ + 1) (0) (0) (0) (Nat.zero_le _) rfl rfl (Nat.lt_succ_self _) _ _ hP hS _ (lv_sub hl [0, 5, 4, 1, 6, 7, 3, 2] rfl)
