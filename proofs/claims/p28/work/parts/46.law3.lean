/-! the script, as the law's methods see it: methods that read it -/
theorem scr_now {b L : Nat} {xs : Nat → Int32} {s : State} {A : Nat → Prop} {H0 H : Heap} {locs : List Loc} (hX0 : va_X b L xs s H0) (hbl : b < H0.size) (hS : va_S A H0 H locs) (hbA : ¬ A b) : va_X b L xs s H := hX0.kept (hS.2.1 b hbl hbA)
theorem scr_lt {b L : Nat} {xs : Nat → Int32} {s : State} {H0 : Heap} (hX0 : va_X b L xs s H0) : b < H0.size := by
  obtain ⟨scr, h1, -⟩ := hX0
  exact (Array.getElem?_eq_some_iff.mp h1).1
abbrev sPc (D : va_G) (cy : Nat → ClassId) (B0 : Heap → Prop) (b L : Nat) (xs : Nat → Int32) (av : List Value) : Array Value → State → Prop := va_Pc av (fun U => B0 U.heap ∧ va_K D vwCl (kTy cy) U ∧ va_X b L xs U U.heap)
abbrev sM (l : Launch) (y : MethodName) (ws : List Cond) (rm : Room) (D : va_G) (cy : Nat → ClassId) (A : Nat → Prop) (B0 : Heap → Prop) (b L : Nat) (xs : Nat → Int32) (av : List Value) (post : Option Value → Heap → Prop) : Prop := Met l y ws rm (sPc D cy B0 b L xs av) (gQ A post) 0 0 A
theorem sPc_blind (D : va_G) (cy : Nat → ClassId) (B0 : Heap → Prop) (b L : Nat) (xs : Nat → Int32) (av : List Value) : FrameBlind (sPc D cy B0 b L xs av) := fun a U g mk q => by
  obtain ⟨q0, qP, qK, qX⟩ := q
  exact ⟨q0, qP, va_K.moved (u := U) (U := U.calling g mk a) (Vm.Alike.refl U.vm) qK, va_X.moved (u := U) (U := U.calling g mk a) (Vm.Alike.refl U.vm) qX⟩
theorem s_met {l : Launch} {y : MethodName} {ws ws' : List Cond} {rm : Room} {D : va_G} {cy : Nat → ClassId} {A : Nat → Prop} {B0 : Heap → Prop} {b L : Nat} {xs : Nat → Int32} {av : List Value} {post : Option Value → Heap → Prop} (cc : ByteArray) (maxL : Nat) (ret : Option FieldType)
    (hy : plainName y.cls = true) (hw : ws = Cond.code y cc maxL ret :: ws') (hn : (lg_sl av).length ≤ maxL)
    (body : ∀ (p : Program) (e : Env) (s : State) (m : MethodId) (below : List Frame) (meth : Method) (c : Code) (ls : Array Slot), p.tables.exec = Jvm.exec → c.code = cc → meth.sig.returnType = ret → (∀ w ∈ ws, w.before av.toArray s = true) → s.vm.findClass y.cls = some m.cls → meth.locks = false → c.maxLocals = maxL → va_K D vwCl (kTy cy) s → B0 s.heap → va_X b L xs s s.heap → va_S A s.heap s.heap [] → lv_has ls maxL (lv_args 0 av) →
      W p l e rm s m av.toArray below meth c s.heap [] 0 0 (MQ below (gQ A post) av.toArray s 0 0 A) (F0 m 0 ls [])) :
    sM l y ws rm D cy A B0 b L xs av post := by
  refine Met.ofW (cc := cc) (maxL := maxL) (ret := ret) hy hw ?_
  intro p e s m args below meth c s₁ B hml hv
  obtain ⟨rfl, hP, hK, hX⟩ := hv
  rw [lg_entry_eq]
  exact body p e s m below meth c _ B.exec B.bytes B.returns (atoms_spec (ws := ws) B.pre) (findClass_of_methodNamed B.named) B.notSynchronized hml hK hP hX va_S.rf (lv_entry av hn)
section SR
variable {p : Program} {l : Launch} {e : Env} {R : Room} {s : State} {m : MethodId} {args : Array Value} {below : List Frame} {meth : Method} {c : Code} {H : Heap} {locs : List Loc} {cells slots : Nat} {Q : State → Prop}
variable {cc : ByteArray} {pc : Nat} {ls : Array Slot} {rest st0 : List Value} {D : va_G} {cy : Nat → ClassId} {ad : Nat → Nat} {A A0 : Nat → Prop} {H0 : Heap} {b L : Nat} {xs : Nat → Int32} {S : kSt}
theorem s_callS {post : Option Value → Heap → Prop} {B0 : Heap → Prop} {y : MethodName} {bytes : ByteArray} {maxL nL n index : Nat} {ret : Option FieldType} {ws Ts : List Cond} {rm : Room} {own : String} {As : List Value}
    (F : CallFix p m c cc nL s args Ts own) (hM : sM l y ws rm D cy A B0 b L xs As post) (cw : CallB R s args own index y bytes maxL ret ws rm 0 0 n ∧ (Cond.static y).before args s = true)
    (hK : va_K D vwCl (kTy cy) s) (hX : va_X b L xs s H) (hB : B0 H) (hS : va_S A0 H0 H locs) (hA : ∀ q, A q → A0 q)
    (hn : As.length = n) (hsize : ls.size = nL) (hst : st0 = As.reverse ++ rest) (hW : (rest.map fun v => v.category).sum ≤ 8) (hdg : decode cc pc = .ok (.invokestatic index, 3)) (hcell : cells ≤ R.cells ∧ slots ≤ R.slots)
    (kk : ∀ (o : Option Value) (H1 : Heap) (locs1 : List Loc), post o H1 → va_S A0 H0 H1 locs1 → (H.size ≤ H1.size ∧ ∀ q : Nat, q < H.size → ¬ A q → H1[q]? = H[q]?) → W p l e R s m args below meth c H1 locs1 cells slots Q (F0 m (pc + 3) ls (o.toList ++ rest))) : W p l e R s m args below meth c H locs cells slots Q (F0 m pc ls st0) := by
  intro T hT X
  obtain ⟨v, st₀, t, T', L1, h0, X', hL, e1, e2, ⟨⟨o, hv, hp⟩, hz, hk⟩, st⟩ := va_runS (rest := rest) (g := F0 m pc ls st0) F hM cw ⟨sPc_blind D cy B0 b L xs _, fun U hU hW => ⟨rfl, by rw [hU]; exact hB, va_K.moved hW.alike hK, by rw [hU]; exact hX.moved hW.alike⟩⟩ rfl hn hsize hst (lv_room hW) hdg hcell T hT X
  cases hv
  rw [h0] at hz hk
  obtain ⟨t2, a1, b1⟩ := kk v T'.heap (locs ++ L1) (by rw [e1]; exact hp)
    ⟨Nat.le_trans hS.1 (by rw [e1]; exact hz), fun q h1 h2 => by rw [e1, hk q (Nat.lt_of_lt_of_le h1 hS.1) (fun z => h2 (hA q z))]; exact hS.2.1 q h1 h2, fun q hq => by
      rcases List.mem_append.mp hq with h | h
      · exact hS.2.2 q h
      · exact hA _ (hL q h)⟩ ⟨by rw [e1]; exact hz, fun q h1 h2 => by rw [e1]; exact hk q h1 h2⟩ T' rfl X'
  exact ⟨t2, st t2 a1, b1⟩
/-- a call of a method that looks at the script alone -/
theorem a_call1 {post : Option Value → Prop} {y : MethodName} {bytes : ByteArray} {maxL nL n index : Nat} {ret : Option FieldType} {ws Ts : List Cond} {rm : Room} {own : String} {As : List Value}
    (F : CallFix p m c cc nL s args Ts own) (hM : sM l y ws rm D cy (fun _ => False) (fun _ => True) b L xs As (fun o _ => post o)) (cw : CallB R s args own index y bytes maxL ret ws rm 0 0 n ∧ (Cond.static y).before args s = true)
    (hK : va_K D vwCl (kTy cy) s) (hX : va_X b L xs s H) (hP : aP D cy ad S H) (hS : va_S A0 H0 H locs)
    (hn : As.length = n) (hsize : ls.size = nL) (hst : st0 = As.reverse ++ rest) (hW : (rest.map fun v => v.category).sum ≤ 8) (hdg : decode cc pc = .ok (.invokestatic index, 3)) (hcell : cells ≤ R.cells ∧ slots ≤ R.slots)
    (kk : ∀ (o : Option Value) (H1 : Heap) (locs1 : List Loc), post o → aP D cy ad S H1 → va_S A0 H0 H1 locs1 → W p l e R s m args below meth c H1 locs1 cells slots Q (F0 m (pc + 3) ls (o.toList ++ rest))) : W p l e R s m args below meth c H locs cells slots Q (F0 m pc ls st0) :=
  s_callS F hM cw hK hX trivial hS (fun _ h => h.elim) hn hsize hst hW hdg hcell (fun o H1 locs1 h1 hS1 hfr => kk o H1 locs1 h1 (hP.keep (fun q hq => hfr.2 q hq (fun h => h))) hS1)
/-- a call of a method that looks at the script and the class -/
theorem a_callXS {post : Option Value → kSt → Prop} {y : MethodName} {bytes : ByteArray} {maxL nL n index : Nat} {ret : Option FieldType} {ws Ts : List Cond} {rm : Room} {own : String} {As : List Value}
    (F : CallFix p m c cc nL s args Ts own) (hM : sM l y ws rm D cy (wA 143 ad) (aP D cy ad S) b L xs As (fun o H => ∃ S' : kSt, post o S' ∧ aP D cy ad S' H)) (cw : CallB R s args own index y bytes maxL ret ws rm 0 0 n ∧ (Cond.static y).before args s = true)
    (hK : va_K D vwCl (kTy cy) s) (hX : va_X b L xs s H) (hP : aP D cy ad S H) (hS : va_S A0 H0 H locs) (hA : ∀ q, wA 143 ad q → A0 q)
    (hn : As.length = n) (hsize : ls.size = nL) (hst : st0 = As.reverse ++ rest) (hW : (rest.map fun v => v.category).sum ≤ 8) (hdg : decode cc pc = .ok (.invokestatic index, 3)) (hcell : cells ≤ R.cells ∧ slots ≤ R.slots)
    (kk : ∀ (o : Option Value) (S1 : kSt) (H1 : Heap) (locs1 : List Loc), post o S1 → aP D cy ad S1 H1 → va_S A0 H0 H1 locs1 → W p l e R s m args below meth c H1 locs1 cells slots Q (F0 m (pc + 3) ls (o.toList ++ rest))) : W p l e R s m args below meth c H locs cells slots Q (F0 m pc ls st0) :=
  s_callS F hM cw hK hX hP hS hA hn hsize hst hW hdg hcell (fun o H1 locs1 ⟨S1, h1, h2⟩ hS1 _ => kk o S1 H1 locs1 h1 h2 hS1)
end SR
theorem and_lo (v : Int32) : ∃ q, q < 2 ^ 31 ∧ v &&& 2147483647 = nI q := by
  obtain ⟨n, hn, rfl⟩ := wb_of32 v
  refine ⟨n % 2 ^ 31, Nat.mod_lt _ (by decide), Int32.toBitVec_inj.mp ?_⟩
  show BitVec.ofNat 32 n &&& BitVec.ofNat 32 (2 ^ 31 - 1) = BitVec.ofNat 32 (n % 2 ^ 31)
  apply BitVec.eq_of_toNat_eq
  rw [BitVec.toNat_and, BitVec.toNat_ofNat, BitVec.toNat_ofNat, BitVec.toNat_ofNat, Nat.mod_eq_of_lt hn, Nat.mod_eq_of_lt (show 2 ^ 31 - 1 < 2 ^ 32 by decide), Nat.and_two_pow_sub_one_eq_mod, Nat.mod_eq_of_lt (Nat.lt_trans (Nat.mod_lt n (by decide)) (show 2 ^ 31 < 2 ^ 32 by decide))]
theorem a_L_low (l : Launch) (D : va_G) (cy : Nat → ClassId) (v : Int32) (n : Nat) (h0 : 0 < n) (hn : n < 2 ^ 31) : gM l yL_low wsL_low ({ frames := 0, cells := 0, slots := 0, locals := 0 } : Room) D cy (fun _ => False) (fun _ => True) [.int v, .int (nI n)] (fun o _ => ∃ q, q < n ∧ o = some (.int (nI q))) := by
  refine g_met cL_low 2 (some .int) (by decide) rfl (Nat.le_of_ble_eq_true rfl) ?_
  intro p e s m below meth c ls hx hb hret hts hown hlocks hml hK _ hS hl
  have hl : lv_has ls 2 [(0, .int v), (1, .int (nI n))] := hl
  have hown : s.vm.findClass RL = some m.cls := hown
  refine lv_iload_n hx hb dL_low_0 rfl (lv_at hl 0 rfl) ?_
  refine lv_ldc (v := 2147483647) hx hb hown (hts (.constant RL 9 (2147483647)) (by decide +kernel)) dL_low_1 ?_
  refine lv_iand hx hb dL_low_3 ?_
  obtain ⟨q, hq, eq⟩ := and_lo v
  refine n_push eq ?_
  refine lv_iload_n hx hb dL_low_4 rfl (lv_at hl 1 rfl) ?_
  refine n_irem hx hb hq h0 hn dL_low_5 ?_
  refine g_iret hx hb hret hlocks hS dL_low_6 ?_
  exact ⟨q % n, Nat.mod_lt _ h0, rfl⟩
theorem a_L_cell (l : Launch) (D : va_G) (cy : Nat → ClassId) (b L : Nat) (xs : Nat → Int32) (k : Nat) (hk : k < 2 ^ 31) (hL : L < 2 ^ 31) : sM l yL_cell wsL_cell ({ frames := 0, cells := 0, slots := 0, locals := 0 } : Room) D cy (fun _ => False) (fun _ => True) b L xs [.ref b, .int (nI k)] (fun o _ => ∃ v : Int32, o = some (.int v)) := by
  refine s_met cL_cell 2 (some .int) (by decide) rfl (Nat.le_of_ble_eq_true rfl) ?_
  intro p e s m below meth c ls hx hb hret hts hown hlocks hml hK _ hX hS hl
  have hl : lv_has ls 2 [(0, .ref b), (1, .int (nI k))] := hl
  have hown : s.vm.findClass RL = some m.cls := hown
  have hbl := scr_lt hX
  refine lv_iload_n hx hb dL_cell_0 rfl (lv_at hl 1 rfl) ?_
  refine lv_aload_n hx hb dL_cell_1 rfl (lv_at hl 0 rfl) ?_
  refine va_slen hx hb hX hbl (fun h => h) hS dL_cell_2 ?_
  refine n_icmp_ge (b := L) (tgt := 12) hx hb hk hL dL_cell_3 (by decide) (fun h1 => ?_) (fun h1 => ?_)
  · refine lv_ldc (v := 32452867) hx hb hown (hts (.constant RL 7 (32452867)) (by decide +kernel)) dL_cell_12 ?_
    refine lv_iload_n hx hb dL_cell_14 rfl (lv_at hl 1 rfl) ?_
    refine lv_imul hx hb dL_cell_15 ?_
    refine lv_ldc (v := 49979687) hx hb hown (hts (.constant RL 8 (49979687)) (by decide +kernel)) dL_cell_16 ?_
    refine lv_iadd hx hb dL_cell_18 ?_
    refine g_iret hx hb hret hlocks hS dL_cell_19 ?_
    exact ⟨_, rfl⟩
  · refine lv_aload_n hx hb dL_cell_6 rfl (lv_at hl 0 rfl) ?_
    refine lv_iload_n hx hb dL_cell_7 rfl (lv_at hl 1 rfl) ?_
    refine va_sld hx hb hX hbl (fun h => h) hS (vp_in_nI h1 hL) dL_cell_8 ?_
    refine lv_goto (tgt := 19) hx hb dL_cell_9 (by decide) ?_
    refine g_iret hx hb hret hlocks hS dL_cell_19 ?_
    exact ⟨_, rfl⟩
set_option maxHeartbeats 4000000 in
set_option maxRecDepth 100000 in
theorem a_L_fresh (l : Launch) (D : va_G) (cy : Nat → ClassId) (ad : Nat → Nat) (hI : wI 143 ad) (S : kSt) (r : Nat) (hr : r < 6) : aM l yL_fresh wsL_fresh ({ frames := 6, cells := 0, slots := 0, locals := 125 } : Room) D cy ad S [.ref (ad (136)), .int (nI (r))] (fun o S' => o = some (.int (nI 1)) ∧ (S'.1 r).1 = 1 ∧ ∀ q, q ≠ r → S'.1 q = S.1 q) := by
  refine g_met cL_fresh 2 (some .boolean) (by decide) rfl (Nat.le_of_ble_eq_true rfl) ?_
  intro p e s m below meth c ls hx hb hret hts hown hlocks hml hK hP hS hl
  have hl : lv_has ls 2 [(0, .ref (ad (136))), (1, .int (nI (r)))] := hl
  have hown : s.vm.findClass RL = some m.cls := hown
  have hrow : ∀ r, r < 6 → rO (S.1 r) := hP.row
  have hpl := hP.inv.2.2.2.2.2.1
  refine lv_aload_n hx hb dL_fresh_0 rfl (lv_at hl 0 rfl) ?_
  refine a_callV (rest := []) (nL := 2) ⟨hx, hb, hml, hown, hts⟩ (a_wipe l D cy ad hI S) (cwV 0 hts gL_fresh_X4_wipe rfl rfl rfl (by decide +kernel) ⟨Nat.le_of_ble_eq_true rfl, Nat.le_of_ble_eq_true rfl⟩) hK hP hS (fun _ h => h) rfl hl.1 rfl (Nat.le_of_ble_eq_true rfl) dL_fresh_1 ⟨Nat.zero_le _, Nat.zero_le _⟩ (fun o S1 H locs hpost hP hS => ?_)
  obtain ⟨ho, hS1_a, hS1_b⟩ := hpost
  subst ho
  have hP : aP D cy ad S1 H := hP
  refine n_iflt (tgt := 31) hx hb (by omega) dL_fresh_4 (by decide) ?_
  refine lv_aload_n hx hb dL_fresh_7 rfl (lv_at hl 0 rfl) ?_
  refine lv_ldc2 hx hb hown (hts (.constantLong RL 33 (48)) (by decide +kernel)) dL_fresh_8 ?_
  refine l_push (b := lN (48)) rfl ?_
  refine a_callV (rest := []) (nL := 2) ⟨hx, hb, hml, hown, hts⟩ (a_put0 l D cy ad hI S1 hS1_b) (cwV 1 hts gL_fresh_X4_put rfl rfl rfl (by decide +kernel) ⟨Nat.le_of_ble_eq_true rfl, Nat.le_of_ble_eq_true rfl⟩) hK hP hS (fun _ h => h) rfl hl.1 rfl (Nat.le_of_ble_eq_true rfl) dL_fresh_11 ⟨Nat.zero_le _, Nat.zero_le _⟩ (fun o S2 H locs hpost hP hS => ?_)
  obtain ⟨ho, hS2_a, hS2_b, hS2_c⟩ := hpost
  subst ho
  have hP : aP D cy ad S2 H := hP
  refine lv_iconst (v := nI (1)) hx hb dL_fresh_14 rfl ?_
  refine n_icmp_ne (tgt := 31) hx hb (by omega) (by omega) dL_fresh_15 (by decide) (fun h_1 => ?_) (fun h_1 => ?_)
  · skip
    exact absurd rfl h_1
  · skip
    refine lv_aload_n hx hb dL_fresh_18 rfl (lv_at hl 0 rfl) ?_
    refine lv_iload_n hx hb dL_fresh_19 rfl (lv_at hl 1 rfl) ?_
    refine a_callV (rest := []) (nL := 2) ⟨hx, hb, hml, hown, hts⟩ (a_read l D cy ad hI S2 r (by first | assumption | decide | omega) hS2_b hS2_c) (cwV 1 hts gL_fresh_X4_read rfl rfl rfl (by decide +kernel) ⟨Nat.le_of_ble_eq_true rfl, Nat.le_of_ble_eq_true rfl⟩) hK hP hS (fun _ h => h) rfl hl.1 rfl (Nat.le_of_ble_eq_true rfl) dL_fresh_20 ⟨Nat.zero_le _, Nat.zero_le _⟩ (fun o S3 H locs hpost hP hS => ?_)
    obtain ⟨ho, hS3_a, hS3_b⟩ := hpost
    subst ho
    have hP : aP D cy ad S3 H := hP
    refine lv_iconst (v := nI (1)) hx hb dL_fresh_23 rfl ?_
    refine n_icmp_ne (tgt := 31) hx hb (by omega) (by omega) dL_fresh_24 (by decide) (fun h_2 => ?_) (fun h_2 => ?_)
    · skip
      exact absurd rfl h_2
    · skip
      refine lv_iconst (v := nI (1)) hx hb dL_fresh_27 rfl ?_
      refine lv_goto (tgt := 32) hx hb dL_fresh_28 (by decide) ?_
      refine a_zret hx hb hret hlocks (by rfl) hP hS dL_fresh_32 ?_
      exact ⟨rfl, hS3_a, fun q hq => by rw [hS3_b q hq, hS2_a, hS1_a]⟩
set_option maxHeartbeats 4000000 in
set_option maxRecDepth 100000 in
theorem a_L_fill (l : Launch) (D : va_G) (cy : Nat → ClassId) (ad : Nat → Nat) (hI : wI 143 ad) (S : kSt) (r : Nat) (b : Nat) (L : Nat) (xs : Nat → Int32) (fr : Nat) (many : Nat) (kd : Nat) (hr : r < 6) (hL : L < 2 ^ 31) (hbA : ¬ wA 143 ad b) (hfr : fr ≤ 1000) (hm : 1 ≤ many ∧ many ≤ 64) (hkd : kd < 3) (h1 : (S.1 r).1 = 1) : sM l yL_fill wsL_fill ({ frames := 5, cells := 0, slots := 0, locals := 106 } : Room) D cy (wA 143 ad) (aP D cy ad S) b L xs [.ref (ad (136)), .int (nI (r)), .ref b, .int (nI (fr)), .int (nI (many)), .int (nI (kd))] (fun o H => ∃ S' : kSt, (fun o S' => o = some (.int (nI 1)) ∧ (S'.1 r).1 = many ∧ ∀ q, q ≠ r → S'.1 q = S.1 q) o S' ∧ aP D cy ad S' H) := by
  refine s_met cL_fill 10 (some .boolean) (by decide) rfl (Nat.le_of_ble_eq_true rfl) ?_
  intro p e s m below meth c ls hx hb hret hts hown hlocks hml hK hP hX0 hS hl
  have hl : lv_has ls 10 [(0, .ref (ad (136))), (1, .int (nI (r))), (2, .ref b), (3, .int (nI (fr))), (4, .int (nI (many))), (5, .int (nI (kd)))] := hl
  have hown : s.vm.findClass RL = some m.cls := hown
  have hrow : ∀ r, r < 6 → rO (S.1 r) := hP.row
  have hpl := hP.inv.2.2.2.2.2.1
  refine lv_aload_n hx hb dL_fill_0 rfl (lv_at hl 0 rfl) ?_
  refine a_callV (rest := []) (nL := 10) ⟨hx, hb, hml, hown, hts⟩ (a_wipe l D cy ad hI S) (cwV 0 hts gL_fill_X4_wipe rfl rfl rfl (by decide +kernel) ⟨Nat.le_of_ble_eq_true rfl, Nat.le_of_ble_eq_true rfl⟩) hK hP hS (fun _ h => h) rfl hl.1 rfl (Nat.le_of_ble_eq_true rfl) dL_fill_1 ⟨Nat.zero_le _, Nat.zero_le _⟩ (fun o S1 H locs hpost hP hS => ?_)
  obtain ⟨ho, hS1_a, hS1_b⟩ := hpost
  subst ho
  have hP : aP D cy ad S1 H := hP
  refine n_iflt (tgt := 11) hx hb (by omega) dL_fill_4 (by decide) ?_
  refine lv_iconst (v := nI (1)) hx hb dL_fill_7 rfl ?_
  refine lv_goto (tgt := 12) hx hb dL_fill_8 (by decide) ?_
  refine lv_istore (lv' := [(6, .int (nI (1))), (0, .ref (ad (136))), (1, .int (nI (r))), (2, .ref b), (3, .int (nI (fr))), (4, .int (nI (many))), (5, .int (nI (kd)))]) hx hb dL_fill_12 hl (by decide) rfl (fun ls hl => ?_)
  refine lv_iconst (v := nI (0)) hx hb dL_fill_14 rfl ?_
  refine lv_istore (lv' := [(7, .int (nI (0))), (6, .int (nI (1))), (0, .ref (ad (136))), (1, .int (nI (r))), (2, .ref b), (3, .int (nI (fr))), (4, .int (nI (many))), (5, .int (nI (kd)))]) hx hb dL_fill_15 hl (by decide) rfl (fun ls hl => ?_)
  have lp17 : ∀ (fu : Nat) (k : Nat) (T : kSt), (k ≤ many) → ((T.1 r).1 = max 1 k) → (∀ q, q ≠ r → T.1 q = S.1 q) → many - k < fu → ∀ (H : Heap) (locs : List Loc), aP D cy ad T H → va_S (wA 143 ad) s.heap H locs → ∀ (ls : Array Slot), lv_has ls 10 [(7, .int (nI (k))), (6, .int (nI (1))), (0, .ref (ad (136))), (1, .int (nI (r))), (2, .ref b), (3, .int (nI (fr))), (4, .int (nI (many))), (5, .int (nI (kd)))] → W p l e ({ frames := 5, cells := 0, slots := 0, locals := 106 } : Room) s m ([.ref (ad (136)), .int (nI (r)), .ref b, .int (nI (fr)), .int (nI (many)), .int (nI (kd))] : List Value).toArray below meth c H locs 0 0 (MQ below (gQ (wA 143 ad) (fun o H => ∃ S' : kSt, (fun o S' => o = some (.int (nI 1)) ∧ (S'.1 r).1 = many ∧ ∀ q, q ≠ r → S'.1 q = S.1 q) o S' ∧ aP D cy ad S' H)) ([.ref (ad (136)), .int (nI (r)), .ref b, .int (nI (fr)), .int (nI (many)), .int (nI (kd))] : List Value).toArray s 0 0 (wA 143 ad)) (F0 m 17 ls []) := by
    intro fu
    induction fu with
    | zero => intro k T hk hT1 hTo hfu; exact absurd hfu (Nat.not_lt_zero _)
    | succ fu ih17 =>
      intro k T hk hT1 hTo hfu H locs hP hS ls hl
      refine lv_iload hx hb dL_fill_17 (lv_at hl 0 rfl) ?_
      refine lv_iload hx hb dL_fill_19 (lv_at hl 6 rfl) ?_
      refine n_icmp_ge (tgt := 146) hx hb (by omega) (by omega) dL_fill_21 (by decide) (fun h_1 => ?_) (fun h_1 => ?_)
      · skip
        refine lv_iload hx hb dL_fill_146 (lv_at hl 1 rfl) ?_
        refine a_zret hx hb hret hlocks (by rfl) hP hS dL_fill_148 ?_
        exact ⟨rfl, by omega, hTo⟩
      · skip
        refine lv_iload hx hb dL_fill_24 (lv_at hl 1 rfl) ?_
        refine n_ifeq (tgt := 146) hx hb (by omega) dL_fill_26 (by decide) (fun h_2 => absurd h_2 (by decide)) (fun h_2 => ?_)
        refine lv_aload_n hx hb dL_fill_29 rfl (lv_at hl 4 rfl) ?_
        refine lv_iload_n hx hb dL_fill_30 rfl (lv_at hl 5 rfl) ?_
        refine lv_iload hx hb dL_fill_31 (lv_at hl 0 rfl) ?_
        refine lv_iconst (v := nI (2)) hx hb dL_fill_33 rfl ?_
        refine n_idiv hx hb (by omega) (by omega) (by omega) dL_fill_34 ?_
        refine n_iadd hx hb dL_fill_35 ?_
        refine a_call1 (rest := []) (nL := 10) ⟨hx, hb, hml, hown, hts⟩ (a_L_cell l D cy b L xs (fr + (k / 2)) (by first | assumption | decide | omega) (by first | assumption | decide | omega)) (va_cwS 2 hts gL_fill_L_cell rfl rfl rfl (by decide +kernel) ⟨Nat.le_of_ble_eq_true rfl, Nat.le_of_ble_eq_true rfl⟩) hK (scr_now hX0 (scr_lt hX0) hS hbA) hP hS rfl hl.1 rfl (Nat.le_of_ble_eq_true rfl) dL_fill_36 ⟨Nat.zero_le _, Nat.zero_le _⟩ (fun o H locs hpost hP hS => ?_)
        obtain ⟨w1, ho⟩ := hpost
        subst ho
        have hP : aP D cy ad T H := hP
        refine lv_bipush (v := nI (13)) hx hb dL_fill_39 rfl ?_
        refine lv_iload hx hb dL_fill_41 (lv_at hl 0 rfl) ?_
        refine lv_iconst (v := nI (2)) hx hb dL_fill_43 rfl ?_
        refine n_irem hx hb (by omega) (by omega) (by omega) dL_fill_44  ?_
        refine n_imul hx hb dL_fill_45 ?_
        refine lv_ishr hx hb dL_fill_46 ?_
        refine lv_istore (lv' := [(8, .int (w1 >>> ((nI (13 * (k % 2))) &&& 31))), (7, .int (nI (k))), (6, .int (nI (1))), (0, .ref (ad (136))), (1, .int (nI (r))), (2, .ref b), (3, .int (nI (fr))), (4, .int (nI (many))), (5, .int (nI (kd)))]) hx hb dL_fill_47 hl (by decide) rfl (fun ls hl => ?_)
        refine lv_iload hx hb dL_fill_49 (lv_at hl 8 rfl) ?_
        refine n_ifne (tgt := 65) hx hb (by omega) dL_fill_51 (by decide) (fun h_3 => ?_) (fun h_3 => ?_)
        · skip
          have hkd1 := h_3
          refine lv_iload hx hb dL_fill_65 (lv_at hl 8 rfl) ?_
          refine lv_iconst (v := nI (1)) hx hb dL_fill_67 rfl ?_
          refine n_icmp_ne (tgt := 80) hx hb (by omega) (by omega) dL_fill_68 (by decide) (fun h_4 => ?_) (fun h_4 => ?_)
          · skip
            have hkd2 := h_4
            refine lv_iload hx hb dL_fill_80 (lv_at hl 0 rfl) ?_
            refine lv_iconst (v := nI (2)) hx hb dL_fill_82 rfl ?_
            refine lv_ishr hx hb dL_fill_83 ?_
            refine lv_iconst (v := nI (4)) hx hb dL_fill_84 rfl ?_
            refine a_call0 (rest := []) (nL := 10) ⟨hx, hb, hml, hown, hts⟩ (a_L_low l D cy ((w1 >>> ((nI (13 * (k % 2))) &&& 31)) >>> ((nI (2)) &&& 31)) 4 (by first | assumption | decide | omega) (by first | assumption | decide | omega)) (va_cwS 2 hts gL_fill_L_low rfl rfl rfl (by decide +kernel) ⟨Nat.le_of_ble_eq_true rfl, Nat.le_of_ble_eq_true rfl⟩) hK trivial hP hS rfl hl.1 rfl (Nat.le_of_ble_eq_true rfl) dL_fill_85 ⟨Nat.zero_le _, Nat.zero_le _⟩ (fun o H locs hpost hP hS => ?_)
            obtain ⟨v4, hv4, ho⟩ := hpost
            subst ho
            have hP : aP D cy ad T H := hP
            refine n_ifne (tgt := 102) hx hb (by omega) dL_fill_88 (by decide) (fun h_5 => ?_) (fun h_5 => ?_)
            · skip
              refine lv_iconst (v := nI (0)) hx hb dL_fill_102 rfl ?_
              refine lv_istore (lv' := [(9, .int (nI (0))), (8, .int (w1 >>> ((nI (13 * (k % 2))) &&& 31))), (7, .int (nI (k))), (6, .int (nI (1))), (0, .ref (ad (136))), (1, .int (nI (r))), (2, .ref b), (3, .int (nI (fr))), (4, .int (nI (many))), (5, .int (nI (kd)))]) hx hb dL_fill_103 hl (by decide) rfl (fun ls hl => ?_)
              refine lv_aload_n hx hb dL_fill_105 rfl (lv_at hl 4 rfl) ?_
              refine lv_iload_n hx hb dL_fill_106 rfl (lv_at hl 5 rfl) ?_
              refine lv_iload hx hb dL_fill_107 (lv_at hl 2 rfl) ?_
              refine lv_iload hx hb dL_fill_109 (lv_at hl 0 rfl) ?_
              refine a_callV (rest := []) (nL := 10) ⟨hx, hb, hml, hown, hts⟩ (a_set l D cy ad hI T r k 0 (by first | assumption | decide | omega) (by first | assumption | decide | omega) (by first | assumption | decide | omega) (by first | assumption | decide | omega)) (cwV 3 hts gL_fill_X4_set rfl rfl rfl (by decide +kernel) ⟨Nat.le_of_ble_eq_true rfl, Nat.le_of_ble_eq_true rfl⟩) hK hP hS (fun _ h => h) rfl hl.1 rfl (Nat.le_of_ble_eq_true rfl) dL_fill_111 ⟨Nat.zero_le _, Nat.zero_le _⟩ (fun o T2 H locs hpost hP hS => ?_)
              obtain ⟨ho, hT2_a, hT2_b⟩ := hpost
              subst ho
              have hP : aP D cy ad T2 H := hP
              have hT2l : (T2.1 r).1 = max (T.1 r).1 (k + 1) := by rw [hT2_a]; rfl
              have hT2v := (hP.row r hr).2.2.1 k
              refine lv_iload hx hb dL_fill_114 (lv_at hl 2 rfl) ?_
              refine lv_iconst (v := nI (1)) hx hb dL_fill_116 rfl ?_
              refine n_iadd hx hb dL_fill_117 ?_
              refine n_icmp_ne (tgt := 137) hx hb (by omega) (by omega) dL_fill_118 (by decide) (fun h_6 => ?_) (fun h_6 => ?_)
              · skip
                exact absurd h_6 (by omega)
              · skip
                refine lv_aload_n hx hb dL_fill_121 rfl (lv_at hl 4 rfl) ?_
                refine lv_iload_n hx hb dL_fill_122 rfl (lv_at hl 5 rfl) ?_
                refine lv_iload hx hb dL_fill_123 (lv_at hl 2 rfl) ?_
                refine a_callVr (rest := []) (nL := 10) ⟨hx, hb, hml, hown, hts⟩ (a_number l D cy ad hI T2 r k (by first | assumption | decide | omega) (by first | assumption | decide | omega)) (cwV 2 hts gL_fill_X4_number rfl rfl rfl (by decide +kernel) ⟨Nat.le_of_ble_eq_true rfl, Nat.le_of_ble_eq_true rfl⟩) hK hP hS (fun _ h => h) rfl hl.1 rfl (Nat.le_of_ble_eq_true rfl) dL_fill_125 ⟨Nat.zero_le _, Nat.zero_le _⟩ (fun H locs hP hS => ?_)
                have hP : aP D cy ad T2 H := hP
                refine lv_iload hx hb dL_fill_128 (lv_at hl 0 rfl) ?_
                refine n_icmp_ne (tgt := 137) hx hb (by omega) (by omega) dL_fill_130 (by decide) (fun h_7 => ?_) (fun h_7 => ?_)
                · skip
                  exact absurd (by rw [hT2_a]; exact va_up_self _ _ _) h_7
                · skip
                  refine lv_iconst (v := nI (1)) hx hb dL_fill_133 rfl ?_
                  refine lv_goto (tgt := 138) hx hb dL_fill_134 (by decide) ?_
                  refine lv_istore (lv' := [(6, .int (nI (1))), (9, .int (nI (0))), (8, .int (w1 >>> ((nI (13 * (k % 2))) &&& 31))), (7, .int (nI (k))), (0, .ref (ad (136))), (1, .int (nI (r))), (2, .ref b), (3, .int (nI (fr))), (4, .int (nI (many))), (5, .int (nI (kd)))]) hx hb dL_fill_138 hl (by decide) rfl (fun ls hl => ?_)
                  refine lv_iinc (v := nI (k + 1)) (lv' := [(7, .int (nI (k + 1))), (6, .int (nI (1))), (9, .int (nI (0))), (8, .int (w1 >>> ((nI (13 * (k % 2))) &&& 31))), (0, .ref (ad (136))), (1, .int (nI (r))), (2, .ref b), (3, .int (nI (fr))), (4, .int (nI (many))), (5, .int (nI (kd)))]) hx hb dL_fill_140 hl (k := 3) rfl (nI_inc _) (by decide) rfl (fun ls hl => ?_)
                  refine lv_goto (tgt := 17) hx hb dL_fill_143 (by decide) ?_
                  exact ih17 (k + 1) (T2) (by omega) (by rw [hT2l]; omega) (fun q hq => (hT2_b q hq).trans (hTo q hq)) (by omega) _ _ hP hS _ (lv_sub hl [0, 1, 4, 5, 6, 7, 8, 9] rfl)
            · skip
              refine lv_iload hx hb dL_fill_91 (lv_at hl 0 rfl) ?_
              refine lv_sipush (v := nI (257)) hx hb dL_fill_93 rfl ?_
              refine a_call0 (rest := []) (nL := 10) ⟨hx, hb, hml, hown, hts⟩ (a_L_low l D cy (w1 >>> ((nI (13 * (k % 2))) &&& 31)) 257 (by first | assumption | decide | omega) (by first | assumption | decide | omega)) (va_cwS 2 hts gL_fill_L_low rfl rfl rfl (by decide +kernel) ⟨Nat.le_of_ble_eq_true rfl, Nat.le_of_ble_eq_true rfl⟩) hK trivial hP hS rfl hl.1 rfl (Nat.le_of_ble_eq_true rfl) dL_fill_96 ⟨Nat.zero_le _, Nat.zero_le _⟩ (fun o H locs hpost hP hS => ?_)
              obtain ⟨v1, hv1, ho⟩ := hpost
              subst ho
              have hP : aP D cy ad T H := hP
              refine lv_goto (tgt := 103) hx hb dL_fill_99 (by decide) ?_
              refine lv_istore (lv' := [(9, .int (nI (v1))), (8, .int (w1 >>> ((nI (13 * (k % 2))) &&& 31))), (7, .int (nI (k))), (6, .int (nI (1))), (0, .ref (ad (136))), (1, .int (nI (r))), (2, .ref b), (3, .int (nI (fr))), (4, .int (nI (many))), (5, .int (nI (kd)))]) hx hb dL_fill_103 hl (by decide) rfl (fun ls hl => ?_)
              refine lv_aload_n hx hb dL_fill_105 rfl (lv_at hl 4 rfl) ?_
              refine lv_iload_n hx hb dL_fill_106 rfl (lv_at hl 5 rfl) ?_
              refine lv_iload hx hb dL_fill_107 (lv_at hl 2 rfl) ?_
              refine lv_iload hx hb dL_fill_109 (lv_at hl 0 rfl) ?_
              refine a_callV (rest := []) (nL := 10) ⟨hx, hb, hml, hown, hts⟩ (a_set l D cy ad hI T r k v1 (by first | assumption | decide | omega) (by first | assumption | decide | omega) (by first | assumption | decide | omega) (by first | assumption | decide | omega)) (cwV 3 hts gL_fill_X4_set rfl rfl rfl (by decide +kernel) ⟨Nat.le_of_ble_eq_true rfl, Nat.le_of_ble_eq_true rfl⟩) hK hP hS (fun _ h => h) rfl hl.1 rfl (Nat.le_of_ble_eq_true rfl) dL_fill_111 ⟨Nat.zero_le _, Nat.zero_le _⟩ (fun o T2 H locs hpost hP hS => ?_)
              obtain ⟨ho, hT2_a, hT2_b⟩ := hpost
              subst ho
              have hP : aP D cy ad T2 H := hP
              have hT2l : (T2.1 r).1 = max (T.1 r).1 (k + 1) := by rw [hT2_a]; rfl
              have hT2v := (hP.row r hr).2.2.1 k
              refine lv_iload hx hb dL_fill_114 (lv_at hl 2 rfl) ?_
              refine lv_iconst (v := nI (1)) hx hb dL_fill_116 rfl ?_
              refine n_iadd hx hb dL_fill_117 ?_
              refine n_icmp_ne (tgt := 137) hx hb (by omega) (by omega) dL_fill_118 (by decide) (fun h_8 => ?_) (fun h_8 => ?_)
              · skip
                exact absurd h_8 (by omega)
              · skip
                refine lv_aload_n hx hb dL_fill_121 rfl (lv_at hl 4 rfl) ?_
                refine lv_iload_n hx hb dL_fill_122 rfl (lv_at hl 5 rfl) ?_
                refine lv_iload hx hb dL_fill_123 (lv_at hl 2 rfl) ?_
                refine a_callVr (rest := []) (nL := 10) ⟨hx, hb, hml, hown, hts⟩ (a_number l D cy ad hI T2 r k (by first | assumption | decide | omega) (by first | assumption | decide | omega)) (cwV 2 hts gL_fill_X4_number rfl rfl rfl (by decide +kernel) ⟨Nat.le_of_ble_eq_true rfl, Nat.le_of_ble_eq_true rfl⟩) hK hP hS (fun _ h => h) rfl hl.1 rfl (Nat.le_of_ble_eq_true rfl) dL_fill_125 ⟨Nat.zero_le _, Nat.zero_le _⟩ (fun H locs hP hS => ?_)
                have hP : aP D cy ad T2 H := hP
                refine lv_iload hx hb dL_fill_128 (lv_at hl 0 rfl) ?_
                refine n_icmp_ne (tgt := 137) hx hb (by omega) (by omega) dL_fill_130 (by decide) (fun h_9 => ?_) (fun h_9 => ?_)
                · skip
                  exact absurd (by rw [hT2_a]; exact va_up_self _ _ _) h_9
                · skip
                  refine lv_iconst (v := nI (1)) hx hb dL_fill_133 rfl ?_
                  refine lv_goto (tgt := 138) hx hb dL_fill_134 (by decide) ?_
                  refine lv_istore (lv' := [(6, .int (nI (1))), (9, .int (nI (v1))), (8, .int (w1 >>> ((nI (13 * (k % 2))) &&& 31))), (7, .int (nI (k))), (0, .ref (ad (136))), (1, .int (nI (r))), (2, .ref b), (3, .int (nI (fr))), (4, .int (nI (many))), (5, .int (nI (kd)))]) hx hb dL_fill_138 hl (by decide) rfl (fun ls hl => ?_)
                  refine lv_iinc (v := nI (k + 1)) (lv' := [(7, .int (nI (k + 1))), (6, .int (nI (1))), (9, .int (nI (v1))), (8, .int (w1 >>> ((nI (13 * (k % 2))) &&& 31))), (0, .ref (ad (136))), (1, .int (nI (r))), (2, .ref b), (3, .int (nI (fr))), (4, .int (nI (many))), (5, .int (nI (kd)))]) hx hb dL_fill_140 hl (k := 3) rfl (nI_inc _) (by decide) rfl (fun ls hl => ?_)
                  refine lv_goto (tgt := 17) hx hb dL_fill_143 (by decide) ?_
                  exact ih17 (k + 1) (T2) (by omega) (by rw [hT2l]; omega) (fun q hq => (hT2_b q hq).trans (hTo q hq)) (by omega) _ _ hP hS _ (lv_sub hl [0, 1, 4, 5, 6, 7, 8, 9] rfl)
          · skip
            have hkd2 := h_4
            refine lv_iload hx hb dL_fill_71 (lv_at hl 0 rfl) ?_
            refine lv_iconst (v := nI (3)) hx hb dL_fill_73 rfl ?_
            refine a_call0 (rest := []) (nL := 10) ⟨hx, hb, hml, hown, hts⟩ (a_L_low l D cy (w1 >>> ((nI (13 * (k % 2))) &&& 31)) 3 (by first | assumption | decide | omega) (by first | assumption | decide | omega)) (va_cwS 2 hts gL_fill_L_low rfl rfl rfl (by decide +kernel) ⟨Nat.le_of_ble_eq_true rfl, Nat.le_of_ble_eq_true rfl⟩) hK trivial hP hS rfl hl.1 rfl (Nat.le_of_ble_eq_true rfl) dL_fill_74 ⟨Nat.zero_le _, Nat.zero_le _⟩ (fun o H locs hpost hP hS => ?_)
            obtain ⟨v1, hv1, ho⟩ := hpost
            subst ho
            have hP : aP D cy ad T H := hP
            refine lv_goto (tgt := 103) hx hb dL_fill_77 (by decide) ?_
            refine lv_istore (lv' := [(9, .int (nI (v1))), (8, .int (w1 >>> ((nI (13 * (k % 2))) &&& 31))), (7, .int (nI (k))), (6, .int (nI (1))), (0, .ref (ad (136))), (1, .int (nI (r))), (2, .ref b), (3, .int (nI (fr))), (4, .int (nI (many))), (5, .int (nI (kd)))]) hx hb dL_fill_103 hl (by decide) rfl (fun ls hl => ?_)
            refine lv_aload_n hx hb dL_fill_105 rfl (lv_at hl 4 rfl) ?_
            refine lv_iload_n hx hb dL_fill_106 rfl (lv_at hl 5 rfl) ?_
            refine lv_iload hx hb dL_fill_107 (lv_at hl 2 rfl) ?_
            refine lv_iload hx hb dL_fill_109 (lv_at hl 0 rfl) ?_
            refine a_callV (rest := []) (nL := 10) ⟨hx, hb, hml, hown, hts⟩ (a_set l D cy ad hI T r k v1 (by first | assumption | decide | omega) (by first | assumption | decide | omega) (by first | assumption | decide | omega) (by first | assumption | decide | omega)) (cwV 3 hts gL_fill_X4_set rfl rfl rfl (by decide +kernel) ⟨Nat.le_of_ble_eq_true rfl, Nat.le_of_ble_eq_true rfl⟩) hK hP hS (fun _ h => h) rfl hl.1 rfl (Nat.le_of_ble_eq_true rfl) dL_fill_111 ⟨Nat.zero_le _, Nat.zero_le _⟩ (fun o T2 H locs hpost hP hS => ?_)
            obtain ⟨ho, hT2_a, hT2_b⟩ := hpost
            subst ho
            have hP : aP D cy ad T2 H := hP
            have hT2l : (T2.1 r).1 = max (T.1 r).1 (k + 1) := by rw [hT2_a]; rfl
            have hT2v := (hP.row r hr).2.2.1 k
            refine lv_iload hx hb dL_fill_114 (lv_at hl 2 rfl) ?_
            refine lv_iconst (v := nI (1)) hx hb dL_fill_116 rfl ?_
            refine n_iadd hx hb dL_fill_117 ?_
            refine n_icmp_ne (tgt := 137) hx hb (by omega) (by omega) dL_fill_118 (by decide) (fun h_10 => ?_) (fun h_10 => ?_)
            · skip
              exact absurd h_10 (by omega)
            · skip
              refine lv_aload_n hx hb dL_fill_121 rfl (lv_at hl 4 rfl) ?_
              refine lv_iload_n hx hb dL_fill_122 rfl (lv_at hl 5 rfl) ?_
              refine lv_iload hx hb dL_fill_123 (lv_at hl 2 rfl) ?_
              refine a_callVr (rest := []) (nL := 10) ⟨hx, hb, hml, hown, hts⟩ (a_number l D cy ad hI T2 r k (by first | assumption | decide | omega) (by first | assumption | decide | omega)) (cwV 2 hts gL_fill_X4_number rfl rfl rfl (by decide +kernel) ⟨Nat.le_of_ble_eq_true rfl, Nat.le_of_ble_eq_true rfl⟩) hK hP hS (fun _ h => h) rfl hl.1 rfl (Nat.le_of_ble_eq_true rfl) dL_fill_125 ⟨Nat.zero_le _, Nat.zero_le _⟩ (fun H locs hP hS => ?_)
              have hP : aP D cy ad T2 H := hP
              refine lv_iload hx hb dL_fill_128 (lv_at hl 0 rfl) ?_
              refine n_icmp_ne (tgt := 137) hx hb (by omega) (by omega) dL_fill_130 (by decide) (fun h_11 => ?_) (fun h_11 => ?_)
              · skip
                exact absurd (by rw [hT2_a]; exact va_up_self _ _ _) h_11
              · skip
                refine lv_iconst (v := nI (1)) hx hb dL_fill_133 rfl ?_
                refine lv_goto (tgt := 138) hx hb dL_fill_134 (by decide) ?_
                refine lv_istore (lv' := [(6, .int (nI (1))), (9, .int (nI (v1))), (8, .int (w1 >>> ((nI (13 * (k % 2))) &&& 31))), (7, .int (nI (k))), (0, .ref (ad (136))), (1, .int (nI (r))), (2, .ref b), (3, .int (nI (fr))), (4, .int (nI (many))), (5, .int (nI (kd)))]) hx hb dL_fill_138 hl (by decide) rfl (fun ls hl => ?_)
                refine lv_iinc (v := nI (k + 1)) (lv' := [(7, .int (nI (k + 1))), (6, .int (nI (1))), (9, .int (nI (v1))), (8, .int (w1 >>> ((nI (13 * (k % 2))) &&& 31))), (0, .ref (ad (136))), (1, .int (nI (r))), (2, .ref b), (3, .int (nI (fr))), (4, .int (nI (many))), (5, .int (nI (kd)))]) hx hb dL_fill_140 hl (k := 3) rfl (nI_inc _) (by decide) rfl (fun ls hl => ?_)
                refine lv_goto (tgt := 17) hx hb dL_fill_143 (by decide) ?_
                exact ih17 (k + 1) (T2) (by omega) (by rw [hT2l]; omega) (fun q hq => (hT2_b q hq).trans (hTo q hq)) (by omega) _ _ hP hS _ (lv_sub hl [0, 1, 4, 5, 6, 7, 8, 9] rfl)
        · skip
          have hkd1 := h_3
          refine lv_iload hx hb dL_fill_54 (lv_at hl 0 rfl) ?_
          refine lv_sipush (v := nI (257)) hx hb dL_fill_56 rfl ?_
          refine a_call0 (rest := []) (nL := 10) ⟨hx, hb, hml, hown, hts⟩ (a_L_low l D cy (w1 >>> ((nI (13 * (k % 2))) &&& 31)) 257 (by first | assumption | decide | omega) (by first | assumption | decide | omega)) (va_cwS 2 hts gL_fill_L_low rfl rfl rfl (by decide +kernel) ⟨Nat.le_of_ble_eq_true rfl, Nat.le_of_ble_eq_true rfl⟩) hK trivial hP hS rfl hl.1 rfl (Nat.le_of_ble_eq_true rfl) dL_fill_59 ⟨Nat.zero_le _, Nat.zero_le _⟩ (fun o H locs hpost hP hS => ?_)
          obtain ⟨v1, hv1, ho⟩ := hpost
          subst ho
          have hP : aP D cy ad T H := hP
          refine lv_goto (tgt := 103) hx hb dL_fill_62 (by decide) ?_
          refine lv_istore (lv' := [(9, .int (nI (v1))), (8, .int (w1 >>> ((nI (13 * (k % 2))) &&& 31))), (7, .int (nI (k))), (6, .int (nI (1))), (0, .ref (ad (136))), (1, .int (nI (r))), (2, .ref b), (3, .int (nI (fr))), (4, .int (nI (many))), (5, .int (nI (kd)))]) hx hb dL_fill_103 hl (by decide) rfl (fun ls hl => ?_)
          refine lv_aload_n hx hb dL_fill_105 rfl (lv_at hl 4 rfl) ?_
          refine lv_iload_n hx hb dL_fill_106 rfl (lv_at hl 5 rfl) ?_
          refine lv_iload hx hb dL_fill_107 (lv_at hl 2 rfl) ?_
          refine lv_iload hx hb dL_fill_109 (lv_at hl 0 rfl) ?_
          refine a_callV (rest := []) (nL := 10) ⟨hx, hb, hml, hown, hts⟩ (a_set l D cy ad hI T r k v1 (by first | assumption | decide | omega) (by first | assumption | decide | omega) (by first | assumption | decide | omega) (by first | assumption | decide | omega)) (cwV 3 hts gL_fill_X4_set rfl rfl rfl (by decide +kernel) ⟨Nat.le_of_ble_eq_true rfl, Nat.le_of_ble_eq_true rfl⟩) hK hP hS (fun _ h => h) rfl hl.1 rfl (Nat.le_of_ble_eq_true rfl) dL_fill_111 ⟨Nat.zero_le _, Nat.zero_le _⟩ (fun o T2 H locs hpost hP hS => ?_)
          obtain ⟨ho, hT2_a, hT2_b⟩ := hpost
          subst ho
          have hP : aP D cy ad T2 H := hP
          have hT2l : (T2.1 r).1 = max (T.1 r).1 (k + 1) := by rw [hT2_a]; rfl
          have hT2v := (hP.row r hr).2.2.1 k
          refine lv_iload hx hb dL_fill_114 (lv_at hl 2 rfl) ?_
          refine lv_iconst (v := nI (1)) hx hb dL_fill_116 rfl ?_
          refine n_iadd hx hb dL_fill_117 ?_
          refine n_icmp_ne (tgt := 137) hx hb (by omega) (by omega) dL_fill_118 (by decide) (fun h_12 => ?_) (fun h_12 => ?_)
          · skip
            exact absurd h_12 (by omega)
          · skip
            refine lv_aload_n hx hb dL_fill_121 rfl (lv_at hl 4 rfl) ?_
            refine lv_iload_n hx hb dL_fill_122 rfl (lv_at hl 5 rfl) ?_
            refine lv_iload hx hb dL_fill_123 (lv_at hl 2 rfl) ?_
            refine a_callVr (rest := []) (nL := 10) ⟨hx, hb, hml, hown, hts⟩ (a_number l D cy ad hI T2 r k (by first | assumption | decide | omega) (by first | assumption | decide | omega)) (cwV 2 hts gL_fill_X4_number rfl rfl rfl (by decide +kernel) ⟨Nat.le_of_ble_eq_true rfl, Nat.le_of_ble_eq_true rfl⟩) hK hP hS (fun _ h => h) rfl hl.1 rfl (Nat.le_of_ble_eq_true rfl) dL_fill_125 ⟨Nat.zero_le _, Nat.zero_le _⟩ (fun H locs hP hS => ?_)
            have hP : aP D cy ad T2 H := hP
            refine lv_iload hx hb dL_fill_128 (lv_at hl 0 rfl) ?_
            refine n_icmp_ne (tgt := 137) hx hb (by omega) (by omega) dL_fill_130 (by decide) (fun h_13 => ?_) (fun h_13 => ?_)
            · skip
              exact absurd (by rw [hT2_a]; exact va_up_self _ _ _) h_13
            · skip
              refine lv_iconst (v := nI (1)) hx hb dL_fill_133 rfl ?_
              refine lv_goto (tgt := 138) hx hb dL_fill_134 (by decide) ?_
              refine lv_istore (lv' := [(6, .int (nI (1))), (9, .int (nI (v1))), (8, .int (w1 >>> ((nI (13 * (k % 2))) &&& 31))), (7, .int (nI (k))), (0, .ref (ad (136))), (1, .int (nI (r))), (2, .ref b), (3, .int (nI (fr))), (4, .int (nI (many))), (5, .int (nI (kd)))]) hx hb dL_fill_138 hl (by decide) rfl (fun ls hl => ?_)
              refine lv_iinc (v := nI (k + 1)) (lv' := [(7, .int (nI (k + 1))), (6, .int (nI (1))), (9, .int (nI (v1))), (8, .int (w1 >>> ((nI (13 * (k % 2))) &&& 31))), (0, .ref (ad (136))), (1, .int (nI (r))), (2, .ref b), (3, .int (nI (fr))), (4, .int (nI (many))), (5, .int (nI (kd)))]) hx hb dL_fill_140 hl (k := 3) rfl (nI_inc _) (by decide) rfl (fun ls hl => ?_)
              refine lv_goto (tgt := 17) hx hb dL_fill_143 (by decide) ?_
              exact ih17 (k + 1) (T2) (by omega) (by rw [hT2l]; omega) (fun q hq => (hT2_b q hq).trans (hTo q hq)) (by omega) _ _ hP hS _ (lv_sub hl [0, 1, 4, 5, 6, 7, 8, 9] rfl)
  exact lp17 (_ + 1) (0) (S1) (Nat.zero_le _) (by have h2 := h1; rw [← hS1_a] at h2; omega) (fun q _ => by rw [hS1_a]) (Nat.lt_succ_self _) _ _ hP hS _ hl
