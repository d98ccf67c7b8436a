/-! CONTRACTS OVER THE ABSTRACT STATE: what the law's methods see -/
def aP (D : va_G) (cy : Nat → ClassId) (ad : Nat → Nat) (S : kSt) (H : Heap) : Prop := kInv S ∧ ∃ (ρ : Nat → kR) (x : kX), cRep S (ρ, x) ∧ va_P D vwCl (wL 143 ad (cW ad cy ρ x)) H
theorem aP.keep {D : va_G} {cy : Nat → ClassId} {ad : Nat → Nat} {S : kSt} {H H1 : Heap} (h : aP D cy ad S H) (hk : ∀ q : Nat, q < H.size → H1[q]? = H[q]?) : aP D cy ad S H1 := by
  obtain ⟨h1, ρ, x, h2, h3⟩ := h
  exact ⟨h1, ρ, x, h2, h3.kept (fun k q hk' => hk _ ((h3 k q hk').lt))⟩
theorem aP.inv {D : va_G} {cy : Nat → ClassId} {ad : Nat → Nat} {S : kSt} {H : Heap} (h : aP D cy ad S H) : kInv S := h.1
theorem aP.row {D : va_G} {cy : Nat → ClassId} {ad : Nat → Nat} {S : kSt} {H : Heap} (h : aP D cy ad S H) : ∀ r, r < 6 → rO (S.1 r) := h.1.1
/-- a method's end: its answer, and what the heap holds then; A's cells alone are written -/
def gQ (A : Nat → Prop) (post : Option Value → Heap → Prop) : Array Value → State → Outcome → State → Prop := fun _ st oc t => (∃ o : Option Value, oc = .returned o ∧ post o t.heap) ∧ va_F A st t
abbrev gPc (D : va_G) (cy : Nat → ClassId) (B0 : Heap → Prop) (av : List Value) : Array Value → State → Prop := va_Pc av (fun U => B0 U.heap ∧ va_K D vwCl (kTy cy) U)
abbrev gM (l : Launch) (y : MethodName) (ws : List Cond) (rm : Room) (D : va_G) (cy : Nat → ClassId) (A : Nat → Prop) (B0 : Heap → Prop) (av : List Value) (post : Option Value → Heap → Prop) : Prop := Met l y ws rm (gPc D cy B0 av) (gQ A post) 0 0 A
theorem gPc_blind (D : va_G) (cy : Nat → ClassId) (B0 : Heap → Prop) (av : List Value) : FrameBlind (gPc D cy B0 av) := fun a U g mk q => by
  obtain ⟨q0, qP, qK⟩ := q
  exact ⟨q0, qP, va_K.moved (u := U) (U := U.calling g mk a) (Vm.Alike.refl U.vm) qK⟩
theorem g_met {l : Launch} {y : MethodName} {ws ws' : List Cond} {rm : Room} {D : va_G} {cy : Nat → ClassId} {A : Nat → Prop} {B0 : Heap → Prop} {av : List Value} {post : Option Value → Heap → Prop} (cc : ByteArray) (maxL : Nat) (ret : Option FieldType)
    (hy : plainName y.cls = true) (hw : ws = Cond.code y cc maxL ret :: ws') (hn : (lg_sl av).length ≤ maxL)
    (body : ∀ (p : Program) (e : Env) (s : State) (m : MethodId) (below : List Frame) (meth : Method) (c : Code) (ls : Array Slot), p.tables.exec = Jvm.exec → c.code = cc → meth.sig.returnType = ret → (∀ w ∈ ws, w.before av.toArray s = true) → s.vm.findClass y.cls = some m.cls → meth.locks = false → c.maxLocals = maxL → va_K D vwCl (kTy cy) s → B0 s.heap → va_S A s.heap s.heap [] → lv_has ls maxL (lv_args 0 av) →
      W p l e rm s m av.toArray below meth c s.heap [] 0 0 (MQ below (gQ A post) av.toArray s 0 0 A) (F0 m 0 ls [])) :
    gM l y ws rm D cy A B0 av post := by
  refine Met.ofW (cc := cc) (maxL := maxL) (ret := ret) hy hw ?_
  intro p e s m args below meth c s₁ B hml hv
  obtain ⟨rfl, hP, hK⟩ := hv
  rw [lg_entry_eq]
  exact body p e s m below meth c _ B.exec B.bytes B.returns (atoms_spec (ws := ws) B.pre) (findClass_of_methodNamed B.named) B.notSynchronized hml hK hP va_S.rf (lv_entry av hn)
section GR
variable {p : Program} {l : Launch} {e : Env} {R : Room} {s : State} {m : MethodId} {args : Array Value} {below : List Frame} {meth : Method} {c : Code} {H : Heap} {locs : List Loc} {cells slots : Nat} {Q : State → Prop}
variable {cc : ByteArray} {pc : Nat} {ls : Array Slot} {rest st0 : List Value} {D : va_G} {cy : Nat → ClassId} {ad : Nat → Nat} {A A0 : Nat → Prop} {H0 : Heap}
theorem g_iret {post : Option Value → Heap → Prop} (hx : p.tables.exec = Jvm.exec) (hb : c.code = cc) (hr : meth.sig.returnType = some .int) (hlocks : meth.locks = false) {v : Int32} (hS : va_S A s.heap H locs) (hdg : decode cc pc = .ok (.ireturn, 1)) (hpost : post (some (.int v)) H) :
    W p l e R s m args below meth c H locs 0 0 (MQ below (gQ A post) args s 0 0 A) (F0 m pc ls [.int v]) :=
  W.iret (v := v) hx hb hr (fun t ht _ => ⟨⟨_, rfl, by rw [ht]; exact hpost⟩, hS.F ht⟩) hS.2.2 hdg hlocks
theorem g_zret {post : Option Value → Heap → Prop} {ty : FieldType} (hx : p.tables.exec = Jvm.exec) (hb : c.code = cc) (hr : meth.sig.returnType = some ty) (hlocks : meth.locks = false) {v : Int32} (hn : narrow ty (.int v) = .int v) (hS : va_S A s.heap H locs) (hdg : decode cc pc = .ok (.ireturn, 1)) (hpost : post (some (.int v)) H) :
    W p l e R s m args below meth c H locs 0 0 (MQ below (gQ A post) args s 0 0 A) (F0 m pc ls [.int v]) :=
  W.zret (v := v) hx hb hr hn (fun t ht _ => ⟨⟨_, rfl, by rw [ht]; exact hpost⟩, hS.F ht⟩) hS.2.2 hdg hlocks
theorem g_callV {post : Option Value → Heap → Prop} {B0 : Heap → Prop} {y : MethodName} {bytes : ByteArray} {maxL nL n index : Nat} {ret : Option FieldType} {ws Ts : List Cond} {rm : Room} {own C : String} {b : Nat} {As : List Value}
    (F : CallFix p m c cc nL s args Ts own) (hM : gM l y ws rm D cy A B0 (.ref b :: As) post) (cw : CallW R s args own C index y bytes maxL ret ws rm 0 0 n)
    (hK : va_K D vwCl (kTy cy) s) (hB : B0 H) (hS : va_S A0 H0 H locs) (hA : ∀ q, A q → A0 q) (hrc : ∃ cell : Cell, H[b]? = some cell ∧ cell.vm.isStatics = false ∧ s.vm.findClass C = some cell.cls)
    (hn : As.length = n) (hsize : ls.size = nL) (hst : st0 = As.reverse ++ .ref b :: rest) (hW : (rest.map fun v => v.category).sum ≤ 8) (hdg : decode cc pc = .ok (.invokevirtual index, 3)) (hcell : cells ≤ R.cells ∧ slots ≤ R.slots)
    (kk : ∀ (o : Option Value) (H1 : Heap) (locs1 : List Loc), post o H1 → va_S A0 H0 H1 locs1 → (H.size ≤ H1.size ∧ ∀ q : Nat, q < H.size → ¬ A q → H1[q]? = H[q]?) → W p l e R s m args below meth c H1 locs1 cells slots Q (F0 m (pc + 3) ls (o.toList ++ rest))) : W p l e R s m args below meth c H locs cells slots Q (F0 m pc ls st0) := by
  intro T hT X
  obtain ⟨v, st₀, t, T', L, h0, X', hL, e1, e2, ⟨⟨o, hv, hp⟩, hz, hk⟩, st⟩ := va_runV (rest := rest) (g := F0 m pc ls st0) F hM cw ⟨gPc_blind D cy B0 _, hrc, fun U hU hW => ⟨rfl, by rw [hU]; exact hB, va_K.moved hW.alike hK⟩⟩ rfl hn hsize hst (lv_room hW) hdg hcell T hT X
  cases hv
  rw [h0] at hz hk
  obtain ⟨t2, a1, b1⟩ := kk v T'.heap (locs ++ L) (by rw [e1]; exact hp)
    ⟨Nat.le_trans hS.1 (by rw [e1]; exact hz), fun q h1 h2 => by rw [e1, hk q (Nat.lt_of_lt_of_le h1 hS.1) (fun z => h2 (hA q z))]; exact hS.2.1 q h1 h2, fun q hq => by
      rcases List.mem_append.mp hq with h | h
      · exact hS.2.2 q h
      · exact hA _ (hL q h)⟩ ⟨by rw [e1]; exact hz, fun q h1 h2 => by rw [e1]; exact hk q h1 h2⟩ T' rfl X'
  exact ⟨t2, st t2 a1, b1⟩
theorem g_callS {post : Option Value → Heap → Prop} {B0 : Heap → Prop} {y : MethodName} {bytes : ByteArray} {maxL nL n index : Nat} {ret : Option FieldType} {ws Ts : List Cond} {rm : Room} {own : String} {As : List Value}
    (F : CallFix p m c cc nL s args Ts own) (hM : gM l y ws rm D cy A B0 As post) (cw : CallB R s args own index y bytes maxL ret ws rm 0 0 n ∧ (Cond.static y).before args s = true)
    (hK : va_K D vwCl (kTy cy) s) (hB : B0 H) (hS : va_S A0 H0 H locs) (hA : ∀ q, A q → A0 q)
    (hn : As.length = n) (hsize : ls.size = nL) (hst : st0 = As.reverse ++ rest) (hW : (rest.map fun v => v.category).sum ≤ 8) (hdg : decode cc pc = .ok (.invokestatic index, 3)) (hcell : cells ≤ R.cells ∧ slots ≤ R.slots)
    (kk : ∀ (o : Option Value) (H1 : Heap) (locs1 : List Loc), post o H1 → va_S A0 H0 H1 locs1 → (H.size ≤ H1.size ∧ ∀ q : Nat, q < H.size → ¬ A q → H1[q]? = H[q]?) → W p l e R s m args below meth c H1 locs1 cells slots Q (F0 m (pc + 3) ls (o.toList ++ rest))) : W p l e R s m args below meth c H locs cells slots Q (F0 m pc ls st0) := by
  intro T hT X
  obtain ⟨v, st₀, t, T', L, h0, X', hL, e1, e2, ⟨⟨o, hv, hp⟩, hz, hk⟩, st⟩ := va_runS (rest := rest) (g := F0 m pc ls st0) F hM cw ⟨gPc_blind D cy B0 _, fun U hU hW => ⟨rfl, by rw [hU]; exact hB, va_K.moved hW.alike hK⟩⟩ rfl hn hsize hst (lv_room hW) hdg hcell T hT X
  cases hv
  rw [h0] at hz hk
  obtain ⟨t2, a1, b1⟩ := kk v T'.heap (locs ++ L) (by rw [e1]; exact hp)
    ⟨Nat.le_trans hS.1 (by rw [e1]; exact hz), fun q h1 h2 => by rw [e1, hk q (Nat.lt_of_lt_of_le h1 hS.1) (fun z => h2 (hA q z))]; exact hS.2.1 q h1 h2, fun q hq => by
      rcases List.mem_append.mp hq with h | h
      · exact hS.2.2 q h
      · exact hA _ (hL q h)⟩ ⟨by rw [e1]; exact hz, fun q h1 h2 => by rw [e1]; exact hk q h1 h2⟩ T' rfl X'
  exact ⟨t2, st t2 a1, b1⟩
end GR
/-- a contract from one abstract state to others -/
abbrev aM (l : Launch) (y : MethodName) (ws : List Cond) (rm : Room) (D : va_G) (cy : Nat → ClassId) (ad : Nat → Nat) (S : kSt) (av : List Value) (post : Option Value → kSt → Prop) : Prop := gM l y ws rm D cy (wA 143 ad) (aP D cy ad S) av (fun o H => ∃ S' : kSt, post o S' ∧ aP D cy ad S' H)
/-- just this answer, the state as it was -/
abbrev aV (v : Int32) (S : kSt) : Option Value → kSt → Prop := fun o S' => o = some (.int v) ∧ S' = S
/-- this answer, and R is in the register t, the other registers are as they were -/
abbrev aC (v : Int32) (S : kSt) (t : Nat) (R : kR) : Option Value → kSt → Prop := fun o S' => o = some (.int v) ∧ S'.1 t = R ∧ ∀ q, q ≠ t → S'.1 q = S.1 q
theorem aM.weak {l : Launch} {y : MethodName} {ws : List Cond} {rm : Room} {D : va_G} {cy : Nat → ClassId} {ad : Nat → Nat} {S : kSt} {av : List Value} {post post' : Option Value → kSt → Prop} (h : kInv S → aM l y ws rm D cy ad S av post) (hp : ∀ o S', kInv S → kInv S' → post o S' → post' o S') : aM l y ws rm D cy ad S av post' := by
  intro p e ha hc hk s m args below hf happ hpre _
  obtain ⟨k, o, h1, h2, h3, hQ⟩ := h hpre.2.1.1 p e ha hc hk s m args below hf happ hpre trivial
  obtain ⟨⟨⟨o2, ho, S', hp1, hp2⟩, hF⟩, hL⟩ := hQ
  exact ⟨k, o, h1, h2, h3, ⟨⟨o2, ho, S', hp o2 S' hpre.2.1.1 hp2.1 hp1, hp2⟩, hF⟩, hL⟩
/-- out of a contract of the class -/
theorem aM.of {l : Launch} {y : MethodName} {ws : List Cond} {rm : Room} {D : va_G} {cy : Nat → ClassId} {ad : Nat → Nat} {S S1 : kSt} {av : List Value} {o1 : Option Value} (hM : kInv S → ∀ ρ x, cRep S (ρ, x) → kM l y ws rm D cy 143 ad (cWf ad cy) (cW ad cy ρ x) av (fun o u => o = o1 ∧ cRep S1 u)) (hI : kInv S → kInv S1) : aM l y ws rm D cy ad S av (fun o S' => o = o1 ∧ S' = S1) := by
  intro p e ha hc hk s m args below hf happ hpre _
  obtain ⟨e0, ⟨hS, ρ, x, hR, hP⟩, hK⟩ := hpre
  obtain ⟨k, o, h1, h2, h3, hQ⟩ := hM hS ρ x hR p e ha hc hk s m args below hf happ ⟨e0, hP, hK⟩ trivial
  obtain ⟨⟨⟨o2, u, ho, ⟨hp1, hp2⟩, hP2⟩, hF⟩, hL⟩ := hQ
  exact ⟨k, o, h1, h2, h3, ⟨⟨o2, ho, S1, ⟨hp1, rfl⟩, hI hS, u.1, u.2, hp2, hP2⟩, hF⟩, hL⟩
section AR
variable {p : Program} {l : Launch} {e : Env} {R : Room} {s : State} {m : MethodId} {args : Array Value} {below : List Frame} {meth : Method} {c : Code} {H : Heap} {locs : List Loc} {cells slots : Nat} {Q : State → Prop}
variable {cc : ByteArray} {pc : Nat} {ls : Array Slot} {rest st0 : List Value} {D : va_G} {cy : Nat → ClassId} {ad : Nat → Nat} {A0 : Nat → Prop} {H0 : Heap} {S : kSt}
theorem a_recv (hK : va_K D vwCl (kTy cy) s) (hP : aP D cy ad S H) : ∃ cell : Cell, H[ad 136]? = some cell ∧ cell.vm.isStatics = false ∧ s.vm.findClass RX4 = some cell.cls := by
  obtain ⟨-, ρ, x, -, h3⟩ := hP
  exact va_recv (q0 := 136) (q := (RX4, TX4, 10)) hK h3 rfl (wL_get (by decide) cW_top)
theorem a_iret {post : Option Value → kSt → Prop} (hx : p.tables.exec = Jvm.exec) (hb : c.code = cc) (hr : meth.sig.returnType = some .int) (hlocks : meth.locks = false) {v : Int32} (hP : aP D cy ad S H) (hS : va_S (wA 143 ad) s.heap H locs) (hdg : decode cc pc = .ok (.ireturn, 1)) (hpost : post (some (.int v)) S) :
    W p l e R s m args below meth c H locs 0 0 (MQ below (gQ (wA 143 ad) (fun o H => ∃ S' : kSt, post o S' ∧ aP D cy ad S' H)) args s 0 0 (wA 143 ad)) (F0 m pc ls [.int v]) :=
  g_iret hx hb hr hlocks hS hdg ⟨S, hpost, hP⟩
theorem a_zret {post : Option Value → kSt → Prop} (hx : p.tables.exec = Jvm.exec) (hb : c.code = cc) {ty : FieldType} (hr : meth.sig.returnType = some ty) (hlocks : meth.locks = false) {v : Int32} (hn : narrow ty (.int v) = .int v) (hP : aP D cy ad S H) (hS : va_S (wA 143 ad) s.heap H locs) (hdg : decode cc pc = .ok (.ireturn, 1)) (hpost : post (some (.int v)) S) :
    W p l e R s m args below meth c H locs 0 0 (MQ below (gQ (wA 143 ad) (fun o H => ∃ S' : kSt, post o S' ∧ aP D cy ad S' H)) args s 0 0 (wA 143 ad)) (F0 m pc ls [.int v]) :=
  g_zret hx hb hr hlocks hn hS hdg ⟨S, hpost, hP⟩
/-- a call of the class -/
theorem a_callV {post : Option Value → kSt → Prop} {y : MethodName} {bytes : ByteArray} {maxL nL n index : Nat} {ret : Option FieldType} {ws Ts : List Cond} {rm : Room} {own : String} {As : List Value}
    (F : CallFix p m c cc nL s args Ts own) (hM : aM l y ws rm D cy ad S (.ref (ad 136) :: As) post) (cw : CallW R s args own RX4 index y bytes maxL ret ws rm 0 0 n)
    (hK : va_K D vwCl (kTy cy) s) (hP : aP D cy ad S H) (hS : va_S A0 H0 H locs) (hA : ∀ q, wA 143 ad q → A0 q)
    (hn : As.length = n) (hsize : ls.size = nL) (hst : st0 = As.reverse ++ .ref (ad 136) :: rest) (hW : (rest.map fun v => v.category).sum ≤ 8) (hdg : decode cc pc = .ok (.invokevirtual index, 3)) (hcell : cells ≤ R.cells ∧ slots ≤ R.slots)
    (kk : ∀ (o : Option Value) (S1 : kSt) (H1 : Heap) (locs1 : List Loc), post o S1 → aP D cy ad S1 H1 → va_S A0 H0 H1 locs1 → W p l e R s m args below meth c H1 locs1 cells slots Q (F0 m (pc + 3) ls (o.toList ++ rest))) : W p l e R s m args below meth c H locs cells slots Q (F0 m pc ls st0) :=
  g_callV F hM cw hK hP hS hA (a_recv hK hP) hn hsize hst hW hdg hcell (fun o H1 locs1 ⟨S1, h1, h2⟩ hS1 _ => kk o S1 H1 locs1 h1 h2 hS1)
theorem a_callVr {v1 : Int32} {y : MethodName} {bytes : ByteArray} {maxL nL n index : Nat} {ret : Option FieldType} {ws Ts : List Cond} {rm : Room} {own : String} {As : List Value}
    (F : CallFix p m c cc nL s args Ts own) (hM : aM l y ws rm D cy ad S (.ref (ad 136) :: As) (aV v1 S)) (cw : CallW R s args own RX4 index y bytes maxL ret ws rm 0 0 n)
    (hK : va_K D vwCl (kTy cy) s) (hP : aP D cy ad S H) (hS : va_S A0 H0 H locs) (hA : ∀ q, wA 143 ad q → A0 q)
    (hn : As.length = n) (hsize : ls.size = nL) (hst : st0 = As.reverse ++ .ref (ad 136) :: rest) (hW : (rest.map fun v => v.category).sum ≤ 8) (hdg : decode cc pc = .ok (.invokevirtual index, 3)) (hcell : cells ≤ R.cells ∧ slots ≤ R.slots)
    (kk : ∀ (H1 : Heap) (locs1 : List Loc), aP D cy ad S H1 → va_S A0 H0 H1 locs1 → W p l e R s m args below meth c H1 locs1 cells slots Q (F0 m (pc + 3) ls (.int v1 :: rest))) : W p l e R s m args below meth c H locs cells slots Q (F0 m pc ls st0) :=
  a_callV F hM cw hK hP hS hA hn hsize hst hW hdg hcell (fun o S1 H1 locs1 hp hP1 hS1 => by obtain ⟨rfl, rfl⟩ := hp; exact kk H1 locs1 hP1 hS1)
/-- a call of a method of the law's own -/
theorem a_callS {post : Option Value → kSt → Prop} {y : MethodName} {bytes : ByteArray} {maxL nL n index : Nat} {ret : Option FieldType} {ws Ts : List Cond} {rm : Room} {own : String} {As : List Value}
    (F : CallFix p m c cc nL s args Ts own) (hM : aM l y ws rm D cy ad S As post) (cw : CallB R s args own index y bytes maxL ret ws rm 0 0 n ∧ (Cond.static y).before args s = true)
    (hK : va_K D vwCl (kTy cy) s) (hP : aP D cy ad S H) (hS : va_S A0 H0 H locs) (hA : ∀ q, wA 143 ad q → A0 q)
    (hn : As.length = n) (hsize : ls.size = nL) (hst : st0 = As.reverse ++ rest) (hW : (rest.map fun v => v.category).sum ≤ 8) (hdg : decode cc pc = .ok (.invokestatic index, 3)) (hcell : cells ≤ R.cells ∧ slots ≤ R.slots)
    (kk : ∀ (o : Option Value) (S1 : kSt) (H1 : Heap) (locs1 : List Loc), post o S1 → aP D cy ad S1 H1 → va_S A0 H0 H1 locs1 → W p l e R s m args below meth c H1 locs1 cells slots Q (F0 m (pc + 3) ls (o.toList ++ rest))) : W p l e R s m args below meth c H locs cells slots Q (F0 m pc ls st0) :=
  g_callS F hM cw hK hP hS hA hn hsize hst hW hdg hcell (fun o H1 locs1 ⟨S1, h1, h2⟩ hS1 _ => kk o S1 H1 locs1 h1 h2 hS1)
theorem a_callSr {v1 : Int32} {y : MethodName} {bytes : ByteArray} {maxL nL n index : Nat} {ret : Option FieldType} {ws Ts : List Cond} {rm : Room} {own : String} {As : List Value}
    (F : CallFix p m c cc nL s args Ts own) (hM : aM l y ws rm D cy ad S As (aV v1 S)) (cw : CallB R s args own index y bytes maxL ret ws rm 0 0 n ∧ (Cond.static y).before args s = true)
    (hK : va_K D vwCl (kTy cy) s) (hP : aP D cy ad S H) (hS : va_S A0 H0 H locs) (hA : ∀ q, wA 143 ad q → A0 q)
    (hn : As.length = n) (hsize : ls.size = nL) (hst : st0 = As.reverse ++ rest) (hW : (rest.map fun v => v.category).sum ≤ 8) (hdg : decode cc pc = .ok (.invokestatic index, 3)) (hcell : cells ≤ R.cells ∧ slots ≤ R.slots)
    (kk : ∀ (H1 : Heap) (locs1 : List Loc), aP D cy ad S H1 → va_S A0 H0 H1 locs1 → W p l e R s m args below meth c H1 locs1 cells slots Q (F0 m (pc + 3) ls (.int v1 :: rest))) : W p l e R s m args below meth c H locs cells slots Q (F0 m pc ls st0) :=
  a_callS F hM cw hK hP hS hA hn hsize hst hW hdg hcell (fun o S1 H1 locs1 hp hP1 hS1 => by obtain ⟨rfl, rfl⟩ := hp; exact kk H1 locs1 hP1 hS1)
/-- a call of a method that looks at no cell of the class -/
theorem a_call0 {post : Option Value → Prop} {B0 : Heap → Prop} {y : MethodName} {bytes : ByteArray} {maxL nL n index : Nat} {ret : Option FieldType} {ws Ts : List Cond} {rm : Room} {own : String} {As : List Value}
    (F : CallFix p m c cc nL s args Ts own) (hM : gM l y ws rm D cy (fun _ => False) B0 As (fun o _ => post o)) (cw : CallB R s args own index y bytes maxL ret ws rm 0 0 n ∧ (Cond.static y).before args s = true)
    (hK : va_K D vwCl (kTy cy) s) (hB : B0 H) (hP : aP D cy ad S H) (hS : va_S A0 H0 H locs)
    (hn : As.length = n) (hsize : ls.size = nL) (hst : st0 = As.reverse ++ rest) (hW : (rest.map fun v => v.category).sum ≤ 8) (hdg : decode cc pc = .ok (.invokestatic index, 3)) (hcell : cells ≤ R.cells ∧ slots ≤ R.slots)
    (kk : ∀ (o : Option Value) (H1 : Heap) (locs1 : List Loc), post o → aP D cy ad S H1 → va_S A0 H0 H1 locs1 → W p l e R s m args below meth c H1 locs1 cells slots Q (F0 m (pc + 3) ls (o.toList ++ rest))) : W p l e R s m args below meth c H locs cells slots Q (F0 m pc ls st0) :=
  g_callS F hM cw hK hB hS (fun _ h => h.elim) hn hsize hst hW hdg hcell (fun o H1 locs1 h1 hS1 hfr => kk o H1 locs1 h1 (hP.keep (fun q hq => hfr.2 q hq (fun h => h))) hS1)
end AR
