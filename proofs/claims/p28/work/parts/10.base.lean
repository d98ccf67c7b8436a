/-! WORLDS BY CELL NUMBER: a world is a function from cell numbers to what the cells hold; the address of each number is ad's. -/
def wL (N : Nat) (ad : Nat → Nat) (Wd : Nat → va_E) : va_W := (List.range N).map (fun k => (ad k, Wd k))
def wI (N : Nat) (ad : Nat → Nat) : Prop := ∀ i j, i < N → j < N → ad i = ad j → i = j
def wA (N : Nat) (ad : Nat → Nat) : Nat → Prop := fun q => ∃ k, k < N ∧ q = ad k
theorem wL_get {N : Nat} {ad : Nat → Nat} {Wd : Nat → va_E} {k : Nat} {e : va_E} (h : k < N) (he : Wd k = e) : (wL N ad Wd)[k]? = some (ad k, e) := by
  subst he
  simp [wL, h]
theorem wL_some {N : Nat} {ad : Nat → Nat} {Wd : Nat → va_E} {k : Nat} {q : Nat × va_E} (h : (wL N ad Wd)[k]? = some q) : k < N ∧ q = (ad k, Wd k) := by
  by_cases hk : k < N
  · rw [wL_get hk rfl] at h
    exact ⟨hk, (Option.some.inj h).symm⟩
  · simp [wL, hk] at h
theorem wL_set {N : Nat} {ad : Nat → Nat} {Wd : Nat → va_E} {k : Nat} {e : va_E} : (wL N ad Wd).set k (ad k, e) = wL N ad (va_up Wd k e) := by
  apply List.ext_getElem?
  intro j
  by_cases hj : j < N
  · by_cases hk : j = k
    · subst hk
      rw [List.getElem?_set_self (by simpa [wL] using hj), wL_get hj (va_up_self Wd j e)]
    · rw [List.getElem?_set_ne (Ne.symm hk), wL_get hj rfl, wL_get hj (va_up_ne Wd e hk)]
  · have h1 : N ≤ j := by omega
    simp [wL, h1]
theorem wD {N : Nat} {ad : Nat → Nat} {Wd : Nat → va_E} (hI : wI N ad) : va_D (wA N ad) (wL N ad Wd) := by
  refine ⟨fun i j p q hi hj hpq => ?_, fun k q hk => ?_⟩
  · obtain ⟨h1, rfl⟩ := wL_some hi
    obtain ⟨h2, rfl⟩ := wL_some hj
    exact hI i j h1 h2 hpq
  · obtain ⟨h1, rfl⟩ := wL_some hk
    exact ⟨k, h1, rfl⟩
/-- the classes of the arrays: ints, booleans, chars, rows, states -/
abbrev kTy (cy : Nat → ClassId) : List (ClassId × FieldType) := [(cy 0, .int), (cy 1, .boolean), (cy 2, .int), (cy 3, .object "TurnedRows$Row"), (cy 4, .object "TurnedRows$State")]
def kPc (D : va_G) (cy : Nat → ClassId) (N : Nat) (ad : Nat → Nat) (Wd : Nat → va_E) (av : List Value) : Array Value → State → Prop := va_Pc av (fun U => va_P D vwCl (wL N ad Wd) U.heap ∧ va_K D vwCl (kTy cy) U)
def kQ {S : Type} (D : va_G) (N : Nat) (ad : Nat → Nat) (Wf : S → Nat → va_E) (post : Option Value → S → Prop) : Array Value → State → Outcome → State → Prop := fun _ st oc t => (∃ (o : Option Value) (u : S), oc = .returned o ∧ post o u ∧ va_P D vwCl (wL N ad (Wf u)) t.heap) ∧ va_F (wA N ad) st t
/-- a method's contract over such a world: from the world Wd to one of the family Wf -/
abbrev kM {S : Type} (l : Launch) (y : MethodName) (ws : List Cond) (rm : Room) (D : va_G) (cy : Nat → ClassId) (N : Nat) (ad : Nat → Nat) (Wf : S → Nat → va_E) (Wd : Nat → va_E) (av : List Value) (post : Option Value → S → Prop) : Prop := Met l y ws rm (kPc D cy N ad Wd av) (kQ D N ad Wf post) 0 0 (wA N ad)
/-- the end that is just this answer, in just this state -/
def kF {S : Type} (o1 : Option Value) (u1 : S) : Option Value → S → Prop := fun o u => o = o1 ∧ u = u1
theorem kPc_blind (D : va_G) (cy : Nat → ClassId) (N : Nat) (ad : Nat → Nat) (Wd : Nat → va_E) (av : List Value) : FrameBlind (kPc D cy N ad Wd av) := fun a U g mk q => by
  obtain ⟨q0, qP, qK⟩ := q
  exact ⟨q0, qP, va_K.moved (u := U) (U := U.calling g mk a) (Vm.Alike.refl U.vm) qK⟩
theorem k_met {S : Type} {l : Launch} {y : MethodName} {ws ws' : List Cond} {rm : Room} {D : va_G} {cy : Nat → ClassId} {N : Nat} {ad : Nat → Nat} {Wf : S → Nat → va_E} {Wd : Nat → va_E} {av : List Value} {post : Option Value → S → Prop} (cc : ByteArray) (maxL : Nat) (ret : Option FieldType)
    (hy : plainName y.cls = true) (hw : ws = Cond.code y cc maxL ret :: ws') (hn : (lg_sl av).length ≤ maxL)
    (body : ∀ (p : Program) (e : Env) (s : State) (m : MethodId) (below : List Frame) (meth : Method) (c : Code) (ls : Array Slot), p.tables.exec = Jvm.exec → c.code = cc → meth.sig.returnType = ret → (∀ w ∈ ws, w.before av.toArray s = true) → s.vm.findClass y.cls = some m.cls → meth.locks = false → c.maxLocals = maxL → va_K D vwCl (kTy cy) s → va_P D vwCl (wL N ad Wd) s.heap → va_S (wA N ad) s.heap s.heap [] → lv_has ls maxL (lv_args 0 av) →
      W p l e rm s m av.toArray below meth c s.heap [] 0 0 (MQ below (kQ D N ad Wf post) av.toArray s 0 0 (wA N ad)) (F0 m 0 ls [])) :
    kM l y ws rm D cy N ad Wf Wd av post := by
  refine Met.ofW (cc := cc) (maxL := maxL) (ret := ret) hy hw ?_
  intro p e s m args below meth c s₁ B hml hv
  obtain ⟨rfl, hP, hK⟩ := hv
  rw [lg_entry_eq]
  exact body p e s m below meth c _ B.exec B.bytes B.returns (atoms_spec (ws := ws) B.pre) (findClass_of_methodNamed B.named) B.notSynchronized hml hK hP va_S.rf (lv_entry av hn)
section KR
variable {p : Program} {l : Launch} {e : Env} {R : Room} {s : State} {m : MethodId} {args : Array Value} {below : List Frame} {meth : Method} {c : Code} {H : Heap} {locs : List Loc} {cells slots : Nat} {Q : State → Prop}
variable {cc : ByteArray} {pc : Nat} {ls : Array Slot} {rest st0 : List Value} {D : va_G} {cy : Nat → ClassId} {N : Nat} {ad : Nat → Nat} {Wd : Nat → va_E} {A0 : Nat → Prop} {H0 : Heap}
theorem k_iret {S : Type} {Wf : S → Nat → va_E} {post : Option Value → S → Prop} (hx : p.tables.exec = Jvm.exec) (hb : c.code = cc) (hr : meth.sig.returnType = some .int) (hlocks : meth.locks = false) {v : Int32} (u : S) (hP : va_P D vwCl (wL N ad (Wf u)) H) (hS : va_S (wA N ad) s.heap H locs) (hdg : decode cc pc = .ok (.ireturn, 1)) (hpost : post (some (.int v)) u) :
    W p l e R s m args below meth c H locs 0 0 (MQ below (kQ D N ad Wf post) args s 0 0 (wA N ad)) (F0 m pc ls [.int v]) :=
  W.iret (v := v) hx hb hr (fun t ht _ => ⟨⟨_, u, rfl, hpost, by rw [ht]; exact hP⟩, hS.F ht⟩) hS.2.2 hdg hlocks
theorem k_zret {S : Type} {Wf : S → Nat → va_E} {post : Option Value → S → Prop} {ty : FieldType} (hx : p.tables.exec = Jvm.exec) (hb : c.code = cc) (hr : meth.sig.returnType = some ty) (hlocks : meth.locks = false) {v : Int32} (hn : narrow ty (.int v) = .int v) (u : S) (hP : va_P D vwCl (wL N ad (Wf u)) H) (hS : va_S (wA N ad) s.heap H locs) (hdg : decode cc pc = .ok (.ireturn, 1)) (hpost : post (some (.int v)) u) :
    W p l e R s m args below meth c H locs 0 0 (MQ below (kQ D N ad Wf post) args s 0 0 (wA N ad)) (F0 m pc ls [.int v]) :=
  W.zret (v := v) hx hb hr hn (fun t ht _ => ⟨⟨_, u, rfl, hpost, by rw [ht]; exact hP⟩, hS.F ht⟩) hS.2.2 hdg hlocks
theorem k_lret {S : Type} {Wf : S → Nat → va_E} {post : Option Value → S → Prop} (hx : p.tables.exec = Jvm.exec) (hb : c.code = cc) (hr : meth.sig.returnType = some .long) (hlocks : meth.locks = false) {v : Int64} (u : S) (hP : va_P D vwCl (wL N ad (Wf u)) H) (hS : va_S (wA N ad) s.heap H locs) (hdg : decode cc pc = .ok (.lreturn, 1)) (hpost : post (some (.long v)) u) :
    W p l e R s m args below meth c H locs 0 0 (MQ below (kQ D N ad Wf post) args s 0 0 (wA N ad)) (F0 m pc ls [.long v]) :=
  W.lret (v := v) hx hb hr (fun t ht _ => ⟨⟨_, u, rfl, hpost, by rw [ht]; exact hP⟩, hS.F ht⟩) hS.2.2 hdg hlocks
theorem k_vret {S : Type} {Wf : S → Nat → va_E} {post : Option Value → S → Prop} (hx : p.tables.exec = Jvm.exec) (hb : c.code = cc) (hr : meth.sig.returnType = none) (hlocks : meth.locks = false) (u : S) (hP : va_P D vwCl (wL N ad (Wf u)) H) (hS : va_S (wA N ad) s.heap H locs) (hdg : decode cc pc = .ok (.return_, 1)) (hpost : post none u) :
    W p l e R s m args below meth c H locs 0 0 (MQ below (kQ D N ad Wf post) args s 0 0 (wA N ad)) (F0 m pc ls []) :=
  W.vret hx hb hr (fun t ht _ => ⟨⟨_, u, rfl, hpost, by rw [ht]; exact hP⟩, hS.F ht⟩) hS.2.2 hdg hlocks
theorem k_callV {S : Type} {Wf : S → Nat → va_E} {post : Option Value → S → Prop} {y : MethodName} {bytes : ByteArray} {maxL nL n index : Nat} {ret : Option FieldType} {ws Ts : List Cond} {rm : Room} {own C : String} {b : Nat} {As : List Value}
    (F : CallFix p m c cc nL s args Ts own) (hM : kM l y ws rm D cy N ad Wf Wd (.ref b :: As) post) (cw : CallW R s args own C index y bytes maxL ret ws rm 0 0 n)
    (hK : va_K D vwCl (kTy cy) s) (hP : va_P D vwCl (wL N ad Wd) H) (hS : va_S A0 H0 H locs) (hA : ∀ q, wA N ad q → A0 q)
    {q0 ci : Nat} {q : vw_C} {fs : List Value} (hb0 : ad q0 = b) (hq0 : q0 < N) (he : Wd q0 = .inr (ci, fs)) (hc : vwCl[ci]? = some q) (hC : q.1 = C)
    (hn : As.length = n) (hsize : ls.size = nL) (hst : st0 = As.reverse ++ .ref b :: rest) (hW : (rest.map fun v => v.category).sum ≤ 8) (hdg : decode cc pc = .ok (.invokevirtual index, 3)) (hcell : cells ≤ R.cells ∧ slots ≤ R.slots)
    (kk : ∀ (o : Option Value) (u : S) (H1 : Heap) (locs1 : List Loc), post o u → va_P D vwCl (wL N ad (Wf u)) H1 → va_S A0 H0 H1 locs1 → (H.size ≤ H1.size ∧ ∀ q : Nat, q < H.size → ¬ wA N ad q → H1[q]? = H[q]?) → W p l e R s m args below meth c H1 locs1 cells slots Q (F0 m (pc + 3) ls (o.toList ++ rest))) : W p l e R s m args below meth c H locs cells slots Q (F0 m pc ls st0) := by
  subst hb0
  subst hC
  intro T hT X
  obtain ⟨v, st₀, t, T', L, h0, X', hL, e1, e2, ⟨⟨o, u, hv, hp, hb⟩, hz, hk⟩, st⟩ := va_runV (rest := rest) (g := F0 m pc ls st0) F hM cw ⟨kPc_blind D cy N ad Wd _, va_recv hK hP hc (wL_get hq0 he), fun U hU hW => ⟨rfl, by rw [hU]; exact hP, va_K.moved hW.alike hK⟩⟩ rfl hn hsize hst (lv_room hW) hdg hcell T hT X
  cases hv
  rw [h0] at hz hk
  obtain ⟨t2, a1, b1⟩ := kk v u T'.heap (locs ++ L) hp (by rw [e1]; exact hb)
    ⟨Nat.le_trans hS.1 (by rw [e1]; exact hz), fun q h1 h2 => by rw [e1, hk q (Nat.lt_of_lt_of_le h1 hS.1) (fun z => h2 (hA q z))]; exact hS.2.1 q h1 h2, fun q hq => by
      rcases List.mem_append.mp hq with h | h
      · exact hS.2.2 q h
      · exact hA _ (hL q h)⟩ ⟨by rw [e1]; exact hz, fun q h1 h2 => by rw [e1]; exact hk q h1 h2⟩ T' rfl X'
  exact ⟨t2, st t2 a1, b1⟩
theorem k_callS {S : Type} {Wf : S → Nat → va_E} {post : Option Value → S → Prop} {y : MethodName} {bytes : ByteArray} {maxL nL n index : Nat} {ret : Option FieldType} {ws Ts : List Cond} {rm : Room} {own : String} {As : List Value}
    (F : CallFix p m c cc nL s args Ts own) (hM : kM l y ws rm D cy N ad Wf Wd As post) (cw : CallB R s args own index y bytes maxL ret ws rm 0 0 n ∧ (Cond.static y).before args s = true)
    (hK : va_K D vwCl (kTy cy) s) (hP : va_P D vwCl (wL N ad Wd) H) (hS : va_S A0 H0 H locs) (hA : ∀ q, wA N ad q → A0 q)
    (hn : As.length = n) (hsize : ls.size = nL) (hst : st0 = As.reverse ++ rest) (hW : (rest.map fun v => v.category).sum ≤ 8) (hdg : decode cc pc = .ok (.invokestatic index, 3)) (hcell : cells ≤ R.cells ∧ slots ≤ R.slots)
    (kk : ∀ (o : Option Value) (u : S) (H1 : Heap) (locs1 : List Loc), post o u → va_P D vwCl (wL N ad (Wf u)) H1 → va_S A0 H0 H1 locs1 → (H.size ≤ H1.size ∧ ∀ q : Nat, q < H.size → ¬ wA N ad q → H1[q]? = H[q]?) → W p l e R s m args below meth c H1 locs1 cells slots Q (F0 m (pc + 3) ls (o.toList ++ rest))) : W p l e R s m args below meth c H locs cells slots Q (F0 m pc ls st0) := by
  intro T hT X
  obtain ⟨v, st₀, t, T', L, h0, X', hL, e1, e2, ⟨⟨o, u, hv, hp, hb⟩, hz, hk⟩, st⟩ := va_runS (rest := rest) (g := F0 m pc ls st0) F hM cw ⟨kPc_blind D cy N ad Wd _, fun U hU hW => ⟨rfl, by rw [hU]; exact hP, va_K.moved hW.alike hK⟩⟩ rfl hn hsize hst (lv_room hW) hdg hcell T hT X
  cases hv
  rw [h0] at hz hk
  obtain ⟨t2, a1, b1⟩ := kk v u T'.heap (locs ++ L) hp (by rw [e1]; exact hb)
    ⟨Nat.le_trans hS.1 (by rw [e1]; exact hz), fun q h1 h2 => by rw [e1, hk q (Nat.lt_of_lt_of_le h1 hS.1) (fun z => h2 (hA q z))]; exact hS.2.1 q h1 h2, fun q hq => by
      rcases List.mem_append.mp hq with h | h
      · exact hS.2.2 q h
      · exact hA _ (hL q h)⟩ ⟨by rw [e1]; exact hz, fun q h1 h2 => by rw [e1]; exact hk q h1 h2⟩ T' rfl X'
  exact ⟨t2, st t2 a1, b1⟩
end KR
