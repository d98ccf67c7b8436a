/-! MAKING: cells at addresses that follow one another, from h on -/
def aA (h : Nat) : Nat → Nat := fun k => h + k
def aF (h : Nat) : Nat → Prop := fun q => h ≤ q
/-- what the tables say that the making of rows and states needs -/
def aT (U : State) : Prop := va_AO RX2 U ∧ va_AO RX3 U ∧ va_Nw (.methodLinkNest RX3 17 yX2_init RX4) U ∧ va_Nw (.methodLinkNest RX4 25 yX1_init RX4) U ∧ va_Nw (.methodLinkNest RX4 40 yX2_init RX4) U
theorem aT.warm {s U : State} (hW : s.WarmedH U.vm) (h : aT s) : aT U := ⟨va_AO.moved hW.alike h.1, va_AO.moved hW.alike h.2.1, va_Nw.warmM hW h.2.2.1, va_Nw.warmM hW h.2.2.2.1, va_Nw.warmM hW h.2.2.2.2⟩
theorem aT.same {u U : State} (e : u.vm = U.vm) (h : aT u) : aT U := ⟨va_AO.moved (by rw [e]; exact Vm.Alike.refl _) h.1, va_AO.moved (by rw [e]; exact Vm.Alike.refl _) h.2.1, va_Nw.same rfl e h.2.2.1, va_Nw.same rfl e h.2.2.2.1, va_Nw.same rfl e h.2.2.2.2⟩
theorem aD {n h : Nat} {Wd : Nat → va_E} : va_D (aF h) (wL n (aA h) Wd) := by
  refine ⟨fun i j p q hi hj e => ?_, fun k q hk => ?_⟩
  · obtain ⟨_, rfl⟩ := wL_some hi
    obtain ⟨_, rfl⟩ := wL_some hj
    have e' : h + i = h + j := e
    omega
  · obtain ⟨_, rfl⟩ := wL_some hk
    exact Nat.le_add_right h k
theorem wL_push {n h : Nat} {Wd : Nat → va_E} {e : va_E} : wL (n + 1) (aA h) (va_up Wd n e) = wL n (aA h) Wd ++ [(h + n, e)] := by
  unfold wL
  rw [List.range_succ, List.map_append]
  congr 1
  · refine List.map_congr_left (fun k hk => ?_)
    rw [va_up_ne _ _ (Nat.ne_of_lt (List.mem_range.mp hk))]
  · simp [aA, va_up_self]
theorem wL_ext {D : va_G} {n : Nat} {ad : Nat → Nat} {Wd Wd' : Nat → va_E} {H : Heap} (h : ∀ k, k < n → Wd k = Wd' k) (hP : va_P D vwCl (wL n ad Wd) H) : va_P D vwCl (wL n ad Wd') H := by
  intro k q hk
  obtain ⟨hl, rfl⟩ := wL_some hk
  rw [← h k hl]
  exact hP k _ (wL_get hl rfl)
theorem c_push {D : va_G} {n h : Nat} {Wd : Nat → va_E} {e : va_E} {H H1 : Heap} (hP : va_P D vwCl (wL n (aA h) Wd) H) (he : va_at D vwCl (h + n, e) H1) (o1 : ∀ q, q < H.size → H1[q]? = H[q]?) : va_P D vwCl (wL (n + 1) (aA h) (va_up Wd n e)) H1 := by
  intro k q hk
  obtain ⟨hl, rfl⟩ := wL_some hk
  by_cases z : k = n
  · subst z
    rw [va_up_self]
    exact he
  · rw [va_up_ne _ _ z]
    have h1 := hP k _ (wL_get (show k < n by omega) rfl)
    exact h1.kept (o1 _ h1.lt)
theorem c_grow {h : Nat} {H0 H H1 : Heap} {locs : List Loc} (hS : va_S (aF h) H0 H locs) (z1 : H1.size = H.size + 1) (o1 : ∀ q, q < H.size → H1[q]? = H[q]?) : va_S (aF h) H0 H1 locs :=
  ⟨Nat.le_trans hS.1 (by omega), fun q h1 h2 => (o1 q (Nat.lt_of_lt_of_le h1 hS.1)).trans (hS.2.1 q h1 h2), hS.2.2⟩
/-- Wd's first i cells, then EC's -/
def apW (Wd : Nat → va_E) (i : Nat) (EC : Nat → va_E) : Nat → va_E := fun k => if k < i then Wd k else EC (k - i)
theorem wL_join {D : va_G} {i nC h : Nat} {Wd EC : Nat → va_E} {H H1 : Heap} (hP : va_P D vwCl (wL (i + 1) (aA h) Wd) H) (hk : ∀ q : Nat, q < H.size → ¬ aF (h + i) q → H1[q]? = H[q]?) (hC : va_P D vwCl (wL nC (aA (h + i)) EC) H1) : va_P D vwCl (wL (i + nC) (aA h) (apW Wd i EC)) H1 := by
  intro k q hq
  obtain ⟨hl, rfl⟩ := wL_some hq
  by_cases z : k < i
  · have h1 := hP k _ (wL_get (show k < i + 1 by omega) rfl)
    rw [show apW Wd i EC k = Wd k from if_pos z]
    refine h1.kept (hk _ h1.lt (fun y => ?_))
    have y' : h + i ≤ h + k := y
    omega
  · have h1 := hC (k - i) _ (wL_get (show k - i < nC by omega) rfl)
    rw [show apW Wd i EC k = EC (k - i) from if_neg z, show aA h k = aA (h + i) (k - i) from by unfold aA; omega]
    exact h1
/-- the start of a making: the object is the last cell -/
def cB (D : va_G) (cy : Nat → ClassId) (h ci : Nat) (dflt : List Value) (U : State) : Prop := U.heap.size = h + 1 ∧ va_P D vwCl (wL 1 (aA h) (fun _ => .inr (ci, dflt))) U.heap ∧ va_K D vwCl (kTy cy) U ∧ aT U
def cE (D : va_G) (h n : Nat) (EC : Nat → va_E) (t : State) : Prop := t.heap.size = h + n ∧ va_P D vwCl (wL n (aA h) EC) t.heap
abbrev cQ (D : va_G) (h n : Nat) (EC : Nat → va_E) : Array Value → State → Outcome → State → Prop := va_Qv (fun _ : Unit => True) (fun _ t => cE D h n EC t) (aF h)
abbrev kC (l : Launch) (y : MethodName) (ws : List Cond) (rm : Room) (D : va_G) (cy : Nat → ClassId) (h ci : Nat) (dflt : List Value) (n : Nat) (EC : Nat → va_E) (mc ms : Nat) : Prop := Met l y ws rm (va_Pc [.ref (aA h 0)] (cB D cy h ci dflt)) (cQ D h n EC) mc ms (aF h)
theorem cB_blind (D : va_G) (cy : Nat → ClassId) (h ci : Nat) (dflt : List Value) : FrameBlind (va_Pc [.ref (aA h 0)] (cB D cy h ci dflt)) := fun a U g mk q => by
  obtain ⟨q0, qz, qP, qK, qT⟩ := q
  exact ⟨q0, qz, qP, va_K.moved (u := U) (U := U.calling g mk a) (Vm.Alike.refl U.vm) qK, aT.same (u := U) (U := U.calling g mk a) rfl qT⟩
theorem c_met {l : Launch} {y : MethodName} {ws ws' : List Cond} {rm : Room} {D : va_G} {cy : Nat → ClassId} {h ci n mc ms : Nat} {dflt : List Value} {EC : Nat → va_E} (cc : ByteArray) (maxL : Nat)
    (hy : plainName y.cls = true) (hyi : y.name = "<init>") (hw : ws = Cond.code y cc maxL none :: ws') (hn : (lg_sl [.ref (aA h 0)]).length ≤ maxL)
    (body : ∀ (p : Program) (e : Env) (s : State) (m : MethodId) (below : List Frame) (meth : Method) (c : Code) (ls : Array Slot), p.tables.exec = Jvm.exec → c.code = cc → meth.sig.returnType = none → (∀ w ∈ ws, w.before ([.ref (aA h 0)] : List Value).toArray s = true) → s.vm.findClass y.cls = some m.cls → meth.locks = false → c.maxLocals = maxL → meth.name = "<init>" → va_K D vwCl (kTy cy) s → aT s → s.heap.size = h + 1 → va_P D vwCl (wL 1 (aA h) (fun _ => .inr (ci, dflt))) s.heap → va_S (aF h) s.heap s.heap [] → lv_has ls maxL (lv_args 0 [.ref (aA h 0)]) →
      W p l e rm s m ([.ref (aA h 0)] : List Value).toArray below meth c s.heap [] 0 0 (MQ below (cQ D h n EC) ([.ref (aA h 0)] : List Value).toArray s mc ms (aF h)) (F0 m 0 ls [])) :
    kC l y ws rm D cy h ci dflt n EC mc ms := by
  refine Met.ofW (cc := cc) (maxL := maxL) (ret := none) hy hw ?_
  intro p e s m args below meth c s₁ B hml hv
  obtain ⟨rfl, hz, hP, hK, hT⟩ := hv
  rw [lg_entry_eq]
  exact body p e s m below meth c _ B.exec B.bytes B.returns (atoms_spec (ws := ws) B.pre) (findClass_of_methodNamed B.named) B.notSynchronized hml ((name_of_methodNamed B.named B.method).1.trans hyi) hK hT hz hP va_S.rf (lv_entry _ hn)
section CR
variable {p : Program} {l : Launch} {e : Env} {R : Room} {s : State} {m : MethodId} {args : Array Value} {below : List Frame} {meth : Method} {c : Code} {H : Heap} {locs : List Loc} {cells slots : Nat} {Q : State → Prop}
variable {cc : ByteArray} {pc : Nat} {ls : Array Slot} {rest : List Value} {D : va_G} {cy : Nat → ClassId} {h n : Nat} {Wd Wd' : Nat → va_E} {H0 : Heap}
theorem c_ret {EC : Nat → va_E} {mc ms : Nat} (hx : p.tables.exec = Jvm.exec) (hb : c.code = cc) (hr : meth.sig.returnType = none) (hlocks : meth.locks = false) (hP : va_P D vwCl (wL n (aA h) EC) H) (hz : H.size = h + n) (hS : va_S (aF h) s.heap H locs) (hc : cells ≤ mc) (hs : slots ≤ ms) (hdg : decode cc pc = .ok (.return_, 1)) :
    W p l e R s m args below meth c H locs cells slots (MQ below (cQ D h n EC) args s mc ms (aF h)) (F0 m pc ls []) := by
  refine W.widen (k := mc) (n := ms) hc hs ?_
  exact W.vret hx hb hr (fun t ht _ => ⟨⟨(), rfl, trivial, by rw [ht]; exact hz, by rw [ht]; exact hP⟩, hS.F ht⟩) hS.2.2 hdg hlocks
theorem c_new (hx : p.tables.exec = Jvm.exec) (hb : c.code = cc) {own C : String} {T : u_T} {Nf ci index : Nat} (hw : ∀ w ∈ u_ws C T Nf, w.before args s = true) (ty : Nat → FieldType) (hty : ∀ k, k < Nf → parseFieldDescriptor (T k).2.2.1 = some (ty k)) (hown : s.vm.findClass own = some m.cls) (hcl : (Cond.classLink own index C).before args s = true) (hinst : (Cond.instantiable C Nf).before args s = true) (hini : (Cond.initialized C).before args s = true)
    (hK : va_K D vwCl (kTy cy) s) (hP : va_P D vwCl (wL n (aA h) Wd) H) (hz : H.size = h + n) (hS : va_S (aF h) H0 H locs) (hc : vwCl[ci]? = some (C, T, Nf)) {fs : List Value} (hfs : ∀ j, j < Nf → defaultValue (ty j) = vp_V fs j) (hcells : cells + 1 ≤ R.cells) (hslots : slots + Nf ≤ R.slots) (hdg : decode cc pc = .ok (.new index, 3))
    (kk : ∀ (H1 : Heap), va_P D vwCl (wL (n + 1) (aA h) (va_up Wd n (.inr (ci, fs)))) H1 → H1.size = h + (n + 1) → va_S (aF h) H0 H1 locs → W p l e R s m args below meth c H1 locs (cells + 1) (slots + Nf) Q (F0 m (pc + 3) ls (.ref (aA h n) :: rest))) : W p l e R s m args below meth c H locs cells slots Q (F0 m pc ls rest) := by
  have hKn := hK.1 ci _ hc
  refine W.newcK hx hb hown hcl hinst hini rfl hdg hcells hslots hKn.2.1 hz fun H1 kC hkC e1 z1 o1 => ?_
  have o2 : ∀ q, q < H.size → H1[q]? = H[q]? := fun q hq => o1 q (by omega)
  refine kk H1 (c_push hP ⟨_, hc, (u_born ty hw (fun _ q => q) hKn hkC e1 hty).to hfs⟩ o2) (by omega) (c_grow hS (by omega) o2)
theorem c_newa (hx : p.tables.exec = Jvm.exec) (hb : c.code = cc) {atype : ArrayType} (harr : (Cond.arrayClass (newarray.typeOf atype)).before args s = true) {cA : ClassId} (hcA : s.vm.findClass ("[" ++ (newarray.typeOf atype).toString) = some cA) (hP : va_P D vwCl (wL n (aA h) Wd) H) (hz : H.size = h + n) (hS : va_S (aF h) H0 H locs)
    {k0 : Nat} {a0 : vp_A} (ha : vp_cell cA a0 = arrV cA k0 (fun _ => defaultValue (newarray.typeOf atype))) (hk0 : k0 < 2 ^ 31) (hbytes : k0 * componentBytes (newarray.typeOf atype) ≤ 536870912) (hcells : cells + 1 ≤ R.cells) (hslots : slots + k0 ≤ R.slots) (hdg : decode cc pc = .ok (.newarray atype, 2))
    (kk : ∀ (H1 : Heap), va_P D vwCl (wL (n + 1) (aA h) (va_up Wd n (.inl (cA, a0)))) H1 → H1.size = h + (n + 1) → va_S (aF h) H0 H1 locs → W p l e R s m args below meth c H1 locs (cells + 1) (slots + k0) Q (F0 m (pc + 2) ls (.ref (aA h n) :: rest))) : W p l e R s m args below meth c H locs cells slots Q (F0 m pc ls (.int (nI k0) :: rest)) := by
  refine va_newaK hx hb harr rfl hdg rfl (nI_pos hk0) (nI_clamp hk0) hbytes hcells hslots hz fun H1 cB e1 z1 o1 hAr hNm => ?_
  have hcc : cB = cA := Option.some.inj (hNm.symm.trans hcA)
  subst hcc
  have o2 : ∀ q, q < H.size → H1[q]? = H[q]? := fun q hq => o1 q (by omega)
  refine kk H1 (c_push hP (show H1[h + n]? = some (vp_cell _ _) by rw [ha]; exact e1) o2) (by omega) (c_grow hS (by omega) o2)
theorem c_newq (hx : p.tables.exec = Jvm.exec) (hb : c.code = cc) {own C : String} {index : Nat} (hown : s.vm.findClass own = some m.cls) (hclink : (Cond.classLink own index C).before args s = true) (hover : va_AO C s) {cA : ClassId} (hcA : s.vm.findClass ("[" ++ (FieldType.object C).toString) = some cA) (hP : va_P D vwCl (wL n (aA h) Wd) H) (hz : H.size = h + n) (hS : va_S (aF h) H0 H locs)
    {k0 : Nat} (hk0 : k0 < 2 ^ 31) (hbytes : k0 * 4 ≤ 536870912) (hcells : cells + 1 ≤ R.cells) (hslots : slots + k0 ≤ R.slots) (hdg : decode cc pc = .ok (.anewarray index, 3))
    (kk : ∀ (H1 : Heap), va_P D vwCl (wL (n + 1) (aA h) (va_up Wd n (.inl (cA, k0, va_q (fun _ => none))))) H1 → H1.size = h + (n + 1) → va_S (aF h) H0 H1 locs → W p l e R s m args below meth c H1 locs (cells + 1) (slots + k0) Q (F0 m (pc + 3) ls (.ref (aA h n) :: rest))) : W p l e R s m args below meth c H locs cells slots Q (F0 m pc ls (.int (nI k0) :: rest)) := by
  have ek : (nI k0).toNatClampNeg = k0 := nI_clamp hk0
  refine W.anew hx hb hown hclink (va_AO.use hover) rfl hdg rfl (nI_pos hk0) (by rw [ek]; exact hbytes) hcells (by rw [ek]; exact hslots) fun cB kB comp f1 f2 f3 f4 => ?_
  have hcc : cB = cA := Option.some.inj (f1.symm.trans hcA)
  subst hcc
  rw [ek, arrV_new]
  have e1 : (H.push (arrV cB k0 (fun _ => .null)))[h + n]? = some (vp_cell cB (k0, va_q (fun _ => none))) := by
    rw [← hz, Array.getElem?_push_size]
    rfl
  have o2 : ∀ q, q < H.size → (H.push (arrV cB k0 (fun _ => .null)))[q]? = H[q]? := fun q hq => by rw [Array.getElem?_push, if_neg (Nat.ne_of_lt hq)]
  have z1 : (H.push (arrV cB k0 (fun _ => .null))).size = H.size + 1 := Array.size_push ..
  have ea : aA h n = H.size := by rw [hz]; rfl
  rw [← ea]
  exact kk _ (c_push hP e1 o2) (by omega) (c_grow hS z1 o2)
/-- a final field, in a making -/
theorem c_putF (hx : p.tables.exec = Jvm.exec) (hb : c.code = cc) {own C : String} {T : u_T} {Nf ci index q0 k : Nat} (hts : ∀ w ∈ u_ws C T Nf, w.before args s = true) (ty0 : Nat → FieldType) (hty : ∀ k, k < Nf → parseFieldDescriptor (T k).2.2.1 = some (ty0 k)) (hnm : ∀ a, a < Nf → ∀ b, b < Nf → a ≠ b → (T a).2.1 ≠ (T b).2.1) (hown : s.vm.findClass own = some m.cls) (hin : meth.name = "<init>") (hK : va_K D vwCl (kTy cy) s) (hP : va_P D vwCl (wL n (aA h) Wd) H) (hS : va_S (aF h) H0 H locs) (hq : q0 < n) {fs : List Value} (he : Wd q0 = .inr (ci, fs)) (hc : vwCl[ci]? = some (C, T, Nf)) (hk : k < Nf) (hlink : (Cond.fieldLink own index (T k).1 (T k).2.1 (T k).2.2.1).before args s = true) (hdecl : (T k).1 = own) (hfin : (T k).2.2.2 = true) {ty : FieldType} {v : Value} (hd : parseFieldDescriptor (T k).2.2.1 = some ty) (hn : narrow ty v = v) (hfit : fits ty v = true) (hl : k < fs.length) (hW : va_up Wd q0 (.inr (ci, fs.set k v)) = Wd') (hdg : decode cc pc = .ok (.putfield index, 3))
    (kk : ∀ (H1 : Heap) (locs1 : List Loc), va_P D vwCl (wL n (aA h) Wd') H1 → H1.size = H.size → va_S (aF h) H0 H1 locs1 → W p l e R s m args below meth c H1 locs1 cells slots Q (F0 m (pc + 3) ls rest)) : W p l e R s m args below meth c H locs cells slots Q (F0 m pc ls (v :: .ref (aA h q0) :: rest)) := by
  obtain ⟨r, h1, cell, q1, q2, q3, q4⟩ := hP q0 _ (wL_get hq he)
  obtain rfl : r = (C, T, Nf) := Option.some.inj (h1.symm.trans hc)
  obtain ⟨hSl, hfc, kC, hkC, hkind⟩ := hK.1 ci _ hc
  obtain ⟨cf, kf, fi, f, hi, hsl⟩ := hSl k hk
  have hlay : (Cond.laysFinal C (T k).1 (T k).2.1 (T k).2.2.1).before args s = true := by
    have z := hts _ (u_in_lay hk)
    unfold u_lay at z
    rw [if_pos hfin] at z
    exact z
  have hcf : m.cls = cf := by
    obtain ⟨_, _, c', _, _, _, -, -, hf', -, -, -, ho2, -⟩ := Cond.laysFinal_spec hlay
    have e1 : c' = cf := by
      have := hi.symm.trans hf'
      simp at this
      exact this.1.symm
    rw [hdecl] at ho2
    rw [← e1]
    exact Option.some.inj (hown.symm.trans ho2)
  subst hW
  refine W.putFinK hx hb hown hlink hi (u_facts hfc hkC (u_lays hts (fun _ q => q) hk) hi).1 hcf hin (by rw [q2]; exact u_fits hfc hkC hkind (Or.inr hlay) hi hd hn hfit) q1 q3 (by rw [hsl]; exact k2_hasslot (q4 k hk)) rfl rfl hdg fun H1 e1 e2 e3 => ?_
  rw [hsl] at e1 ⊢
  refine kk H1 _ ?_ e2 (hS.put e2 e3 (Nat.le_add_right h q0))
  rw [← wL_set]
  exact hP.set aD (wL_get hq he) ⟨_, hc, t_OB.to (V := updV (vp_V fs) k v) ⟨_, e1, q2, q3, t_set q4 (va_apart (own := own) hts (fun _ q => q) ty0 hty hnm hK hc) hk v⟩ (fun j _ => vp_updV_set hl v j)⟩ e3
/-- a field that is not final -/
theorem c_put (hx : p.tables.exec = Jvm.exec) (hb : c.code = cc) {own C : String} {T : u_T} {Nf ci index q0 k : Nat} (hts : ∀ w ∈ u_ws C T Nf, w.before args s = true) (ty0 : Nat → FieldType) (hty : ∀ k, k < Nf → parseFieldDescriptor (T k).2.2.1 = some (ty0 k)) (hnm : ∀ a, a < Nf → ∀ b, b < Nf → a ≠ b → (T a).2.1 ≠ (T b).2.1) (hown : s.vm.findClass own = some m.cls) (hK : va_K D vwCl (kTy cy) s) (hP : va_P D vwCl (wL n (aA h) Wd) H) (hS : va_S (aF h) H0 H locs) (hq : q0 < n) {fs : List Value} (he : Wd q0 = .inr (ci, fs)) (hc : vwCl[ci]? = some (C, T, Nf)) (hk : k < Nf) (hlink : (Cond.fieldLink own index (T k).1 (T k).2.1 (T k).2.2.1).before args s = true) (hfin : (T k).2.2.2 = false) {ty : FieldType} {v : Value} (hd : parseFieldDescriptor (T k).2.2.1 = some ty) (hn : narrow ty v = v) (hfit : fits ty v = true) (hl : k < fs.length) (hW : va_up Wd q0 (.inr (ci, fs.set k v)) = Wd') (hdg : decode cc pc = .ok (.putfield index, 3))
    (kk : ∀ (H1 : Heap) (locs1 : List Loc), va_P D vwCl (wL n (aA h) Wd') H1 → H1.size = H.size → va_S (aF h) H0 H1 locs1 → W p l e R s m args below meth c H1 locs1 cells slots Q (F0 m (pc + 3) ls rest)) : W p l e R s m args below meth c H locs cells slots Q (F0 m pc ls (v :: .ref (aA h q0) :: rest)) := by
  obtain ⟨r, h1, cell, q1, q2, q3, q4⟩ := hP q0 _ (wL_get hq he)
  obtain rfl : r = (C, T, Nf) := Option.some.inj (h1.symm.trans hc)
  obtain ⟨hSl, hfc, kC, hkC, hkind⟩ := hK.1 ci _ hc
  obtain ⟨cf, kf, fi, f, hi, hsl⟩ := hSl k hk
  have hlay : (Cond.lays C (T k).1 (T k).2.1 (T k).2.2.1).before args s = true := by
    have z := hts _ (u_in_lay hk)
    unfold u_lay at z
    rw [if_neg (by rw [hfin]; decide)] at z
    exact z
  subst hW
  refine W.putK hx hb (f := f) ⟨hown, hlink, ⟨_, _, _, hi⟩, (u_facts hfc hkC (u_lays hts (fun _ q => q) hk) hi).1⟩ (by rw [q2]; exact u_store hfc hkC hkind hlay hi hd hn hfit) q1 q3 (by rw [hsl]; exact k2_hasslot (q4 k hk)) rfl rfl hdg fun H1 e1 e2 e3 => ?_
  rw [hsl] at e1 ⊢
  refine kk H1 _ ?_ e2 (hS.put e2 e3 (Nat.le_add_right h q0))
  rw [← wL_set]
  exact hP.set aD (wL_get hq he) ⟨_, hc, t_OB.to (V := updV (vp_V fs) k v) ⟨_, e1, q2, q3, t_set q4 (va_apart (own := own) hts (fun _ q => q) ty0 hty hnm hK hc) hk v⟩ (fun j _ => vp_updV_set hl v j)⟩ e3
/-- a number of an array of ints -/
theorem c_iast (hx : p.tables.exec = Jvm.exec) (hb : c.code = cc) (hK : va_K D vwCl (kTy cy) s) (hP : va_P D vwCl (wL n (aA h) Wd) H) (hS : va_S (aF h) H0 H locs) {q0 N j : Nat} {f : Nat → Int32} {v : Int32} (hq : q0 < n) (he : Wd q0 = .inl (cy 0, N, .inl f)) (hN : N < 2 ^ 31) (hj : j < N) (hW : va_up Wd q0 (.inl (cy 0, N, .inl (va_up f j v))) = Wd') (hdg : decode cc pc = .ok (.iastore, 1))
    (kk : ∀ (H1 : Heap) (locs1 : List Loc), va_P D vwCl (wL n (aA h) Wd') H1 → H1.size = H.size → va_S (aF h) H0 H1 locs1 → W p l e R s m args below meth c H1 locs1 cells slots Q (F0 m (pc + 1) ls rest)) : W p l e R s m args below meth c H locs cells slots Q (F0 m pc ls (.int v :: .int (nI j) :: .ref (aA h q0) :: rest)) := by
  subst hW
  have ej : (nI j).toNatClampNeg = j := nI_clamp (by omega)
  refine W.iast hx hb (hP q0 _ (wL_get hq he)) ((hK.2 0 _ rfl).1 N (fun j => .int (f j))) (fun q => by cases q) (by show ¬ (_ ∨ (arrV _ _ _).slots.size ≤ _); rw [arrV_size]; exact vp_in_nI hj hN) rfl rfl hdg fun H1 e1 z1 oq => ?_
  refine kk H1 _ ?_ z1 (hS.put z1 oq (Nat.le_add_right h q0))
  rw [← wL_set]
  refine hP.set aD (wL_get hq he) ?_ oq
  show H1[aA h q0]? = some (vp_cell _ _)
  rw [e1, ej]
  show some ((arrV _ _ _).setSlot _ _) = _
  rw [arrV_store, vp_cell_i]
  congr 2
  funext q
  unfold updV va_up
  by_cases z : q = j
  · rw [if_pos z, if_pos z]
  · rw [if_neg z, if_neg z]
/-- an object into an array of objects -/
theorem c_aast (hx : p.tables.exec = Jvm.exec) (hb : c.code = cc) (hK : va_K D vwCl (kTy cy) s) (hP : va_P D vwCl (wL n (aA h) Wd) H) (hS : va_S (aF h) H0 H locs) {q0 qk N j t0 ci : Nat} {r : vw_C} {vs : List Value} {f : Nat → Option Nat} (hq : q0 < n) (he : Wd q0 = .inl (cy t0, N, va_q f)) (ht : (kTy cy)[t0]? = some (cy t0, .object r.1)) (hqk : qk < n) (hk : Wd qk = .inr (ci, vs)) (hc : vwCl[ci]? = some r) (hN : N < 2 ^ 31) (hj : j < N) (hW : va_up Wd q0 (.inl (cy t0, N, va_q (va_up f j (some (aA h qk))))) = Wd') (hdg : decode cc pc = .ok (.aastore, 1))
    (kk : ∀ (H1 : Heap) (locs1 : List Loc), va_P D vwCl (wL n (aA h) Wd') H1 → H1.size = H.size → va_S (aF h) H0 H1 locs1 → W p l e R s m args below meth c H1 locs1 cells slots Q (F0 m (pc + 1) ls rest)) : W p l e R s m args below meth c H locs cells slots Q (F0 m pc ls (.ref (aA h qk) :: .int (nI j) :: .ref (aA h q0) :: rest)) := by
  subst hW
  have ej : (nI j).toNatClampNeg = j := nI_clamp (by omega)
  obtain ⟨r', hr', cellV, g1, g2, g3, -⟩ := hP qk _ (wL_get hqk hk)
  have hcls := (hK.1 ci r hc).2
  obtain ⟨kA, comp, k1, k2, k3, -⟩ := (hK.2 t0 _ ht).2
  obtain rfl : comp = D.1 ci := Option.some.inj (k3.symm.trans hcls.1)
  obtain ⟨kC, hkC, -⟩ := hcls.2
  refine W.aast hx hb (hP q0 _ (wL_get hq he)) (fun q h => by cases h) (fun h => by cases h) k1 k2 rfl hkC ⟨nI_pos (by omega), by show _ < (arrV _ _ _).slots.size; rw [arrV_size, ej]; exact hj⟩ g1 (fun q h => by rw [g3] at h; cases h) (by rw [g2]; exact hkC) (by rw [g2]; exact va_assign hcls) rfl rfl hdg fun H1 e1 z1 oq => ?_
  refine kk H1 _ ?_ z1 (hS.put z1 oq (Nat.le_add_right h q0))
  rw [← wL_set]
  refine hP.set aD (wL_get hq he) ?_ oq
  show H1[aA h q0]? = some (vp_cell _ _)
  rw [e1, ej]
  show some ((arrV _ _ _).setSlot _ _) = _
  rw [arrV_store, vp_cell_q]
  congr 2
  funext q
  unfold updV va_up
  by_cases z : q = j
  · rw [if_pos z, if_pos z]; rfl
  · rw [if_neg z, if_neg z]
/-- behind a making that was called -/
theorem c_made {i nC mc ms : Nat} {EC : Nat → va_E} {st0 : List Value} {a : Array Value} (hr : va_Run p l e R s m args below meth c H locs cells slots mc ms (F0 m pc ls st0) rest (cQ D (h + i) nC EC a) (aF (h + i))) (hP : va_P D vwCl (wL (i + 1) (aA h) Wd) H) (hS : va_S (aF h) H0 H locs)
    (kk : ∀ (H1 : Heap) (locs1 : List Loc), va_P D vwCl (wL (i + nC) (aA h) (apW Wd i EC)) H1 → H1.size = h + (i + nC) → va_S (aF h) H0 H1 locs1 → W p l e R s m args below meth c H1 locs1 (cells + mc) (slots + ms) Q (F0 m (pc + 3) ls rest)) : W p l e R s m args below meth c H locs cells slots Q (F0 m pc ls st0) := by
  have hle : ∀ q, aF (h + i) q → aF h q := fun q z => Nat.le_trans (Nat.le_add_right h i) z
  refine va_callv hr hS (fun q _ z => hle q z) hle (fun u t H1 locs1 ht _ _ hB _ hk1 hS1 => ?_)
  obtain ⟨hz1, hP1⟩ := hB
  rw [ht] at hz1 hP1
  exact kk H1 locs1 (wL_join hP hk1 hP1) (by omega) hS1
theorem c_start {i ci : Nat} {dflt : List Value} {U : State} (hP : va_P D vwCl (wL (i + 1) (aA h) Wd) H) (he : Wd i = .inr (ci, dflt)) (hz : H.size = h + (i + 1)) (hK : va_K D vwCl (kTy cy) s) (hT : aT s) (hU : U.heap = H) (hW : s.WarmedH U.vm) : cB D cy (h + i) ci dflt U := by
  refine ⟨by rw [hU]; omega, ?_, va_K.moved hW.alike hK, hT.warm hW⟩
  rw [hU]
  intro k q hk
  obtain ⟨hl, rfl⟩ := wL_some hk
  obtain rfl : k = 0 := by omega
  have h1 := hP i _ (wL_get (Nat.lt_succ_self i) he)
  exact h1
/-- a making, called by invokespecial -/
theorem c_callI {y : MethodName} {bytes : ByteArray} {maxL nL index mc ms i ci nC : Nat} {ws Ts : List Cond} {rm : Room} {own : String} {dflt : List Value} {EC : Nat → va_E} (F : CallFix p m c cc nL s args Ts own) (hM : kC l y ws rm D cy (h + i) ci dflt nC EC mc ms) (cw : CallB R s args own index y bytes maxL none ws rm mc ms 0 ∧ y.name = "<init>" ∧ (Cond.instanceMethod y).before args s = true)
    (hK : va_K D vwCl (kTy cy) s) (hT : aT s) (hP : va_P D vwCl (wL (i + 1) (aA h) Wd) H) (he : Wd i = .inr (ci, dflt)) (hz : H.size = h + (i + 1)) (hS : va_S (aF h) H0 H locs) (hsize : ls.size = nL) (hW : (rest.map fun v => v.category).sum ≤ 8) (hdg : decode cc pc = .ok (.invokespecial index, 3)) (hcell : cells + mc ≤ R.cells ∧ slots + ms ≤ R.slots)
    (kk : ∀ (H1 : Heap) (locs1 : List Loc), va_P D vwCl (wL (i + nC) (aA h) (apW Wd i EC)) H1 → H1.size = h + (i + nC) → va_S (aF h) H0 H1 locs1 → W p l e R s m args below meth c H1 locs1 (cells + mc) (slots + ms) Q (F0 m (pc + 3) ls rest)) : W p l e R s m args below meth c H locs cells slots Q (F0 m pc ls (.ref (aA h i) :: rest)) :=
  c_made (va_runI (As := []) (rest := rest) (b := aA h i) (g := F0 m pc ls (.ref (aA h i) :: rest)) F hM cw ⟨cB_blind D cy (h + i) ci dflt, fun _ hU hW => ⟨rfl, c_start hP he hz hK hT hU hW⟩⟩ rfl rfl hsize rfl (lv_room hW) hdg hcell) hP hS kk
theorem c_callN {y : MethodName} {bytes : ByteArray} {maxL nL index mc ms i ci nC : Nat} {ws Ts : List Cond} {rm : Room} {own host : String} {dflt : List Value} {EC : Nat → va_E} (F : CallFix p m c cc nL s args Ts own) (hM : kC l y ws rm D cy (h + i) ci dflt nC EC mc ms) (cw : va_CN R s args own index y host bytes maxL none ws rm mc ms 0 ∧ y.name = "<init>" ∧ (Cond.instanceMethod y).before args s = true)
    (hK : va_K D vwCl (kTy cy) s) (hT : aT s) (hP : va_P D vwCl (wL (i + 1) (aA h) Wd) H) (he : Wd i = .inr (ci, dflt)) (hz : H.size = h + (i + 1)) (hS : va_S (aF h) H0 H locs) (hsize : ls.size = nL) (hW : (rest.map fun v => v.category).sum ≤ 8) (hdg : decode cc pc = .ok (.invokespecial index, 3)) (hcell : cells + mc ≤ R.cells ∧ slots + ms ≤ R.slots)
    (kk : ∀ (H1 : Heap) (locs1 : List Loc), va_P D vwCl (wL (i + nC) (aA h) (apW Wd i EC)) H1 → H1.size = h + (i + nC) → va_S (aF h) H0 H1 locs1 → W p l e R s m args below meth c H1 locs1 (cells + mc) (slots + ms) Q (F0 m (pc + 3) ls rest)) : W p l e R s m args below meth c H locs cells slots Q (F0 m pc ls (.ref (aA h i) :: rest)) :=
  c_made (va_runIN (As := []) (rest := rest) (b := aA h i) (g := F0 m pc ls (.ref (aA h i) :: rest)) F hM cw ⟨cB_blind D cy (h + i) ci dflt, fun _ hU hW => ⟨rfl, c_start hP he hz hK hT hU hW⟩⟩ rfl rfl hsize rfl (lv_room hW) hdg hcell) hP hS kk
end CR
