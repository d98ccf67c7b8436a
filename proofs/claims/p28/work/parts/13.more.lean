theorem bm {z : Int} (h1 : -2147483648 ≤ z) (h2 : z < 2147483648) : z.bmod (2 ^ 32) = z := by
  have e : ((2 ^ 32 : Nat) : Int) = 4294967296 := rfl
  rw [Int.bmod_def, e]
  split <;> omega
/-- what a number becomes modulo 257 -/
def kmod (z : Int) : Nat := (z % 257).toNat
theorem kmod_lt (z : Int) : kmod z < 257 := by unfold kmod; omega
theorem kmod_nI {n : Nat} (h : n < 2 ^ 31) : kmod (nI n).toInt = n % 257 := by
  rw [nI_toInt h]
  unfold kmod
  omega
theorem i_xor257 (x : Int32) : 0 ≤ (x ^^^ 257) ↔ 0 ≤ x := by
  have key : ∀ y : Int32, 0 ≤ y ↔ y.toBitVec.msb = false := by
    intro y
    rw [Int32.le_iff_toInt_le, BitVec.msb_eq_toInt]
    show (0 : Int) ≤ y.toInt ↔ decide (y.toBitVec.toInt < 0) = false
    rw [decide_eq_false_iff_not]
    show (0 : Int) ≤ y.toInt ↔ ¬ y.toInt < 0
    omega
  rw [key, key]
  show (x.toBitVec ^^^ (257 : Int32).toBitVec).msb = false ↔ _
  rw [BitVec.msb_xor]
  have h : (257 : Int32).toBitVec.msb = false := by decide
  rw [h, Bool.xor_false]
theorem i_rem257 (x : Int32) : (x - x / 257 * 257).toInt = x.toInt.tmod 257 := by
  have h1 := x.toInt_lt
  have h2 := x.le_toInt
  have e := Int.mul_tdiv_add_tmod x.toInt 257
  have hd : (x / 257).toInt = x.toInt.tdiv 257 := Int32.toInt_div_of_ne_right x 257 (by decide)
  have hb : -257 < x.toInt.tmod 257 ∧ x.toInt.tmod 257 < 257 := by
    constructor
    · have := Int.lt_tmod_of_pos x.toInt (show (0 : Int) < 257 by decide); omega
    · exact Int.tmod_lt_of_pos x.toInt (by decide)
  have hs : (0 ≤ x.toInt → 0 ≤ x.toInt.tmod 257) ∧ (x.toInt ≤ 0 → x.toInt.tmod 257 ≤ 0) := ⟨fun h => Int.tmod_nonneg 257 h, fun h => by
    have := Int.tmod_nonneg 257 (show (0 : Int) ≤ -x.toInt by omega)
    rw [Int.neg_tmod] at this
    omega⟩
  have e257 : (257 : Int32).toInt = 257 := by decide
  rw [Int32.toInt_sub, Int32.toInt_mul, hd, e257, bm (z := x.toInt.tdiv 257 * 257) (by omega) (by omega), bm (by omega) (by omega)]
  omega
theorem fm_a {x : Int32} (h : 0 ≤ x) : x - x / 257 * 257 = nI (kmod x.toInt) := by
  apply Int32.toInt_inj.mp
  have h0 : 0 ≤ x.toInt := Int32.le_iff_toInt_le.mp h
  rw [i_rem257, nI_toInt (by have := kmod_lt x.toInt; omega), Int.tmod_eq_emod_of_nonneg h0]
  unfold kmod
  omega
theorem fm_b {x : Int32} (h : ¬ 0 ≤ x) (h0 : x - x / 257 * 257 = 0) : x - x / 257 * 257 = nI (kmod x.toInt) := by
  have h1 : x.toInt < 0 := by
    have : ¬ (0 : Int32).toInt ≤ x.toInt := fun q => h (Int32.le_iff_toInt_le.mpr q)
    have e0 : (0 : Int32).toInt = 0 := by decide
    omega
  have h2 := i_rem257 x
  rw [h0] at h2
  have e0 : (0 : Int32).toInt = 0 := by decide
  rw [e0] at h2
  have e := Int.mul_tdiv_add_tmod x.toInt 257
  rw [h0]
  have : kmod x.toInt = 0 := by unfold kmod; omega
  rw [this]; rfl
theorem fm_c {x : Int32} (h : ¬ 0 ≤ x) (h0 : ¬ x - x / 257 * 257 = 0) : x - x / 257 * 257 + 257 = nI (kmod x.toInt) := by
  have e0 : (0 : Int32).toInt = 0 := by decide
  have h1 : x.toInt < 0 := by
    have : ¬ (0 : Int32).toInt ≤ x.toInt := fun q => h (Int32.le_iff_toInt_le.mpr q)
    omega
  have h2 := i_rem257 x
  have e := Int.mul_tdiv_add_tmod x.toInt 257
  have h3 : x.toInt.tmod 257 ≠ 0 := fun q => h0 (Int32.toInt_inj.mp (by rw [h2, q, e0]))
  have hb : -257 < x.toInt.tmod 257 := by
    have := Int.lt_tmod_of_pos x.toInt (show (0 : Int) < 257 by decide); omega
  have hs : x.toInt.tmod 257 ≤ 0 := by
    have := Int.tmod_nonneg 257 (show (0 : Int) ≤ -x.toInt by omega)
    rw [Int.neg_tmod] at this
    omega
  apply Int32.toInt_inj.mp
  have e257 : (257 : Int32).toInt = 257 := by decide
  rw [Int32.toInt_add, h2, e257, bm (by omega) (by omega), nI_toInt (by have := kmod_lt x.toInt; omega)]
  unfold kmod
  omega
section KR4
variable {p : Program} {l : Launch} {e : Env} {R : Room} {s : State} {m : MethodId} {args : Array Value} {below : List Frame} {meth : Method} {c : Code} {H : Heap} {locs : List Loc} {cells slots : Nat} {Q : State → Prop}
variable {cc : ByteArray} {pc : Nat} {ls : Array Slot} {rest st0 : List Value} {D : va_G} {cy : Nat → ClassId} {N : Nat} {ad : Nat → Nat} {Wd Wd' : Nat → va_E} {A0 : Nat → Prop} {H0 : Heap}
theorem n_same {v : Int32} {a : Nat} (h : v = nI a) (kk : W p l e R s m args below meth c H locs cells slots Q (F0 m pc ls (.int (nI a) :: rest))) : W p l e R s m args below meth c H locs cells slots Q (F0 m pc ls (.int v :: rest)) := by
  rw [h]; exact kk
theorem i_push {v b : Int32} (h : v = b) (kk : W p l e R s m args below meth c H locs cells slots Q (F0 m pc ls (.int b :: rest))) : W p l e R s m args below meth c H locs cells slots Q (F0 m pc ls (.int v :: rest)) := by
  rw [h]; exact kk
theorem l_push {v b : Int64} (h : v = b) (kk : W p l e R s m args below meth c H locs cells slots Q (F0 m pc ls (.long b :: rest))) : W p l e R s m args below meth c H locs cells slots Q (F0 m pc ls (.long v :: rest)) := by
  rw [h]; exact kk
theorem n_idiv (hx : p.tables.exec = Jvm.exec) (hb : c.code = cc) {a b : Nat} (ha : a < 2 ^ 31) (h0 : 0 < b) (hd : b < 2 ^ 31) (hdg : decode cc pc = .ok (.idiv, 1)) (kk : W p l e R s m args below meth c H locs cells slots Q (F0 m (pc + 1) ls (.int (nI (a / b)) :: rest))) : W p l e R s m args below meth c H locs cells slots Q (F0 m pc ls (.int (nI b) :: .int (nI a) :: rest)) :=
  lv_idiv hx hb hdg (nI_ne0 h0 hd) (by rw [pk_div ha h0 hd]; exact kk)
theorem n_max {a b : Nat} (hx : p.tables.exec = Jvm.exec) (hb : c.code = cc) (hml : c.maxLocals = ls.size) {own : String} {index : Nat} (hown : s.vm.findClass own = some m.cls) (hlink : (Cond.methodLink own index Lib.Math.max.name).before args s = true) (hstat : (Cond.static Lib.Math.max.name).before args s = true) (hini : (Cond.initialized "java/lang/Math").before args s = true) (hcode : (Cond.code Lib.Math.max.name Lib.Math.max.code 2 (some .int)).before args s = true)
    (hframes : 1 ≤ R.frames) (hlocals : (rest.map fun v => v.category).sum + 13 ≤ R.locals) (hc : cells ≤ R.cells) (hs : slots ≤ R.slots) (ha : a < 2 ^ 31) (hd : b < 2 ^ 31) (hdg : decode cc pc = .ok (.invokestatic index, 3))
    (kk : W p l e R s m args below meth c H locs cells slots Q (F0 m (pc + 3) ls (.int (nI (max a b)) :: rest))) : W p l e R s m args below meth c H locs cells slots Q (F0 m pc ls (.int (nI b) :: .int (nI a) :: rest)) := by
  refine va_mmax hx hb hml hown hlink hstat hini hcode hframes hlocals hc hs hdg ?_
  have h : (if nI a < nI b then nI b else nI a) = nI (max a b) := by
    by_cases q : a < b
    · rw [if_pos ((nI_ltI ha hd).mpr q), Nat.max_eq_right (by omega)]
    · rw [if_neg (fun z => q ((nI_ltI ha hd).mp z)), Nat.max_eq_left (by omega)]
  rw [h]
  exact kk
theorem k_aret {S : Type} {Wf : S → Nat → va_E} {post : Option Value → S → Prop} {C : String} (hx : p.tables.exec = Jvm.exec) (hb : c.code = cc) (hr : meth.sig.returnType = some (.object C)) (hlocks : meth.locks = false) {o : Option Nat} (u : S) (hP : va_P D vwCl (wL N ad (Wf u)) H) (hS : va_S (wA N ad) s.heap H locs) (hdg : decode cc pc = .ok (.areturn, 1)) (hpost : post (some (va_rf o)) u) :
    W p l e R s m args below meth c H locs 0 0 (MQ below (kQ D N ad Wf post) args s 0 0 (wA N ad)) (F0 m pc ls [va_rf o]) :=
  W.aret (v := va_rf o) hx hb hr (Or.inl ⟨_, rfl⟩) (by cases o; exact Or.inl rfl; exact Or.inr ⟨_, rfl⟩) (fun t ht _ => ⟨⟨_, u, rfl, hpost, by rw [ht]; exact hP⟩, hS.F ht⟩) hS.2.2 hdg hlocks
theorem lv_aload_nV (hx : p.tables.exec = Jvm.exec) (hb : c.code = cc) {k : Fin 4} {i : Nat} {o : Option Nat} (hdg : decode cc pc = .ok (.aload_n k, 1)) (hi : (k : Nat) = i) (hl : ls[i]? = some (.val (va_rf o))) (kk : W p l e R s m args below meth c H locs cells slots Q (F0 m (pc + 1) ls (va_rf o :: rest))) : W p l e R s m args below meth c H locs cells slots Q (F0 m pc ls rest) := by
  cases o with
  | none => exact lv_aload_nN hx hb hdg hi hl kk
  | some a => exact lv_aload_n hx hb hdg hi hl kk
theorem lv_aloadV (hx : p.tables.exec = Jvm.exec) (hb : c.code = cc) {i : Nat} {o : Option Nat} (hdg : decode cc pc = .ok (.aload i, 2)) (hl : ls[i]? = some (.val (va_rf o))) (kk : W p l e R s m args below meth c H locs cells slots Q (F0 m (pc + 2) ls (va_rf o :: rest))) : W p l e R s m args below meth c H locs cells slots Q (F0 m pc ls rest) := by
  cases o with
  | none => exact lv_aloadN hx hb hdg hl kk
  | some a => exact lv_aload hx hb hdg hl kk
theorem lv_astore_nV (hx : p.tables.exec = Jvm.exec) (hb : c.code = cc) {k : Fin 4} {i nL : Nat} {o : Option Nat} {lv lv' : List (Nat × Value)} (hdg : decode cc pc = .ok (.astore_n k, 1)) (hi : (k : Nat) = i) (h : lv_has ls nL lv) (hn : i < nL) (hl : (i, va_rf o) :: lv.filter (fun q => !(q.1 == i) && !(q.1 + 1 == i && q.2.category == 2)) = lv') (kk : ∀ ls' : Array Slot, lv_has ls' nL lv' → W p l e R s m args below meth c H locs cells slots Q (F0 m (pc + 1) ls' rest)) : W p l e R s m args below meth c H locs cells slots Q (F0 m pc ls (va_rf o :: rest)) := by
  cases o with
  | none => exact lv_astore_nN hx hb hdg hi h hn hl kk
  | some a => exact lv_astore_n hx hb hdg hi h hn hl kk
theorem lv_astoreV (hx : p.tables.exec = Jvm.exec) (hb : c.code = cc) {i nL : Nat} {o : Option Nat} {lv lv' : List (Nat × Value)} (hdg : decode cc pc = .ok (.astore i, 2)) (h : lv_has ls nL lv) (hn : i < nL) (hl : (i, va_rf o) :: lv.filter (fun q => !(q.1 == i) && !(q.1 + 1 == i && q.2.category == 2)) = lv') (kk : ∀ ls' : Array Slot, lv_has ls' nL lv' → W p l e R s m args below meth c H locs cells slots Q (F0 m (pc + 2) ls' rest)) : W p l e R s m args below meth c H locs cells slots Q (F0 m pc ls (va_rf o :: rest)) := by
  cases o with
  | none => exact lv_astoreN hx hb hdg h hn hl kk
  | some a => exact lv_astore hx hb hdg h hn hl kk
end KR4
/-- the row of a register, or none -/
def rOf (ad : Nat → Nat) (r : Int32) : Option Nat := if 0 ≤ r ∧ r < 6 then some (ad (2 * r.toNatClampNeg)) else none
theorem kin_cases (r : Int32) (n : Nat) (hn : n < 2 ^ 31) : (¬ (0 ≤ r ∧ r < nI n)) ∨ ∃ j : Nat, j < n ∧ r = nI j := by
  by_cases h : 0 ≤ r ∧ r < nI n
  · refine Or.inr ?_
    have h0 : ¬ r < 0 := Int32.not_lt.mpr h.1
    obtain ⟨j, hj, rfl⟩ := nI_of h0
    exact ⟨j, (nI_ltI hj hn).mp h.2, rfl⟩
  · exact Or.inl h
theorem kreg_cases (r : Int32) : (¬ (0 ≤ r ∧ r < 6)) ∨ ∃ j : Nat, j < 6 ∧ r = nI j := kin_cases r 6 (by decide)
theorem kreg_bad {ad : Nat → Nat} {r : Int32} (h : ¬ (0 ≤ r ∧ r < 6)) : va_rf (rOf ad r) = .null := by
  unfold rOf
  rw [if_neg h]; rfl
theorem kin_nI {j n : Nat} (h : j < n) (hn : n < 2 ^ 31) : 0 ≤ nI j ∧ nI j < nI n := ⟨nI_pos' (by omega), nI_lt h hn⟩
theorem kreg_ok {ad : Nat → Nat} {r : Int32} {j : Nat} (h : j < 6) (e : r = nI j) : va_rf (rOf ad r) = .ref (ad (2 * j)) := by
  subst e
  unfold rOf
  have q : 0 ≤ nI j ∧ nI j < 6 := kin_nI h (by decide)
  rw [if_pos q, nI_clamp (by omega)]; rfl
theorem ksw_cases (r : Int32) (n : Nat) (hn : n < 2 ^ 31) : (¬ (0 ≤ r ∧ r < nI n)) ∨ ∃ j : Nat, j < n ∧ r = nI j := kin_cases r n hn
theorem ksw_out {r : Int32} {n : Nat} {hi : Int} (h : ¬ (0 ≤ r ∧ r < nI n)) (hn : n < 2 ^ 31) (e : hi = (n : Int) - 1) : r.toInt < 0 ∨ hi < r.toInt := by
  have e0 : (0 : Int32).toInt = 0 := by decide
  rw [Int32.le_iff_toInt_le, Int32.lt_iff_toInt_lt, nI_toInt hn, e0] at h
  omega
theorem rN {a b : Nat} (h : a = b) : some (Value.int (nI a)) = some (Value.int (nI b)) := by rw [h]
theorem cW_ext {D : va_G} {ad : Nat → Nat} {cy : Nat → ClassId} {ρ ρ' : Nat → kR} {x : kX} {H : Heap} (h : ∀ i, i < 59 → (ρ i).1 = (ρ' i).1 ∧ ∀ k, k < 64 → (ρ i).2 k = (ρ' i).2 k) (hP : va_P D vwCl (wL 143 ad (cW ad cy ρ x)) H) : va_P D vwCl (wL 143 ad (cW ad cy ρ' x)) H := by
  intro k q hk
  obtain ⟨hl, rfl⟩ := wL_some hk
  have h1 := hP k _ (wL_get hl rfl)
  by_cases hk1 : k < 118
  · have hi : k / 2 < 59 := by omega
    by_cases hk2 : k % 2 = 0
    · have e : k = 2 * (k / 2) := by omega
      rw [e] at h1 ⊢
      rw [cW_row hi] at h1 ⊢
      rw [← (h _ hi).1]
      exact h1
    · have e : k = 2 * (k / 2) + 1 := by omega
      rw [e] at h1 ⊢
      rw [cW_num hi] at h1 ⊢
      have e2 : ∀ cA : ClassId, vp_cell cA (64, .inl (fun j => nI ((ρ' (k / 2)).2 j))) = vp_cell cA (64, .inl (fun j => nI ((ρ (k / 2)).2 j))) := by
        intro cA
        rw [vp_cell_i, vp_cell_i]
        unfold arrV
        congr 2
        funext j
        show Value.int (nI ((ρ' (k / 2)).2 j.val)) = Value.int (nI ((ρ (k / 2)).2 j.val))
        rw [(h _ hi).2 j.val j.isLt]
      show H[_]? = some (vp_cell _ _)
      rw [e2]
      exact h1
  · have e : cW ad cy ρ' x k = cW ad cy ρ x k := by
      unfold cW
      rw [if_neg hk1, if_neg hk1]
    rw [e]
    exact h1
theorem cW_up_cpy {ad : Nat → Nat} {cy : Nat → ClassId} {ρ : Nat → kR} {x : kX} {i j : Nat} (hi : i < 59) : va_up (cW ad cy ρ x) (2 * i + 1) (.inl (cy 0, 64, .inl (fun k => if k < 64 then nI ((ρ j).2 k) else nI ((ρ i).2 k)))) = cW ad cy (va_up ρ i ((ρ i).1, fun k => if k < 64 then (ρ j).2 k else (ρ i).2 k)) x := by
  rw [← cW_up_num hi]
  have e : (fun k => if k < 64 then nI ((ρ j).2 k) else nI ((ρ i).2 k)) = fun k => nI (if k < 64 then (ρ j).2 k else (ρ i).2 k) := by
    funext k
    by_cases h : k < 64
    · rw [if_pos h, if_pos h]
    · rw [if_neg h, if_neg h]
  rw [e]
/-- as k_met, for a class some of whose methods the machine runs by entries of its own, but not this one -/
theorem k_metF {S : Type} {l : Launch} {y : MethodName} {ws ws' : List Cond} {rm : Room} {D : va_G} {cy : Nat → ClassId} {N : Nat} {ad : Nat → Nat} {Wf : S → Nat → va_E} {Wd : Nat → va_E} {av : List Value} {post : Option Value → S → Prop} (cc : ByteArray) (maxL : Nat) (ret : Option FieldType)
    (hy : plainFor y = true) (hw : ws = Cond.code y cc maxL ret :: ws') (hn : (lg_sl av).length ≤ maxL)
    (body : ∀ (p : Program) (e : Env) (s : State) (m : MethodId) (below : List Frame) (meth : Method) (c : Code) (ls : Array Slot), p.tables.exec = Jvm.exec → c.code = cc → meth.sig.returnType = ret → (∀ w ∈ ws, w.before av.toArray s = true) → s.vm.findClass y.cls = some m.cls → meth.locks = false → c.maxLocals = maxL → va_K D vwCl (kTy cy) s → va_P D vwCl (wL N ad Wd) s.heap → va_S (wA N ad) s.heap s.heap [] → lv_has ls maxL (lv_args 0 av) →
      W p l e rm s m av.toArray below meth c s.heap [] 0 0 (MQ below (kQ D N ad Wf post) av.toArray s 0 0 (wA N ad)) (F0 m 0 ls [])) :
    kM l y ws rm D cy N ad Wf Wd av post := by
  refine MetFree.of_bodySF (code := cc) (maxLocals := maxL) (ret := ret) hy ?_ ?_
  · intro args s m h hn
    obtain ⟨meth, c, h1, h2, h3, h4, h5, h6, -, -⟩ := Cond.code_spec hn (atoms_spec (ws := ws) h _ (by rw [hw]; exact List.mem_cons_self))
    exact ⟨meth, c, h1, h2, h3, h4, h5, h6⟩
  · intro p e s m args below meth c s₁ B hml hv _
    have hh0 : s₁.heap = s.heap := by rw [B.state]; rfl
    obtain ⟨rfl, hP, hK⟩ := hv
    rw [lg_entry_eq]
    obtain ⟨t, a1, o, b1, b2, b3⟩ := body p e s m below meth c _ B.exec B.bytes B.returns (atoms_spec (ws := ws) B.pre) (findClass_of_methodNamed B.named) B.notSynchronized hml hK hP va_S.rf (lv_entry av hn) s₁ hh0 (Stand.of_body B)
    exact ⟨t, o, a1, b1, b2, ⟨b3.1, b3.2⟩⟩
