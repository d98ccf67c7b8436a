section KR3
variable {p : Program} {l : Launch} {e : Env} {R : Room} {s : State} {m : MethodId} {args : Array Value} {below : List Frame} {meth : Method} {c : Code} {H : Heap} {locs : List Loc} {cells slots : Nat} {Q : State → Prop}
variable {cc : ByteArray} {pc : Nat} {ls : Array Slot} {rest st0 : List Value} {D : va_G} {cy : Nat → ClassId} {N : Nat} {ad : Nat → Nat} {Wd Wd' : Nat → va_E} {A0 : Nat → Prop} {H0 : Heap}
theorem k_aald (hx : p.tables.exec = Jvm.exec) (hb : c.code = cc) (hK : va_K D vwCl (kTy cy) s) (hP : va_P D vwCl (wL N ad Wd) H) {q0 n j t0 : Nat} {C : String} {f : Nat → Option Nat} (hq : q0 < N) (he : Wd q0 = .inl (cy t0, n, .inr (.inr (.inr (.inr f))))) (ht : (kTy cy)[t0]? = some (cy t0, .object C)) (hn : n < 2 ^ 31) (hj : j < n) (hdg : decode cc pc = .ok (.aaload, 1))
    (kk : W p l e R s m args below meth c H locs cells slots Q (F0 m (pc + 1) ls (va_rf (f j) :: rest))) : W p l e R s m args below meth c H locs cells slots Q (F0 m pc ls (.int (nI j) :: .ref (ad q0) :: rest)) :=
  va_aldq hx hb hK hP q0 t0 (wL_get hq he) ht (vp_in_nI hj hn) hdg (by rw [nI_clamp (by omega)]; exact kk)
theorem k_aast (hx : p.tables.exec = Jvm.exec) (hb : c.code = cc) (hK : va_K D vwCl (kTy cy) s) (hI : wI N ad) (hP : va_P D vwCl (wL N ad Wd) H) (hS : va_S (wA N ad) H0 H locs) {q0 qk n j t0 ci : Nat} {r : vw_C} {vs : List Value} {f : Nat → Option Nat} (hq : q0 < N) (he : Wd q0 = .inl (cy t0, n, .inr (.inr (.inr (.inr f))))) (ht : (kTy cy)[t0]? = some (cy t0, .object r.1)) (hqk : qk < N) (hk : Wd qk = .inr (ci, vs)) (hc : vwCl[ci]? = some r) (hn : n < 2 ^ 31) (hj : j < n) (hW : va_up Wd q0 (.inl (cy t0, n, .inr (.inr (.inr (.inr (va_up f j (some (ad qk)))))))) = Wd') (hdg : decode cc pc = .ok (.aastore, 1))
    (kk : ∀ (H1 : Heap) (locs1 : List Loc), va_P D vwCl (wL N ad Wd') H1 → va_S (wA N ad) H0 H1 locs1 → W p l e R s m args below meth c H1 locs1 cells slots Q (F0 m (pc + 1) ls rest)) : W p l e R s m args below meth c H locs cells slots Q (F0 m pc ls (.ref (ad qk) :: .int (nI j) :: .ref (ad q0) :: rest)) := by
  subst hW
  exact va_astq hx hb hK hP (wD hI) hS q0 t0 qk ci (wL_get hq he) ht (wL_get hqk hk) hc (vp_in_nI hj hn) hdg (fun H1 locs1 hP1 _ hS1 => kk H1 locs1 (by rw [wL_set, nI_clamp (by omega)] at hP1; exact hP1) hS1)
/-- System.arraycopy of whole int rows of n numbers -/
theorem k_copy (hx : p.tables.exec = Jvm.exec) (hb : c.code = cc) (hml : c.maxLocals = ls.size) {own : String} {index : Nat} (hown : s.vm.findClass own = some m.cls) (hlink : (Cond.methodLink own index arraycopyName).before args s = true) (hnat : (Cond.native arraycopyName).before args s = true) (hstat : (Cond.static arraycopyName).before args s = true) (hini : (Cond.initialized "java/lang/System").before args s = true)
    (hK : va_K D vwCl (kTy cy) s) (hI : wI N ad) (hP : va_P D vwCl (wL N ad Wd) H) (hS : va_S (wA N ad) H0 H locs) {q0 q1 n : Nat} {f g : Nat → Int32} (h0 : q0 < N) (h1 : q1 < N) (he0 : Wd q0 = .inl (cy 0, n, .inl f)) (he1 : Wd q1 = .inl (cy 0, n, .inl g)) (hn : n < 2 ^ 31) (hW : va_up Wd q1 (.inl (cy 0, n, .inl (fun k => if k < n then f k else g k))) = Wd')
    (hframes : 1 ≤ R.frames) (hlocals : (rest.map fun v => v.category).sum + (nativeFrameWords "java/lang/System" "arraycopy" 5 + 11) ≤ R.locals) (hdg : decode cc pc = .ok (.invokestatic index, 3))
    (kk : ∀ (H1 : Heap) (locs1 : List Loc), va_P D vwCl (wL N ad Wd') H1 → va_S (wA N ad) H0 H1 locs1 → W p l e R s m args below meth c H1 locs1 cells slots Q (F0 m (pc + 3) ls rest)) : W p l e R s m args below meth c H locs cells slots Q (F0 m pc ls (.int (nI n) :: .int (nI 0) :: .ref (ad q1) :: .int (nI 0) :: .ref (ad q0) :: rest)) := by
  subst hW
  have e0 : (nI 0).toNatClampNeg = 0 := nI_clamp (by omega)
  have en : (nI n).toNatClampNeg = n := nI_clamp hn
  refine va_copyi hx hb hml hown hlink hnat hstat hini hK hP (wD hI) hS q0 q1 0 0 (ty := .int) (wL_get h0 he0) (wL_get h1 he1) rfl rfl rfl (nI_pos (by omega)) (nI_pos (by omega)) (nI_pos hn) (by rw [e0, en]; omega) (by rw [e0, en]; omega) (fun _ _ => rfl) hframes hlocals hdg (fun H1 locs1 hP1 _ hS1 => kk H1 locs1 ?_ hS1)
  rw [wL_set, e0, en] at hP1
  have hc : va_cpy f g 0 0 n = fun k => if k < n then f k else g k := by
    funext k
    simp [va_cpy]
  rw [hc] at hP1
  exact hP1
end KR3
/-! THE CLASS'S WORLD: 59 rows (objects at even numbers, their numbers behind), nine states, and what is one of a kind -/
abbrev kR : Type := Nat × (Nat → Nat)
abbrev kX : Type := Nat × (Nat → Nat) × Nat × (Nat → Nat) × (Nat → Nat)
abbrev va_q (f : Nat → Option Nat) : (Nat → Int32) ⊕ (Nat → Int64) ⊕ (Nat → UInt32) ⊕ (Nat → UInt64) ⊕ (Nat → Option Nat) := .inr (.inr (.inr (.inr f)))
def cH (ad : Nat → Nat) (cy : Nat → ClassId) (x : kX) : Nat → va_E := fun k => match k with
    | 0 => .inr (4, [.ref (ad (118 + 2 * 0)), .ref (ad 137), .ref (ad 139), .ref (ad 141), .ref (ad 142), .ref (ad (2 * 54)), .ref (ad (2 * 55)), .ref (ad (2 * 56)), .ref (ad (2 * 57)), .ref (ad (2 * 58))])
    | 1 => .inr (0, [.ref (ad 138), .int (nI x.1)])
    | 2 => .inl (cy 4, 6, va_q (fun j => some (ad (118 + 2 * x.2.1 j))))
    | 3 => .inr (1, [.ref (ad 140), .int (nI x.2.2.1)])
    | 4 => .inl (cy 0, 80, .inl (fun j => nI (x.2.2.2.1 j)))
    | 5 => .inl (cy 4, 2, va_q (fun j => some (ad (118 + 2 * (7 + j)))))
    | 6 => .inl (cy 1, 2, .inl (fun j => nI (x.2.2.2.2 j)))
    | _ => .inr (0, [])
def cW (ad : Nat → Nat) (cy : Nat → ClassId) (ρ : Nat → kR) (x : kX) : Nat → va_E := fun k =>
  if k < 118 then
    (if k % 2 = 0 then .inr (2, [.ref (ad (k + 1)), .int (nI (ρ (k / 2)).1)]) else .inl (cy 0, 64, .inl (fun j => nI ((ρ (k / 2)).2 j))))
  else if k < 136 then
    (if k % 2 = 0 then .inr (3, [.ref (ad (k + 1))]) else .inl (cy 3, 6, va_q (fun j => some (ad (2 * (6 * ((k - 118) / 2) + j))))))
  else cH ad cy x (k - 136)
abbrev cWf (ad : Nat → Nat) (cy : Nat → ClassId) : (Nat → kR) × kX → Nat → va_E := fun u => cW ad cy u.1 u.2
section CWL
variable {ad : Nat → Nat} {cy : Nat → ClassId} {ρ : Nat → kR} {x : kX}
theorem cW_row {i : Nat} (hi : i < 59) : cW ad cy ρ x (2 * i) = .inr (2, [.ref (ad (2 * i + 1)), .int (nI (ρ i).1)]) := by
  have h1 : 2 * i < 118 := by omega
  have h2 : 2 * i / 2 = i := by omega
  simp [cW, h1, h2]
theorem cW_num {i : Nat} (hi : i < 59) : cW ad cy ρ x (2 * i + 1) = .inl (cy 0, 64, .inl (fun j => nI ((ρ i).2 j))) := by
  have h1 : 2 * i + 1 < 118 := by omega
  have h2 : (2 * i + 1) / 2 = i := by omega
  have h3 : (2 * i + 1) % 2 = 1 := by omega
  simp [cW, h1, h2, h3]
theorem cW_st {t : Nat} (ht : t < 9) : cW ad cy ρ x (118 + 2 * t) = .inr (3, [.ref (ad (118 + 2 * t + 1))]) := by
  have h1 : ¬ 118 + 2 * t < 118 := by omega
  have h2 : 118 + 2 * t < 136 := by omega
  have h3 : (118 + 2 * t) % 2 = 0 := by omega
  simp [cW, h1, h2, h3]
theorem cW_sr {t : Nat} (ht : t < 9) : cW ad cy ρ x (118 + 2 * t + 1) = .inl (cy 3, 6, va_q (fun j => some (ad (2 * (6 * t + j))))) := by
  have h1 : ¬ 118 + 2 * t + 1 < 118 := by omega
  have h2 : 118 + 2 * t + 1 < 136 := by omega
  have h3 : ¬ (118 + 2 * t + 1) % 2 = 0 := by omega
  have h4 : (118 + 2 * t + 1 - 118) / 2 = t := by omega
  unfold cW
  rw [if_neg h1, if_pos h2, if_neg h3, h4]
theorem cW_hi (j : Nat) : cW ad cy ρ x (136 + j) = cH ad cy x j := by
  have h1 : ¬ 136 + j < 118 := by omega
  have h2 : ¬ 136 + j < 136 := by omega
  unfold cW
  rw [if_neg h1, if_neg h2, Nat.add_sub_cancel_left]
theorem cW_top : cW ad cy ρ x 136 = cH ad cy x 0 := cW_hi 0
theorem cW_hist : cW ad cy ρ x 137 = .inr (0, [.ref (ad 138), .int (nI x.1)]) := cW_hi 1
theorem cW_hs : cW ad cy ρ x 138 = .inl (cy 4, 6, va_q (fun j => some (ad (118 + 2 * x.2.1 j)))) := cW_hi 2
theorem cW_pad : cW ad cy ρ x 139 = .inr (1, [.ref (ad 140), .int (nI x.2.2.1)]) := cW_hi 3
theorem cW_pc : cW ad cy ρ x 140 = .inl (cy 0, 80, .inl (fun j => nI (x.2.2.2.1 j))) := cW_hi 4
theorem cW_sl : cW ad cy ρ x 141 = .inl (cy 4, 2, va_q (fun j => some (ad (118 + 2 * (7 + j))))) := cW_hi 5
theorem cW_sv : cW ad cy ρ x 142 = .inl (cy 1, 2, .inl (fun j => nI (x.2.2.2.2 j))) := cW_hi 6
theorem cW_up_num {i : Nat} (hi : i < 59) (f : Nat → Nat) : va_up (cW ad cy ρ x) (2 * i + 1) (.inl (cy 0, 64, .inl (fun j => nI (f j)))) = cW ad cy (va_up ρ i ((ρ i).1, f)) x := by
  funext k
  by_cases hk : k = 2 * i + 1
  · subst hk
    rw [va_up_self, cW_num hi, va_up_self]
  · rw [va_up_ne _ _ hk]
    unfold cW
    by_cases h1 : k < 118
    · by_cases h2 : k / 2 = i
      · have h3 : k % 2 = 0 := by omega
        rw [if_pos h1, if_pos h1, if_pos h3, if_pos h3, h2, va_up_self]
      · rw [if_pos h1, if_pos h1, va_up_ne _ _ h2]
    · rw [if_neg h1, if_neg h1]
theorem va_up_nI (f : Nat → Nat) (j v : Nat) : va_up (fun k => nI (f k)) j (nI v) = fun k => nI (va_up f j v k) := by
  funext k
  by_cases hk : k = j
  · subst hk; rw [va_up_self, va_up_self]
  · rw [va_up_ne _ _ hk, va_up_ne _ _ hk]
theorem cW_up_st {i j v : Nat} (hi : i < 59) : va_up (cW ad cy ρ x) (2 * i + 1) (.inl (cy 0, 64, .inl (va_up (fun k => nI ((ρ i).2 k)) j (nI v)))) = cW ad cy (va_up ρ i ((ρ i).1, va_up (ρ i).2 j v)) x := by
  rw [va_up_nI, cW_up_num hi]
theorem cW_up_len {i n : Nat} (hi : i < 59) : va_up (cW ad cy ρ x) (2 * i) (.inr (2, [.ref (ad (2 * i + 1)), .int (nI n)])) = cW ad cy (va_up ρ i (n, (ρ i).2)) x := by
  funext k
  by_cases hk : k = 2 * i
  · subst hk
    rw [va_up_self, cW_row hi, va_up_self]
  · rw [va_up_ne _ _ hk]
    unfold cW
    by_cases h1 : k < 118
    · by_cases h2 : k / 2 = i
      · have h3 : ¬ k % 2 = 0 := by omega
        rw [if_pos h1, if_pos h1, if_neg h3, if_neg h3, h2, va_up_self]
      · rw [if_pos h1, if_pos h1, va_up_ne _ _ h2]
    · rw [if_neg h1, if_neg h1]
theorem cW_up_one {j0 : Nat} {e : va_E} {x' : kX} (he : e = cH ad cy x' j0) (ho : ∀ k, k ≠ j0 → cH ad cy x k = cH ad cy x' k) : va_up (cW ad cy ρ x) (136 + j0) e = cW ad cy ρ x' := by
  funext k
  by_cases hk : k = 136 + j0
  · subst hk
    rw [va_up_self, he, cW_hi]
  · rw [va_up_ne _ _ hk]
    by_cases h1 : k < 136
    · simp [cW, h1]
    · obtain ⟨j, rfl⟩ : ∃ j, k = 136 + j := ⟨k - 136, by omega⟩
      rw [cW_hi, cW_hi]
      exact ho j (fun h => hk (by rw [h]))
theorem cW_up_hl {n : Nat} : va_up (cW ad cy ρ x) 137 (.inr (0, [.ref (ad 138), .int (nI n)])) = cW ad cy ρ (n, x.2) := by
  refine cW_up_one (j0 := 1) rfl (fun k h2 => ?_)
  match k, h2 with
  | 0, _ => rfl
  | 1, h => exact absurd rfl h
  | 2, _ => rfl
  | 3, _ => rfl
  | 4, _ => rfl
  | 5, _ => rfl
  | 6, _ => rfl
  | k + 7, _ => rfl
theorem cW_up_hs {i t : Nat} : va_up (cW ad cy ρ x) 138 (.inl (cy 4, 6, va_q (va_up (fun j => some (ad (118 + 2 * x.2.1 j))) i (some (ad (118 + 2 * t)))))) = cW ad cy ρ (x.1, va_up x.2.1 i t, x.2.2) := by
  refine cW_up_one (j0 := 2) ?_ (fun k h2 => ?_)
  · show _ = (Sum.inl (cy 4, 6, va_q (fun j => some (ad (118 + 2 * va_up x.2.1 i t j)))) : va_E)
    have hf : va_up (fun j => some (ad (118 + 2 * x.2.1 j))) i (some (ad (118 + 2 * t))) = fun j => some (ad (118 + 2 * va_up x.2.1 i t j)) := by
      funext j
      by_cases hj : j = i
      · subst hj; rw [va_up_self, va_up_self]
      · rw [va_up_ne _ _ hj, va_up_ne _ _ hj]
    rw [hf]
  match k, h2 with
  | 0, _ => rfl
  | 1, _ => rfl
  | 2, h => exact absurd rfl h
  | 3, _ => rfl
  | 4, _ => rfl
  | 5, _ => rfl
  | 6, _ => rfl
  | k + 7, _ => rfl
theorem cW_up_pl {n : Nat} : va_up (cW ad cy ρ x) 139 (.inr (1, [.ref (ad 140), .int (nI n)])) = cW ad cy ρ (x.1, x.2.1, n, x.2.2.2) := by
  refine cW_up_one (j0 := 3) rfl (fun k h2 => ?_)
  match k, h2 with
  | 0, _ => rfl
  | 1, _ => rfl
  | 2, _ => rfl
  | 3, h => exact absurd rfl h
  | 4, _ => rfl
  | 5, _ => rfl
  | 6, _ => rfl
  | k + 7, _ => rfl
theorem cW_up_pd {i v : Nat} : va_up (cW ad cy ρ x) 140 (.inl (cy 0, 80, .inl (va_up (fun j => nI (x.2.2.2.1 j)) i (nI v)))) = cW ad cy ρ (x.1, x.2.1, x.2.2.1, va_up x.2.2.2.1 i v, x.2.2.2.2) := by
  refine cW_up_one (j0 := 4) (by rw [va_up_nI]; rfl) (fun k h2 => ?_)
  match k, h2 with
  | 0, _ => rfl
  | 1, _ => rfl
  | 2, _ => rfl
  | 3, _ => rfl
  | 4, h => exact absurd rfl h
  | 5, _ => rfl
  | 6, _ => rfl
  | k + 7, _ => rfl
theorem cW_up_sv {i v : Nat} : va_up (cW ad cy ρ x) 142 (.inl (cy 1, 2, .inl (va_up (fun j => nI (x.2.2.2.2 j)) i (nI v)))) = cW ad cy ρ (x.1, x.2.1, x.2.2.1, x.2.2.2.1, va_up x.2.2.2.2 i v) := by
  refine cW_up_one (j0 := 6) (by rw [va_up_nI]; rfl) (fun k h2 => ?_)
  match k, h2 with
  | 0, _ => rfl
  | 1, _ => rfl
  | 2, _ => rfl
  | 3, _ => rfl
  | 4, _ => rfl
  | 5, _ => rfl
  | 6, h => exact absurd rfl h
  | k + 7, _ => rfl
end CWL
