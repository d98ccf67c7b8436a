/-! THE REFERENCE'S WORLD: one object, eight arrays -/
abbrev kV : Type := (Nat → Nat) × (Nat → Nat) × (Nat → Nat) × (Nat → Nat) × Nat × (Nat → Nat) × Nat × (Nat → Nat) × Nat × (Nat → Nat) × (Nat → Nat)
def vz (v : kV) : (Nat → Nat) := v.1
def vpa (v : kV) : (Nat → Nat) := v.2.1
def vsl (v : kV) : (Nat → Nat) := v.2.2.1
def vsv (v : kV) : (Nat → Nat) := v.2.2.2.1
def vpm (v : kV) : Nat := v.2.2.2.2.1
def vpd (v : kV) : (Nat → Nat) := v.2.2.2.2.2.1
def vty (v : kV) : Nat := v.2.2.2.2.2.2.1
def vou (v : kV) : (Nat → Nat) := v.2.2.2.2.2.2.2.1
def vln (v : kV) : Nat := v.2.2.2.2.2.2.2.2.1
def von (v : kV) : (Nat → Nat) := v.2.2.2.2.2.2.2.2.2.1
def vtw (v : kV) : (Nat → Nat) := v.2.2.2.2.2.2.2.2.2.2
def pz (v : kV) (q : (Nat → Nat)) : kV := (q, vpa v, vsl v, vsv v, vpm v, vpd v, vty v, vou v, vln v, von v, vtw v)
def ppa (v : kV) (q : (Nat → Nat)) : kV := (vz v, q, vsl v, vsv v, vpm v, vpd v, vty v, vou v, vln v, von v, vtw v)
def psl (v : kV) (q : (Nat → Nat)) : kV := (vz v, vpa v, q, vsv v, vpm v, vpd v, vty v, vou v, vln v, von v, vtw v)
def psv (v : kV) (q : (Nat → Nat)) : kV := (vz v, vpa v, vsl v, q, vpm v, vpd v, vty v, vou v, vln v, von v, vtw v)
def ppm (v : kV) (q : Nat) : kV := (vz v, vpa v, vsl v, vsv v, q, vpd v, vty v, vou v, vln v, von v, vtw v)
def ppd (v : kV) (q : (Nat → Nat)) : kV := (vz v, vpa v, vsl v, vsv v, vpm v, q, vty v, vou v, vln v, von v, vtw v)
def pty (v : kV) (q : Nat) : kV := (vz v, vpa v, vsl v, vsv v, vpm v, vpd v, q, vou v, vln v, von v, vtw v)
def pou (v : kV) (q : (Nat → Nat)) : kV := (vz v, vpa v, vsl v, vsv v, vpm v, vpd v, vty v, q, vln v, von v, vtw v)
def pln (v : kV) (q : Nat) : kV := (vz v, vpa v, vsl v, vsv v, vpm v, vpd v, vty v, vou v, q, von v, vtw v)
def pon (v : kV) (q : (Nat → Nat)) : kV := (vz v, vpa v, vsl v, vsv v, vpm v, vpd v, vty v, vou v, vln v, q, vtw v)
def ptw (v : kV) (q : (Nat → Nat)) : kV := (vz v, vpa v, vsl v, vsv v, vpm v, vpd v, vty v, vou v, vln v, von v, q)
def mW (ad : Nat → Nat) (cy : Nat → ClassId) (v : kV) : Nat → va_E := fun k => match k with
  | 0 => .inr (5, [.ref (ad 1), .ref (ad 2), .ref (ad 3), .ref (ad 4), .int (nI (vpm v)), .ref (ad 5), .int (nI (vty v)), .ref (ad 6), .int (nI (vln v)), .ref (ad 7), .ref (ad 8)])
  | 1 => .inl (cy 0, 390, .inl (fun j => nI (vz v j)))
  | 2 => .inl (cy 0, 2340, .inl (fun j => nI (vpa v j)))
  | 3 => .inl (cy 0, 780, .inl (fun j => nI (vsl v j)))
  | 4 => .inl (cy 1, 2, .inl (fun j => nI (vsv v j)))
  | 5 => .inl (cy 2, 80, .inl (fun j => nI (vpd v j)))
  | 6 => .inl (cy 0, 64, .inl (fun j => nI (vou v j)))
  | 7 => .inl (cy 0, 64, .inl (fun j => nI (von v j)))
  | 8 => .inl (cy 0, 64, .inl (fun j => nI (vtw v j)))
  | _ => .inr (5, [])
section MW
variable {ad : Nat → Nat} {cy : Nat → ClassId} {v : kV}
theorem mW_obj : mW ad cy v 0 = .inr (5, [.ref (ad 1), .ref (ad 2), .ref (ad 3), .ref (ad 4), .int (nI (vpm v)), .ref (ad 5), .int (nI (vty v)), .ref (ad 6), .int (nI (vln v)), .ref (ad 7), .ref (ad 8)]) := rfl
theorem mW_z : mW ad cy v 1 = .inl (cy 0, 390, .inl (fun j => nI (vz v j))) := rfl
theorem mW_pa : mW ad cy v 2 = .inl (cy 0, 2340, .inl (fun j => nI (vpa v j))) := rfl
theorem mW_sl : mW ad cy v 3 = .inl (cy 0, 780, .inl (fun j => nI (vsl v j))) := rfl
theorem mW_sv : mW ad cy v 4 = .inl (cy 1, 2, .inl (fun j => nI (vsv v j))) := rfl
theorem mW_pd : mW ad cy v 5 = .inl (cy 2, 80, .inl (fun j => nI (vpd v j))) := rfl
theorem mW_ou : mW ad cy v 6 = .inl (cy 0, 64, .inl (fun j => nI (vou v j))) := rfl
theorem mW_on : mW ad cy v 7 = .inl (cy 0, 64, .inl (fun j => nI (von v j))) := rfl
theorem mW_tw : mW ad cy v 8 = .inl (cy 0, 64, .inl (fun j => nI (vtw v j))) := rfl
theorem mW_up {c : Nat} {e : va_E} {v' : kV} (he : e = mW ad cy v' c) (ho : ∀ k, k ≠ c → mW ad cy v k = mW ad cy v' k) : va_up (mW ad cy v) c e = mW ad cy v' := by
  funext k
  by_cases h : k = c
  · subst h; rw [va_up_self, he]
  · rw [va_up_ne _ _ h]; exact ho k h
theorem mW_up_z {i q : Nat} : va_up (mW ad cy v) 1 (.inl (cy 0, 390, .inl (va_up (fun j => nI (vz v j)) i (nI q)))) = mW ad cy (pz v (va_up (vz v) i q)) := by
  refine mW_up (by rw [va_up_nI]; rfl) (fun k h => ?_)
  match k, h with
  | 0, _ => rfl
  | 1, h => exact absurd rfl h
  | 2, _ => rfl
  | 3, _ => rfl
  | 4, _ => rfl
  | 5, _ => rfl
  | 6, _ => rfl
  | 7, _ => rfl
  | 8, _ => rfl
  | k + 9, _ => rfl
theorem mW_up_pa {i q : Nat} : va_up (mW ad cy v) 2 (.inl (cy 0, 2340, .inl (va_up (fun j => nI (vpa v j)) i (nI q)))) = mW ad cy (ppa v (va_up (vpa v) i q)) := by
  refine mW_up (by rw [va_up_nI]; rfl) (fun k h => ?_)
  match k, h with
  | 0, _ => rfl
  | 1, _ => rfl
  | 2, h => exact absurd rfl h
  | 3, _ => rfl
  | 4, _ => rfl
  | 5, _ => rfl
  | 6, _ => rfl
  | 7, _ => rfl
  | 8, _ => rfl
  | k + 9, _ => rfl
theorem mW_up_sl {i q : Nat} : va_up (mW ad cy v) 3 (.inl (cy 0, 780, .inl (va_up (fun j => nI (vsl v j)) i (nI q)))) = mW ad cy (psl v (va_up (vsl v) i q)) := by
  refine mW_up (by rw [va_up_nI]; rfl) (fun k h => ?_)
  match k, h with
  | 0, _ => rfl
  | 1, _ => rfl
  | 2, _ => rfl
  | 3, h => exact absurd rfl h
  | 4, _ => rfl
  | 5, _ => rfl
  | 6, _ => rfl
  | 7, _ => rfl
  | 8, _ => rfl
  | k + 9, _ => rfl
theorem mW_up_sv {i q : Nat} : va_up (mW ad cy v) 4 (.inl (cy 1, 2, .inl (va_up (fun j => nI (vsv v j)) i (nI q)))) = mW ad cy (psv v (va_up (vsv v) i q)) := by
  refine mW_up (by rw [va_up_nI]; rfl) (fun k h => ?_)
  match k, h with
  | 0, _ => rfl
  | 1, _ => rfl
  | 2, _ => rfl
  | 3, _ => rfl
  | 4, h => exact absurd rfl h
  | 5, _ => rfl
  | 6, _ => rfl
  | 7, _ => rfl
  | 8, _ => rfl
  | k + 9, _ => rfl
theorem mW_up_pm {q : Nat} : va_up (mW ad cy v) 0 (.inr (5, [.ref (ad 1), .ref (ad 2), .ref (ad 3), .ref (ad 4), .int (nI q), .ref (ad 5), .int (nI (vty v)), .ref (ad 6), .int (nI (vln v)), .ref (ad 7), .ref (ad 8)])) = mW ad cy (ppm v q) := by
  refine mW_up rfl (fun k h => ?_)
  match k, h with
  | 0, h => exact absurd rfl h
  | 1, _ => rfl
  | 2, _ => rfl
  | 3, _ => rfl
  | 4, _ => rfl
  | 5, _ => rfl
  | 6, _ => rfl
  | 7, _ => rfl
  | 8, _ => rfl
  | k + 9, _ => rfl
theorem mW_up_pd {i q : Nat} : va_up (mW ad cy v) 5 (.inl (cy 2, 80, .inl (va_up (fun j => nI (vpd v j)) i (nI q)))) = mW ad cy (ppd v (va_up (vpd v) i q)) := by
  refine mW_up (by rw [va_up_nI]; rfl) (fun k h => ?_)
  match k, h with
  | 0, _ => rfl
  | 1, _ => rfl
  | 2, _ => rfl
  | 3, _ => rfl
  | 4, _ => rfl
  | 5, h => exact absurd rfl h
  | 6, _ => rfl
  | 7, _ => rfl
  | 8, _ => rfl
  | k + 9, _ => rfl
theorem mW_up_ty {q : Nat} : va_up (mW ad cy v) 0 (.inr (5, [.ref (ad 1), .ref (ad 2), .ref (ad 3), .ref (ad 4), .int (nI (vpm v)), .ref (ad 5), .int (nI q), .ref (ad 6), .int (nI (vln v)), .ref (ad 7), .ref (ad 8)])) = mW ad cy (pty v q) := by
  refine mW_up rfl (fun k h => ?_)
  match k, h with
  | 0, h => exact absurd rfl h
  | 1, _ => rfl
  | 2, _ => rfl
  | 3, _ => rfl
  | 4, _ => rfl
  | 5, _ => rfl
  | 6, _ => rfl
  | 7, _ => rfl
  | 8, _ => rfl
  | k + 9, _ => rfl
theorem mW_up_ou {i q : Nat} : va_up (mW ad cy v) 6 (.inl (cy 0, 64, .inl (va_up (fun j => nI (vou v j)) i (nI q)))) = mW ad cy (pou v (va_up (vou v) i q)) := by
  refine mW_up (by rw [va_up_nI]; rfl) (fun k h => ?_)
  match k, h with
  | 0, _ => rfl
  | 1, _ => rfl
  | 2, _ => rfl
  | 3, _ => rfl
  | 4, _ => rfl
  | 5, _ => rfl
  | 6, h => exact absurd rfl h
  | 7, _ => rfl
  | 8, _ => rfl
  | k + 9, _ => rfl
theorem mW_up_ln {q : Nat} : va_up (mW ad cy v) 0 (.inr (5, [.ref (ad 1), .ref (ad 2), .ref (ad 3), .ref (ad 4), .int (nI (vpm v)), .ref (ad 5), .int (nI (vty v)), .ref (ad 6), .int (nI q), .ref (ad 7), .ref (ad 8)])) = mW ad cy (pln v q) := by
  refine mW_up rfl (fun k h => ?_)
  match k, h with
  | 0, h => exact absurd rfl h
  | 1, _ => rfl
  | 2, _ => rfl
  | 3, _ => rfl
  | 4, _ => rfl
  | 5, _ => rfl
  | 6, _ => rfl
  | 7, _ => rfl
  | 8, _ => rfl
  | k + 9, _ => rfl
theorem mW_up_on {i q : Nat} : va_up (mW ad cy v) 7 (.inl (cy 0, 64, .inl (va_up (fun j => nI (von v j)) i (nI q)))) = mW ad cy (pon v (va_up (von v) i q)) := by
  refine mW_up (by rw [va_up_nI]; rfl) (fun k h => ?_)
  match k, h with
  | 0, _ => rfl
  | 1, _ => rfl
  | 2, _ => rfl
  | 3, _ => rfl
  | 4, _ => rfl
  | 5, _ => rfl
  | 6, _ => rfl
  | 7, h => exact absurd rfl h
  | 8, _ => rfl
  | k + 9, _ => rfl
theorem mW_up_tw {i q : Nat} : va_up (mW ad cy v) 8 (.inl (cy 0, 64, .inl (va_up (fun j => nI (vtw v j)) i (nI q)))) = mW ad cy (ptw v (va_up (vtw v) i q)) := by
  refine mW_up (by rw [va_up_nI]; rfl) (fun k h => ?_)
  match k, h with
  | 0, _ => rfl
  | 1, _ => rfl
  | 2, _ => rfl
  | 3, _ => rfl
  | 4, _ => rfl
  | 5, _ => rfl
  | 6, _ => rfl
  | 7, _ => rfl
  | 8, h => exact absurd rfl h
  | k + 9, _ => rfl
theorem cell_ext (cA : ClassId) (n : Nat) {f g : Nat → Nat} (h : ∀ j, j < n → f j = g j) : vp_cell cA (n, .inl (fun j => nI (f j))) = vp_cell cA (n, .inl (fun j => nI (g j))) := by
  rw [vp_cell_i, vp_cell_i]
  unfold arrV
  congr 2
  funext j
  show Value.int (nI (f j.val)) = Value.int (nI (g j.val))
  rw [h j.val j.isLt]
theorem mW_ext {D : va_G} {w : kV} {H : Heap} (hz : ∀ j, j < 390 → vz v j = vz w j) (hpa : ∀ j, j < 2340 → vpa v j = vpa w j) (hsl : ∀ j, j < 780 → vsl v j = vsl w j) (hsv : ∀ j, j < 2 → vsv v j = vsv w j) (hpm : vpm v = vpm w) (hpd : ∀ j, j < 80 → vpd v j = vpd w j) (hty : vty v = vty w) (hou : ∀ j, j < 64 → vou v j = vou w j) (hln : vln v = vln w) (hon : ∀ j, j < 64 → von v j = von w j) (htw : ∀ j, j < 64 → vtw v j = vtw w j) (hP : va_P D vwCl (wL 9 ad (mW ad cy v)) H) : va_P D vwCl (wL 9 ad (mW ad cy w)) H := by
  intro k q hk
  obtain ⟨hl, rfl⟩ := wL_some hk
  have h1 := hP k _ (wL_get hl rfl)
  match k, hl, h1 with
  | 0, _, h1 =>
    rw [mW_obj] at h1 ⊢
    rw [← hpm, ← hty, ← hln]
    exact h1
  | 1, _, h1 =>
    show H[_]? = some (vp_cell _ _)
    rw [← cell_ext (cy 0) 390 hz]
    exact h1
  | 2, _, h1 =>
    show H[_]? = some (vp_cell _ _)
    rw [← cell_ext (cy 0) 2340 hpa]
    exact h1
  | 3, _, h1 =>
    show H[_]? = some (vp_cell _ _)
    rw [← cell_ext (cy 0) 780 hsl]
    exact h1
  | 4, _, h1 =>
    show H[_]? = some (vp_cell _ _)
    rw [← cell_ext (cy 1) 2 hsv]
    exact h1
  | 5, _, h1 =>
    show H[_]? = some (vp_cell _ _)
    rw [← cell_ext (cy 2) 80 hpd]
    exact h1
  | 6, _, h1 =>
    show H[_]? = some (vp_cell _ _)
    rw [← cell_ext (cy 0) 64 hou]
    exact h1
  | 7, _, h1 =>
    show H[_]? = some (vp_cell _ _)
    rw [← cell_ext (cy 0) 64 hon]
    exact h1
  | 8, _, h1 =>
    show H[_]? = some (vp_cell _ _)
    rw [← cell_ext (cy 0) 64 htw]
    exact h1
  | k + 9, hl, _ => omega
end MW
/-- the registers, as the reference holds them -/
def mReg (R : Nat → kR) (v : kV) : Prop := ∀ r, r < 6 → vz v (65 * r) = (R r).1 ∧ rO (R r) ∧ ∀ k, k < 64 → vz v (65 * r + 1 + k) = (R r).2 k
