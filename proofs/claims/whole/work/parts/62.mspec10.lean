theorem mRep_bla {S : kSt} {w : kV} {n : Nat} (h : mRep S w) : mRep S (bla w n) := mRep_eq h rfl rfl rfl rfl rfl rfl rfl
theorem mRep_dvm {S : kSt} {w : kV} {D d : Nat} (h : mRep S w) : mRep S (dvm w D d) := mRep_eq h rfl rfl rfl rfl rfl rfl rfl
theorem mRep_ow {S : kSt} {w : kV} {n : Nat} {f : Nat → Nat} (h : mRep S w) : mRep S (pou (bla w n) f) := mRep_eq h rfl rfl rfl rfl rfl rfl rfl
theorem mRep_tw {S : kSt} {w : kV} {f g : Nat → Nat} (h : mRep S w) : mRep S (ptw (pon w f) g) := mRep_eq h rfl rfl rfl rfl rfl rfl rfl
theorem dvm_pack {S : kSt} {w : kV} {n D d : Nat} {f g : Nat → Nat} (h1 : von w = f) (h2 : vtw w = g) (hR : mRep S w) : ∃ z, z = dvm (bla w n) D d ∧ vou z = (dvd f g D d).1 ∧ von z = (dvd f g D d).2 ∧ vln z = n ∧ mRep S z := by
  subst h1
  subst h2
  exact ⟨_, rfl, rfl, rfl, rfl, mRep_dvm (mRep_bla hR)⟩
theorem bla_on {w : kV} {n : Nat} {f : Nat → Nat} (h : von w = f) (hf : ∀ k, f k < 257) : ∀ k, von (bla w n) k < 257 := by
  subst h
  exact hf
theorem bla_tw {w : kV} {n : Nat} {f : Nat → Nat} (h : vtw w = f) (hf : ∀ k, f k < 257) : ∀ k, vtw (bla w n) k < 257 := by
  subst h
  exact hf
theorem sto_ou {w : kV} {r : Nat} : vou (sto w r) = vou w := rfl
theorem sto_ln {w : kV} {r : Nat} : vln (sto w r) = vln w := rfl
/-- two rows taken over -/
theorem cpl_00 (w : kV) : w = ptw (pon w (von w)) (vtw w) := rfl
theorem cpl_0 (w : kV) (f g : Nat → Nat) : w = ptw (pon w (cp1 f (von w) 0)) (cp1 g (vtw w) 0) := by
  rw [cp1_0, cp1_0]; exact cpl_00 w
theorem ptw_pon (w : kV) (X Y X' Y' : Nat → Nat) : ptw (pon (ptw (pon w X) Y) X') Y' = ptw (pon w X') Y' := rfl
theorem von_p (w : kV) (X Y : Nat → Nat) : von (ptw (pon w X) Y) = X := rfl
theorem vtw_p (w : kV) (Y : Nat → Nat) : vtw (ptw w Y) = Y := rfl
theorem vtw_on (w : kV) (X : Nat → Nat) : vtw (pon w X) = vtw w := rfl
theorem cpl_s {w v' : kV} {f g : Nat → Nat} {k : Nat} (h : v' = ptw (pon w (cp1 f (von w) k)) (cp1 g (vtw w) k)) : ptw (pon v' (va_up (von v') k (f k))) (va_up (vtw (pon v' (va_up (von v') k (f k)))) k (g k)) = ptw (pon w (cp1 f (von w) (k + 1))) (cp1 g (vtw w) (k + 1)) := by
  rw [h, vtw_on, von_p, vtw_p, ptw_pon, cp1_s, cp1_s]
theorem cpl_M {R : Nat → kR} {w v' : kV} {f g : Nat → Nat} (h : mReg R w) (hv : v' = ptw (pon w f) g) : mReg R v' := by
  rw [hv]; exact h
theorem cpl_e {D : va_G} {ad : Nat → Nat} {cy : Nat → ClassId} {S : kSt} {w v' : kV} {f g : Nat → Nat} {H : Heap} (hR : mRep S w) (hv : v' = ptw (pon w (cp1 f (von w) 64)) (cp1 g (vtw w) 64)) (hP : va_P D vwCl (wL 9 ad (mW ad cy v')) H) : ∃ z, von z = f ∧ vtw z = g ∧ mRep S z ∧ va_P D vwCl (wL 9 ad (mW ad cy z)) H := by
  rw [hv] at hP
  exact ⟨ptw (pon w f) g, von_p _ _ _, vtw_p _ _, mRep_tw hR, dvV_g (fun _ hj => cp1_lt hj) (fun _ hj => cp1_lt hj) hP⟩
/-- quotient and rest, by their names -/
theorem div_pack {A B : kR} {D d : Nat} (hA : rO A) (hB : rO B) (eD : D = dg A.2 A.1) (hd : dg B.2 B.1 = d + 1) : ∃ q r : kR, q = quo A B ∧ r = res A B ∧ rO q ∧ rO r ∧ q.1 = max (D - d) 1 ∧ r.1 = max d 1 ∧ q.2 = (dvd A.2 B.2 D d).1 ∧ cp1 (dvd A.2 B.2 D d).2 (fun _ => 0) d = r.2 := by
  have h1 := dg_le A.2 A.1
  have h2 := dg_le B.2 B.1
  have h3 := hA.2.1
  have h4 := hB.2.1
  have hd1 : rD B - 1 = d := by unfold rD; omega
  have e1 : quo A B = quoR A.2 B.2 (dg A.2 A.1) d := by unfold quo; rw [hd1]; rfl
  have e2 : res A B = resR A.2 B.2 (dg A.2 A.1) d := by unfold res; rw [hd1]; rfl
  subst eD
  refine ⟨_, _, rfl, rfl, ?_, ?_, ?_, ?_, ?_, ?_⟩
  · rw [e1]; exact quoR_O hA.2.2.1 (by omega)
  · rw [e2]; exact resR_O hA.2.2.1 (by omega)
  · rw [e1]; rfl
  · rw [e2]; rfl
  · rw [e1]; rfl
  · rw [e2]; exact res_cp hA.2.2.1 hA.2.2.2 (hB.2.2.1 d) (dg_top _ _ _ hd)
