theorem mRep_dvV {S : kSt} {v : kV} {A B : kR} (h : mRep S v) : mRep (recS S) (dvV v A B) := h.rec_eq rfl rfl rfl rfl rfl rfl rfl
theorem mRep_bla {S : kSt} {w : kV} {n : Nat} (h : mRep S w) : mRep S (bla w n) := mRep_eq h rfl rfl rfl rfl rfl rfl rfl
theorem mRep_dvm {S : kSt} {w : kV} {D d : Nat} (h : mRep S w) : mRep S (dvm w D d) := mRep_eq h rfl rfl rfl rfl rfl rfl rfl
theorem mRep_ow {S : kSt} {w : kV} {n : Nat} {f : Nat → Nat} (h : mRep S w) : mRep S (pou (bla w n) f) := mRep_eq h rfl rfl rfl rfl rfl rfl rfl
theorem mRep_tw {S : kSt} {w : kV} {f g : Nat → Nat} (h : mRep S w) : mRep S (ptw (pon w f) g) := mRep_eq h rfl rfl rfl rfl rfl rfl rfl
theorem dvm_f {w : kV} {n D d : Nat} {f g : Nat → Nat} (h1 : von w = f) (h2 : vtw w = g) : vou (dvm (bla w n) D d) = (dvd f g D d).1 ∧ von (dvm (bla w n) D d) = (dvd f g D d).2 ∧ vln (dvm (bla w n) D d) = n := by
  subst h1
  subst h2
  exact ⟨rfl, rfl, rfl⟩
