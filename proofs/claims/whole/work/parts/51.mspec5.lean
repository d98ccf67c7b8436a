theorem bla_o {v : kV} {n : Nat} {f : Nat → Nat} (h : f = fun _ => 0) : bla v n = pou (bla v n) f := by rw [h]; rfl
theorem pou_o {v : kV} {f g h : Nat → Nat} (e : g = h) : pou (pou v f) g = pou v h := by rw [e]; rfl
theorem vou_o {v : kV} {f : Nat → Nat} : vou (pou v f) = f := rfl
theorem vln_o {v : kV} {n : Nat} {f : Nat → Nat} : vln (pou (bla v n) f) = n := rfl
theorem outM {S : kSt} {v v' : kV} {n j : Nat} {f : Nat → Nat} {r : kR} (hR : mRep S v) (hv : v' = pou (bla (recV v) n) f) (hj : j < 6) (hn : n = r.1) (hf : f = r.2) (hz : ∀ k, n ≤ k → f k = 0) : mRep (chgS S j r) (sto v' j) := by
  subst hv
  refine mRep.chg (v := v) (hR.rec_eq rfl rfl rfl rfl rfl rfl rfl) hj hn (fun k hk => ?_)
  show (if k < r.1 then f k else 0) = r.2 k
  rw [← hn, out_z hz, hf]
