/-- at the loop's head -/
def lwN18 (p : Program) (l : Launch) (e : Env) (s : State) (m : MethodId) (below : List Frame) (meth : Method) (c : Code) (b : Nat) (D : va_G) (cy : Nat → ClassId) (h i : Nat) : Prop := ∀ (S : kSt) (ρ : Nat → kR) (x : kX) (v : kV) (H : Heap) (locs : List Loc) (ls : Array Slot), lwI D cy h S ρ x v H → va_S (aF h) s.heap H locs → lv_has ls 4 (lwL b h i) → lwW p l e s m below meth c b H locs 18 ls []
set_option maxHeartbeats 4000000 in
set_option maxRecDepth 100000 in
theorem law_loop {p : Program} {l : Launch} {e : Env} {s : State} {m : MethodId} {below : List Frame} {meth : Method} {c : Code} {b L : Nat} {xs : Nat → Int32} {D : va_G} {cy : Nat → ClassId} {h : Nat} (C1 : lwC p s m meth c b L xs D cy h) : ∀ (fu i : Nat), L + 5 - i < fu → i ≤ L → lwN18 p l e s m below meth c b D cy h i := by
  obtain ⟨⟨hx, hb, hr, hml, hown, hts0, hX, hbl, hlocks, hgv⟩, hL, hK, hh⟩ := id C1
  have hbA : ¬ aF h b := by unfold aF; omega
  intro fu
  induction fu with
  | zero => intro i hfu; exact absurd hfu (Nat.not_lt_zero _)
  | succ fu ih =>
    intro i hfu hiL S ρ x v H locs ls hJ hS hl
    refine lv_iload_n hx hb dL_law_18 rfl (lv_at hl 3 rfl) ?_
    refine lv_aload_n hx hb dL_law_19 rfl (lv_at hl 0 rfl) ?_
    refine va_slen hx hb hX hbl hbA hS dL_law_20 ?_
    refine lv_iconst (v := nI 5) hx hb dL_law_21 rfl ?_
    refine lv_isub hx hb dL_law_22 ?_
    refine lv_icmp_gt (tgt := 1040) hx hb dL_law_23 (by decide) (fun h_1 => ?_) (fun h_1 => ?_)
    · refine lv_iconst (v := 1) hx hb dL_law_1040 (by decide) ?_
      refine va_forget (fun q hq => by have := hS.2.2 q hq; unfold aF at this; omega) ?_
      refine W.widen (k := 600000) (n := 7302250) (Nat.le_of_ble_eq_true rfl) (Nat.le_of_ble_eq_true rfl) ?_
      exact lw_ret hx hb hr hlocks dL_law_1041
    · have hi5 : i + 5 ≤ L := lw_gt (by omega) (by omega) h_1
      have next : lwN p l e s m below meth c b D cy h i := by
        intro S ρ x v H locs ls hJ hS hl
        refine lv_iinc (v := nI (i + 5)) (lv' := [(3, .int (nI (i + 5))), (0, .ref b), (1, .ref (ad1 h 136)), (2, .ref (aA (h + 143) 0))]) hx hb dL_law_1034 hl (k := 3) rfl (nI_add i 5) (by decide) rfl (fun ls hl => ?_)
        refine lv_goto (tgt := 18) hx hb dL_law_1037 (by decide) ?_
        exact ih (i + 5) (by omega) hi5 S ρ x v H locs ls hJ hS (lv_sub hl [1, 2, 3, 0] rfl)
      refine lv_aload_n hx hb dL_law_26 rfl (lv_at hl 0 rfl) ?_
      refine lv_iload_n hx hb dL_law_27 rfl (lv_at hl 3 rfl) ?_
      refine va_sld hx hb hX hbl hbA hS (vp_in_nI (show i < L by omega) (by omega)) dL_law_28 ?_
      refine i_push (b := xs (i)) (by rw [nI_clamp (by omega)]) ?_
      refine lv_bipush (v := nI 31) hx hb dL_law_29 rfl ?_
      refine lv_iand hx hb dL_law_31 ?_
      rcases ksw_cases (xs i &&& nI 31) 25 (by decide) with hsw | ⟨qsw, hqsw, esw⟩
      · refine lv_tableOut (tgt := 1034) hx hb dL_law_32 (ksw_out (n := 25) hsw (by decide) (by decide)) (by decide) ?_
        exact next _ _ _ _ _ _ _ hJ hS hl
      · refine n_push esw ?_
        rcases (show qsw = 0 ∨ qsw = 1 ∨ qsw = 2 ∨ qsw = 3 ∨ qsw = 4 ∨ qsw = 5 ∨ qsw = 6 ∨ qsw = 7 ∨ qsw = 8 ∨ qsw = 9 ∨ qsw = 10 ∨ qsw = 11 ∨ qsw = 12 ∨ qsw = 13 ∨ qsw = 14 ∨ qsw = 15 ∨ qsw = 16 ∨ qsw = 17 ∨ qsw = 18 ∨ qsw = 19 ∨ qsw = 20 ∨ qsw = 21 ∨ qsw = 22 ∨ qsw = 23 ∨ qsw = 24 by omega) with rfl | rfl | rfl | rfl | rfl | rfl | rfl | rfl | rfl | rfl | rfl | rfl | rfl | rfl | rfl | rfl | rfl | rfl | rfl | rfl | rfl | rfl | rfl | rfl | rfl
        · refine lv_tableIn (off := 116) (tgt := 148) hx hb dL_law_32 (by decide) (by decide) (by decide) (by decide) ?_
          exact law_read C1 hi5 next hJ hS hl
        · refine lv_tableIn (off := 139) (tgt := 171) hx hb dL_law_32 (by decide) (by decide) (by decide) (by decide) ?_
          exact law_set C1 hi5 next hJ hS hl
        · refine lv_tableIn (off := 182) (tgt := 214) hx hb dL_law_32 (by decide) (by decide) (by decide) (by decide) ?_
          exact law_add C1 hi5 next hJ hS hl
        · refine lv_tableIn (off := 235) (tgt := 267) hx hb dL_law_32 (by decide) (by decide) (by decide) (by decide) ?_
          exact law_product C1 hi5 next hJ hS hl
        · refine lv_tableIn (off := 278) (tgt := 310) hx hb dL_law_32 (by decide) (by decide) (by decide) (by decide) ?_
          exact law_round C1 hi5 next hJ hS hl
        · refine lv_tableIn (off := 331) (tgt := 363) hx hb dL_law_32 (by decide) (by decide) (by decide) (by decide) ?_
          exact law_power C1 hi5 next hJ hS hl
        · refine lv_tableIn (off := 374) (tgt := 406) hx hb dL_law_32 (by decide) (by decide) (by decide) (by decide) ?_
          exact law_inverse C1 hi5 next hJ hS hl
        · refine lv_tableIn (off := 417) (tgt := 449) hx hb dL_law_32 (by decide) (by decide) (by decide) (by decide) ?_
          exact law_divide C1 hi5 next hJ hS hl
        · refine lv_tableIn (off := 470) (tgt := 502) hx hb dL_law_32 (by decide) (by decide) (by decide) (by decide) ?_
          exact law_divisor C1 hi5 next hJ hS hl
        · refine lv_tableIn (off := 513) (tgt := 545) hx hb dL_law_32 (by decide) (by decide) (by decide) (by decide) ?_
          exact law_turn C1 hi5 next hJ hS hl
        · refine lv_tableIn (off := 556) (tgt := 588) hx hb dL_law_32 (by decide) (by decide) (by decide) (by decide) ?_
          exact law_turnBack C1 hi5 next hJ hS hl
        · refine lv_tableIn (off := 589) (tgt := 621) hx hb dL_law_32 (by decide) (by decide) (by decide) (by decide) ?_
          exact law_number C1 hi5 next hJ hS hl
        · refine lv_tableIn (off := 622) (tgt := 654) hx hb dL_law_32 (by decide) (by decide) (by decide) (by decide) ?_
          exact law_of C1 hi5 next hJ hS hl
        · refine lv_tableIn (off := 655) (tgt := 687) hx hb dL_law_32 (by decide) (by decide) (by decide) (by decide) ?_
          exact law_value C1 hi5 next hJ hS hl
        · refine lv_tableIn (off := 688) (tgt := 720) hx hb dL_law_32 (by decide) (by decide) (by decide) (by decide) ?_
          exact law_turningPoint C1 hi5 next hJ hS hl
        · refine lv_tableIn (off := 721) (tgt := 753) hx hb dL_law_32 (by decide) (by decide) (by decide) (by decide) ?_
          exact law_count C1 hi5 next hJ hS hl
        · refine lv_tableIn (off := 744) (tgt := 776) hx hb dL_law_32 (by decide) (by decide) (by decide) (by decide) ?_
          exact law_fits C1 hi5 next hJ hS hl
        · refine lv_tableIn (off := 778) (tgt := 810) hx hb dL_law_32 (by decide) (by decide) (by decide) (by decide) ?_
          exact law_sum C1 hi5 next hJ hS hl
        · refine lv_tableIn (off := 821) (tgt := 853) hx hb dL_law_32 (by decide) (by decide) (by decide) (by decide) ?_
          exact law_found C1 hi5 next hJ hS hl
        · refine lv_tableIn (off := 864) (tgt := 896) hx hb dL_law_32 (by decide) (by decide) (by decide) (by decide) ?_
          exact law_put C1 hi5 next hJ hS hl
        · refine lv_tableIn (off := 917) (tgt := 949) hx hb dL_law_32 (by decide) (by decide) (by decide) (by decide) ?_
          exact law_wipe C1 hi5 next hJ hS hl
        · refine lv_tableIn (off := 930) (tgt := 962) hx hb dL_law_32 (by decide) (by decide) (by decide) (by decide) ?_
          exact law_fault C1 hi5 next hJ hS hl
        · refine lv_tableIn (off := 943) (tgt := 975) hx hb dL_law_32 (by decide) (by decide) (by decide) (by decide) ?_
          exact law_undo C1 hi5 next hJ hS hl
        · refine lv_tableIn (off := 956) (tgt := 988) hx hb dL_law_32 (by decide) (by decide) (by decide) (by decide) ?_
          exact law_save C1 hi5 next hJ hS hl
        · refine lv_tableIn (off := 979) (tgt := 1011) hx hb dL_law_32 (by decide) (by decide) (by decide) (by decide) ?_
          exact law_restore C1 hi5 next hJ hS hl
