section
-- ===== PART A: goes FIRST, ahead of the names: the tables' words, and 'selects' of the private methods out of them =====
/-- a private method of a class that the tables say can be made, by its rows of tables_1 -/
def lw_okq (q : MethodName × Nat) : Prop := (q.1.cls ≠ "java/lang/invoke/MethodHandle" ∧ q.1.cls ≠ "java/lang/invoke/VarHandle") ∧ Cond.instantiable q.1.cls q.2 ∈ tables_1 ∧ Cond.privateMethod q.1 ∈ tables_1 ∧ Cond.instanceMethod q.1 ∈ tables_1
theorem lw_p0 : lw_okq (⟨"TurnedRows", "change", "(LTurnedRows$Row;)V"⟩, 10) := ⟨⟨by decide +kernel, by decide +kernel⟩, List.mem_of_getElem? (i := 11) (by decide +kernel), List.mem_of_getElem? (i := 137) (by decide +kernel), List.mem_of_getElem? (i := 138) (by decide +kernel)⟩
theorem lw_p1 : lw_okq (⟨"TurnedRows$History", "dropOldest", "()V"⟩, 2) := ⟨⟨by decide +kernel, by decide +kernel⟩, List.mem_of_getElem? (i := 44) (by decide +kernel), List.mem_of_getElem? (i := 145) (by decide +kernel), List.mem_of_getElem? (i := 146) (by decide +kernel)⟩
theorem lw_p2 : lw_okq (⟨"TurnedRows", "makeGreatestDivisor", "(LTurnedRows$Row;LTurnedRows$Row;)V"⟩, 10) := ⟨⟨by decide +kernel, by decide +kernel⟩, List.mem_of_getElem? (i := 11) (by decide +kernel), List.mem_of_getElem? (i := 244) (by decide +kernel), List.mem_of_getElem? (i := 245) (by decide +kernel)⟩
theorem lw_p3 : lw_okq (⟨"TurnedRowsModel", "lengths", "()I"⟩, 11) := ⟨⟨by decide +kernel, by decide +kernel⟩, List.mem_of_getElem? (i := 398) (by decide +kernel), List.mem_of_getElem? (i := 450) (by decide +kernel), List.mem_of_getElem? (i := 451) (by decide +kernel)⟩
theorem lw_p4 : lw_okq (⟨"TurnedRowsModel", "lengthOf", "(I)I"⟩, 11) := ⟨⟨by decide +kernel, by decide +kernel⟩, List.mem_of_getElem? (i := 398) (by decide +kernel), List.mem_of_getElem? (i := 454) (by decide +kernel), List.mem_of_getElem? (i := 455) (by decide +kernel)⟩
theorem lw_p5 : lw_okq (⟨"TurnedRowsModel", "record", "()V"⟩, 11) := ⟨⟨by decide +kernel, by decide +kernel⟩, List.mem_of_getElem? (i := 398) (by decide +kernel), List.mem_of_getElem? (i := 462) (by decide +kernel), List.mem_of_getElem? (i := 463) (by decide +kernel)⟩
theorem lw_p6 : lw_okq (⟨"TurnedRowsModel", "blank", "(I)V"⟩, 11) := ⟨⟨by decide +kernel, by decide +kernel⟩, List.mem_of_getElem? (i := 398) (by decide +kernel), List.mem_of_getElem? (i := 480) (by decide +kernel), List.mem_of_getElem? (i := 481) (by decide +kernel)⟩
theorem lw_p7 : lw_okq (⟨"TurnedRowsModel", "at", "(II)I"⟩, 11) := ⟨⟨by decide +kernel, by decide +kernel⟩, List.mem_of_getElem? (i := 398) (by decide +kernel), List.mem_of_getElem? (i := 484) (by decide +kernel), List.mem_of_getElem? (i := 485) (by decide +kernel)⟩
theorem lw_p8 : lw_okq (⟨"TurnedRowsModel", "store", "(I)V"⟩, 11) := ⟨⟨by decide +kernel, by decide +kernel⟩, List.mem_of_getElem? (i := 398) (by decide +kernel), List.mem_of_getElem? (i := 491) (by decide +kernel), List.mem_of_getElem? (i := 492) (by decide +kernel)⟩
theorem lw_p9 : lw_okq (⟨"TurnedRowsModel", "degreeOut", "()I"⟩, 11) := ⟨⟨by decide +kernel, by decide +kernel⟩, List.mem_of_getElem? (i := 398) (by decide +kernel), List.mem_of_getElem? (i := 503) (by decide +kernel), List.mem_of_getElem? (i := 504) (by decide +kernel)⟩
theorem lw_p10 : lw_okq (⟨"TurnedRowsModel", "multiplyOut", "(I)V"⟩, 11) := ⟨⟨by decide +kernel, by decide +kernel⟩, List.mem_of_getElem? (i := 398) (by decide +kernel), List.mem_of_getElem? (i := 511) (by decide +kernel), List.mem_of_getElem? (i := 512) (by decide +kernel)⟩
theorem lw_p11 : lw_okq (⟨"TurnedRowsModel", "degreeOf", "(I)I"⟩, 11) := ⟨⟨by decide +kernel, by decide +kernel⟩, List.mem_of_getElem? (i := 398) (by decide +kernel), List.mem_of_getElem? (i := 532) (by decide +kernel), List.mem_of_getElem? (i := 533) (by decide +kernel)⟩
theorem lw_p12 : lw_okq (⟨"TurnedRowsModel", "divideRows", "(II)V"⟩, 11) := ⟨⟨by decide +kernel, by decide +kernel⟩, List.mem_of_getElem? (i := 398) (by decide +kernel), List.mem_of_getElem? (i := 536) (by decide +kernel), List.mem_of_getElem? (i := 537) (by decide +kernel)⟩
theorem lw_p13 : lw_okq (⟨"TurnedRowsModel", "valueAt", "(II)I"⟩, 11) := ⟨⟨by decide +kernel, by decide +kernel⟩, List.mem_of_getElem? (i := 398) (by decide +kernel), List.mem_of_getElem? (i := 557) (by decide +kernel), List.mem_of_getElem? (i := 558) (by decide +kernel)⟩
theorem lw_p14 : lw_okq (⟨"TurnedRowsModel", "notNought", "(I)I"⟩, 11) := ⟨⟨by decide +kernel, by decide +kernel⟩, List.mem_of_getElem? (i := 398) (by decide +kernel), List.mem_of_getElem? (i := 573) (by decide +kernel), List.mem_of_getElem? (i := 574) (by decide +kernel)⟩
theorem lw_p15 : lw_okq (⟨"TurnedRowsModel", "sumOf", "(I)I"⟩, 11) := ⟨⟨by decide +kernel, by decide +kernel⟩, List.mem_of_getElem? (i := 398) (by decide +kernel), List.mem_of_getElem? (i := 577) (by decide +kernel), List.mem_of_getElem? (i := 578) (by decide +kernel)⟩
def lw_privs_1 : List (MethodName × Nat) := [(⟨"TurnedRows", "change", "(LTurnedRows$Row;)V"⟩, 10), (⟨"TurnedRows$History", "dropOldest", "()V"⟩, 2), (⟨"TurnedRows", "makeGreatestDivisor", "(LTurnedRows$Row;LTurnedRows$Row;)V"⟩, 10), (⟨"TurnedRowsModel", "lengths", "()I"⟩, 11), (⟨"TurnedRowsModel", "lengthOf", "(I)I"⟩, 11), (⟨"TurnedRowsModel", "record", "()V"⟩, 11), (⟨"TurnedRowsModel", "blank", "(I)V"⟩, 11), (⟨"TurnedRowsModel", "at", "(II)I"⟩, 11), (⟨"TurnedRowsModel", "store", "(I)V"⟩, 11), (⟨"TurnedRowsModel", "degreeOut", "()I"⟩, 11), (⟨"TurnedRowsModel", "multiplyOut", "(I)V"⟩, 11), (⟨"TurnedRowsModel", "degreeOf", "(I)I"⟩, 11), (⟨"TurnedRowsModel", "divideRows", "(II)V"⟩, 11), (⟨"TurnedRowsModel", "valueAt", "(II)I"⟩, 11), (⟨"TurnedRowsModel", "notNought", "(I)I"⟩, 11), (⟨"TurnedRowsModel", "sumOf", "(I)I"⟩, 11)]
theorem lw_r1 : ∀ q ∈ lw_privs_1, lw_okq q := List.forall_mem_cons.mpr ⟨lw_p0, List.forall_mem_cons.mpr ⟨lw_p1, List.forall_mem_cons.mpr ⟨lw_p2, List.forall_mem_cons.mpr ⟨lw_p3, List.forall_mem_cons.mpr ⟨lw_p4, List.forall_mem_cons.mpr ⟨lw_p5, List.forall_mem_cons.mpr ⟨lw_p6, List.forall_mem_cons.mpr ⟨lw_p7, List.forall_mem_cons.mpr ⟨lw_p8, List.forall_mem_cons.mpr ⟨lw_p9, List.forall_mem_cons.mpr ⟨lw_p10, List.forall_mem_cons.mpr ⟨lw_p11, List.forall_mem_cons.mpr ⟨lw_p12, List.forall_mem_cons.mpr ⟨lw_p13, List.forall_mem_cons.mpr ⟨lw_p14, List.forall_mem_cons.mpr ⟨lw_p15, fun _ h => absurd h List.not_mem_nil⟩⟩⟩⟩⟩⟩⟩⟩⟩⟩⟩⟩⟩⟩⟩⟩
theorem lw_p16 : lw_okq (⟨"TurnedRowsModel", "noughts", "(IZ)I"⟩, 11) := ⟨⟨by decide +kernel, by decide +kernel⟩, List.mem_of_getElem? (i := 398) (by decide +kernel), List.mem_of_getElem? (i := 581) (by decide +kernel), List.mem_of_getElem? (i := 582) (by decide +kernel)⟩
theorem lw_p17 : lw_okq (⟨"TurnedRowsModel", "places", "(II)I"⟩, 11) := ⟨⟨by decide +kernel, by decide +kernel⟩, List.mem_of_getElem? (i := 398) (by decide +kernel), List.mem_of_getElem? (i := 602) (by decide +kernel), List.mem_of_getElem? (i := 603) (by decide +kernel)⟩
theorem lw_p18 : lw_okq (⟨"TurnedRowsModel", "fitsAt", "(III)Z"⟩, 11) := ⟨⟨by decide +kernel, by decide +kernel⟩, List.mem_of_getElem? (i := 398) (by decide +kernel), List.mem_of_getElem? (i := 607) (by decide +kernel), List.mem_of_getElem? (i := 608) (by decide +kernel)⟩
theorem lw_p19 : lw_okq (⟨"TurnedRowsModel", "sumAt", "(III)I"⟩, 11) := ⟨⟨by decide +kernel, by decide +kernel⟩, List.mem_of_getElem? (i := 398) (by decide +kernel), List.mem_of_getElem? (i := 615) (by decide +kernel), List.mem_of_getElem? (i := 616) (by decide +kernel)⟩
theorem lw_p20 : lw_okq (⟨"TurnedRowsModel", "readPad", "()I"⟩, 11) := ⟨⟨by decide +kernel, by decide +kernel⟩, List.mem_of_getElem? (i := 398) (by decide +kernel), List.mem_of_getElem? (i := 636) (by decide +kernel), List.mem_of_getElem? (i := 637) (by decide +kernel)⟩
def lw_privs_2 : List (MethodName × Nat) := [(⟨"TurnedRowsModel", "noughts", "(IZ)I"⟩, 11), (⟨"TurnedRowsModel", "places", "(II)I"⟩, 11), (⟨"TurnedRowsModel", "fitsAt", "(III)Z"⟩, 11), (⟨"TurnedRowsModel", "sumAt", "(III)I"⟩, 11), (⟨"TurnedRowsModel", "readPad", "()I"⟩, 11)]
theorem lw_r2 : ∀ q ∈ lw_privs_2, lw_okq q := List.forall_mem_cons.mpr ⟨lw_p16, List.forall_mem_cons.mpr ⟨lw_p17, List.forall_mem_cons.mpr ⟨lw_p18, List.forall_mem_cons.mpr ⟨lw_p19, List.forall_mem_cons.mpr ⟨lw_p20, fun _ h => absurd h List.not_mem_nil⟩⟩⟩⟩⟩
def lw_privs : List (MethodName × Nat) := lw_privs_1 ++ (lw_privs_2)
def lw_tbl : List Cond := k2_sels lw_privs ++ tables_1
theorem lw_privs_ok : ∀ q ∈ lw_privs, lw_okq q := by
  show ∀ q ∈ lw_privs_1 ++ (lw_privs_2), lw_okq q
  exact List.forall_mem_append.mpr ⟨lw_r1, lw_r2⟩
-- ===== end of PART A; then your names; then what follows =====
/-! ===== BEGIN words of one list among another's, by their places ===== -/
theorem goodIn_r {big : List Cond} (ws : List Cond) (ps : List Nat) (hp : ws = ps.filterMap (fun i => big[i]?)) (h : ws.all goodWord = true) : GoodIn big ws := by
  intro w hw
  have h1 := List.all_eq_true.mp h w hw
  rw [hp] at hw
  obtain ⟨i, -, hi⟩ := List.mem_filterMap.mp hw
  have hm : w ∈ big := by first | exact List.mem_of_getElem? hi | exact List.getElem?_mem hi
  exact ⟨hm, good_of_word h1⟩
theorem goodIn_app {big a b : List Cond} (ha : GoodIn big a) (hb : GoodIn big b) : GoodIn big (a ++ b) := fun w h => (List.mem_append.mp h).elim (ha w) (hb w)
theorem goodIn_ca {big a b : List Cond} {c : Cond} (ha : GoodIn big (c :: a)) (hb : GoodIn big b) : GoodIn big (c :: (a ++ b)) := fun w h => (List.mem_cons.mp h).elim (fun e => ha w (List.mem_cons.mpr (Or.inl e))) (fun h => (List.mem_append.mp h).elim (fun h => ha w (List.mem_cons.mpr (Or.inr h))) (hb w))
theorem goodIn_sub {big ws : List Cond} (hm : ∀ w ∈ ws, w ∈ big) (h : ws.all goodWord = true) : GoodIn big ws := fun w hw => ⟨hm w hw, good_of_word (List.all_eq_true.mp h w hw)⟩
/-! ===== END ===== -/

/-! ===== BEGIN printed: names, fields, word lists, decode rows ===== -/
def RX0 : String := "TurnedRows$History"
def TX0 : u_T := fun k => match k with
  | 0 => ("TurnedRows$History", "states", "[LTurnedRows$State;", true)
  | _ => ("TurnedRows$History", "length", "I", false)
def tyX0 : Nat → FieldType := fun k => match k with
  | 0 => .array (.object "TurnedRows$State")
  | _ => .int
abbrev wsX00 : List Cond := u_ws RX0 TX0 2
theorem nmX0 : ∀ a, a < 2 → ∀ b, b < 2 → a ≠ b → (TX0 a).2.1 ≠ (TX0 b).2.1 := by decide +kernel
theorem tyX0_ok : ∀ k, k < 2 → parseFieldDescriptor (TX0 k).2.2.1 = some (tyX0 k) := by decide +kernel
abbrev cX0_init : ByteArray := prog_2_method_1_code
def yX0_init : MethodName := ⟨RX0, "<init>", "()V"⟩
abbrev cX0_length : ByteArray := prog_2_method_2_code
def yX0_length : MethodName := ⟨RX0, "length", "()I"⟩
abbrev cX0_keep : ByteArray := prog_2_method_3_code
def yX0_keep : MethodName := ⟨RX0, "keep", "(LTurnedRows$State;)V"⟩
abbrev cX0_takeLatest : ByteArray := prog_2_method_4_code
def yX0_takeLatest : MethodName := ⟨RX0, "takeLatest", "(LTurnedRows$State;)V"⟩
abbrev cX0_dropOldest : ByteArray := prog_2_method_5_code
def yX0_dropOldest : MethodName := ⟨RX0, "dropOldest", "()V"⟩
def RX1 : String := "TurnedRows$Pad"
def TX1 : u_T := fun k => match k with
  | 0 => ("TurnedRows$Pad", "codes", "[I", true)
  | _ => ("TurnedRows$Pad", "length", "I", false)
def tyX1 : Nat → FieldType := fun k => match k with
  | 0 => .array .int
  | _ => .int
abbrev wsX10 : List Cond := u_ws RX1 TX1 2
theorem nmX1 : ∀ a, a < 2 → ∀ b, b < 2 → a ≠ b → (TX1 a).2.1 ≠ (TX1 b).2.1 := by decide +kernel
theorem tyX1_ok : ∀ k, k < 2 → parseFieldDescriptor (TX1 k).2.2.1 = some (tyX1 k) := by decide +kernel
abbrev cX1_init : ByteArray := prog_3_method_1_code
def yX1_init : MethodName := ⟨RX1, "<init>", "()V"⟩
abbrev cX1_length : ByteArray := prog_3_method_2_code
def yX1_length : MethodName := ⟨RX1, "length", "()I"⟩
abbrev cX1_empty : ByteArray := prog_3_method_3_code
def yX1_empty : MethodName := ⟨RX1, "empty", "()V"⟩
abbrev cX1_append : ByteArray := prog_3_method_4_code
def yX1_append : MethodName := ⟨RX1, "append", "(I)V"⟩
abbrev cX1_scan : ByteArray := prog_3_method_5_code
def yX1_scan : MethodName := ⟨RX1, "scan", "(LTurnedRows$Row;)I"⟩
abbrev cX1_withDigit : ByteArray := prog_3_method_6_code
def yX1_withDigit : MethodName := ⟨RX1, "withDigit", "(II)I"⟩
def RX2 : String := "TurnedRows$Row"
def TX2 : u_T := fun k => match k with
  | 0 => ("TurnedRows$Row", "numbers", "[I", true)
  | _ => ("TurnedRows$Row", "length", "I", false)
def tyX2 : Nat → FieldType := fun k => match k with
  | 0 => .array .int
  | _ => .int
abbrev wsX20 : List Cond := u_ws RX2 TX2 2
theorem nmX2 : ∀ a, a < 2 → ∀ b, b < 2 → a ≠ b → (TX2 a).2.1 ≠ (TX2 b).2.1 := by decide +kernel
theorem tyX2_ok : ∀ k, k < 2 → parseFieldDescriptor (TX2 k).2.2.1 = some (tyX2 k) := by decide +kernel
abbrev cX2_init : ByteArray := prog_4_method_1_code
def yX2_init : MethodName := ⟨RX2, "<init>", "()V"⟩
abbrev cX2_length : ByteArray := prog_4_method_2_code
def yX2_length : MethodName := ⟨RX2, "length", "()I"⟩
abbrev cX2_at : ByteArray := prog_4_method_3_code
def yX2_at : MethodName := ⟨RX2, "at", "(I)I"⟩
abbrev cX2_write : ByteArray := prog_4_method_4_code
def yX2_write : MethodName := ⟨RX2, "write", "(II)V"⟩
abbrev cX2_resize : ByteArray := prog_4_method_5_code
def yX2_resize : MethodName := ⟨RX2, "resize", "(I)V"⟩
abbrev cX2_clear : ByteArray := prog_4_method_6_code
def yX2_clear : MethodName := ⟨RX2, "clear", "(I)V"⟩
abbrev cX2_copyFrom : ByteArray := prog_4_method_7_code
def yX2_copyFrom : MethodName := ⟨RX2, "copyFrom", "(LTurnedRows$Row;)V"⟩
abbrev cX2_scale : ByteArray := prog_4_method_8_code
def yX2_scale : MethodName := ⟨RX2, "scale", "(I)V"⟩
abbrev cX2_degree : ByteArray := prog_4_method_9_code
def yX2_degree : MethodName := ⟨RX2, "degree", "()I"⟩
abbrev cX2_countNotZero : ByteArray := prog_4_method_10_code
def yX2_countNotZero : MethodName := ⟨RX2, "countNotZero", "()I"⟩
abbrev cX2_total : ByteArray := prog_4_method_11_code
def yX2_total : MethodName := ⟨RX2, "total", "()I"⟩
abbrev cX2_valueAt : ByteArray := prog_4_method_12_code
def yX2_valueAt : MethodName := ⟨RX2, "valueAt", "(I)I"⟩
abbrev cX2_countRoots : ByteArray := prog_4_method_13_code
def yX2_countRoots : MethodName := ⟨RX2, "countRoots", "()I"⟩
abbrev cX2_leastRoot : ByteArray := prog_4_method_14_code
def yX2_leastRoot : MethodName := ⟨RX2, "leastRoot", "()I"⟩
def RX3 : String := "TurnedRows$State"
def TX3 : u_T := fun k => match k with
  | _ => ("TurnedRows$State", "rows", "[LTurnedRows$Row;", true)
def tyX3 : Nat → FieldType := fun k => match k with
  | _ => .array (.object "TurnedRows$Row")
abbrev wsX30 : List Cond := u_ws RX3 TX3 1
theorem nmX3 : ∀ a, a < 1 → ∀ b, b < 1 → a ≠ b → (TX3 a).2.1 ≠ (TX3 b).2.1 := by decide +kernel
theorem tyX3_ok : ∀ k, k < 1 → parseFieldDescriptor (TX3 k).2.2.1 = some (tyX3 k) := by decide +kernel
abbrev cX3_init : ByteArray := prog_5_method_1_code
def yX3_init : MethodName := ⟨RX3, "<init>", "()V"⟩
abbrev cX3_rowOf : ByteArray := prog_5_method_2_code
def yX3_rowOf : MethodName := ⟨RX3, "rowOf", "(I)LTurnedRows$Row;"⟩
abbrev cX3_lengths : ByteArray := prog_5_method_3_code
def yX3_lengths : MethodName := ⟨RX3, "lengths", "()I"⟩
abbrev cX3_copyFrom : ByteArray := prog_5_method_4_code
def yX3_copyFrom : MethodName := ⟨RX3, "copyFrom", "(LTurnedRows$State;)V"⟩
def RX4 : String := "TurnedRows"
def TX4 : u_T := fun k => match k with
  | 0 => ("TurnedRows", "state", "LTurnedRows$State;", true)
  | 1 => ("TurnedRows", "history", "LTurnedRows$History;", true)
  | 2 => ("TurnedRows", "pad", "LTurnedRows$Pad;", true)
  | 3 => ("TurnedRows", "slots", "[LTurnedRows$State;", true)
  | 4 => ("TurnedRows", "saved", "[Z", true)
  | 5 => ("TurnedRows", "made", "LTurnedRows$Row;", true)
  | 6 => ("TurnedRows", "madeRest", "LTurnedRows$Row;", true)
  | 7 => ("TurnedRows", "stepDividend", "LTurnedRows$Row;", true)
  | 8 => ("TurnedRows", "stepDivisor", "LTurnedRows$Row;", true)
  | _ => ("TurnedRows", "stepResult", "LTurnedRows$Row;", true)
def tyX4 : Nat → FieldType := fun k => match k with
  | 0 => .object "TurnedRows$State"
  | 1 => .object "TurnedRows$History"
  | 2 => .object "TurnedRows$Pad"
  | 3 => .array (.object "TurnedRows$State")
  | 4 => .array .boolean
  | 5 => .object "TurnedRows$Row"
  | 6 => .object "TurnedRows$Row"
  | 7 => .object "TurnedRows$Row"
  | 8 => .object "TurnedRows$Row"
  | _ => .object "TurnedRows$Row"
abbrev wsX40 : List Cond := u_ws RX4 TX4 10
theorem nmX4 : ∀ a, a < 10 → ∀ b, b < 10 → a ≠ b → (TX4 a).2.1 ≠ (TX4 b).2.1 := by decide +kernel
theorem tyX4_ok : ∀ k, k < 10 → parseFieldDescriptor (TX4 k).2.2.1 = some (tyX4 k) := by decide +kernel
abbrev cX4_init : ByteArray := prog_1_method_1_code
def yX4_init : MethodName := ⟨RX4, "<init>", "()V"⟩
abbrev cX4_read : ByteArray := prog_1_method_2_code
def yX4_read : MethodName := ⟨RX4, "read", "(I)I"⟩
abbrev cX4_set : ByteArray := prog_1_method_3_code
def yX4_set : MethodName := ⟨RX4, "set", "(III)I"⟩
abbrev cX4_add : ByteArray := prog_1_method_4_code
def yX4_add : MethodName := ⟨RX4, "add", "(IIII)I"⟩
abbrev cX4_product : ByteArray := prog_1_method_5_code
def yX4_product : MethodName := ⟨RX4, "product", "(III)I"⟩
abbrev cX4_round : ByteArray := prog_1_method_6_code
def yX4_round : MethodName := ⟨RX4, "round", "(IIII)I"⟩
abbrev cX4_power : ByteArray := prog_1_method_7_code
def yX4_power : MethodName := ⟨RX4, "power", "(III)I"⟩
abbrev cX4_inverse : ByteArray := prog_1_method_8_code
def yX4_inverse : MethodName := ⟨RX4, "inverse", "(III)I"⟩
abbrev cX4_divide : ByteArray := prog_1_method_9_code
def yX4_divide : MethodName := ⟨RX4, "divide", "(IIII)I"⟩
abbrev cX4_divisor : ByteArray := prog_1_method_10_code
def yX4_divisor : MethodName := ⟨RX4, "divisor", "(III)I"⟩
abbrev cX4_turn : ByteArray := prog_1_method_11_code
def yX4_turn : MethodName := ⟨RX4, "turn", "(III)I"⟩
abbrev cX4_turnBack : ByteArray := prog_1_method_12_code
def yX4_turnBack : MethodName := ⟨RX4, "turnBack", "(II)I"⟩
abbrev cX4_number : ByteArray := prog_1_method_13_code
def yX4_number : MethodName := ⟨RX4, "number", "(II)I"⟩
abbrev cX4_of : ByteArray := prog_1_method_14_code
def yX4_of : MethodName := ⟨RX4, "of", "(II)I"⟩
abbrev cX4_value : ByteArray := prog_1_method_15_code
def yX4_value : MethodName := ⟨RX4, "value", "(II)I"⟩
abbrev cX4_turningPoint : ByteArray := prog_1_method_16_code
def yX4_turningPoint : MethodName := ⟨RX4, "turningPoint", "(II)I"⟩
abbrev cX4_count : ByteArray := prog_1_method_17_code
def yX4_count : MethodName := ⟨RX4, "count", "(I)I"⟩
abbrev cX4_fits : ByteArray := prog_1_method_18_code
def yX4_fits : MethodName := ⟨RX4, "fits", "(II)J"⟩
abbrev cX4_sum : ByteArray := prog_1_method_19_code
def yX4_sum : MethodName := ⟨RX4, "sum", "(III)I"⟩
abbrev cX4_found : ByteArray := prog_1_method_20_code
def yX4_found : MethodName := ⟨RX4, "found", "(III)I"⟩
abbrev cX4_put : ByteArray := prog_1_method_21_code
def yX4_put : MethodName := ⟨RX4, "put", "(J)I"⟩
abbrev cX4_wipe : ByteArray := prog_1_method_22_code
def yX4_wipe : MethodName := ⟨RX4, "wipe", "()I"⟩
abbrev cX4_fault : ByteArray := prog_1_method_23_code
def yX4_fault : MethodName := ⟨RX4, "fault", "()I"⟩
abbrev cX4_undo : ByteArray := prog_1_method_24_code
def yX4_undo : MethodName := ⟨RX4, "undo", "()I"⟩
abbrev cX4_save : ByteArray := prog_1_method_25_code
def yX4_save : MethodName := ⟨RX4, "save", "(I)I"⟩
abbrev cX4_restore : ByteArray := prog_1_method_26_code
def yX4_restore : MethodName := ⟨RX4, "restore", "(I)I"⟩
abbrev cX4_change : ByteArray := prog_1_method_27_code
def yX4_change : MethodName := ⟨RX4, "change", "(LTurnedRows$Row;)V"⟩
abbrev cX4_isNumber : ByteArray := prog_1_method_28_code
def yX4_isNumber : MethodName := ⟨RX4, "isNumber", "(I)Z"⟩
abbrev cX4_isSlot : ByteArray := prog_1_method_29_code
def yX4_isSlot : MethodName := ⟨RX4, "isSlot", "(I)Z"⟩
abbrev cX4_raise : ByteArray := prog_1_method_30_code
def yX4_raise : MethodName := ⟨RX4, "raise", "(II)I"⟩
abbrev cX4_inverseOf : ByteArray := prog_1_method_31_code
def yX4_inverseOf : MethodName := ⟨RX4, "inverseOf", "(I)I"⟩
abbrev cX4_pointOf : ByteArray := prog_1_method_32_code
def yX4_pointOf : MethodName := ⟨RX4, "pointOf", "(I)I"⟩
abbrev cX4_productLength : ByteArray := prog_1_method_33_code
def yX4_productLength : MethodName := ⟨RX4, "productLength", "(LTurnedRows$Row;LTurnedRows$Row;)I"⟩
abbrev cX4_multiply : ByteArray := prog_1_method_34_code
def yX4_multiply : MethodName := ⟨RX4, "multiply", "(LTurnedRows$Row;LTurnedRows$Row;ILTurnedRows$Row;)V"⟩
abbrev cX4_nextPlace : ByteArray := prog_1_method_35_code
def yX4_nextPlace : MethodName := ⟨RX4, "nextPlace", "(II)I"⟩
abbrev cX4_invertRow : ByteArray := prog_1_method_36_code
def yX4_invertRow : MethodName := ⟨RX4, "invertRow", "(LTurnedRows$Row;ILTurnedRows$Row;)V"⟩
abbrev cX4_divideRows : ByteArray := prog_1_method_37_code
def yX4_divideRows : MethodName := ⟨RX4, "divideRows", "(LTurnedRows$Row;LTurnedRows$Row;LTurnedRows$Row;LTurnedRows$Row;)V"⟩
abbrev cX4_makeGreatestDivisor : ByteArray := prog_1_method_38_code
def yX4_makeGreatestDivisor : MethodName := ⟨RX4, "makeGreatestDivisor", "(LTurnedRows$Row;LTurnedRows$Row;)V"⟩
abbrev cX4_turnAround : ByteArray := prog_1_method_39_code
def yX4_turnAround : MethodName := ⟨RX4, "turnAround", "(LTurnedRows$Row;IILTurnedRows$Row;)V"⟩
abbrev cX4_countPlaces : ByteArray := prog_1_method_40_code
def yX4_countPlaces : MethodName := ⟨RX4, "countPlaces", "(LTurnedRows$Row;LTurnedRows$Row;)I"⟩
abbrev cX4_fitsAt : ByteArray := prog_1_method_41_code
def yX4_fitsAt : MethodName := ⟨RX4, "fitsAt", "(LTurnedRows$Row;LTurnedRows$Row;I)Z"⟩
abbrev cX4_sumAt : ByteArray := prog_1_method_42_code
def yX4_sumAt : MethodName := ⟨RX4, "sumAt", "(LTurnedRows$Row;LTurnedRows$Row;I)I"⟩
abbrev cX4_isFalseOne : ByteArray := prog_1_method_43_code
def yX4_isFalseOne : MethodName := ⟨RX4, "isFalseOne", "(LTurnedRows$Row;LTurnedRows$Row;I)Z"⟩
abbrev cX4_countFits : ByteArray := prog_1_method_44_code
def yX4_countFits : MethodName := ⟨RX4, "countFits", "(LTurnedRows$Row;LTurnedRows$Row;)I"⟩
abbrev cX4_countFalseOnes : ByteArray := prog_1_method_45_code
def yX4_countFalseOnes : MethodName := ⟨RX4, "countFalseOnes", "(LTurnedRows$Row;LTurnedRows$Row;)I"⟩
abbrev cX4_firstFalseOne : ByteArray := prog_1_method_46_code
def yX4_firstFalseOne : MethodName := ⟨RX4, "firstFalseOne", "(LTurnedRows$Row;LTurnedRows$Row;)I"⟩
abbrev cX4_greatestSum : ByteArray := prog_1_method_47_code
def yX4_greatestSum : MethodName := ⟨RX4, "greatestSum", "(LTurnedRows$Row;LTurnedRows$Row;)I"⟩
abbrev cX4_countCharacters : ByteArray := prog_1_method_48_code
def yX4_countCharacters : MethodName := ⟨RX4, "countCharacters", "(J)I"⟩
def RX5 : String := "TurnedRowsModel"
def TX5 : u_T := fun k => match k with
  | 0 => ("TurnedRowsModel", "z", "[I", true)
  | 1 => ("TurnedRowsModel", "past", "[I", true)
  | 2 => ("TurnedRowsModel", "slots", "[I", true)
  | 3 => ("TurnedRowsModel", "isSaved", "[Z", true)
  | 4 => ("TurnedRowsModel", "pastMany", "I", false)
  | 5 => ("TurnedRowsModel", "pad", "[C", true)
  | 6 => ("TurnedRowsModel", "typed", "I", false)
  | 7 => ("TurnedRowsModel", "out", "[I", true)
  | 8 => ("TurnedRowsModel", "length", "I", false)
  | 9 => ("TurnedRowsModel", "one", "[I", true)
  | _ => ("TurnedRowsModel", "two", "[I", true)
def tyX5 : Nat → FieldType := fun k => match k with
  | 0 => .array .int
  | 1 => .array .int
  | 2 => .array .int
  | 3 => .array .boolean
  | 4 => .int
  | 5 => .array .char
  | 6 => .int
  | 7 => .array .int
  | 8 => .int
  | 9 => .array .int
  | _ => .array .int
abbrev wsX50 : List Cond := u_ws RX5 TX5 11
theorem nmX5 : ∀ a, a < 11 → ∀ b, b < 11 → a ≠ b → (TX5 a).2.1 ≠ (TX5 b).2.1 := by decide +kernel
theorem tyX5_ok : ∀ k, k < 11 → parseFieldDescriptor (TX5 k).2.2.1 = some (tyX5 k) := by decide +kernel
abbrev cX5_init : ByteArray := prog_7_method_1_code
def yX5_init : MethodName := ⟨RX5, "<init>", "()V"⟩
abbrev cX5_in : ByteArray := prog_7_method_2_code
def yX5_in : MethodName := ⟨RX5, "in", "(III)Z"⟩
abbrev cX5_isRegister : ByteArray := prog_7_method_3_code
def yX5_isRegister : MethodName := ⟨RX5, "isRegister", "(I)Z"⟩
abbrev cX5_isNumber : ByteArray := prog_7_method_4_code
def yX5_isNumber : MethodName := ⟨RX5, "isNumber", "(I)Z"⟩
abbrev cX5_lengthOf : ByteArray := prog_7_method_5_code
def yX5_lengthOf : MethodName := ⟨RX5, "lengthOf", "(I)I"⟩
abbrev cX5_at : ByteArray := prog_7_method_6_code
def yX5_at : MethodName := ⟨RX5, "at", "(II)I"⟩
abbrev cX5_record : ByteArray := prog_7_method_7_code
def yX5_record : MethodName := ⟨RX5, "record", "()V"⟩
abbrev cX5_undo : ByteArray := prog_7_method_8_code
def yX5_undo : MethodName := ⟨RX5, "undo", "()I"⟩
abbrev cX5_lengths : ByteArray := prog_7_method_9_code
def yX5_lengths : MethodName := ⟨RX5, "lengths", "()I"⟩
abbrev cX5_save : ByteArray := prog_7_method_10_code
def yX5_save : MethodName := ⟨RX5, "save", "(I)I"⟩
abbrev cX5_restore : ByteArray := prog_7_method_11_code
def yX5_restore : MethodName := ⟨RX5, "restore", "(I)I"⟩
abbrev cX5_times : ByteArray := prog_7_method_12_code
def yX5_times : MethodName := ⟨RX5, "times", "(II)I"⟩
abbrev cX5_less : ByteArray := prog_7_method_13_code
def yX5_less : MethodName := ⟨RX5, "less", "(II)I"⟩
abbrev cX5_raised : ByteArray := prog_7_method_14_code
def yX5_raised : MethodName := ⟨RX5, "raised", "(II)I"⟩
abbrev cX5_over : ByteArray := prog_7_method_15_code
def yX5_over : MethodName := ⟨RX5, "over", "(I)I"⟩
abbrev cX5_blank : ByteArray := prog_7_method_16_code
def yX5_blank : MethodName := ⟨RX5, "blank", "(I)V"⟩
abbrev cX5_store : ByteArray := prog_7_method_17_code
def yX5_store : MethodName := ⟨RX5, "store", "(I)V"⟩
abbrev cX5_degreeOf : ByteArray := prog_7_method_18_code
def yX5_degreeOf : MethodName := ⟨RX5, "degreeOf", "(I)I"⟩
abbrev cX5_degreeOut : ByteArray := prog_7_method_19_code
def yX5_degreeOut : MethodName := ⟨RX5, "degreeOut", "()I"⟩
abbrev cX5_set : ByteArray := prog_7_method_20_code
def yX5_set : MethodName := ⟨RX5, "set", "(III)I"⟩
abbrev cX5_add : ByteArray := prog_7_method_21_code
def yX5_add : MethodName := ⟨RX5, "add", "(IIII)I"⟩
abbrev cX5_product : ByteArray := prog_7_method_22_code
def yX5_product : MethodName := ⟨RX5, "product", "(III)I"⟩
abbrev cX5_round : ByteArray := prog_7_method_23_code
def yX5_round : MethodName := ⟨RX5, "round", "(IIII)I"⟩
abbrev cX5_multiplyOut : ByteArray := prog_7_method_24_code
def yX5_multiplyOut : MethodName := ⟨RX5, "multiplyOut", "(I)V"⟩
abbrev cX5_power : ByteArray := prog_7_method_25_code
def yX5_power : MethodName := ⟨RX5, "power", "(III)I"⟩
abbrev cX5_inverse : ByteArray := prog_7_method_26_code
def yX5_inverse : MethodName := ⟨RX5, "inverse", "(III)I"⟩
abbrev cX5_divideRows : ByteArray := prog_7_method_27_code
def yX5_divideRows : MethodName := ⟨RX5, "divideRows", "(II)V"⟩
abbrev cX5_divide : ByteArray := prog_7_method_28_code
def yX5_divide : MethodName := ⟨RX5, "divide", "(IIII)I"⟩
abbrev cX5_degreeIn : ByteArray := prog_7_method_29_code
def yX5_degreeIn : MethodName := ⟨RX5, "degreeIn", "([I)I"⟩
abbrev cX5_divisor : ByteArray := prog_7_method_30_code
def yX5_divisor : MethodName := ⟨RX5, "divisor", "(III)I"⟩
abbrev cX5_isSize : ByteArray := prog_7_method_31_code
def yX5_isSize : MethodName := ⟨RX5, "isSize", "(I)Z"⟩
abbrev cX5_pointOf : ByteArray := prog_7_method_32_code
def yX5_pointOf : MethodName := ⟨RX5, "pointOf", "(I)I"⟩
abbrev cX5_valueAt : ByteArray := prog_7_method_33_code
def yX5_valueAt : MethodName := ⟨RX5, "valueAt", "(II)I"⟩
abbrev cX5_turn : ByteArray := prog_7_method_34_code
def yX5_turn : MethodName := ⟨RX5, "turn", "(III)I"⟩
abbrev cX5_turnBack : ByteArray := prog_7_method_35_code
def yX5_turnBack : MethodName := ⟨RX5, "turnBack", "(II)I"⟩
abbrev cX5_number : ByteArray := prog_7_method_36_code
def yX5_number : MethodName := ⟨RX5, "number", "(II)I"⟩
abbrev cX5_notNought : ByteArray := prog_7_method_37_code
def yX5_notNought : MethodName := ⟨RX5, "notNought", "(I)I"⟩
abbrev cX5_sumOf : ByteArray := prog_7_method_38_code
def yX5_sumOf : MethodName := ⟨RX5, "sumOf", "(I)I"⟩
abbrev cX5_noughts : ByteArray := prog_7_method_39_code
def yX5_noughts : MethodName := ⟨RX5, "noughts", "(IZ)I"⟩
abbrev cX5_of : ByteArray := prog_7_method_40_code
def yX5_of : MethodName := ⟨RX5, "of", "(II)I"⟩
abbrev cX5_value : ByteArray := prog_7_method_41_code
def yX5_value : MethodName := ⟨RX5, "value", "(II)I"⟩
abbrev cX5_turningPoint : ByteArray := prog_7_method_42_code
def yX5_turningPoint : MethodName := ⟨RX5, "turningPoint", "(II)I"⟩
abbrev cX5_count : ByteArray := prog_7_method_43_code
def yX5_count : MethodName := ⟨RX5, "count", "(I)I"⟩
abbrev cX5_places : ByteArray := prog_7_method_44_code
def yX5_places : MethodName := ⟨RX5, "places", "(II)I"⟩
abbrev cX5_fitsAt : ByteArray := prog_7_method_45_code
def yX5_fitsAt : MethodName := ⟨RX5, "fitsAt", "(III)Z"⟩
abbrev cX5_sumAt : ByteArray := prog_7_method_46_code
def yX5_sumAt : MethodName := ⟨RX5, "sumAt", "(III)I"⟩
abbrev cX5_fits : ByteArray := prog_7_method_47_code
def yX5_fits : MethodName := ⟨RX5, "fits", "(II)J"⟩
abbrev cX5_sum : ByteArray := prog_7_method_48_code
def yX5_sum : MethodName := ⟨RX5, "sum", "(III)I"⟩
abbrev cX5_found : ByteArray := prog_7_method_49_code
def yX5_found : MethodName := ⟨RX5, "found", "(III)I"⟩
abbrev cX5_put : ByteArray := prog_7_method_50_code
def yX5_put : MethodName := ⟨RX5, "put", "(J)I"⟩
abbrev cX5_wipe : ByteArray := prog_7_method_51_code
def yX5_wipe : MethodName := ⟨RX5, "wipe", "()I"⟩
abbrev cX5_readPad : ByteArray := prog_7_method_52_code
def yX5_readPad : MethodName := ⟨RX5, "readPad", "()I"⟩
abbrev cX5_fault : ByteArray := prog_7_method_53_code
def yX5_fault : MethodName := ⟨RX5, "fault", "()I"⟩
abbrev cX5_read : ByteArray := prog_7_method_54_code
def yX5_read : MethodName := ⟨RX5, "read", "(I)I"⟩
def RJ9 : String := "java/lang/Math"
def TJ9 : u_T := fun k => match k with
  | _ => ("", "", "", false)
def tyJ9 : Nat → FieldType := fun k => match k with
  | _ => .int
abbrev wsJ90 : List Cond := u_ws RJ9 TJ9 0
theorem nmJ9 : ∀ a, a < 0 → ∀ b, b < 0 → a ≠ b → (TJ9 a).2.1 ≠ (TJ9 b).2.1 := by decide +kernel
theorem tyJ9_ok : ∀ k, k < 0 → parseFieldDescriptor (TJ9 k).2.2.1 = some (tyJ9 k) := by decide +kernel
abbrev cJ9_floorMod_7cf53 : ByteArray := prog_8_method_50_code
def yJ9_floorMod_7cf53 : MethodName := ⟨RJ9, "floorMod", "(II)I"⟩
abbrev cJ9_max_7cf53 : ByteArray := prog_8_method_65_code
def yJ9_max_7cf53 : MethodName := ⟨RJ9, "max", "(II)I"⟩
def RJ10 : String := "java/lang/System"
def TJ10 : u_T := fun k => match k with
  | _ => ("", "", "", false)
def tyJ10 : Nat → FieldType := fun k => match k with
  | _ => .int
abbrev wsJ100 : List Cond := u_ws RJ10 TJ10 0
theorem nmJ10 : ∀ a, a < 0 → ∀ b, b < 0 → a ≠ b → (TJ10 a).2.1 ≠ (TJ10 b).2.1 := by decide +kernel
theorem tyJ10_ok : ∀ k, k < 0 → parseFieldDescriptor (TJ10 k).2.2.1 = some (tyJ10 k) := by decide +kernel
def RJ7 : String := "java/util/Arrays"
def TJ7 : u_T := fun k => match k with
  | _ => ("", "", "", false)
def tyJ7 : Nat → FieldType := fun k => match k with
  | _ => .int
abbrev wsJ70 : List Cond := u_ws RJ7 TJ7 0
theorem nmJ7 : ∀ a, a < 0 → ∀ b, b < 0 → a ≠ b → (TJ7 a).2.1 ≠ (TJ7 b).2.1 := by decide +kernel
theorem tyJ7_ok : ∀ k, k < 0 → parseFieldDescriptor (TJ7 k).2.2.1 = some (tyJ7 k) := by decide +kernel
abbrev cJ7_fill_53178 : ByteArray := prog_10_method_103_code
def yJ7_fill_53178 : MethodName := ⟨RJ7, "fill", "([II)V"⟩
def RL : String := "TurnedRowsLaw"
abbrev cL_law : ByteArray := code
def yL_law : MethodName := ⟨RL, "law", "([I)Z"⟩
def wsX2_init : List Cond := .code yX2_init cX2_init 1 none :: ([.methodLink RX2 3 objectInit, .instanceMethod objectInit, .code objectInit ⟨#[0xb1]⟩ 1 none, .arrayClass .int, .fieldLink RX2 9 "TurnedRows$Row" "numbers" "[I", .fieldLink RX2 15 "TurnedRows$Row" "length" "I"] ++ wsX20)
def wsX3_init : List Cond := .code yX3_init cX3_init 2 none :: ([.methodLink RX3 3 objectInit, .instanceMethod objectInit, .code objectInit ⟨#[0xb1]⟩ 1 none, .classLink RX3 9 RX2, .fieldLink RX3 11 "TurnedRows$State" "rows" "[LTurnedRows$Row;", .instantiable RX2 2, .initialized RX2, .instanceMethod yX2_init, .code yX2_init cX2_init 1 none, .methodLink RX2 3 objectInit, .arrayClass .int, .fieldLink RX2 9 "TurnedRows$Row" "numbers" "[I", .fieldLink RX2 15 "TurnedRows$Row" "length" "I"] ++ wsX30 ++ wsX20)
def wsX0_init : List Cond := .code yX0_init cX0_init 2 none :: ([.methodLink RX0 3 objectInit, .instanceMethod objectInit, .code objectInit ⟨#[0xb1]⟩ 1 none, .classLink RX0 9 RX3, .fieldLink RX0 11 "TurnedRows$History" "states" "[LTurnedRows$State;", .fieldLink RX0 17 "TurnedRows$History" "length" "I", .instantiable RX3 1, .initialized RX3, .methodLink RX0 21 yX3_init, .instanceMethod yX3_init, .code yX3_init cX3_init 2 none, .methodLink RX3 3 objectInit, .classLink RX3 9 RX2, .fieldLink RX3 11 "TurnedRows$State" "rows" "[LTurnedRows$Row;", .instantiable RX2 2, .initialized RX2, .instanceMethod yX2_init, .code yX2_init cX2_init 1 none, .methodLink RX2 3 objectInit, .arrayClass .int, .fieldLink RX2 9 "TurnedRows$Row" "numbers" "[I", .fieldLink RX2 15 "TurnedRows$Row" "length" "I"] ++ wsX00 ++ wsX30 ++ wsX20)
def wsX0_length : List Cond := .code yX0_length cX0_length 1 (some .int) :: ([.fieldLink RX0 17 "TurnedRows$History" "length" "I"] ++ wsX00)
def wsX0_dropOldest : List Cond := .code yX0_dropOldest cX0_dropOldest 3 none :: ([.fieldLink RX0 11 "TurnedRows$History" "states" "[LTurnedRows$State;", .fieldLink RX0 17 "TurnedRows$History" "length" "I"] ++ wsX00)
def wsX2_copyFrom : List Cond := .code yX2_copyFrom cX2_copyFrom 2 none :: ([.fieldLink RX2 9 "TurnedRows$Row" "numbers" "[I", .methodLink RX2 35 arraycopyName, .native arraycopyName, .static arraycopyName, .initialized "java/lang/System", .fieldLink RX2 15 "TurnedRows$Row" "length" "I"] ++ wsX20)
def wsX3_copyFrom : List Cond := .code yX3_copyFrom cX3_copyFrom 3 none :: ([.fieldLink RX3 11 "TurnedRows$State" "rows" "[LTurnedRows$Row;", .methodLink RX3 22 yX2_copyFrom, .instanceMethod yX2_copyFrom, .selects RX2 yX2_copyFrom yX2_copyFrom, .initialized RX2, .code yX2_copyFrom cX2_copyFrom 2 none, .fieldLink RX2 9 "TurnedRows$Row" "numbers" "[I", .methodLink RX2 35 arraycopyName, .native arraycopyName, .static arraycopyName, .initialized "java/lang/System", .fieldLink RX2 15 "TurnedRows$Row" "length" "I"] ++ wsX30 ++ wsX20)
def wsX0_keep : List Cond := .code yX0_keep cX0_keep 2 none :: ([.fieldLink RX0 17 "TurnedRows$History" "length" "I", .fieldLink RX0 11 "TurnedRows$History" "states" "[LTurnedRows$State;", .methodLink RX0 22 yX0_dropOldest, .instanceMethod yX0_dropOldest, .selects RX0 yX0_dropOldest yX0_dropOldest, .initialized RX0, .code yX0_dropOldest cX0_dropOldest 3 none, .methodLink RX0 25 yX3_copyFrom, .instanceMethod yX3_copyFrom, .selects RX3 yX3_copyFrom yX3_copyFrom, .initialized RX3, .code yX3_copyFrom cX3_copyFrom 3 none, .fieldLink RX3 11 "TurnedRows$State" "rows" "[LTurnedRows$Row;", .methodLink RX3 22 yX2_copyFrom, .instanceMethod yX2_copyFrom, .selects RX2 yX2_copyFrom yX2_copyFrom, .initialized RX2, .code yX2_copyFrom cX2_copyFrom 2 none, .fieldLink RX2 9 "TurnedRows$Row" "numbers" "[I", .methodLink RX2 35 arraycopyName, .native arraycopyName, .static arraycopyName, .initialized "java/lang/System", .fieldLink RX2 15 "TurnedRows$Row" "length" "I"] ++ wsX00 ++ wsX30 ++ wsX20)
def wsX0_takeLatest : List Cond := .code yX0_takeLatest cX0_takeLatest 2 none :: ([.fieldLink RX0 17 "TurnedRows$History" "length" "I", .fieldLink RX0 11 "TurnedRows$History" "states" "[LTurnedRows$State;", .methodLink RX0 25 yX3_copyFrom, .instanceMethod yX3_copyFrom, .selects RX3 yX3_copyFrom yX3_copyFrom, .initialized RX3, .code yX3_copyFrom cX3_copyFrom 3 none, .fieldLink RX3 11 "TurnedRows$State" "rows" "[LTurnedRows$Row;", .methodLink RX3 22 yX2_copyFrom, .instanceMethod yX2_copyFrom, .selects RX2 yX2_copyFrom yX2_copyFrom, .initialized RX2, .code yX2_copyFrom cX2_copyFrom 2 none, .fieldLink RX2 9 "TurnedRows$Row" "numbers" "[I", .methodLink RX2 35 arraycopyName, .native arraycopyName, .static arraycopyName, .initialized "java/lang/System", .fieldLink RX2 15 "TurnedRows$Row" "length" "I"] ++ wsX00 ++ wsX30 ++ wsX20)
def wsX1_init : List Cond := .code yX1_init cX1_init 1 none :: ([.methodLink RX1 3 objectInit, .instanceMethod objectInit, .code objectInit ⟨#[0xb1]⟩ 1 none, .arrayClass .int, .fieldLink RX1 9 "TurnedRows$Pad" "codes" "[I", .fieldLink RX1 15 "TurnedRows$Pad" "length" "I"] ++ wsX10)
def wsX1_length : List Cond := .code yX1_length cX1_length 1 (some .int) :: ([.fieldLink RX1 15 "TurnedRows$Pad" "length" "I"] ++ wsX10)
def wsX1_empty : List Cond := .code yX1_empty cX1_empty 1 none :: ([.fieldLink RX1 15 "TurnedRows$Pad" "length" "I"] ++ wsX10)
def wsX1_append : List Cond := .code yX1_append cX1_append 2 none :: ([.fieldLink RX1 15 "TurnedRows$Pad" "length" "I", .fieldLink RX1 9 "TurnedRows$Pad" "codes" "[I"] ++ wsX10)
def wsX1_withDigit : List Cond := .code yX1_withDigit cX1_withDigit 3 (some .int) :: ([.methodLink RX1 33 Lib.Math.max.name, .static Lib.Math.max.name, .initialized "java/lang/Math", .code Lib.Math.max.name Lib.Math.max.code 2 (some .int)])
def wsJ9_floorMod_7cf53 : List Cond := .code yJ9_floorMod_7cf53 cJ9_floorMod_7cf53 3 (some .int) :: ([])
def wsX2_write : List Cond := .code yX2_write cX2_write 3 none :: ([.fieldLink RX2 9 "TurnedRows$Row" "numbers" "[I", .methodLink RX2 19 yJ9_floorMod_7cf53, .static yJ9_floorMod_7cf53, .initialized RJ9, .code yJ9_floorMod_7cf53 cJ9_floorMod_7cf53 3 (some .int)] ++ wsX20)
def wsX2_resize : List Cond := .code yX2_resize cX2_resize 3 none :: ([.fieldLink RX2 15 "TurnedRows$Row" "length" "I", .methodLink RX2 25 yX2_write, .instanceMethod yX2_write, .selects RX2 yX2_write yX2_write, .initialized RX2, .code yX2_write cX2_write 3 none, .fieldLink RX2 9 "TurnedRows$Row" "numbers" "[I", .methodLink RX2 19 yJ9_floorMod_7cf53, .static yJ9_floorMod_7cf53, .initialized RJ9, .code yJ9_floorMod_7cf53 cJ9_floorMod_7cf53 3 (some .int)] ++ wsX20)
def wsX1_scan_r1 : List Cond := [Cond.fieldLink RX1 9 "TurnedRows$Pad" "codes" "[I", Cond.fieldLink RX1 15 "TurnedRows$Pad" "length" "I", Cond.methodLink RX1 19 yX1_withDigit, Cond.static yX1_withDigit, Cond.initialized RX1, Cond.code yX1_withDigit cX1_withDigit 3 (some .int), Cond.methodLink RX1 33 Lib.Math.max.name, Cond.static Lib.Math.max.name, Cond.initialized "java/lang/Math", Cond.code Lib.Math.max.name Lib.Math.max.code 2 (some .int), Cond.methodLink RX1 23 yX2_write, Cond.instanceMethod yX2_write, Cond.selects RX2 yX2_write yX2_write, Cond.initialized RX2, Cond.code yX2_write cX2_write 3 none, Cond.fieldLink RX2 9 "TurnedRows$Row" "numbers" "[I", Cond.methodLink RX2 19 yJ9_floorMod_7cf53, Cond.static yJ9_floorMod_7cf53, Cond.initialized RJ9, Cond.code yJ9_floorMod_7cf53 cJ9_floorMod_7cf53 3 (some .int), Cond.methodLink RX1 29 yX2_resize, Cond.instanceMethod yX2_resize, Cond.selects RX2 yX2_resize yX2_resize, Cond.code yX2_resize cX2_resize 3 none]
def wsX1_scan_r2 : List Cond := [Cond.fieldLink RX2 15 "TurnedRows$Row" "length" "I", Cond.methodLink RX2 25 yX2_write]
def wsX1_scan : List Cond := .code yX1_scan cX1_scan 5 (some .int) :: ((wsX1_scan_r1 ++ wsX1_scan_r2) ++ wsX10 ++ wsX20)
def wsX2_length : List Cond := .code yX2_length cX2_length 1 (some .int) :: ([.fieldLink RX2 15 "TurnedRows$Row" "length" "I"] ++ wsX20)
def wsX2_at : List Cond := .code yX2_at cX2_at 2 (some .int) :: ([.fieldLink RX2 9 "TurnedRows$Row" "numbers" "[I"] ++ wsX20)
def wsJ7_fill_53178 : List Cond := .code yJ7_fill_53178 cJ7_fill_53178 4 none :: ([])
def wsX2_clear : List Cond := .code yX2_clear cX2_clear 2 none :: ([.fieldLink RX2 9 "TurnedRows$Row" "numbers" "[I", .fieldLink RX2 15 "TurnedRows$Row" "length" "I", .methodLink RX2 29 yJ7_fill_53178, .static yJ7_fill_53178, .initialized RJ7, .code yJ7_fill_53178 cJ7_fill_53178 4 none] ++ wsX20)
def wsX2_scale : List Cond := .code yX2_scale cX2_scale 3 none :: ([.fieldLink RX2 15 "TurnedRows$Row" "length" "I", .methodLink RX2 41 yX2_at, .instanceMethod yX2_at, .selects RX2 yX2_at yX2_at, .initialized RX2, .code yX2_at cX2_at 2 (some .int), .fieldLink RX2 9 "TurnedRows$Row" "numbers" "[I", .methodLink RX2 25 yX2_write, .instanceMethod yX2_write, .selects RX2 yX2_write yX2_write, .code yX2_write cX2_write 3 none, .methodLink RX2 19 yJ9_floorMod_7cf53, .static yJ9_floorMod_7cf53, .initialized RJ9, .code yJ9_floorMod_7cf53 cJ9_floorMod_7cf53 3 (some .int)] ++ wsX20)
def wsX2_degree : List Cond := .code yX2_degree cX2_degree 2 (some .int) :: ([.fieldLink RX2 15 "TurnedRows$Row" "length" "I", .methodLink RX2 41 yX2_at, .instanceMethod yX2_at, .selects RX2 yX2_at yX2_at, .initialized RX2, .code yX2_at cX2_at 2 (some .int), .fieldLink RX2 9 "TurnedRows$Row" "numbers" "[I"] ++ wsX20)
def wsX2_countNotZero : List Cond := .code yX2_countNotZero cX2_countNotZero 3 (some .int) :: ([.fieldLink RX2 15 "TurnedRows$Row" "length" "I", .methodLink RX2 41 yX2_at, .instanceMethod yX2_at, .selects RX2 yX2_at yX2_at, .initialized RX2, .code yX2_at cX2_at 2 (some .int), .fieldLink RX2 9 "TurnedRows$Row" "numbers" "[I"] ++ wsX20)
def wsX2_total : List Cond := .code yX2_total cX2_total 3 (some .int) :: ([.fieldLink RX2 15 "TurnedRows$Row" "length" "I", .methodLink RX2 41 yX2_at, .instanceMethod yX2_at, .selects RX2 yX2_at yX2_at, .initialized RX2, .code yX2_at cX2_at 2 (some .int), .fieldLink RX2 9 "TurnedRows$Row" "numbers" "[I"] ++ wsX20)
def wsX2_valueAt : List Cond := .code yX2_valueAt cX2_valueAt 4 (some .int) :: ([.fieldLink RX2 15 "TurnedRows$Row" "length" "I", .methodLink RX2 41 yX2_at, .instanceMethod yX2_at, .selects RX2 yX2_at yX2_at, .initialized RX2, .code yX2_at cX2_at 2 (some .int), .fieldLink RX2 9 "TurnedRows$Row" "numbers" "[I"] ++ wsX20)
def wsX2_countRoots : List Cond := .code yX2_countRoots cX2_countRoots 3 (some .int) :: ([.methodLink RX2 45 yX2_valueAt, .instanceMethod yX2_valueAt, .selects RX2 yX2_valueAt yX2_valueAt, .initialized RX2, .code yX2_valueAt cX2_valueAt 4 (some .int), .fieldLink RX2 15 "TurnedRows$Row" "length" "I", .methodLink RX2 41 yX2_at, .instanceMethod yX2_at, .selects RX2 yX2_at yX2_at, .code yX2_at cX2_at 2 (some .int), .fieldLink RX2 9 "TurnedRows$Row" "numbers" "[I"] ++ wsX20)
def wsX2_leastRoot : List Cond := .code yX2_leastRoot cX2_leastRoot 2 (some .int) :: ([.methodLink RX2 45 yX2_valueAt, .instanceMethod yX2_valueAt, .selects RX2 yX2_valueAt yX2_valueAt, .initialized RX2, .code yX2_valueAt cX2_valueAt 4 (some .int), .fieldLink RX2 15 "TurnedRows$Row" "length" "I", .methodLink RX2 41 yX2_at, .instanceMethod yX2_at, .selects RX2 yX2_at yX2_at, .code yX2_at cX2_at 2 (some .int), .fieldLink RX2 9 "TurnedRows$Row" "numbers" "[I"] ++ wsX20)
def wsX3_rowOf : List Cond := .code yX3_rowOf cX3_rowOf 2 (some (.object "TurnedRows$Row")) :: ([.fieldLink RX3 11 "TurnedRows$State" "rows" "[LTurnedRows$Row;"] ++ wsX30)
def wsX3_lengths : List Cond := .code yX3_lengths cX3_lengths 3 (some .int) :: ([.fieldLink RX3 11 "TurnedRows$State" "rows" "[LTurnedRows$Row;", .methodLink RX3 18 yX2_length, .instanceMethod yX2_length, .selects RX2 yX2_length yX2_length, .initialized RX2, .code yX2_length cX2_length 1 (some .int), .fieldLink RX2 15 "TurnedRows$Row" "length" "I"] ++ wsX30 ++ wsX20)
def wsX4_init_r1 : List Cond := [Cond.methodLink RX4 1 objectInit, Cond.instanceMethod objectInit, Cond.code objectInit ⟨#[0xb1]⟩ 1 none, Cond.classLink RX4 7 RX3, Cond.instantiable RX3 1, Cond.initialized RX3, Cond.fieldLink RX4 10 "TurnedRows" "state" "LTurnedRows$State;", Cond.classLink RX4 16 RX0, Cond.instantiable RX0 2, Cond.initialized RX0, Cond.fieldLink RX4 19 "TurnedRows" "history" "LTurnedRows$History;", Cond.classLink RX4 23 RX1, Cond.instantiable RX1 2, Cond.initialized RX1, Cond.fieldLink RX4 26 "TurnedRows" "pad" "LTurnedRows$Pad;", Cond.fieldLink RX4 30 "TurnedRows" "slots" "[LTurnedRows$State;", Cond.arrayClass .boolean, Cond.fieldLink RX4 34 "TurnedRows" "saved" "[Z", Cond.classLink RX4 38 RX2, Cond.instantiable RX2 2, Cond.initialized RX2, Cond.fieldLink RX4 41 "TurnedRows" "made" "LTurnedRows$Row;", Cond.fieldLink RX4 45 "TurnedRows" "madeRest" "LTurnedRows$Row;", Cond.fieldLink RX4 48 "TurnedRows" "stepDividend" "LTurnedRows$Row;"]
def wsX4_init_r2 : List Cond := [Cond.fieldLink RX4 51 "TurnedRows" "stepDivisor" "LTurnedRows$Row;", Cond.fieldLink RX4 54 "TurnedRows" "stepResult" "LTurnedRows$Row;", Cond.methodLink RX4 9 yX3_init, Cond.instanceMethod yX3_init, Cond.code yX3_init cX3_init 2 none, Cond.methodLink RX3 3 objectInit, Cond.classLink RX3 9 RX2, Cond.fieldLink RX3 11 "TurnedRows$State" "rows" "[LTurnedRows$Row;", Cond.instanceMethod yX2_init, Cond.code yX2_init cX2_init 1 none, Cond.methodLink RX2 3 objectInit, Cond.arrayClass .int, Cond.fieldLink RX2 9 "TurnedRows$Row" "numbers" "[I", Cond.fieldLink RX2 15 "TurnedRows$Row" "length" "I", Cond.methodLink RX4 18 yX0_init, Cond.instanceMethod yX0_init, Cond.code yX0_init cX0_init 2 none, Cond.methodLink RX0 3 objectInit, Cond.classLink RX0 9 RX3, Cond.fieldLink RX0 11 "TurnedRows$History" "states" "[LTurnedRows$State;", Cond.fieldLink RX0 17 "TurnedRows$History" "length" "I", Cond.methodLink RX0 21 yX3_init, Cond.instanceMethod yX1_init, Cond.code yX1_init cX1_init 1 none]
def wsX4_init_r3 : List Cond := [Cond.methodLink RX1 3 objectInit, Cond.fieldLink RX1 9 "TurnedRows$Pad" "codes" "[I", Cond.fieldLink RX1 15 "TurnedRows$Pad" "length" "I"]
def wsX4_init : List Cond := .code yX4_init cX4_init 2 none :: ((wsX4_init_r1 ++ (wsX4_init_r2 ++ wsX4_init_r3)) ++ wsX30 ++ wsX40 ++ wsX00 ++ wsX10 ++ wsX20)
def wsX4_change_r1 : List Cond := [Cond.fieldLink RX4 19 "TurnedRows" "history" "LTurnedRows$History;", Cond.fieldLink RX4 10 "TurnedRows" "state" "LTurnedRows$State;", Cond.fieldLink RX4 41 "TurnedRows" "made" "LTurnedRows$Row;", Cond.methodLink RX4 80 yX0_keep, Cond.instanceMethod yX0_keep, Cond.selects RX0 yX0_keep yX0_keep, Cond.initialized RX0, Cond.code yX0_keep cX0_keep 2 none, Cond.fieldLink RX0 17 "TurnedRows$History" "length" "I", Cond.fieldLink RX0 11 "TurnedRows$History" "states" "[LTurnedRows$State;", Cond.methodLink RX0 22 yX0_dropOldest, Cond.instanceMethod yX0_dropOldest, Cond.selects RX0 yX0_dropOldest yX0_dropOldest, Cond.code yX0_dropOldest cX0_dropOldest 3 none, Cond.methodLink RX0 25 yX3_copyFrom, Cond.instanceMethod yX3_copyFrom, Cond.selects RX3 yX3_copyFrom yX3_copyFrom, Cond.initialized RX3, Cond.code yX3_copyFrom cX3_copyFrom 3 none, Cond.fieldLink RX3 11 "TurnedRows$State" "rows" "[LTurnedRows$Row;", Cond.methodLink RX3 22 yX2_copyFrom, Cond.instanceMethod yX2_copyFrom, Cond.selects RX2 yX2_copyFrom yX2_copyFrom, Cond.initialized RX2]
def wsX4_change_r2 : List Cond := [Cond.code yX2_copyFrom cX2_copyFrom 2 none, Cond.fieldLink RX2 9 "TurnedRows$Row" "numbers" "[I", Cond.methodLink RX2 35 arraycopyName, Cond.native arraycopyName, Cond.static arraycopyName, Cond.initialized "java/lang/System", Cond.fieldLink RX2 15 "TurnedRows$Row" "length" "I", Cond.methodLink RX4 116 yX2_copyFrom]
def wsX4_change : List Cond := .code yX4_change cX4_change 2 none :: ((wsX4_change_r1 ++ wsX4_change_r2) ++ wsX40 ++ wsX00 ++ wsX30 ++ wsX20)
def wsX4_read_r1 : List Cond := [Cond.fieldLink RX4 10 "TurnedRows" "state" "LTurnedRows$State;", Cond.fieldLink RX4 26 "TurnedRows" "pad" "LTurnedRows$Pad;", Cond.fieldLink RX4 41 "TurnedRows" "made" "LTurnedRows$Row;", Cond.methodLink RX4 57 yX3_rowOf, Cond.instanceMethod yX3_rowOf, Cond.selects RX3 yX3_rowOf yX3_rowOf, Cond.initialized RX3, Cond.code yX3_rowOf cX3_rowOf 2 (some (.object "TurnedRows$Row")), Cond.fieldLink RX3 11 "TurnedRows$State" "rows" "[LTurnedRows$Row;", Cond.methodLink RX4 61 yX1_scan, Cond.instanceMethod yX1_scan, Cond.selects RX1 yX1_scan yX1_scan, Cond.initialized RX1, Cond.code yX1_scan cX1_scan 5 (some .int), Cond.fieldLink RX1 9 "TurnedRows$Pad" "codes" "[I", Cond.fieldLink RX1 15 "TurnedRows$Pad" "length" "I", Cond.methodLink RX1 19 yX1_withDigit, Cond.static yX1_withDigit, Cond.code yX1_withDigit cX1_withDigit 3 (some .int), Cond.methodLink RX1 33 Lib.Math.max.name, Cond.static Lib.Math.max.name, Cond.initialized "java/lang/Math", Cond.code Lib.Math.max.name Lib.Math.max.code 2 (some .int), Cond.methodLink RX1 23 yX2_write]
def wsX4_read_r2 : List Cond := [Cond.instanceMethod yX2_write, Cond.selects RX2 yX2_write yX2_write, Cond.initialized RX2, Cond.code yX2_write cX2_write 3 none, Cond.fieldLink RX2 9 "TurnedRows$Row" "numbers" "[I", Cond.methodLink RX2 19 yJ9_floorMod_7cf53, Cond.static yJ9_floorMod_7cf53, Cond.initialized RJ9, Cond.code yJ9_floorMod_7cf53 cJ9_floorMod_7cf53 3 (some .int), Cond.methodLink RX1 29 yX2_resize, Cond.instanceMethod yX2_resize, Cond.selects RX2 yX2_resize yX2_resize, Cond.code yX2_resize cX2_resize 3 none, Cond.fieldLink RX2 15 "TurnedRows$Row" "length" "I", Cond.methodLink RX2 25 yX2_write, Cond.methodLink RX4 65 yX4_change, Cond.instanceMethod yX4_change, Cond.selects RX4 yX4_change yX4_change, Cond.initialized RX4, Cond.code yX4_change cX4_change 2 none, Cond.fieldLink RX4 19 "TurnedRows" "history" "LTurnedRows$History;", Cond.methodLink RX4 80 yX0_keep, Cond.instanceMethod yX0_keep, Cond.selects RX0 yX0_keep yX0_keep]
def wsX4_read_r3 : List Cond := [Cond.initialized RX0, Cond.code yX0_keep cX0_keep 2 none, Cond.fieldLink RX0 17 "TurnedRows$History" "length" "I", Cond.fieldLink RX0 11 "TurnedRows$History" "states" "[LTurnedRows$State;", Cond.methodLink RX0 22 yX0_dropOldest, Cond.instanceMethod yX0_dropOldest, Cond.selects RX0 yX0_dropOldest yX0_dropOldest, Cond.code yX0_dropOldest cX0_dropOldest 3 none, Cond.methodLink RX0 25 yX3_copyFrom, Cond.instanceMethod yX3_copyFrom, Cond.selects RX3 yX3_copyFrom yX3_copyFrom, Cond.code yX3_copyFrom cX3_copyFrom 3 none, Cond.methodLink RX3 22 yX2_copyFrom, Cond.instanceMethod yX2_copyFrom, Cond.selects RX2 yX2_copyFrom yX2_copyFrom, Cond.code yX2_copyFrom cX2_copyFrom 2 none, Cond.methodLink RX2 35 arraycopyName, Cond.native arraycopyName, Cond.static arraycopyName, Cond.initialized "java/lang/System", Cond.methodLink RX4 116 yX2_copyFrom, Cond.methodLink RX4 69 yX1_empty, Cond.instanceMethod yX1_empty, Cond.selects RX1 yX1_empty yX1_empty]
def wsX4_read_r4 : List Cond := [Cond.code yX1_empty cX1_empty 1 none, Cond.methodLink RX4 72 yX2_length, Cond.instanceMethod yX2_length, Cond.selects RX2 yX2_length yX2_length, Cond.code yX2_length cX2_length 1 (some .int)]
def wsX4_read : List Cond := .code yX4_read cX4_read 3 (some .int) :: ((wsX4_read_r1 ++ (wsX4_read_r2 ++ (wsX4_read_r3 ++ wsX4_read_r4))) ++ wsX40 ++ wsX30 ++ wsX10 ++ wsX20 ++ wsX00)
def wsX4_isNumber : List Cond := .code yX4_isNumber cX4_isNumber 1 (some .boolean) :: ([])
def wsX4_set_r1 : List Cond := [Cond.fieldLink RX4 10 "TurnedRows" "state" "LTurnedRows$State;", Cond.fieldLink RX4 19 "TurnedRows" "history" "LTurnedRows$History;", Cond.methodLink RX4 84 Lib.Math.max.name, Cond.static Lib.Math.max.name, Cond.initialized "java/lang/Math", Cond.code Lib.Math.max.name Lib.Math.max.code 2 (some .int), Cond.methodLink RX4 57 yX3_rowOf, Cond.instanceMethod yX3_rowOf, Cond.selects RX3 yX3_rowOf yX3_rowOf, Cond.initialized RX3, Cond.code yX3_rowOf cX3_rowOf 2 (some (.object "TurnedRows$Row")), Cond.fieldLink RX3 11 "TurnedRows$State" "rows" "[LTurnedRows$Row;", Cond.methodLink RX4 72 yX2_length, Cond.instanceMethod yX2_length, Cond.selects RX2 yX2_length yX2_length, Cond.initialized RX2, Cond.code yX2_length cX2_length 1 (some .int), Cond.fieldLink RX2 15 "TurnedRows$Row" "length" "I", Cond.methodLink RX4 76 yX4_isNumber, Cond.static yX4_isNumber, Cond.initialized RX4, Cond.code yX4_isNumber cX4_isNumber 1 (some .boolean), Cond.methodLink RX4 80 yX0_keep, Cond.instanceMethod yX0_keep]
def wsX4_set_r2 : List Cond := [Cond.selects RX0 yX0_keep yX0_keep, Cond.initialized RX0, Cond.code yX0_keep cX0_keep 2 none, Cond.fieldLink RX0 17 "TurnedRows$History" "length" "I", Cond.fieldLink RX0 11 "TurnedRows$History" "states" "[LTurnedRows$State;", Cond.methodLink RX0 22 yX0_dropOldest, Cond.instanceMethod yX0_dropOldest, Cond.selects RX0 yX0_dropOldest yX0_dropOldest, Cond.code yX0_dropOldest cX0_dropOldest 3 none, Cond.methodLink RX0 25 yX3_copyFrom, Cond.instanceMethod yX3_copyFrom, Cond.selects RX3 yX3_copyFrom yX3_copyFrom, Cond.code yX3_copyFrom cX3_copyFrom 3 none, Cond.methodLink RX3 22 yX2_copyFrom, Cond.instanceMethod yX2_copyFrom, Cond.selects RX2 yX2_copyFrom yX2_copyFrom, Cond.code yX2_copyFrom cX2_copyFrom 2 none, Cond.fieldLink RX2 9 "TurnedRows$Row" "numbers" "[I", Cond.methodLink RX2 35 arraycopyName, Cond.native arraycopyName, Cond.static arraycopyName, Cond.initialized "java/lang/System", Cond.methodLink RX4 90 yX2_resize, Cond.instanceMethod yX2_resize]
def wsX4_set_r3 : List Cond := [Cond.selects RX2 yX2_resize yX2_resize, Cond.code yX2_resize cX2_resize 3 none, Cond.methodLink RX2 25 yX2_write, Cond.instanceMethod yX2_write, Cond.selects RX2 yX2_write yX2_write, Cond.code yX2_write cX2_write 3 none, Cond.methodLink RX2 19 yJ9_floorMod_7cf53, Cond.static yJ9_floorMod_7cf53, Cond.initialized RJ9, Cond.code yJ9_floorMod_7cf53 cJ9_floorMod_7cf53 3 (some .int), Cond.methodLink RX4 94 yX2_write]
def wsX4_set : List Cond := .code yX4_set cX4_set 5 (some .int) :: ((wsX4_set_r1 ++ (wsX4_set_r2 ++ wsX4_set_r3)) ++ wsX40 ++ wsX30 ++ wsX20 ++ wsX00)
def wsX4_add_r1 : List Cond := [Cond.fieldLink RX4 10 "TurnedRows" "state" "LTurnedRows$State;", Cond.fieldLink RX4 41 "TurnedRows" "made" "LTurnedRows$Row;", Cond.methodLink RX4 84 Lib.Math.max.name, Cond.static Lib.Math.max.name, Cond.initialized "java/lang/Math", Cond.code Lib.Math.max.name Lib.Math.max.code 2 (some .int), Cond.methodLink RX4 57 yX3_rowOf, Cond.instanceMethod yX3_rowOf, Cond.selects RX3 yX3_rowOf yX3_rowOf, Cond.initialized RX3, Cond.code yX3_rowOf cX3_rowOf 2 (some (.object "TurnedRows$Row")), Cond.fieldLink RX3 11 "TurnedRows$State" "rows" "[LTurnedRows$Row;", Cond.methodLink RX4 76 yX4_isNumber, Cond.static yX4_isNumber, Cond.initialized RX4, Cond.code yX4_isNumber cX4_isNumber 1 (some .boolean), Cond.methodLink RX4 72 yX2_length, Cond.instanceMethod yX2_length, Cond.selects RX2 yX2_length yX2_length, Cond.initialized RX2, Cond.code yX2_length cX2_length 1 (some .int), Cond.fieldLink RX2 15 "TurnedRows$Row" "length" "I", Cond.methodLink RX4 98 yX2_clear, Cond.instanceMethod yX2_clear]
def wsX4_add_r2 : List Cond := [Cond.selects RX2 yX2_clear yX2_clear, Cond.code yX2_clear cX2_clear 2 none, Cond.fieldLink RX2 9 "TurnedRows$Row" "numbers" "[I", Cond.methodLink RX2 29 yJ7_fill_53178, Cond.static yJ7_fill_53178, Cond.initialized RJ7, Cond.code yJ7_fill_53178 cJ7_fill_53178 4 none, Cond.methodLink RX4 101 yX2_at, Cond.instanceMethod yX2_at, Cond.selects RX2 yX2_at yX2_at, Cond.code yX2_at cX2_at 2 (some .int), Cond.methodLink RX4 94 yX2_write, Cond.instanceMethod yX2_write, Cond.selects RX2 yX2_write yX2_write, Cond.code yX2_write cX2_write 3 none, Cond.methodLink RX2 19 yJ9_floorMod_7cf53, Cond.static yJ9_floorMod_7cf53, Cond.initialized RJ9, Cond.code yJ9_floorMod_7cf53 cJ9_floorMod_7cf53 3 (some .int), Cond.methodLink RX4 65 yX4_change, Cond.instanceMethod yX4_change, Cond.selects RX4 yX4_change yX4_change, Cond.code yX4_change cX4_change 2 none, Cond.fieldLink RX4 19 "TurnedRows" "history" "LTurnedRows$History;"]
def wsX4_add_r3 : List Cond := [Cond.methodLink RX4 80 yX0_keep, Cond.instanceMethod yX0_keep, Cond.selects RX0 yX0_keep yX0_keep, Cond.initialized RX0, Cond.code yX0_keep cX0_keep 2 none, Cond.fieldLink RX0 17 "TurnedRows$History" "length" "I", Cond.fieldLink RX0 11 "TurnedRows$History" "states" "[LTurnedRows$State;", Cond.methodLink RX0 22 yX0_dropOldest, Cond.instanceMethod yX0_dropOldest, Cond.selects RX0 yX0_dropOldest yX0_dropOldest, Cond.code yX0_dropOldest cX0_dropOldest 3 none, Cond.methodLink RX0 25 yX3_copyFrom, Cond.instanceMethod yX3_copyFrom, Cond.selects RX3 yX3_copyFrom yX3_copyFrom, Cond.code yX3_copyFrom cX3_copyFrom 3 none, Cond.methodLink RX3 22 yX2_copyFrom, Cond.instanceMethod yX2_copyFrom, Cond.selects RX2 yX2_copyFrom yX2_copyFrom, Cond.code yX2_copyFrom cX2_copyFrom 2 none, Cond.methodLink RX2 35 arraycopyName, Cond.native arraycopyName, Cond.static arraycopyName, Cond.initialized "java/lang/System", Cond.methodLink RX4 116 yX2_copyFrom]
def wsX4_add : List Cond := .code yX4_add cX4_add 9 (some .int) :: ((wsX4_add_r1 ++ (wsX4_add_r2 ++ wsX4_add_r3)) ++ wsX40 ++ wsX30 ++ wsX20 ++ wsX00)
def wsX4_productLength : List Cond := .code yX4_productLength cX4_productLength 2 (some .int) :: ([.methodLink RX4 72 yX2_length, .instanceMethod yX2_length, .selects RX2 yX2_length yX2_length, .initialized RX2, .code yX2_length cX2_length 1 (some .int), .fieldLink RX2 15 "TurnedRows$Row" "length" "I"] ++ wsX20)
def wsX4_nextPlace : List Cond := .code yX4_nextPlace cX4_nextPlace 2 (some .int) :: ([])
def wsX4_multiply_r1 : List Cond := [Cond.methodLink RX4 98 yX2_clear, Cond.instanceMethod yX2_clear, Cond.selects RX2 yX2_clear yX2_clear, Cond.initialized RX2, Cond.code yX2_clear cX2_clear 2 none, Cond.fieldLink RX2 9 "TurnedRows$Row" "numbers" "[I", Cond.fieldLink RX2 15 "TurnedRows$Row" "length" "I", Cond.methodLink RX2 29 yJ7_fill_53178, Cond.static yJ7_fill_53178, Cond.initialized RJ7, Cond.code yJ7_fill_53178 cJ7_fill_53178 4 none, Cond.methodLink RX4 72 yX2_length, Cond.instanceMethod yX2_length, Cond.selects RX2 yX2_length yX2_length, Cond.code yX2_length cX2_length 1 (some .int), Cond.methodLink RX4 101 yX2_at, Cond.instanceMethod yX2_at, Cond.selects RX2 yX2_at yX2_at, Cond.code yX2_at cX2_at 2 (some .int), Cond.methodLink RX4 94 yX2_write, Cond.instanceMethod yX2_write, Cond.selects RX2 yX2_write yX2_write, Cond.code yX2_write cX2_write 3 none, Cond.methodLink RX2 19 yJ9_floorMod_7cf53]
def wsX4_multiply_r2 : List Cond := [Cond.static yJ9_floorMod_7cf53, Cond.initialized RJ9, Cond.code yJ9_floorMod_7cf53 cJ9_floorMod_7cf53 3 (some .int), Cond.methodLink RX4 209 yX4_nextPlace, Cond.static yX4_nextPlace, Cond.initialized RX4, Cond.code yX4_nextPlace cX4_nextPlace 2 (some .int)]
def wsX4_multiply : List Cond := .code yX4_multiply cX4_multiply 8 none :: ((wsX4_multiply_r1 ++ wsX4_multiply_r2) ++ wsX20)
def wsX4_product_r1 : List Cond := [Cond.fieldLink RX4 10 "TurnedRows" "state" "LTurnedRows$State;", Cond.fieldLink RX4 41 "TurnedRows" "made" "LTurnedRows$Row;", Cond.methodLink RX4 57 yX3_rowOf, Cond.instanceMethod yX3_rowOf, Cond.selects RX3 yX3_rowOf yX3_rowOf, Cond.initialized RX3, Cond.code yX3_rowOf cX3_rowOf 2 (some (.object "TurnedRows$Row")), Cond.fieldLink RX3 11 "TurnedRows$State" "rows" "[LTurnedRows$Row;", Cond.methodLink RX4 105 yX4_productLength, Cond.static yX4_productLength, Cond.initialized RX4, Cond.code yX4_productLength cX4_productLength 2 (some .int), Cond.methodLink RX4 72 yX2_length, Cond.instanceMethod yX2_length, Cond.selects RX2 yX2_length yX2_length, Cond.initialized RX2, Cond.code yX2_length cX2_length 1 (some .int), Cond.fieldLink RX2 15 "TurnedRows$Row" "length" "I", Cond.methodLink RX4 109 yX4_multiply, Cond.static yX4_multiply, Cond.code yX4_multiply cX4_multiply 8 none, Cond.methodLink RX4 98 yX2_clear, Cond.instanceMethod yX2_clear, Cond.selects RX2 yX2_clear yX2_clear]
def wsX4_product_r2 : List Cond := [Cond.code yX2_clear cX2_clear 2 none, Cond.fieldLink RX2 9 "TurnedRows$Row" "numbers" "[I", Cond.methodLink RX2 29 yJ7_fill_53178, Cond.static yJ7_fill_53178, Cond.initialized RJ7, Cond.code yJ7_fill_53178 cJ7_fill_53178 4 none, Cond.methodLink RX4 101 yX2_at, Cond.instanceMethod yX2_at, Cond.selects RX2 yX2_at yX2_at, Cond.code yX2_at cX2_at 2 (some .int), Cond.methodLink RX4 94 yX2_write, Cond.instanceMethod yX2_write, Cond.selects RX2 yX2_write yX2_write, Cond.code yX2_write cX2_write 3 none, Cond.methodLink RX2 19 yJ9_floorMod_7cf53, Cond.static yJ9_floorMod_7cf53, Cond.initialized RJ9, Cond.code yJ9_floorMod_7cf53 cJ9_floorMod_7cf53 3 (some .int), Cond.methodLink RX4 209 yX4_nextPlace, Cond.static yX4_nextPlace, Cond.code yX4_nextPlace cX4_nextPlace 2 (some .int), Cond.methodLink RX4 65 yX4_change, Cond.instanceMethod yX4_change, Cond.selects RX4 yX4_change yX4_change]
def wsX4_product_r3 : List Cond := [Cond.code yX4_change cX4_change 2 none, Cond.fieldLink RX4 19 "TurnedRows" "history" "LTurnedRows$History;", Cond.methodLink RX4 80 yX0_keep, Cond.instanceMethod yX0_keep, Cond.selects RX0 yX0_keep yX0_keep, Cond.initialized RX0, Cond.code yX0_keep cX0_keep 2 none, Cond.fieldLink RX0 17 "TurnedRows$History" "length" "I", Cond.fieldLink RX0 11 "TurnedRows$History" "states" "[LTurnedRows$State;", Cond.methodLink RX0 22 yX0_dropOldest, Cond.instanceMethod yX0_dropOldest, Cond.selects RX0 yX0_dropOldest yX0_dropOldest, Cond.code yX0_dropOldest cX0_dropOldest 3 none, Cond.methodLink RX0 25 yX3_copyFrom, Cond.instanceMethod yX3_copyFrom, Cond.selects RX3 yX3_copyFrom yX3_copyFrom, Cond.code yX3_copyFrom cX3_copyFrom 3 none, Cond.methodLink RX3 22 yX2_copyFrom, Cond.instanceMethod yX2_copyFrom, Cond.selects RX2 yX2_copyFrom yX2_copyFrom, Cond.code yX2_copyFrom cX2_copyFrom 2 none, Cond.methodLink RX2 35 arraycopyName, Cond.native arraycopyName, Cond.static arraycopyName]
def wsX4_product_r4 : List Cond := [Cond.initialized "java/lang/System", Cond.methodLink RX4 116 yX2_copyFrom]
def wsX4_product : List Cond := .code yX4_product cX4_product 8 (some .int) :: ((wsX4_product_r1 ++ (wsX4_product_r2 ++ (wsX4_product_r3 ++ wsX4_product_r4))) ++ wsX40 ++ wsX30 ++ wsX20 ++ wsX00)
def wsX4_round_r1 : List Cond := [Cond.fieldLink RX4 10 "TurnedRows" "state" "LTurnedRows$State;", Cond.fieldLink RX4 41 "TurnedRows" "made" "LTurnedRows$Row;", Cond.methodLink RX4 57 yX3_rowOf, Cond.instanceMethod yX3_rowOf, Cond.selects RX3 yX3_rowOf yX3_rowOf, Cond.initialized RX3, Cond.code yX3_rowOf cX3_rowOf 2 (some (.object "TurnedRows$Row")), Cond.fieldLink RX3 11 "TurnedRows$State" "rows" "[LTurnedRows$Row;", Cond.methodLink RX4 109 yX4_multiply, Cond.static yX4_multiply, Cond.initialized RX4, Cond.code yX4_multiply cX4_multiply 8 none, Cond.methodLink RX4 98 yX2_clear, Cond.instanceMethod yX2_clear, Cond.selects RX2 yX2_clear yX2_clear, Cond.initialized RX2, Cond.code yX2_clear cX2_clear 2 none, Cond.fieldLink RX2 9 "TurnedRows$Row" "numbers" "[I", Cond.fieldLink RX2 15 "TurnedRows$Row" "length" "I", Cond.methodLink RX2 29 yJ7_fill_53178, Cond.static yJ7_fill_53178, Cond.initialized RJ7, Cond.code yJ7_fill_53178 cJ7_fill_53178 4 none, Cond.methodLink RX4 72 yX2_length]
def wsX4_round_r2 : List Cond := [Cond.instanceMethod yX2_length, Cond.selects RX2 yX2_length yX2_length, Cond.code yX2_length cX2_length 1 (some .int), Cond.methodLink RX4 101 yX2_at, Cond.instanceMethod yX2_at, Cond.selects RX2 yX2_at yX2_at, Cond.code yX2_at cX2_at 2 (some .int), Cond.methodLink RX4 94 yX2_write, Cond.instanceMethod yX2_write, Cond.selects RX2 yX2_write yX2_write, Cond.code yX2_write cX2_write 3 none, Cond.methodLink RX2 19 yJ9_floorMod_7cf53, Cond.static yJ9_floorMod_7cf53, Cond.initialized RJ9, Cond.code yJ9_floorMod_7cf53 cJ9_floorMod_7cf53 3 (some .int), Cond.methodLink RX4 209 yX4_nextPlace, Cond.static yX4_nextPlace, Cond.code yX4_nextPlace cX4_nextPlace 2 (some .int), Cond.methodLink RX4 65 yX4_change, Cond.instanceMethod yX4_change, Cond.selects RX4 yX4_change yX4_change, Cond.code yX4_change cX4_change 2 none, Cond.fieldLink RX4 19 "TurnedRows" "history" "LTurnedRows$History;", Cond.methodLink RX4 80 yX0_keep]
def wsX4_round_r3 : List Cond := [Cond.instanceMethod yX0_keep, Cond.selects RX0 yX0_keep yX0_keep, Cond.initialized RX0, Cond.code yX0_keep cX0_keep 2 none, Cond.fieldLink RX0 17 "TurnedRows$History" "length" "I", Cond.fieldLink RX0 11 "TurnedRows$History" "states" "[LTurnedRows$State;", Cond.methodLink RX0 22 yX0_dropOldest, Cond.instanceMethod yX0_dropOldest, Cond.selects RX0 yX0_dropOldest yX0_dropOldest, Cond.code yX0_dropOldest cX0_dropOldest 3 none, Cond.methodLink RX0 25 yX3_copyFrom, Cond.instanceMethod yX3_copyFrom, Cond.selects RX3 yX3_copyFrom yX3_copyFrom, Cond.code yX3_copyFrom cX3_copyFrom 3 none, Cond.methodLink RX3 22 yX2_copyFrom, Cond.instanceMethod yX2_copyFrom, Cond.selects RX2 yX2_copyFrom yX2_copyFrom, Cond.code yX2_copyFrom cX2_copyFrom 2 none, Cond.methodLink RX2 35 arraycopyName, Cond.native arraycopyName, Cond.static arraycopyName, Cond.initialized "java/lang/System", Cond.methodLink RX4 116 yX2_copyFrom, Cond.methodLink RX4 113 yX2_degree]
def wsX4_round_r4 : List Cond := [Cond.instanceMethod yX2_degree, Cond.selects RX2 yX2_degree yX2_degree, Cond.code yX2_degree cX2_degree 2 (some .int), Cond.methodLink RX2 41 yX2_at]
def wsX4_round : List Cond := .code yX4_round cX4_round 8 (some .int) :: ((wsX4_round_r1 ++ (wsX4_round_r2 ++ (wsX4_round_r3 ++ wsX4_round_r4))) ++ wsX40 ++ wsX30 ++ wsX20 ++ wsX00)
def wsX4_power_r1 : List Cond := [Cond.fieldLink RX4 10 "TurnedRows" "state" "LTurnedRows$State;", Cond.fieldLink RX4 41 "TurnedRows" "made" "LTurnedRows$Row;", Cond.fieldLink RX4 54 "TurnedRows" "stepResult" "LTurnedRows$Row;", Cond.methodLink RX4 57 yX3_rowOf, Cond.instanceMethod yX3_rowOf, Cond.selects RX3 yX3_rowOf yX3_rowOf, Cond.initialized RX3, Cond.code yX3_rowOf cX3_rowOf 2 (some (.object "TurnedRows$Row")), Cond.fieldLink RX3 11 "TurnedRows$State" "rows" "[LTurnedRows$Row;", Cond.methodLink RX4 72 yX2_length, Cond.instanceMethod yX2_length, Cond.selects RX2 yX2_length yX2_length, Cond.initialized RX2, Cond.code yX2_length cX2_length 1 (some .int), Cond.fieldLink RX2 15 "TurnedRows$Row" "length" "I", Cond.methodLink RX4 98 yX2_clear, Cond.instanceMethod yX2_clear, Cond.selects RX2 yX2_clear yX2_clear, Cond.code yX2_clear cX2_clear 2 none, Cond.fieldLink RX2 9 "TurnedRows$Row" "numbers" "[I", Cond.methodLink RX2 29 yJ7_fill_53178, Cond.static yJ7_fill_53178, Cond.initialized RJ7, Cond.code yJ7_fill_53178 cJ7_fill_53178 4 none]
def wsX4_power_r2 : List Cond := [Cond.methodLink RX4 94 yX2_write, Cond.instanceMethod yX2_write, Cond.selects RX2 yX2_write yX2_write, Cond.code yX2_write cX2_write 3 none, Cond.methodLink RX2 19 yJ9_floorMod_7cf53, Cond.static yJ9_floorMod_7cf53, Cond.initialized RJ9, Cond.code yJ9_floorMod_7cf53 cJ9_floorMod_7cf53 3 (some .int), Cond.methodLink RX4 105 yX4_productLength, Cond.static yX4_productLength, Cond.initialized RX4, Cond.code yX4_productLength cX4_productLength 2 (some .int), Cond.methodLink RX4 109 yX4_multiply, Cond.static yX4_multiply, Cond.code yX4_multiply cX4_multiply 8 none, Cond.methodLink RX4 101 yX2_at, Cond.instanceMethod yX2_at, Cond.selects RX2 yX2_at yX2_at, Cond.code yX2_at cX2_at 2 (some .int), Cond.methodLink RX4 209 yX4_nextPlace, Cond.static yX4_nextPlace, Cond.code yX4_nextPlace cX4_nextPlace 2 (some .int), Cond.methodLink RX4 116 yX2_copyFrom, Cond.instanceMethod yX2_copyFrom]
def wsX4_power_r3 : List Cond := [Cond.selects RX2 yX2_copyFrom yX2_copyFrom, Cond.code yX2_copyFrom cX2_copyFrom 2 none, Cond.methodLink RX2 35 arraycopyName, Cond.native arraycopyName, Cond.static arraycopyName, Cond.initialized "java/lang/System", Cond.methodLink RX4 65 yX4_change, Cond.instanceMethod yX4_change, Cond.selects RX4 yX4_change yX4_change, Cond.code yX4_change cX4_change 2 none, Cond.fieldLink RX4 19 "TurnedRows" "history" "LTurnedRows$History;", Cond.methodLink RX4 80 yX0_keep, Cond.instanceMethod yX0_keep, Cond.selects RX0 yX0_keep yX0_keep, Cond.initialized RX0, Cond.code yX0_keep cX0_keep 2 none, Cond.fieldLink RX0 17 "TurnedRows$History" "length" "I", Cond.fieldLink RX0 11 "TurnedRows$History" "states" "[LTurnedRows$State;", Cond.methodLink RX0 22 yX0_dropOldest, Cond.instanceMethod yX0_dropOldest, Cond.selects RX0 yX0_dropOldest yX0_dropOldest, Cond.code yX0_dropOldest cX0_dropOldest 3 none, Cond.methodLink RX0 25 yX3_copyFrom, Cond.instanceMethod yX3_copyFrom]
def wsX4_power_r4 : List Cond := [Cond.selects RX3 yX3_copyFrom yX3_copyFrom, Cond.code yX3_copyFrom cX3_copyFrom 3 none, Cond.methodLink RX3 22 yX2_copyFrom]
def wsX4_power : List Cond := .code yX4_power cX4_power 7 (some .int) :: ((wsX4_power_r1 ++ (wsX4_power_r2 ++ (wsX4_power_r3 ++ wsX4_power_r4))) ++ wsX40 ++ wsX30 ++ wsX20 ++ wsX00)
def wsX4_raise : List Cond := .code yX4_raise cX4_raise 5 (some .int) :: ([])
def wsX4_inverseOf : List Cond := .code yX4_inverseOf cX4_inverseOf 1 (some .int) :: ([.methodLink RX4 159 yX4_raise, .static yX4_raise, .initialized RX4, .code yX4_raise cX4_raise 5 (some .int)])
def wsX4_invertRow_r1 : List Cond := [Cond.methodLink RX4 101 yX2_at, Cond.instanceMethod yX2_at, Cond.selects RX2 yX2_at yX2_at, Cond.initialized RX2, Cond.code yX2_at cX2_at 2 (some .int), Cond.fieldLink RX2 9 "TurnedRows$Row" "numbers" "[I", Cond.methodLink RX4 141 yX4_inverseOf, Cond.static yX4_inverseOf, Cond.initialized RX4, Cond.code yX4_inverseOf cX4_inverseOf 1 (some .int), Cond.methodLink RX4 159 yX4_raise, Cond.static yX4_raise, Cond.code yX4_raise cX4_raise 5 (some .int), Cond.methodLink RX4 98 yX2_clear, Cond.instanceMethod yX2_clear, Cond.selects RX2 yX2_clear yX2_clear, Cond.code yX2_clear cX2_clear 2 none, Cond.fieldLink RX2 15 "TurnedRows$Row" "length" "I", Cond.methodLink RX2 29 yJ7_fill_53178, Cond.static yJ7_fill_53178, Cond.initialized RJ7, Cond.code yJ7_fill_53178 cJ7_fill_53178 4 none, Cond.methodLink RX4 94 yX2_write, Cond.instanceMethod yX2_write]
def wsX4_invertRow_r2 : List Cond := [Cond.selects RX2 yX2_write yX2_write, Cond.code yX2_write cX2_write 3 none, Cond.methodLink RX2 19 yJ9_floorMod_7cf53, Cond.static yJ9_floorMod_7cf53, Cond.initialized RJ9, Cond.code yJ9_floorMod_7cf53 cJ9_floorMod_7cf53 3 (some .int)]
def wsX4_invertRow : List Cond := .code yX4_invertRow cX4_invertRow 7 none :: ((wsX4_invertRow_r1 ++ wsX4_invertRow_r2) ++ wsX20)
def wsX4_inverse_r1 : List Cond := [Cond.fieldLink RX4 10 "TurnedRows" "state" "LTurnedRows$State;", Cond.fieldLink RX4 41 "TurnedRows" "made" "LTurnedRows$Row;", Cond.methodLink RX4 57 yX3_rowOf, Cond.instanceMethod yX3_rowOf, Cond.selects RX3 yX3_rowOf yX3_rowOf, Cond.initialized RX3, Cond.code yX3_rowOf cX3_rowOf 2 (some (.object "TurnedRows$Row")), Cond.fieldLink RX3 11 "TurnedRows$State" "rows" "[LTurnedRows$Row;", Cond.methodLink RX4 101 yX2_at, Cond.instanceMethod yX2_at, Cond.selects RX2 yX2_at yX2_at, Cond.initialized RX2, Cond.code yX2_at cX2_at 2 (some .int), Cond.fieldLink RX2 9 "TurnedRows$Row" "numbers" "[I", Cond.methodLink RX4 119 yX4_invertRow, Cond.static yX4_invertRow, Cond.initialized RX4, Cond.code yX4_invertRow cX4_invertRow 7 none, Cond.methodLink RX4 141 yX4_inverseOf, Cond.static yX4_inverseOf, Cond.code yX4_inverseOf cX4_inverseOf 1 (some .int), Cond.methodLink RX4 159 yX4_raise, Cond.static yX4_raise, Cond.code yX4_raise cX4_raise 5 (some .int)]
def wsX4_inverse_r2 : List Cond := [Cond.methodLink RX4 98 yX2_clear, Cond.instanceMethod yX2_clear, Cond.selects RX2 yX2_clear yX2_clear, Cond.code yX2_clear cX2_clear 2 none, Cond.fieldLink RX2 15 "TurnedRows$Row" "length" "I", Cond.methodLink RX2 29 yJ7_fill_53178, Cond.static yJ7_fill_53178, Cond.initialized RJ7, Cond.code yJ7_fill_53178 cJ7_fill_53178 4 none, Cond.methodLink RX4 94 yX2_write, Cond.instanceMethod yX2_write, Cond.selects RX2 yX2_write yX2_write, Cond.code yX2_write cX2_write 3 none, Cond.methodLink RX2 19 yJ9_floorMod_7cf53, Cond.static yJ9_floorMod_7cf53, Cond.initialized RJ9, Cond.code yJ9_floorMod_7cf53 cJ9_floorMod_7cf53 3 (some .int), Cond.methodLink RX4 65 yX4_change, Cond.instanceMethod yX4_change, Cond.selects RX4 yX4_change yX4_change, Cond.code yX4_change cX4_change 2 none, Cond.fieldLink RX4 19 "TurnedRows" "history" "LTurnedRows$History;", Cond.methodLink RX4 80 yX0_keep, Cond.instanceMethod yX0_keep]
def wsX4_inverse_r3 : List Cond := [Cond.selects RX0 yX0_keep yX0_keep, Cond.initialized RX0, Cond.code yX0_keep cX0_keep 2 none, Cond.fieldLink RX0 17 "TurnedRows$History" "length" "I", Cond.fieldLink RX0 11 "TurnedRows$History" "states" "[LTurnedRows$State;", Cond.methodLink RX0 22 yX0_dropOldest, Cond.instanceMethod yX0_dropOldest, Cond.selects RX0 yX0_dropOldest yX0_dropOldest, Cond.code yX0_dropOldest cX0_dropOldest 3 none, Cond.methodLink RX0 25 yX3_copyFrom, Cond.instanceMethod yX3_copyFrom, Cond.selects RX3 yX3_copyFrom yX3_copyFrom, Cond.code yX3_copyFrom cX3_copyFrom 3 none, Cond.methodLink RX3 22 yX2_copyFrom, Cond.instanceMethod yX2_copyFrom, Cond.selects RX2 yX2_copyFrom yX2_copyFrom, Cond.code yX2_copyFrom cX2_copyFrom 2 none, Cond.methodLink RX2 35 arraycopyName, Cond.native arraycopyName, Cond.static arraycopyName, Cond.initialized "java/lang/System", Cond.methodLink RX4 116 yX2_copyFrom, Cond.methodLink RX4 113 yX2_degree, Cond.instanceMethod yX2_degree]
def wsX4_inverse_r4 : List Cond := [Cond.selects RX2 yX2_degree yX2_degree, Cond.code yX2_degree cX2_degree 2 (some .int), Cond.methodLink RX2 41 yX2_at]
def wsX4_inverse : List Cond := .code yX4_inverse cX4_inverse 6 (some .int) :: ((wsX4_inverse_r1 ++ (wsX4_inverse_r2 ++ (wsX4_inverse_r3 ++ wsX4_inverse_r4))) ++ wsX40 ++ wsX30 ++ wsX20 ++ wsX00)
def wsX4_divideRows_r1 : List Cond := [Cond.methodLink RX4 84 Lib.Math.max.name, Cond.static Lib.Math.max.name, Cond.initialized "java/lang/Math", Cond.code Lib.Math.max.name Lib.Math.max.code 2 (some .int), Cond.methodLink RX4 113 yX2_degree, Cond.instanceMethod yX2_degree, Cond.selects RX2 yX2_degree yX2_degree, Cond.initialized RX2, Cond.code yX2_degree cX2_degree 2 (some .int), Cond.fieldLink RX2 15 "TurnedRows$Row" "length" "I", Cond.methodLink RX2 41 yX2_at, Cond.instanceMethod yX2_at, Cond.selects RX2 yX2_at yX2_at, Cond.code yX2_at cX2_at 2 (some .int), Cond.fieldLink RX2 9 "TurnedRows$Row" "numbers" "[I", Cond.methodLink RX4 101 yX2_at, Cond.methodLink RX4 141 yX4_inverseOf, Cond.static yX4_inverseOf, Cond.initialized RX4, Cond.code yX4_inverseOf cX4_inverseOf 1 (some .int), Cond.methodLink RX4 159 yX4_raise, Cond.static yX4_raise, Cond.code yX4_raise cX4_raise 5 (some .int), Cond.methodLink RX4 98 yX2_clear]
def wsX4_divideRows_r2 : List Cond := [Cond.instanceMethod yX2_clear, Cond.selects RX2 yX2_clear yX2_clear, Cond.code yX2_clear cX2_clear 2 none, Cond.methodLink RX2 29 yJ7_fill_53178, Cond.static yJ7_fill_53178, Cond.initialized RJ7, Cond.code yJ7_fill_53178 cJ7_fill_53178 4 none, Cond.methodLink RX4 116 yX2_copyFrom, Cond.instanceMethod yX2_copyFrom, Cond.selects RX2 yX2_copyFrom yX2_copyFrom, Cond.code yX2_copyFrom cX2_copyFrom 2 none, Cond.methodLink RX2 35 arraycopyName, Cond.native arraycopyName, Cond.static arraycopyName, Cond.initialized "java/lang/System", Cond.methodLink RX4 94 yX2_write, Cond.instanceMethod yX2_write, Cond.selects RX2 yX2_write yX2_write, Cond.code yX2_write cX2_write 3 none, Cond.methodLink RX2 19 yJ9_floorMod_7cf53, Cond.static yJ9_floorMod_7cf53, Cond.initialized RJ9, Cond.code yJ9_floorMod_7cf53 cJ9_floorMod_7cf53 3 (some .int), Cond.methodLink RX4 90 yX2_resize]
def wsX4_divideRows_r3 : List Cond := [Cond.instanceMethod yX2_resize, Cond.selects RX2 yX2_resize yX2_resize, Cond.code yX2_resize cX2_resize 3 none, Cond.methodLink RX2 25 yX2_write]
def wsX4_divideRows : List Cond := .code yX4_divideRows cX4_divideRows 10 none :: ((wsX4_divideRows_r1 ++ (wsX4_divideRows_r2 ++ wsX4_divideRows_r3)) ++ wsX20)
def wsX4_divide_r1 : List Cond := [Cond.fieldLink RX4 10 "TurnedRows" "state" "LTurnedRows$State;", Cond.fieldLink RX4 41 "TurnedRows" "made" "LTurnedRows$Row;", Cond.fieldLink RX4 45 "TurnedRows" "madeRest" "LTurnedRows$Row;", Cond.methodLink RX4 57 yX3_rowOf, Cond.instanceMethod yX3_rowOf, Cond.selects RX3 yX3_rowOf yX3_rowOf, Cond.initialized RX3, Cond.code yX3_rowOf cX3_rowOf 2 (some (.object "TurnedRows$Row")), Cond.fieldLink RX3 11 "TurnedRows$State" "rows" "[LTurnedRows$Row;", Cond.methodLink RX4 113 yX2_degree, Cond.instanceMethod yX2_degree, Cond.selects RX2 yX2_degree yX2_degree, Cond.initialized RX2, Cond.code yX2_degree cX2_degree 2 (some .int), Cond.fieldLink RX2 15 "TurnedRows$Row" "length" "I", Cond.methodLink RX2 41 yX2_at, Cond.instanceMethod yX2_at, Cond.selects RX2 yX2_at yX2_at, Cond.code yX2_at cX2_at 2 (some .int), Cond.fieldLink RX2 9 "TurnedRows$Row" "numbers" "[I", Cond.methodLink RX4 123 yX4_divideRows, Cond.static yX4_divideRows, Cond.initialized RX4, Cond.code yX4_divideRows cX4_divideRows 10 none]
def wsX4_divide_r2 : List Cond := [Cond.methodLink RX4 84 Lib.Math.max.name, Cond.static Lib.Math.max.name, Cond.initialized "java/lang/Math", Cond.code Lib.Math.max.name Lib.Math.max.code 2 (some .int), Cond.methodLink RX4 101 yX2_at, Cond.methodLink RX4 141 yX4_inverseOf, Cond.static yX4_inverseOf, Cond.code yX4_inverseOf cX4_inverseOf 1 (some .int), Cond.methodLink RX4 159 yX4_raise, Cond.static yX4_raise, Cond.code yX4_raise cX4_raise 5 (some .int), Cond.methodLink RX4 98 yX2_clear, Cond.instanceMethod yX2_clear, Cond.selects RX2 yX2_clear yX2_clear, Cond.code yX2_clear cX2_clear 2 none, Cond.methodLink RX2 29 yJ7_fill_53178, Cond.static yJ7_fill_53178, Cond.initialized RJ7, Cond.code yJ7_fill_53178 cJ7_fill_53178 4 none, Cond.methodLink RX4 116 yX2_copyFrom, Cond.instanceMethod yX2_copyFrom, Cond.selects RX2 yX2_copyFrom yX2_copyFrom, Cond.code yX2_copyFrom cX2_copyFrom 2 none, Cond.methodLink RX2 35 arraycopyName]
def wsX4_divide_r3 : List Cond := [Cond.native arraycopyName, Cond.static arraycopyName, Cond.initialized "java/lang/System", Cond.methodLink RX4 94 yX2_write, Cond.instanceMethod yX2_write, Cond.selects RX2 yX2_write yX2_write, Cond.code yX2_write cX2_write 3 none, Cond.methodLink RX2 19 yJ9_floorMod_7cf53, Cond.static yJ9_floorMod_7cf53, Cond.initialized RJ9, Cond.code yJ9_floorMod_7cf53 cJ9_floorMod_7cf53 3 (some .int), Cond.methodLink RX4 90 yX2_resize, Cond.instanceMethod yX2_resize, Cond.selects RX2 yX2_resize yX2_resize, Cond.code yX2_resize cX2_resize 3 none, Cond.methodLink RX2 25 yX2_write, Cond.methodLink RX4 65 yX4_change, Cond.instanceMethod yX4_change, Cond.selects RX4 yX4_change yX4_change, Cond.code yX4_change cX4_change 2 none, Cond.fieldLink RX4 19 "TurnedRows" "history" "LTurnedRows$History;", Cond.methodLink RX4 80 yX0_keep, Cond.instanceMethod yX0_keep, Cond.selects RX0 yX0_keep yX0_keep]
def wsX4_divide_r4 : List Cond := [Cond.initialized RX0, Cond.code yX0_keep cX0_keep 2 none, Cond.fieldLink RX0 17 "TurnedRows$History" "length" "I", Cond.fieldLink RX0 11 "TurnedRows$History" "states" "[LTurnedRows$State;", Cond.methodLink RX0 22 yX0_dropOldest, Cond.instanceMethod yX0_dropOldest, Cond.selects RX0 yX0_dropOldest yX0_dropOldest, Cond.code yX0_dropOldest cX0_dropOldest 3 none, Cond.methodLink RX0 25 yX3_copyFrom, Cond.instanceMethod yX3_copyFrom, Cond.selects RX3 yX3_copyFrom yX3_copyFrom, Cond.code yX3_copyFrom cX3_copyFrom 3 none, Cond.methodLink RX3 22 yX2_copyFrom]
def wsX4_divide : List Cond := .code yX4_divide cX4_divide 9 (some .int) :: ((wsX4_divide_r1 ++ (wsX4_divide_r2 ++ (wsX4_divide_r3 ++ wsX4_divide_r4))) ++ wsX40 ++ wsX30 ++ wsX20 ++ wsX00)
def wsX4_makeGreatestDivisor_r1 : List Cond := [Cond.fieldLink RX4 48 "TurnedRows" "stepDividend" "LTurnedRows$Row;", Cond.fieldLink RX4 51 "TurnedRows" "stepDivisor" "LTurnedRows$Row;", Cond.fieldLink RX4 54 "TurnedRows" "stepResult" "LTurnedRows$Row;", Cond.fieldLink RX4 45 "TurnedRows" "madeRest" "LTurnedRows$Row;", Cond.fieldLink RX4 41 "TurnedRows" "made" "LTurnedRows$Row;", Cond.methodLink RX4 116 yX2_copyFrom, Cond.instanceMethod yX2_copyFrom, Cond.selects RX2 yX2_copyFrom yX2_copyFrom, Cond.initialized RX2, Cond.code yX2_copyFrom cX2_copyFrom 2 none, Cond.fieldLink RX2 9 "TurnedRows$Row" "numbers" "[I", Cond.methodLink RX2 35 arraycopyName, Cond.native arraycopyName, Cond.static arraycopyName, Cond.initialized "java/lang/System", Cond.fieldLink RX2 15 "TurnedRows$Row" "length" "I", Cond.methodLink RX4 113 yX2_degree, Cond.instanceMethod yX2_degree, Cond.selects RX2 yX2_degree yX2_degree, Cond.code yX2_degree cX2_degree 2 (some .int), Cond.methodLink RX2 41 yX2_at, Cond.instanceMethod yX2_at, Cond.selects RX2 yX2_at yX2_at, Cond.code yX2_at cX2_at 2 (some .int)]
def wsX4_makeGreatestDivisor_r2 : List Cond := [Cond.methodLink RX4 123 yX4_divideRows, Cond.static yX4_divideRows, Cond.initialized RX4, Cond.code yX4_divideRows cX4_divideRows 10 none, Cond.methodLink RX4 84 Lib.Math.max.name, Cond.static Lib.Math.max.name, Cond.initialized "java/lang/Math", Cond.code Lib.Math.max.name Lib.Math.max.code 2 (some .int), Cond.methodLink RX4 101 yX2_at, Cond.methodLink RX4 141 yX4_inverseOf, Cond.static yX4_inverseOf, Cond.code yX4_inverseOf cX4_inverseOf 1 (some .int), Cond.methodLink RX4 159 yX4_raise, Cond.static yX4_raise, Cond.code yX4_raise cX4_raise 5 (some .int), Cond.methodLink RX4 98 yX2_clear, Cond.instanceMethod yX2_clear, Cond.selects RX2 yX2_clear yX2_clear, Cond.code yX2_clear cX2_clear 2 none, Cond.methodLink RX2 29 yJ7_fill_53178, Cond.static yJ7_fill_53178, Cond.initialized RJ7, Cond.code yJ7_fill_53178 cJ7_fill_53178 4 none, Cond.methodLink RX4 94 yX2_write]
def wsX4_makeGreatestDivisor_r3 : List Cond := [Cond.instanceMethod yX2_write, Cond.selects RX2 yX2_write yX2_write, Cond.code yX2_write cX2_write 3 none, Cond.methodLink RX2 19 yJ9_floorMod_7cf53, Cond.static yJ9_floorMod_7cf53, Cond.initialized RJ9, Cond.code yJ9_floorMod_7cf53 cJ9_floorMod_7cf53 3 (some .int), Cond.methodLink RX4 90 yX2_resize, Cond.instanceMethod yX2_resize, Cond.selects RX2 yX2_resize yX2_resize, Cond.code yX2_resize cX2_resize 3 none, Cond.methodLink RX2 25 yX2_write, Cond.methodLink RX4 144 yX2_scale, Cond.instanceMethod yX2_scale, Cond.selects RX2 yX2_scale yX2_scale, Cond.code yX2_scale cX2_scale 3 none]
def wsX4_makeGreatestDivisor : List Cond := .code yX4_makeGreatestDivisor cX4_makeGreatestDivisor 4 none :: ((wsX4_makeGreatestDivisor_r1 ++ (wsX4_makeGreatestDivisor_r2 ++ wsX4_makeGreatestDivisor_r3)) ++ wsX40 ++ wsX20)
def wsX4_divisor_r1 : List Cond := [Cond.fieldLink RX4 10 "TurnedRows" "state" "LTurnedRows$State;", Cond.methodLink RX4 57 yX3_rowOf, Cond.instanceMethod yX3_rowOf, Cond.selects RX3 yX3_rowOf yX3_rowOf, Cond.initialized RX3, Cond.code yX3_rowOf cX3_rowOf 2 (some (.object "TurnedRows$Row")), Cond.fieldLink RX3 11 "TurnedRows$State" "rows" "[LTurnedRows$Row;", Cond.methodLink RX4 113 yX2_degree, Cond.instanceMethod yX2_degree, Cond.selects RX2 yX2_degree yX2_degree, Cond.initialized RX2, Cond.code yX2_degree cX2_degree 2 (some .int), Cond.fieldLink RX2 15 "TurnedRows$Row" "length" "I", Cond.methodLink RX2 41 yX2_at, Cond.instanceMethod yX2_at, Cond.selects RX2 yX2_at yX2_at, Cond.code yX2_at cX2_at 2 (some .int), Cond.fieldLink RX2 9 "TurnedRows$Row" "numbers" "[I", Cond.methodLink RX4 127 yX4_makeGreatestDivisor, Cond.instanceMethod yX4_makeGreatestDivisor, Cond.selects RX4 yX4_makeGreatestDivisor yX4_makeGreatestDivisor, Cond.initialized RX4, Cond.code yX4_makeGreatestDivisor cX4_makeGreatestDivisor 4 none, Cond.fieldLink RX4 48 "TurnedRows" "stepDividend" "LTurnedRows$Row;"]
def wsX4_divisor_r2 : List Cond := [Cond.fieldLink RX4 51 "TurnedRows" "stepDivisor" "LTurnedRows$Row;", Cond.fieldLink RX4 54 "TurnedRows" "stepResult" "LTurnedRows$Row;", Cond.fieldLink RX4 45 "TurnedRows" "madeRest" "LTurnedRows$Row;", Cond.fieldLink RX4 41 "TurnedRows" "made" "LTurnedRows$Row;", Cond.methodLink RX4 116 yX2_copyFrom, Cond.instanceMethod yX2_copyFrom, Cond.selects RX2 yX2_copyFrom yX2_copyFrom, Cond.code yX2_copyFrom cX2_copyFrom 2 none, Cond.methodLink RX2 35 arraycopyName, Cond.native arraycopyName, Cond.static arraycopyName, Cond.initialized "java/lang/System", Cond.methodLink RX4 123 yX4_divideRows, Cond.static yX4_divideRows, Cond.code yX4_divideRows cX4_divideRows 10 none, Cond.methodLink RX4 84 Lib.Math.max.name, Cond.static Lib.Math.max.name, Cond.initialized "java/lang/Math", Cond.code Lib.Math.max.name Lib.Math.max.code 2 (some .int), Cond.methodLink RX4 101 yX2_at, Cond.methodLink RX4 141 yX4_inverseOf, Cond.static yX4_inverseOf, Cond.code yX4_inverseOf cX4_inverseOf 1 (some .int), Cond.methodLink RX4 159 yX4_raise]
def wsX4_divisor_r3 : List Cond := [Cond.static yX4_raise, Cond.code yX4_raise cX4_raise 5 (some .int), Cond.methodLink RX4 98 yX2_clear, Cond.instanceMethod yX2_clear, Cond.selects RX2 yX2_clear yX2_clear, Cond.code yX2_clear cX2_clear 2 none, Cond.methodLink RX2 29 yJ7_fill_53178, Cond.static yJ7_fill_53178, Cond.initialized RJ7, Cond.code yJ7_fill_53178 cJ7_fill_53178 4 none, Cond.methodLink RX4 94 yX2_write, Cond.instanceMethod yX2_write, Cond.selects RX2 yX2_write yX2_write, Cond.code yX2_write cX2_write 3 none, Cond.methodLink RX2 19 yJ9_floorMod_7cf53, Cond.static yJ9_floorMod_7cf53, Cond.initialized RJ9, Cond.code yJ9_floorMod_7cf53 cJ9_floorMod_7cf53 3 (some .int), Cond.methodLink RX4 90 yX2_resize, Cond.instanceMethod yX2_resize, Cond.selects RX2 yX2_resize yX2_resize, Cond.code yX2_resize cX2_resize 3 none, Cond.methodLink RX2 25 yX2_write, Cond.methodLink RX4 144 yX2_scale]
def wsX4_divisor_r4 : List Cond := [Cond.instanceMethod yX2_scale, Cond.selects RX2 yX2_scale yX2_scale, Cond.code yX2_scale cX2_scale 3 none, Cond.methodLink RX4 65 yX4_change, Cond.instanceMethod yX4_change, Cond.selects RX4 yX4_change yX4_change, Cond.code yX4_change cX4_change 2 none, Cond.fieldLink RX4 19 "TurnedRows" "history" "LTurnedRows$History;", Cond.methodLink RX4 80 yX0_keep, Cond.instanceMethod yX0_keep, Cond.selects RX0 yX0_keep yX0_keep, Cond.initialized RX0, Cond.code yX0_keep cX0_keep 2 none, Cond.fieldLink RX0 17 "TurnedRows$History" "length" "I", Cond.fieldLink RX0 11 "TurnedRows$History" "states" "[LTurnedRows$State;", Cond.methodLink RX0 22 yX0_dropOldest, Cond.instanceMethod yX0_dropOldest, Cond.selects RX0 yX0_dropOldest yX0_dropOldest, Cond.code yX0_dropOldest cX0_dropOldest 3 none, Cond.methodLink RX0 25 yX3_copyFrom, Cond.instanceMethod yX3_copyFrom, Cond.selects RX3 yX3_copyFrom yX3_copyFrom, Cond.code yX3_copyFrom cX3_copyFrom 3 none, Cond.methodLink RX3 22 yX2_copyFrom]
def wsX4_divisor : List Cond := .code yX4_divisor cX4_divisor 7 (some .int) :: ((wsX4_divisor_r1 ++ (wsX4_divisor_r2 ++ (wsX4_divisor_r3 ++ wsX4_divisor_r4))) ++ wsX40 ++ wsX30 ++ wsX20 ++ wsX00)
def wsX4_pointOf : List Cond := .code yX4_pointOf cX4_pointOf 1 (some .int) :: ([.methodLink RX4 159 yX4_raise, .static yX4_raise, .initialized RX4, .code yX4_raise cX4_raise 5 (some .int)])
def wsX4_turnAround_r1 : List Cond := [Cond.methodLink RX4 98 yX2_clear, Cond.instanceMethod yX2_clear, Cond.selects RX2 yX2_clear yX2_clear, Cond.initialized RX2, Cond.code yX2_clear cX2_clear 2 none, Cond.fieldLink RX2 9 "TurnedRows$Row" "numbers" "[I", Cond.fieldLink RX2 15 "TurnedRows$Row" "length" "I", Cond.methodLink RX2 29 yJ7_fill_53178, Cond.static yJ7_fill_53178, Cond.initialized RJ7, Cond.code yJ7_fill_53178 cJ7_fill_53178 4 none, Cond.methodLink RX4 156 yX2_valueAt, Cond.instanceMethod yX2_valueAt, Cond.selects RX2 yX2_valueAt yX2_valueAt, Cond.code yX2_valueAt cX2_valueAt 4 (some .int), Cond.methodLink RX2 41 yX2_at, Cond.instanceMethod yX2_at, Cond.selects RX2 yX2_at yX2_at, Cond.code yX2_at cX2_at 2 (some .int), Cond.methodLink RX4 94 yX2_write, Cond.instanceMethod yX2_write, Cond.selects RX2 yX2_write yX2_write, Cond.code yX2_write cX2_write 3 none, Cond.methodLink RX2 19 yJ9_floorMod_7cf53]
def wsX4_turnAround_r2 : List Cond := [Cond.static yJ9_floorMod_7cf53, Cond.initialized RJ9, Cond.code yJ9_floorMod_7cf53 cJ9_floorMod_7cf53 3 (some .int)]
def wsX4_turnAround : List Cond := .code yX4_turnAround cX4_turnAround 6 none :: ((wsX4_turnAround_r1 ++ wsX4_turnAround_r2) ++ wsX20)
def wsX4_turn_r1 : List Cond := [Cond.fieldLink RX4 10 "TurnedRows" "state" "LTurnedRows$State;", Cond.fieldLink RX4 41 "TurnedRows" "made" "LTurnedRows$Row;", Cond.methodLink RX4 57 yX3_rowOf, Cond.instanceMethod yX3_rowOf, Cond.selects RX3 yX3_rowOf yX3_rowOf, Cond.initialized RX3, Cond.code yX3_rowOf cX3_rowOf 2 (some (.object "TurnedRows$Row")), Cond.fieldLink RX3 11 "TurnedRows$State" "rows" "[LTurnedRows$Row;", Cond.methodLink RX4 131 yX4_pointOf, Cond.static yX4_pointOf, Cond.initialized RX4, Cond.code yX4_pointOf cX4_pointOf 1 (some .int), Cond.methodLink RX4 159 yX4_raise, Cond.static yX4_raise, Cond.code yX4_raise cX4_raise 5 (some .int), Cond.methodLink RX4 72 yX2_length, Cond.instanceMethod yX2_length, Cond.selects RX2 yX2_length yX2_length, Cond.initialized RX2, Cond.code yX2_length cX2_length 1 (some .int), Cond.fieldLink RX2 15 "TurnedRows$Row" "length" "I", Cond.methodLink RX4 134 yX4_turnAround, Cond.static yX4_turnAround, Cond.code yX4_turnAround cX4_turnAround 6 none]
def wsX4_turn_r2 : List Cond := [Cond.methodLink RX4 98 yX2_clear, Cond.instanceMethod yX2_clear, Cond.selects RX2 yX2_clear yX2_clear, Cond.code yX2_clear cX2_clear 2 none, Cond.fieldLink RX2 9 "TurnedRows$Row" "numbers" "[I", Cond.methodLink RX2 29 yJ7_fill_53178, Cond.static yJ7_fill_53178, Cond.initialized RJ7, Cond.code yJ7_fill_53178 cJ7_fill_53178 4 none, Cond.methodLink RX4 156 yX2_valueAt, Cond.instanceMethod yX2_valueAt, Cond.selects RX2 yX2_valueAt yX2_valueAt, Cond.code yX2_valueAt cX2_valueAt 4 (some .int), Cond.methodLink RX2 41 yX2_at, Cond.instanceMethod yX2_at, Cond.selects RX2 yX2_at yX2_at, Cond.code yX2_at cX2_at 2 (some .int), Cond.methodLink RX4 94 yX2_write, Cond.instanceMethod yX2_write, Cond.selects RX2 yX2_write yX2_write, Cond.code yX2_write cX2_write 3 none, Cond.methodLink RX2 19 yJ9_floorMod_7cf53, Cond.static yJ9_floorMod_7cf53, Cond.initialized RJ9]
def wsX4_turn_r3 : List Cond := [Cond.code yJ9_floorMod_7cf53 cJ9_floorMod_7cf53 3 (some .int), Cond.methodLink RX4 65 yX4_change, Cond.instanceMethod yX4_change, Cond.selects RX4 yX4_change yX4_change, Cond.code yX4_change cX4_change 2 none, Cond.fieldLink RX4 19 "TurnedRows" "history" "LTurnedRows$History;", Cond.methodLink RX4 80 yX0_keep, Cond.instanceMethod yX0_keep, Cond.selects RX0 yX0_keep yX0_keep, Cond.initialized RX0, Cond.code yX0_keep cX0_keep 2 none, Cond.fieldLink RX0 17 "TurnedRows$History" "length" "I", Cond.fieldLink RX0 11 "TurnedRows$History" "states" "[LTurnedRows$State;", Cond.methodLink RX0 22 yX0_dropOldest, Cond.instanceMethod yX0_dropOldest, Cond.selects RX0 yX0_dropOldest yX0_dropOldest, Cond.code yX0_dropOldest cX0_dropOldest 3 none, Cond.methodLink RX0 25 yX3_copyFrom, Cond.instanceMethod yX3_copyFrom, Cond.selects RX3 yX3_copyFrom yX3_copyFrom, Cond.code yX3_copyFrom cX3_copyFrom 3 none, Cond.methodLink RX3 22 yX2_copyFrom, Cond.instanceMethod yX2_copyFrom, Cond.selects RX2 yX2_copyFrom yX2_copyFrom]
def wsX4_turn_r4 : List Cond := [Cond.code yX2_copyFrom cX2_copyFrom 2 none, Cond.methodLink RX2 35 arraycopyName, Cond.native arraycopyName, Cond.static arraycopyName, Cond.initialized "java/lang/System", Cond.methodLink RX4 116 yX2_copyFrom, Cond.methodLink RX4 138 yX2_countNotZero, Cond.instanceMethod yX2_countNotZero, Cond.selects RX2 yX2_countNotZero yX2_countNotZero, Cond.code yX2_countNotZero cX2_countNotZero 3 (some .int)]
def wsX4_turn : List Cond := .code yX4_turn cX4_turn 7 (some .int) :: ((wsX4_turn_r1 ++ (wsX4_turn_r2 ++ (wsX4_turn_r3 ++ wsX4_turn_r4))) ++ wsX40 ++ wsX30 ++ wsX20 ++ wsX00)
def wsX4_turnBack_r1 : List Cond := [Cond.fieldLink RX4 10 "TurnedRows" "state" "LTurnedRows$State;", Cond.fieldLink RX4 41 "TurnedRows" "made" "LTurnedRows$Row;", Cond.methodLink RX4 57 yX3_rowOf, Cond.instanceMethod yX3_rowOf, Cond.selects RX3 yX3_rowOf yX3_rowOf, Cond.initialized RX3, Cond.code yX3_rowOf cX3_rowOf 2 (some (.object "TurnedRows$Row")), Cond.fieldLink RX3 11 "TurnedRows$State" "rows" "[LTurnedRows$Row;", Cond.methodLink RX4 72 yX2_length, Cond.instanceMethod yX2_length, Cond.selects RX2 yX2_length yX2_length, Cond.initialized RX2, Cond.code yX2_length cX2_length 1 (some .int), Cond.fieldLink RX2 15 "TurnedRows$Row" "length" "I", Cond.methodLink RX4 131 yX4_pointOf, Cond.static yX4_pointOf, Cond.initialized RX4, Cond.code yX4_pointOf cX4_pointOf 1 (some .int), Cond.methodLink RX4 159 yX4_raise, Cond.static yX4_raise, Cond.code yX4_raise cX4_raise 5 (some .int), Cond.methodLink RX4 141 yX4_inverseOf, Cond.static yX4_inverseOf, Cond.code yX4_inverseOf cX4_inverseOf 1 (some .int)]
def wsX4_turnBack_r2 : List Cond := [Cond.methodLink RX4 134 yX4_turnAround, Cond.static yX4_turnAround, Cond.code yX4_turnAround cX4_turnAround 6 none, Cond.methodLink RX4 98 yX2_clear, Cond.instanceMethod yX2_clear, Cond.selects RX2 yX2_clear yX2_clear, Cond.code yX2_clear cX2_clear 2 none, Cond.fieldLink RX2 9 "TurnedRows$Row" "numbers" "[I", Cond.methodLink RX2 29 yJ7_fill_53178, Cond.static yJ7_fill_53178, Cond.initialized RJ7, Cond.code yJ7_fill_53178 cJ7_fill_53178 4 none, Cond.methodLink RX4 156 yX2_valueAt, Cond.instanceMethod yX2_valueAt, Cond.selects RX2 yX2_valueAt yX2_valueAt, Cond.code yX2_valueAt cX2_valueAt 4 (some .int), Cond.methodLink RX2 41 yX2_at, Cond.instanceMethod yX2_at, Cond.selects RX2 yX2_at yX2_at, Cond.code yX2_at cX2_at 2 (some .int), Cond.methodLink RX4 94 yX2_write, Cond.instanceMethod yX2_write, Cond.selects RX2 yX2_write yX2_write, Cond.code yX2_write cX2_write 3 none]
def wsX4_turnBack_r3 : List Cond := [Cond.methodLink RX2 19 yJ9_floorMod_7cf53, Cond.static yJ9_floorMod_7cf53, Cond.initialized RJ9, Cond.code yJ9_floorMod_7cf53 cJ9_floorMod_7cf53 3 (some .int), Cond.methodLink RX4 144 yX2_scale, Cond.instanceMethod yX2_scale, Cond.selects RX2 yX2_scale yX2_scale, Cond.code yX2_scale cX2_scale 3 none, Cond.methodLink RX2 25 yX2_write, Cond.methodLink RX4 65 yX4_change, Cond.instanceMethod yX4_change, Cond.selects RX4 yX4_change yX4_change, Cond.code yX4_change cX4_change 2 none, Cond.fieldLink RX4 19 "TurnedRows" "history" "LTurnedRows$History;", Cond.methodLink RX4 80 yX0_keep, Cond.instanceMethod yX0_keep, Cond.selects RX0 yX0_keep yX0_keep, Cond.initialized RX0, Cond.code yX0_keep cX0_keep 2 none, Cond.fieldLink RX0 17 "TurnedRows$History" "length" "I", Cond.fieldLink RX0 11 "TurnedRows$History" "states" "[LTurnedRows$State;", Cond.methodLink RX0 22 yX0_dropOldest, Cond.instanceMethod yX0_dropOldest, Cond.selects RX0 yX0_dropOldest yX0_dropOldest]
def wsX4_turnBack_r4 : List Cond := [Cond.code yX0_dropOldest cX0_dropOldest 3 none, Cond.methodLink RX0 25 yX3_copyFrom, Cond.instanceMethod yX3_copyFrom, Cond.selects RX3 yX3_copyFrom yX3_copyFrom, Cond.code yX3_copyFrom cX3_copyFrom 3 none, Cond.methodLink RX3 22 yX2_copyFrom, Cond.instanceMethod yX2_copyFrom, Cond.selects RX2 yX2_copyFrom yX2_copyFrom, Cond.code yX2_copyFrom cX2_copyFrom 2 none, Cond.methodLink RX2 35 arraycopyName, Cond.native arraycopyName, Cond.static arraycopyName, Cond.initialized "java/lang/System", Cond.methodLink RX4 116 yX2_copyFrom, Cond.methodLink RX4 113 yX2_degree, Cond.instanceMethod yX2_degree, Cond.selects RX2 yX2_degree yX2_degree, Cond.code yX2_degree cX2_degree 2 (some .int)]
def wsX4_turnBack : List Cond := .code yX4_turnBack cX4_turnBack 7 (some .int) :: ((wsX4_turnBack_r1 ++ (wsX4_turnBack_r2 ++ (wsX4_turnBack_r3 ++ wsX4_turnBack_r4))) ++ wsX40 ++ wsX30 ++ wsX20 ++ wsX00)
def wsX4_number : List Cond := .code yX4_number cX4_number 4 (some .int) :: ([.fieldLink RX4 10 "TurnedRows" "state" "LTurnedRows$State;", .methodLink RX4 57 yX3_rowOf, .instanceMethod yX3_rowOf, .selects RX3 yX3_rowOf yX3_rowOf, .initialized RX3, .code yX3_rowOf cX3_rowOf 2 (some (.object "TurnedRows$Row")), .fieldLink RX3 11 "TurnedRows$State" "rows" "[LTurnedRows$Row;", .methodLink RX4 72 yX2_length, .instanceMethod yX2_length, .selects RX2 yX2_length yX2_length, .initialized RX2, .code yX2_length cX2_length 1 (some .int), .fieldLink RX2 15 "TurnedRows$Row" "length" "I", .methodLink RX4 101 yX2_at, .instanceMethod yX2_at, .selects RX2 yX2_at yX2_at, .code yX2_at cX2_at 2 (some .int), .fieldLink RX2 9 "TurnedRows$Row" "numbers" "[I"] ++ wsX40 ++ wsX30 ++ wsX20)
def wsX4_of_r1 : List Cond := [Cond.fieldLink RX4 10 "TurnedRows" "state" "LTurnedRows$State;", Cond.methodLink RX4 57 yX3_rowOf, Cond.instanceMethod yX3_rowOf, Cond.selects RX3 yX3_rowOf yX3_rowOf, Cond.initialized RX3, Cond.code yX3_rowOf cX3_rowOf 2 (some (.object "TurnedRows$Row")), Cond.fieldLink RX3 11 "TurnedRows$State" "rows" "[LTurnedRows$Row;", Cond.methodLink RX4 72 yX2_length, Cond.instanceMethod yX2_length, Cond.selects RX2 yX2_length yX2_length, Cond.initialized RX2, Cond.code yX2_length cX2_length 1 (some .int), Cond.fieldLink RX2 15 "TurnedRows$Row" "length" "I", Cond.methodLink RX4 113 yX2_degree, Cond.instanceMethod yX2_degree, Cond.selects RX2 yX2_degree yX2_degree, Cond.code yX2_degree cX2_degree 2 (some .int), Cond.methodLink RX2 41 yX2_at, Cond.instanceMethod yX2_at, Cond.selects RX2 yX2_at yX2_at, Cond.code yX2_at cX2_at 2 (some .int), Cond.fieldLink RX2 9 "TurnedRows$Row" "numbers" "[I", Cond.methodLink RX4 138 yX2_countNotZero, Cond.instanceMethod yX2_countNotZero]
def wsX4_of_r2 : List Cond := [Cond.selects RX2 yX2_countNotZero yX2_countNotZero, Cond.code yX2_countNotZero cX2_countNotZero 3 (some .int), Cond.methodLink RX4 147 yX2_total, Cond.instanceMethod yX2_total, Cond.selects RX2 yX2_total yX2_total, Cond.code yX2_total cX2_total 3 (some .int), Cond.methodLink RX4 150 yX2_countRoots, Cond.instanceMethod yX2_countRoots, Cond.selects RX2 yX2_countRoots yX2_countRoots, Cond.code yX2_countRoots cX2_countRoots 3 (some .int), Cond.methodLink RX2 45 yX2_valueAt, Cond.instanceMethod yX2_valueAt, Cond.selects RX2 yX2_valueAt yX2_valueAt, Cond.code yX2_valueAt cX2_valueAt 4 (some .int), Cond.methodLink RX4 153 yX2_leastRoot, Cond.instanceMethod yX2_leastRoot, Cond.selects RX2 yX2_leastRoot yX2_leastRoot, Cond.code yX2_leastRoot cX2_leastRoot 2 (some .int)]
def wsX4_of : List Cond := .code yX4_of cX4_of 4 (some .int) :: ((wsX4_of_r1 ++ wsX4_of_r2) ++ wsX40 ++ wsX30 ++ wsX20)
def wsX4_value : List Cond := .code yX4_value cX4_value 4 (some .int) :: ([.fieldLink RX4 10 "TurnedRows" "state" "LTurnedRows$State;", .methodLink RX4 57 yX3_rowOf, .instanceMethod yX3_rowOf, .selects RX3 yX3_rowOf yX3_rowOf, .initialized RX3, .code yX3_rowOf cX3_rowOf 2 (some (.object "TurnedRows$Row")), .fieldLink RX3 11 "TurnedRows$State" "rows" "[LTurnedRows$Row;", .methodLink RX4 76 yX4_isNumber, .static yX4_isNumber, .initialized RX4, .code yX4_isNumber cX4_isNumber 1 (some .boolean), .methodLink RX4 156 yX2_valueAt, .instanceMethod yX2_valueAt, .selects RX2 yX2_valueAt yX2_valueAt, .initialized RX2, .code yX2_valueAt cX2_valueAt 4 (some .int), .fieldLink RX2 15 "TurnedRows$Row" "length" "I", .methodLink RX2 41 yX2_at, .instanceMethod yX2_at, .selects RX2 yX2_at yX2_at, .code yX2_at cX2_at 2 (some .int), .fieldLink RX2 9 "TurnedRows$Row" "numbers" "[I"] ++ wsX40 ++ wsX30 ++ wsX20)
def wsX4_turningPoint : List Cond := .code yX4_turningPoint cX4_turningPoint 4 (some .int) :: ([.methodLink RX4 131 yX4_pointOf, .static yX4_pointOf, .initialized RX4, .code yX4_pointOf cX4_pointOf 1 (some .int), .methodLink RX4 159 yX4_raise, .static yX4_raise, .code yX4_raise cX4_raise 5 (some .int)])
def wsX4_count_r1 : List Cond := [Cond.fieldLink RX4 10 "TurnedRows" "state" "LTurnedRows$State;", Cond.fieldLink RX4 26 "TurnedRows" "pad" "LTurnedRows$Pad;", Cond.fieldLink RX4 19 "TurnedRows" "history" "LTurnedRows$History;", Cond.methodLink RX4 162 yX3_lengths, Cond.instanceMethod yX3_lengths, Cond.selects RX3 yX3_lengths yX3_lengths, Cond.initialized RX3, Cond.code yX3_lengths cX3_lengths 3 (some .int), Cond.fieldLink RX3 11 "TurnedRows$State" "rows" "[LTurnedRows$Row;", Cond.methodLink RX3 18 yX2_length, Cond.instanceMethod yX2_length, Cond.selects RX2 yX2_length yX2_length, Cond.initialized RX2, Cond.code yX2_length cX2_length 1 (some .int), Cond.fieldLink RX2 15 "TurnedRows$Row" "length" "I", Cond.methodLink RX4 165 yX1_length, Cond.instanceMethod yX1_length, Cond.selects RX1 yX1_length yX1_length, Cond.initialized RX1, Cond.code yX1_length cX1_length 1 (some .int), Cond.fieldLink RX1 15 "TurnedRows$Pad" "length" "I", Cond.methodLink RX4 166 yX0_length, Cond.instanceMethod yX0_length, Cond.selects RX0 yX0_length yX0_length]
def wsX4_count_r2 : List Cond := [Cond.initialized RX0, Cond.code yX0_length cX0_length 1 (some .int), Cond.fieldLink RX0 17 "TurnedRows$History" "length" "I"]
def wsX4_count : List Cond := .code yX4_count cX4_count 2 (some .int) :: ((wsX4_count_r1 ++ wsX4_count_r2) ++ wsX40 ++ wsX30 ++ wsX20 ++ wsX10 ++ wsX00)
def wsX4_countPlaces : List Cond := .code yX4_countPlaces cX4_countPlaces 2 (some .int) :: ([.methodLink RX4 72 yX2_length, .instanceMethod yX2_length, .selects RX2 yX2_length yX2_length, .initialized RX2, .code yX2_length cX2_length 1 (some .int), .fieldLink RX2 15 "TurnedRows$Row" "length" "I"] ++ wsX20)
def wsX4_fitsAt : List Cond := .code yX4_fitsAt cX4_fitsAt 6 (some .boolean) :: ([.methodLink RX4 72 yX2_length, .instanceMethod yX2_length, .selects RX2 yX2_length yX2_length, .initialized RX2, .code yX2_length cX2_length 1 (some .int), .fieldLink RX2 15 "TurnedRows$Row" "length" "I", .methodLink RX4 101 yX2_at, .instanceMethod yX2_at, .selects RX2 yX2_at yX2_at, .code yX2_at cX2_at 2 (some .int), .fieldLink RX2 9 "TurnedRows$Row" "numbers" "[I"] ++ wsX20)
def wsX4_fits_r1 : List Cond := [Cond.fieldLink RX4 10 "TurnedRows" "state" "LTurnedRows$State;", Cond.constantLong RX4 167 (-1), Cond.constantLong RX4 172 (-5), Cond.methodLink RX4 57 yX3_rowOf, Cond.instanceMethod yX3_rowOf, Cond.selects RX3 yX3_rowOf yX3_rowOf, Cond.initialized RX3, Cond.code yX3_rowOf cX3_rowOf 2 (some (.object "TurnedRows$Row")), Cond.fieldLink RX3 11 "TurnedRows$State" "rows" "[LTurnedRows$Row;", Cond.methodLink RX4 169 yX4_countPlaces, Cond.static yX4_countPlaces, Cond.initialized RX4, Cond.code yX4_countPlaces cX4_countPlaces 2 (some .int), Cond.methodLink RX4 72 yX2_length, Cond.instanceMethod yX2_length, Cond.selects RX2 yX2_length yX2_length, Cond.initialized RX2, Cond.code yX2_length cX2_length 1 (some .int), Cond.fieldLink RX2 15 "TurnedRows$Row" "length" "I", Cond.methodLink RX4 174 yX4_fitsAt, Cond.static yX4_fitsAt, Cond.code yX4_fitsAt cX4_fitsAt 6 (some .boolean), Cond.methodLink RX4 101 yX2_at, Cond.instanceMethod yX2_at]
def wsX4_fits_r2 : List Cond := [Cond.selects RX2 yX2_at yX2_at, Cond.code yX2_at cX2_at 2 (some .int), Cond.fieldLink RX2 9 "TurnedRows$Row" "numbers" "[I"]
def wsX4_fits : List Cond := .code yX4_fits cX4_fits 9 (some .long) :: ((wsX4_fits_r1 ++ wsX4_fits_r2) ++ wsX40 ++ wsX30 ++ wsX20)
def wsX4_sumAt : List Cond := .code yX4_sumAt cX4_sumAt 8 (some .int) :: ([.methodLink RX4 72 yX2_length, .instanceMethod yX2_length, .selects RX2 yX2_length yX2_length, .initialized RX2, .code yX2_length cX2_length 1 (some .int), .fieldLink RX2 15 "TurnedRows$Row" "length" "I", .methodLink RX4 101 yX2_at, .instanceMethod yX2_at, .selects RX2 yX2_at yX2_at, .code yX2_at cX2_at 2 (some .int), .fieldLink RX2 9 "TurnedRows$Row" "numbers" "[I"] ++ wsX20)
def wsX4_sum_r1 : List Cond := [Cond.fieldLink RX4 10 "TurnedRows" "state" "LTurnedRows$State;", Cond.methodLink RX4 57 yX3_rowOf, Cond.instanceMethod yX3_rowOf, Cond.selects RX3 yX3_rowOf yX3_rowOf, Cond.initialized RX3, Cond.code yX3_rowOf cX3_rowOf 2 (some (.object "TurnedRows$Row")), Cond.fieldLink RX3 11 "TurnedRows$State" "rows" "[LTurnedRows$Row;", Cond.methodLink RX4 169 yX4_countPlaces, Cond.static yX4_countPlaces, Cond.initialized RX4, Cond.code yX4_countPlaces cX4_countPlaces 2 (some .int), Cond.methodLink RX4 72 yX2_length, Cond.instanceMethod yX2_length, Cond.selects RX2 yX2_length yX2_length, Cond.initialized RX2, Cond.code yX2_length cX2_length 1 (some .int), Cond.fieldLink RX2 15 "TurnedRows$Row" "length" "I", Cond.methodLink RX4 178 yX4_sumAt, Cond.static yX4_sumAt, Cond.code yX4_sumAt cX4_sumAt 8 (some .int), Cond.methodLink RX4 101 yX2_at, Cond.instanceMethod yX2_at, Cond.selects RX2 yX2_at yX2_at, Cond.code yX2_at cX2_at 2 (some .int)]
def wsX4_sum_r2 : List Cond := [Cond.fieldLink RX2 9 "TurnedRows$Row" "numbers" "[I"]
def wsX4_sum : List Cond := .code yX4_sum cX4_sum 7 (some .int) :: ((wsX4_sum_r1 ++ wsX4_sum_r2) ++ wsX40 ++ wsX30 ++ wsX20)
def wsX4_countFits : List Cond := .code yX4_countFits cX4_countFits 4 (some .int) :: ([.methodLink RX4 169 yX4_countPlaces, .static yX4_countPlaces, .initialized RX4, .code yX4_countPlaces cX4_countPlaces 2 (some .int), .methodLink RX4 72 yX2_length, .instanceMethod yX2_length, .selects RX2 yX2_length yX2_length, .initialized RX2, .code yX2_length cX2_length 1 (some .int), .fieldLink RX2 15 "TurnedRows$Row" "length" "I", .methodLink RX4 174 yX4_fitsAt, .static yX4_fitsAt, .code yX4_fitsAt cX4_fitsAt 6 (some .boolean), .methodLink RX4 101 yX2_at, .instanceMethod yX2_at, .selects RX2 yX2_at yX2_at, .code yX2_at cX2_at 2 (some .int), .fieldLink RX2 9 "TurnedRows$Row" "numbers" "[I"] ++ wsX20)
def wsX4_isFalseOne : List Cond := .code yX4_isFalseOne cX4_isFalseOne 3 (some .boolean) :: ([.methodLink RX4 178 yX4_sumAt, .static yX4_sumAt, .initialized RX4, .code yX4_sumAt cX4_sumAt 8 (some .int), .methodLink RX4 72 yX2_length, .instanceMethod yX2_length, .selects RX2 yX2_length yX2_length, .initialized RX2, .code yX2_length cX2_length 1 (some .int), .fieldLink RX2 15 "TurnedRows$Row" "length" "I", .methodLink RX4 101 yX2_at, .instanceMethod yX2_at, .selects RX2 yX2_at yX2_at, .code yX2_at cX2_at 2 (some .int), .fieldLink RX2 9 "TurnedRows$Row" "numbers" "[I", .methodLink RX4 174 yX4_fitsAt, .static yX4_fitsAt, .code yX4_fitsAt cX4_fitsAt 6 (some .boolean)] ++ wsX20)
def wsX4_countFalseOnes : List Cond := .code yX4_countFalseOnes cX4_countFalseOnes 4 (some .int) :: ([.methodLink RX4 169 yX4_countPlaces, .static yX4_countPlaces, .initialized RX4, .code yX4_countPlaces cX4_countPlaces 2 (some .int), .methodLink RX4 72 yX2_length, .instanceMethod yX2_length, .selects RX2 yX2_length yX2_length, .initialized RX2, .code yX2_length cX2_length 1 (some .int), .fieldLink RX2 15 "TurnedRows$Row" "length" "I", .methodLink RX4 212 yX4_isFalseOne, .static yX4_isFalseOne, .code yX4_isFalseOne cX4_isFalseOne 3 (some .boolean), .methodLink RX4 178 yX4_sumAt, .static yX4_sumAt, .code yX4_sumAt cX4_sumAt 8 (some .int), .methodLink RX4 101 yX2_at, .instanceMethod yX2_at, .selects RX2 yX2_at yX2_at, .code yX2_at cX2_at 2 (some .int), .fieldLink RX2 9 "TurnedRows$Row" "numbers" "[I", .methodLink RX4 174 yX4_fitsAt, .static yX4_fitsAt, .code yX4_fitsAt cX4_fitsAt 6 (some .boolean)] ++ wsX20)
def wsX4_firstFalseOne : List Cond := .code yX4_firstFalseOne cX4_firstFalseOne 3 (some .int) :: ([.methodLink RX4 169 yX4_countPlaces, .static yX4_countPlaces, .initialized RX4, .code yX4_countPlaces cX4_countPlaces 2 (some .int), .methodLink RX4 72 yX2_length, .instanceMethod yX2_length, .selects RX2 yX2_length yX2_length, .initialized RX2, .code yX2_length cX2_length 1 (some .int), .fieldLink RX2 15 "TurnedRows$Row" "length" "I", .methodLink RX4 212 yX4_isFalseOne, .static yX4_isFalseOne, .code yX4_isFalseOne cX4_isFalseOne 3 (some .boolean), .methodLink RX4 178 yX4_sumAt, .static yX4_sumAt, .code yX4_sumAt cX4_sumAt 8 (some .int), .methodLink RX4 101 yX2_at, .instanceMethod yX2_at, .selects RX2 yX2_at yX2_at, .code yX2_at cX2_at 2 (some .int), .fieldLink RX2 9 "TurnedRows$Row" "numbers" "[I", .methodLink RX4 174 yX4_fitsAt, .static yX4_fitsAt, .code yX4_fitsAt cX4_fitsAt 6 (some .boolean)] ++ wsX20)
def wsX4_greatestSum : List Cond := .code yX4_greatestSum cX4_greatestSum 4 (some .int) :: ([.methodLink RX4 84 Lib.Math.max.name, .static Lib.Math.max.name, .initialized "java/lang/Math", .code Lib.Math.max.name Lib.Math.max.code 2 (some .int), .methodLink RX4 169 yX4_countPlaces, .static yX4_countPlaces, .initialized RX4, .code yX4_countPlaces cX4_countPlaces 2 (some .int), .methodLink RX4 72 yX2_length, .instanceMethod yX2_length, .selects RX2 yX2_length yX2_length, .initialized RX2, .code yX2_length cX2_length 1 (some .int), .fieldLink RX2 15 "TurnedRows$Row" "length" "I", .methodLink RX4 178 yX4_sumAt, .static yX4_sumAt, .code yX4_sumAt cX4_sumAt 8 (some .int), .methodLink RX4 101 yX2_at, .instanceMethod yX2_at, .selects RX2 yX2_at yX2_at, .code yX2_at cX2_at 2 (some .int), .fieldLink RX2 9 "TurnedRows$Row" "numbers" "[I"] ++ wsX20)
def wsX4_found_r1 : List Cond := [Cond.fieldLink RX4 10 "TurnedRows" "state" "LTurnedRows$State;", Cond.methodLink RX4 57 yX3_rowOf, Cond.instanceMethod yX3_rowOf, Cond.selects RX3 yX3_rowOf yX3_rowOf, Cond.initialized RX3, Cond.code yX3_rowOf cX3_rowOf 2 (some (.object "TurnedRows$Row")), Cond.fieldLink RX3 11 "TurnedRows$State" "rows" "[LTurnedRows$Row;", Cond.methodLink RX4 169 yX4_countPlaces, Cond.static yX4_countPlaces, Cond.initialized RX4, Cond.code yX4_countPlaces cX4_countPlaces 2 (some .int), Cond.methodLink RX4 72 yX2_length, Cond.instanceMethod yX2_length, Cond.selects RX2 yX2_length yX2_length, Cond.initialized RX2, Cond.code yX2_length cX2_length 1 (some .int), Cond.fieldLink RX2 15 "TurnedRows$Row" "length" "I", Cond.methodLink RX4 182 yX4_countFits, Cond.static yX4_countFits, Cond.code yX4_countFits cX4_countFits 4 (some .int), Cond.methodLink RX4 174 yX4_fitsAt, Cond.static yX4_fitsAt, Cond.code yX4_fitsAt cX4_fitsAt 6 (some .boolean), Cond.methodLink RX4 101 yX2_at]
def wsX4_found_r2 : List Cond := [Cond.instanceMethod yX2_at, Cond.selects RX2 yX2_at yX2_at, Cond.code yX2_at cX2_at 2 (some .int), Cond.fieldLink RX2 9 "TurnedRows$Row" "numbers" "[I", Cond.methodLink RX4 185 yX4_countFalseOnes, Cond.static yX4_countFalseOnes, Cond.code yX4_countFalseOnes cX4_countFalseOnes 4 (some .int), Cond.methodLink RX4 212 yX4_isFalseOne, Cond.static yX4_isFalseOne, Cond.code yX4_isFalseOne cX4_isFalseOne 3 (some .boolean), Cond.methodLink RX4 178 yX4_sumAt, Cond.static yX4_sumAt, Cond.code yX4_sumAt cX4_sumAt 8 (some .int), Cond.methodLink RX4 188 yX4_firstFalseOne, Cond.static yX4_firstFalseOne, Cond.code yX4_firstFalseOne cX4_firstFalseOne 3 (some .int), Cond.methodLink RX4 191 yX4_greatestSum, Cond.static yX4_greatestSum, Cond.code yX4_greatestSum cX4_greatestSum 4 (some .int), Cond.methodLink RX4 84 Lib.Math.max.name, Cond.static Lib.Math.max.name, Cond.initialized "java/lang/Math", Cond.code Lib.Math.max.name Lib.Math.max.code 2 (some .int)]
def wsX4_found : List Cond := .code yX4_found cX4_found 6 (some .int) :: ((wsX4_found_r1 ++ wsX4_found_r2) ++ wsX40 ++ wsX30 ++ wsX20)
def wsX4_countCharacters : List Cond := .code yX4_countCharacters cX4_countCharacters 6 (some .int) :: ([.constantLong RX4 215 (255)])
def wsX4_put : List Cond := .code yX4_put cX4_put 5 (some .int) :: ([.fieldLink RX4 26 "TurnedRows" "pad" "LTurnedRows$Pad;", .methodLink RX4 194 yX4_countCharacters, .static yX4_countCharacters, .initialized RX4, .code yX4_countCharacters cX4_countCharacters 6 (some .int), .constantLong RX4 215 (255), .methodLink RX4 165 yX1_length, .instanceMethod yX1_length, .selects RX1 yX1_length yX1_length, .initialized RX1, .code yX1_length cX1_length 1 (some .int), .fieldLink RX1 15 "TurnedRows$Pad" "length" "I", .methodLink RX4 198 yX1_append, .instanceMethod yX1_append, .selects RX1 yX1_append yX1_append, .code yX1_append cX1_append 2 none, .fieldLink RX1 9 "TurnedRows$Pad" "codes" "[I"] ++ wsX40 ++ wsX10)
def wsX4_wipe : List Cond := .code yX4_wipe cX4_wipe 2 (some .int) :: ([.fieldLink RX4 26 "TurnedRows" "pad" "LTurnedRows$Pad;", .methodLink RX4 165 yX1_length, .instanceMethod yX1_length, .selects RX1 yX1_length yX1_length, .initialized RX1, .code yX1_length cX1_length 1 (some .int), .fieldLink RX1 15 "TurnedRows$Pad" "length" "I", .methodLink RX4 69 yX1_empty, .instanceMethod yX1_empty, .selects RX1 yX1_empty yX1_empty, .code yX1_empty cX1_empty 1 none] ++ wsX40 ++ wsX10)
def wsX4_fault_r1 : List Cond := [Cond.fieldLink RX4 26 "TurnedRows" "pad" "LTurnedRows$Pad;", Cond.fieldLink RX4 41 "TurnedRows" "made" "LTurnedRows$Row;", Cond.methodLink RX4 61 yX1_scan, Cond.instanceMethod yX1_scan, Cond.selects RX1 yX1_scan yX1_scan, Cond.initialized RX1, Cond.code yX1_scan cX1_scan 5 (some .int), Cond.fieldLink RX1 9 "TurnedRows$Pad" "codes" "[I", Cond.fieldLink RX1 15 "TurnedRows$Pad" "length" "I", Cond.methodLink RX1 19 yX1_withDigit, Cond.static yX1_withDigit, Cond.code yX1_withDigit cX1_withDigit 3 (some .int), Cond.methodLink RX1 33 Lib.Math.max.name, Cond.static Lib.Math.max.name, Cond.initialized "java/lang/Math", Cond.code Lib.Math.max.name Lib.Math.max.code 2 (some .int), Cond.methodLink RX1 23 yX2_write, Cond.instanceMethod yX2_write, Cond.selects RX2 yX2_write yX2_write, Cond.initialized RX2, Cond.code yX2_write cX2_write 3 none, Cond.fieldLink RX2 9 "TurnedRows$Row" "numbers" "[I", Cond.methodLink RX2 19 yJ9_floorMod_7cf53, Cond.static yJ9_floorMod_7cf53]
def wsX4_fault_r2 : List Cond := [Cond.initialized RJ9, Cond.code yJ9_floorMod_7cf53 cJ9_floorMod_7cf53 3 (some .int), Cond.methodLink RX1 29 yX2_resize, Cond.instanceMethod yX2_resize, Cond.selects RX2 yX2_resize yX2_resize, Cond.code yX2_resize cX2_resize 3 none, Cond.fieldLink RX2 15 "TurnedRows$Row" "length" "I", Cond.methodLink RX2 25 yX2_write]
def wsX4_fault : List Cond := .code yX4_fault cX4_fault 1 (some .int) :: ((wsX4_fault_r1 ++ wsX4_fault_r2) ++ wsX40 ++ wsX10 ++ wsX20)
def wsX4_undo_r1 : List Cond := [Cond.fieldLink RX4 19 "TurnedRows" "history" "LTurnedRows$History;", Cond.fieldLink RX4 10 "TurnedRows" "state" "LTurnedRows$State;", Cond.methodLink RX4 166 yX0_length, Cond.instanceMethod yX0_length, Cond.selects RX0 yX0_length yX0_length, Cond.initialized RX0, Cond.code yX0_length cX0_length 1 (some .int), Cond.fieldLink RX0 17 "TurnedRows$History" "length" "I", Cond.methodLink RX4 201 yX0_takeLatest, Cond.instanceMethod yX0_takeLatest, Cond.selects RX0 yX0_takeLatest yX0_takeLatest, Cond.code yX0_takeLatest cX0_takeLatest 2 none, Cond.fieldLink RX0 11 "TurnedRows$History" "states" "[LTurnedRows$State;", Cond.methodLink RX0 25 yX3_copyFrom, Cond.instanceMethod yX3_copyFrom, Cond.selects RX3 yX3_copyFrom yX3_copyFrom, Cond.initialized RX3, Cond.code yX3_copyFrom cX3_copyFrom 3 none, Cond.fieldLink RX3 11 "TurnedRows$State" "rows" "[LTurnedRows$Row;", Cond.methodLink RX3 22 yX2_copyFrom, Cond.instanceMethod yX2_copyFrom, Cond.selects RX2 yX2_copyFrom yX2_copyFrom, Cond.initialized RX2, Cond.code yX2_copyFrom cX2_copyFrom 2 none]
def wsX4_undo_r2 : List Cond := [Cond.fieldLink RX2 9 "TurnedRows$Row" "numbers" "[I", Cond.methodLink RX2 35 arraycopyName, Cond.native arraycopyName, Cond.static arraycopyName, Cond.initialized "java/lang/System", Cond.fieldLink RX2 15 "TurnedRows$Row" "length" "I"]
def wsX4_undo : List Cond := .code yX4_undo cX4_undo 1 (some .int) :: ((wsX4_undo_r1 ++ wsX4_undo_r2) ++ wsX40 ++ wsX00 ++ wsX30 ++ wsX20)
def wsX4_isSlot : List Cond := .code yX4_isSlot cX4_isSlot 1 (some .boolean) :: ([])
def wsX4_save_r1 : List Cond := [Cond.fieldLink RX4 30 "TurnedRows" "slots" "[LTurnedRows$State;", Cond.fieldLink RX4 10 "TurnedRows" "state" "LTurnedRows$State;", Cond.fieldLink RX4 34 "TurnedRows" "saved" "[Z", Cond.methodLink RX4 204 yX4_isSlot, Cond.static yX4_isSlot, Cond.initialized RX4, Cond.code yX4_isSlot cX4_isSlot 1 (some .boolean), Cond.methodLink RX4 207 yX3_copyFrom, Cond.instanceMethod yX3_copyFrom, Cond.selects RX3 yX3_copyFrom yX3_copyFrom, Cond.initialized RX3, Cond.code yX3_copyFrom cX3_copyFrom 3 none, Cond.fieldLink RX3 11 "TurnedRows$State" "rows" "[LTurnedRows$Row;", Cond.methodLink RX3 22 yX2_copyFrom, Cond.instanceMethod yX2_copyFrom, Cond.selects RX2 yX2_copyFrom yX2_copyFrom, Cond.initialized RX2, Cond.code yX2_copyFrom cX2_copyFrom 2 none, Cond.fieldLink RX2 9 "TurnedRows$Row" "numbers" "[I", Cond.methodLink RX2 35 arraycopyName, Cond.native arraycopyName, Cond.static arraycopyName, Cond.initialized "java/lang/System", Cond.fieldLink RX2 15 "TurnedRows$Row" "length" "I"]
def wsX4_save_r2 : List Cond := [Cond.methodLink RX4 162 yX3_lengths, Cond.instanceMethod yX3_lengths, Cond.selects RX3 yX3_lengths yX3_lengths, Cond.code yX3_lengths cX3_lengths 3 (some .int), Cond.methodLink RX3 18 yX2_length, Cond.instanceMethod yX2_length, Cond.selects RX2 yX2_length yX2_length, Cond.code yX2_length cX2_length 1 (some .int)]
def wsX4_save : List Cond := .code yX4_save cX4_save 2 (some .int) :: ((wsX4_save_r1 ++ wsX4_save_r2) ++ wsX40 ++ wsX30 ++ wsX20)
def wsX4_restore_r1 : List Cond := [Cond.fieldLink RX4 34 "TurnedRows" "saved" "[Z", Cond.fieldLink RX4 19 "TurnedRows" "history" "LTurnedRows$History;", Cond.fieldLink RX4 10 "TurnedRows" "state" "LTurnedRows$State;", Cond.fieldLink RX4 30 "TurnedRows" "slots" "[LTurnedRows$State;", Cond.methodLink RX4 204 yX4_isSlot, Cond.static yX4_isSlot, Cond.initialized RX4, Cond.code yX4_isSlot cX4_isSlot 1 (some .boolean), Cond.methodLink RX4 80 yX0_keep, Cond.instanceMethod yX0_keep, Cond.selects RX0 yX0_keep yX0_keep, Cond.initialized RX0, Cond.code yX0_keep cX0_keep 2 none, Cond.fieldLink RX0 17 "TurnedRows$History" "length" "I", Cond.fieldLink RX0 11 "TurnedRows$History" "states" "[LTurnedRows$State;", Cond.methodLink RX0 22 yX0_dropOldest, Cond.instanceMethod yX0_dropOldest, Cond.selects RX0 yX0_dropOldest yX0_dropOldest, Cond.code yX0_dropOldest cX0_dropOldest 3 none, Cond.methodLink RX0 25 yX3_copyFrom, Cond.instanceMethod yX3_copyFrom, Cond.selects RX3 yX3_copyFrom yX3_copyFrom, Cond.initialized RX3, Cond.code yX3_copyFrom cX3_copyFrom 3 none]
def wsX4_restore_r2 : List Cond := [Cond.fieldLink RX3 11 "TurnedRows$State" "rows" "[LTurnedRows$Row;", Cond.methodLink RX3 22 yX2_copyFrom, Cond.instanceMethod yX2_copyFrom, Cond.selects RX2 yX2_copyFrom yX2_copyFrom, Cond.initialized RX2, Cond.code yX2_copyFrom cX2_copyFrom 2 none, Cond.fieldLink RX2 9 "TurnedRows$Row" "numbers" "[I", Cond.methodLink RX2 35 arraycopyName, Cond.native arraycopyName, Cond.static arraycopyName, Cond.initialized "java/lang/System", Cond.fieldLink RX2 15 "TurnedRows$Row" "length" "I", Cond.methodLink RX4 207 yX3_copyFrom, Cond.methodLink RX4 162 yX3_lengths, Cond.instanceMethod yX3_lengths, Cond.selects RX3 yX3_lengths yX3_lengths, Cond.code yX3_lengths cX3_lengths 3 (some .int), Cond.methodLink RX3 18 yX2_length, Cond.instanceMethod yX2_length, Cond.selects RX2 yX2_length yX2_length, Cond.code yX2_length cX2_length 1 (some .int)]
def wsX4_restore : List Cond := .code yX4_restore cX4_restore 2 (some .int) :: ((wsX4_restore_r1 ++ wsX4_restore_r2) ++ wsX40 ++ wsX00 ++ wsX30 ++ wsX20)
def wsX5_init : List Cond := .code yX5_init cX5_init 2 none :: ([.methodLink RX5 1 objectInit, .instanceMethod objectInit, .code objectInit ⟨#[0xb1]⟩ 1 none, .arrayClass .int, .fieldLink RX5 7 "TurnedRowsModel" "z" "[I", .fieldLink RX5 13 "TurnedRowsModel" "past" "[I", .fieldLink RX5 16 "TurnedRowsModel" "slots" "[I", .arrayClass .boolean, .fieldLink RX5 19 "TurnedRowsModel" "isSaved" "[Z", .arrayClass .char, .fieldLink RX5 23 "TurnedRowsModel" "pad" "[C", .fieldLink RX5 27 "TurnedRowsModel" "out" "[I", .fieldLink RX5 30 "TurnedRowsModel" "one" "[I", .fieldLink RX5 33 "TurnedRowsModel" "two" "[I"] ++ wsX50)
def wsX5_in : List Cond := .code yX5_in cX5_in 3 (some .boolean) :: ([])
def wsX5_isRegister : List Cond := .code yX5_isRegister cX5_isRegister 1 (some .boolean) :: ([.methodLink RX5 36 yX5_in, .static yX5_in, .initialized RX5, .code yX5_in cX5_in 3 (some .boolean)])
def wsX5_isNumber : List Cond := .code yX5_isNumber cX5_isNumber 1 (some .boolean) :: ([.methodLink RX5 36 yX5_in, .static yX5_in, .initialized RX5, .code yX5_in cX5_in 3 (some .boolean)])
def wsX5_lengthOf : List Cond := .code yX5_lengthOf cX5_lengthOf 2 (some .int) :: ([.fieldLink RX5 7 "TurnedRowsModel" "z" "[I"] ++ wsX50)
def wsX5_at : List Cond := .code yX5_at cX5_at 3 (some .int) :: ([.fieldLink RX5 7 "TurnedRowsModel" "z" "[I", .methodLink RX5 40 yX5_lengthOf, .instanceMethod yX5_lengthOf, .selects RX5 yX5_lengthOf yX5_lengthOf, .initialized RX5, .code yX5_lengthOf cX5_lengthOf 2 (some .int)] ++ wsX50)
def wsX5_record : List Cond := .code yX5_record cX5_record 2 none :: ([.fieldLink RX5 44 "TurnedRowsModel" "pastMany" "I", .fieldLink RX5 13 "TurnedRowsModel" "past" "[I", .fieldLink RX5 7 "TurnedRowsModel" "z" "[I"] ++ wsX50)
def wsX5_undo : List Cond := .code yX5_undo cX5_undo 2 (some .int) :: ([.fieldLink RX5 44 "TurnedRowsModel" "pastMany" "I", .fieldLink RX5 7 "TurnedRowsModel" "z" "[I", .fieldLink RX5 13 "TurnedRowsModel" "past" "[I"] ++ wsX50)
def wsX5_lengths : List Cond := .code yX5_lengths cX5_lengths 3 (some .int) :: ([.methodLink RX5 40 yX5_lengthOf, .instanceMethod yX5_lengthOf, .selects RX5 yX5_lengthOf yX5_lengthOf, .initialized RX5, .code yX5_lengthOf cX5_lengthOf 2 (some .int), .fieldLink RX5 7 "TurnedRowsModel" "z" "[I"] ++ wsX50)
def wsX5_save : List Cond := .code yX5_save cX5_save 3 (some .int) :: ([.fieldLink RX5 19 "TurnedRowsModel" "isSaved" "[Z", .fieldLink RX5 16 "TurnedRowsModel" "slots" "[I", .fieldLink RX5 7 "TurnedRowsModel" "z" "[I", .methodLink RX5 36 yX5_in, .static yX5_in, .initialized RX5, .code yX5_in cX5_in 3 (some .boolean), .methodLink RX5 48 yX5_lengths, .instanceMethod yX5_lengths, .selects RX5 yX5_lengths yX5_lengths, .code yX5_lengths cX5_lengths 3 (some .int), .methodLink RX5 40 yX5_lengthOf, .instanceMethod yX5_lengthOf, .selects RX5 yX5_lengthOf yX5_lengthOf, .code yX5_lengthOf cX5_lengthOf 2 (some .int)] ++ wsX50)
def wsX5_restore : List Cond := .code yX5_restore cX5_restore 3 (some .int) :: ([.fieldLink RX5 19 "TurnedRowsModel" "isSaved" "[Z", .fieldLink RX5 7 "TurnedRowsModel" "z" "[I", .fieldLink RX5 16 "TurnedRowsModel" "slots" "[I", .methodLink RX5 36 yX5_in, .static yX5_in, .initialized RX5, .code yX5_in cX5_in 3 (some .boolean), .methodLink RX5 52 yX5_record, .instanceMethod yX5_record, .selects RX5 yX5_record yX5_record, .code yX5_record cX5_record 2 none, .fieldLink RX5 44 "TurnedRowsModel" "pastMany" "I", .fieldLink RX5 13 "TurnedRowsModel" "past" "[I", .methodLink RX5 48 yX5_lengths, .instanceMethod yX5_lengths, .selects RX5 yX5_lengths yX5_lengths, .code yX5_lengths cX5_lengths 3 (some .int), .methodLink RX5 40 yX5_lengthOf, .instanceMethod yX5_lengthOf, .selects RX5 yX5_lengthOf yX5_lengthOf, .code yX5_lengthOf cX5_lengthOf 2 (some .int)] ++ wsX50)
def wsX5_times : List Cond := .code yX5_times cX5_times 2 (some .int) :: ([])
def wsX5_less : List Cond := .code yX5_less cX5_less 2 (some .int) :: ([])
def wsX5_raised : List Cond := .code yX5_raised cX5_raised 4 (some .int) :: ([.methodLink RX5 55 yX5_times, .static yX5_times, .initialized RX5, .code yX5_times cX5_times 2 (some .int)])
def wsX5_over : List Cond := .code yX5_over cX5_over 1 (some .int) :: ([.methodLink RX5 59 yX5_raised, .static yX5_raised, .initialized RX5, .code yX5_raised cX5_raised 4 (some .int), .methodLink RX5 55 yX5_times, .static yX5_times, .code yX5_times cX5_times 2 (some .int)])
def wsX5_blank : List Cond := .code yX5_blank cX5_blank 3 none :: ([.fieldLink RX5 62 "TurnedRowsModel" "length" "I", .fieldLink RX5 27 "TurnedRowsModel" "out" "[I"] ++ wsX50)
def wsX5_store : List Cond := .code yX5_store cX5_store 3 none :: ([.fieldLink RX5 7 "TurnedRowsModel" "z" "[I", .fieldLink RX5 62 "TurnedRowsModel" "length" "I", .fieldLink RX5 27 "TurnedRowsModel" "out" "[I"] ++ wsX50)
def wsX5_degreeOf : List Cond := .code yX5_degreeOf cX5_degreeOf 4 (some .int) :: ([.methodLink RX5 40 yX5_lengthOf, .instanceMethod yX5_lengthOf, .selects RX5 yX5_lengthOf yX5_lengthOf, .initialized RX5, .code yX5_lengthOf cX5_lengthOf 2 (some .int), .fieldLink RX5 7 "TurnedRowsModel" "z" "[I", .methodLink RX5 65 yX5_at, .instanceMethod yX5_at, .selects RX5 yX5_at yX5_at, .code yX5_at cX5_at 3 (some .int)] ++ wsX50)
def wsX5_degreeOut : List Cond := .code yX5_degreeOut cX5_degreeOut 3 (some .int) :: ([.fieldLink RX5 62 "TurnedRowsModel" "length" "I", .fieldLink RX5 27 "TurnedRowsModel" "out" "[I"] ++ wsX50)
def wsX5_set : List Cond := .code yX5_set cX5_set 4 (some .int) :: ([.fieldLink RX5 7 "TurnedRowsModel" "z" "[I", .methodLink RX5 68 yX5_isRegister, .static yX5_isRegister, .initialized RX5, .code yX5_isRegister cX5_isRegister 1 (some .boolean), .methodLink RX5 36 yX5_in, .static yX5_in, .code yX5_in cX5_in 3 (some .boolean), .methodLink RX5 40 yX5_lengthOf, .instanceMethod yX5_lengthOf, .selects RX5 yX5_lengthOf yX5_lengthOf, .code yX5_lengthOf cX5_lengthOf 2 (some .int), .methodLink RX5 72 yX5_isNumber, .static yX5_isNumber, .code yX5_isNumber cX5_isNumber 1 (some .boolean), .methodLink RX5 52 yX5_record, .instanceMethod yX5_record, .selects RX5 yX5_record yX5_record, .code yX5_record cX5_record 2 none, .fieldLink RX5 44 "TurnedRowsModel" "pastMany" "I", .fieldLink RX5 13 "TurnedRowsModel" "past" "[I"] ++ wsX50)
def wsX5_add_r1 : List Cond := [Cond.fieldLink RX5 62 "TurnedRowsModel" "length" "I", Cond.fieldLink RX5 27 "TurnedRowsModel" "out" "[I", Cond.methodLink RX5 68 yX5_isRegister, Cond.static yX5_isRegister, Cond.initialized RX5, Cond.code yX5_isRegister cX5_isRegister 1 (some .boolean), Cond.methodLink RX5 36 yX5_in, Cond.static yX5_in, Cond.code yX5_in cX5_in 3 (some .boolean), Cond.methodLink RX5 72 yX5_isNumber, Cond.static yX5_isNumber, Cond.code yX5_isNumber cX5_isNumber 1 (some .boolean), Cond.methodLink RX5 52 yX5_record, Cond.instanceMethod yX5_record, Cond.selects RX5 yX5_record yX5_record, Cond.code yX5_record cX5_record 2 none, Cond.fieldLink RX5 44 "TurnedRowsModel" "pastMany" "I", Cond.fieldLink RX5 13 "TurnedRowsModel" "past" "[I", Cond.fieldLink RX5 7 "TurnedRowsModel" "z" "[I", Cond.methodLink RX5 40 yX5_lengthOf, Cond.instanceMethod yX5_lengthOf, Cond.selects RX5 yX5_lengthOf yX5_lengthOf, Cond.code yX5_lengthOf cX5_lengthOf 2 (some .int), Cond.methodLink RX5 75 yX5_blank]
def wsX5_add_r2 : List Cond := [Cond.instanceMethod yX5_blank, Cond.selects RX5 yX5_blank yX5_blank, Cond.code yX5_blank cX5_blank 3 none, Cond.methodLink RX5 65 yX5_at, Cond.instanceMethod yX5_at, Cond.selects RX5 yX5_at yX5_at, Cond.code yX5_at cX5_at 3 (some .int), Cond.methodLink RX5 55 yX5_times, Cond.static yX5_times, Cond.code yX5_times cX5_times 2 (some .int), Cond.methodLink RX5 79 yX5_store, Cond.instanceMethod yX5_store, Cond.selects RX5 yX5_store yX5_store, Cond.code yX5_store cX5_store 3 none]
def wsX5_add : List Cond := .code yX5_add cX5_add 6 (some .int) :: ((wsX5_add_r1 ++ wsX5_add_r2) ++ wsX50)
def wsX5_product_r1 : List Cond := [Cond.fieldLink RX5 27 "TurnedRowsModel" "out" "[I", Cond.methodLink RX5 68 yX5_isRegister, Cond.static yX5_isRegister, Cond.initialized RX5, Cond.code yX5_isRegister cX5_isRegister 1 (some .boolean), Cond.methodLink RX5 36 yX5_in, Cond.static yX5_in, Cond.code yX5_in cX5_in 3 (some .boolean), Cond.methodLink RX5 40 yX5_lengthOf, Cond.instanceMethod yX5_lengthOf, Cond.selects RX5 yX5_lengthOf yX5_lengthOf, Cond.code yX5_lengthOf cX5_lengthOf 2 (some .int), Cond.fieldLink RX5 7 "TurnedRowsModel" "z" "[I", Cond.methodLink RX5 52 yX5_record, Cond.instanceMethod yX5_record, Cond.selects RX5 yX5_record yX5_record, Cond.code yX5_record cX5_record 2 none, Cond.fieldLink RX5 44 "TurnedRowsModel" "pastMany" "I", Cond.fieldLink RX5 13 "TurnedRowsModel" "past" "[I", Cond.methodLink RX5 75 yX5_blank, Cond.instanceMethod yX5_blank, Cond.selects RX5 yX5_blank yX5_blank, Cond.code yX5_blank cX5_blank 3 none, Cond.fieldLink RX5 62 "TurnedRowsModel" "length" "I"]
def wsX5_product_r2 : List Cond := [Cond.methodLink RX5 65 yX5_at, Cond.instanceMethod yX5_at, Cond.selects RX5 yX5_at yX5_at, Cond.code yX5_at cX5_at 3 (some .int), Cond.methodLink RX5 79 yX5_store, Cond.instanceMethod yX5_store, Cond.selects RX5 yX5_store yX5_store, Cond.code yX5_store cX5_store 3 none]
def wsX5_product : List Cond := .code yX5_product cX5_product 7 (some .int) :: ((wsX5_product_r1 ++ wsX5_product_r2) ++ wsX50)
def wsX5_round_r1 : List Cond := [Cond.fieldLink RX5 27 "TurnedRowsModel" "out" "[I", Cond.methodLink RX5 68 yX5_isRegister, Cond.static yX5_isRegister, Cond.initialized RX5, Cond.code yX5_isRegister cX5_isRegister 1 (some .boolean), Cond.methodLink RX5 36 yX5_in, Cond.static yX5_in, Cond.code yX5_in cX5_in 3 (some .boolean), Cond.methodLink RX5 52 yX5_record, Cond.instanceMethod yX5_record, Cond.selects RX5 yX5_record yX5_record, Cond.code yX5_record cX5_record 2 none, Cond.fieldLink RX5 44 "TurnedRowsModel" "pastMany" "I", Cond.fieldLink RX5 13 "TurnedRowsModel" "past" "[I", Cond.fieldLink RX5 7 "TurnedRowsModel" "z" "[I", Cond.methodLink RX5 75 yX5_blank, Cond.instanceMethod yX5_blank, Cond.selects RX5 yX5_blank yX5_blank, Cond.code yX5_blank cX5_blank 3 none, Cond.fieldLink RX5 62 "TurnedRowsModel" "length" "I", Cond.methodLink RX5 40 yX5_lengthOf, Cond.instanceMethod yX5_lengthOf, Cond.selects RX5 yX5_lengthOf yX5_lengthOf, Cond.code yX5_lengthOf cX5_lengthOf 2 (some .int)]
def wsX5_round_r2 : List Cond := [Cond.methodLink RX5 65 yX5_at, Cond.instanceMethod yX5_at, Cond.selects RX5 yX5_at yX5_at, Cond.code yX5_at cX5_at 3 (some .int), Cond.methodLink RX5 79 yX5_store, Cond.instanceMethod yX5_store, Cond.selects RX5 yX5_store yX5_store, Cond.code yX5_store cX5_store 3 none, Cond.methodLink RX5 82 yX5_degreeOut, Cond.instanceMethod yX5_degreeOut, Cond.selects RX5 yX5_degreeOut yX5_degreeOut, Cond.code yX5_degreeOut cX5_degreeOut 3 (some .int)]
def wsX5_round : List Cond := .code yX5_round cX5_round 8 (some .int) :: ((wsX5_round_r1 ++ wsX5_round_r2) ++ wsX50)
def wsX5_multiplyOut : List Cond := .code yX5_multiplyOut cX5_multiplyOut 5 none :: ([.fieldLink RX5 62 "TurnedRowsModel" "length" "I", .fieldLink RX5 30 "TurnedRowsModel" "one" "[I", .fieldLink RX5 27 "TurnedRowsModel" "out" "[I", .methodLink RX5 40 yX5_lengthOf, .instanceMethod yX5_lengthOf, .selects RX5 yX5_lengthOf yX5_lengthOf, .initialized RX5, .code yX5_lengthOf cX5_lengthOf 2 (some .int), .fieldLink RX5 7 "TurnedRowsModel" "z" "[I", .methodLink RX5 75 yX5_blank, .instanceMethod yX5_blank, .selects RX5 yX5_blank yX5_blank, .code yX5_blank cX5_blank 3 none, .methodLink RX5 65 yX5_at, .instanceMethod yX5_at, .selects RX5 yX5_at yX5_at, .code yX5_at cX5_at 3 (some .int)] ++ wsX50)
def wsX5_power_r1 : List Cond := [Cond.fieldLink RX5 27 "TurnedRowsModel" "out" "[I", Cond.fieldLink RX5 62 "TurnedRowsModel" "length" "I", Cond.methodLink RX5 68 yX5_isRegister, Cond.static yX5_isRegister, Cond.initialized RX5, Cond.code yX5_isRegister cX5_isRegister 1 (some .boolean), Cond.methodLink RX5 36 yX5_in, Cond.static yX5_in, Cond.code yX5_in cX5_in 3 (some .boolean), Cond.methodLink RX5 40 yX5_lengthOf, Cond.instanceMethod yX5_lengthOf, Cond.selects RX5 yX5_lengthOf yX5_lengthOf, Cond.code yX5_lengthOf cX5_lengthOf 2 (some .int), Cond.fieldLink RX5 7 "TurnedRowsModel" "z" "[I", Cond.methodLink RX5 52 yX5_record, Cond.instanceMethod yX5_record, Cond.selects RX5 yX5_record yX5_record, Cond.code yX5_record cX5_record 2 none, Cond.fieldLink RX5 44 "TurnedRowsModel" "pastMany" "I", Cond.fieldLink RX5 13 "TurnedRowsModel" "past" "[I", Cond.methodLink RX5 75 yX5_blank, Cond.instanceMethod yX5_blank, Cond.selects RX5 yX5_blank yX5_blank, Cond.code yX5_blank cX5_blank 3 none]
def wsX5_power_r2 : List Cond := [Cond.methodLink RX5 85 yX5_multiplyOut, Cond.instanceMethod yX5_multiplyOut, Cond.selects RX5 yX5_multiplyOut yX5_multiplyOut, Cond.code yX5_multiplyOut cX5_multiplyOut 5 none, Cond.fieldLink RX5 30 "TurnedRowsModel" "one" "[I", Cond.methodLink RX5 65 yX5_at, Cond.instanceMethod yX5_at, Cond.selects RX5 yX5_at yX5_at, Cond.code yX5_at cX5_at 3 (some .int), Cond.methodLink RX5 79 yX5_store, Cond.instanceMethod yX5_store, Cond.selects RX5 yX5_store yX5_store, Cond.code yX5_store cX5_store 3 none]
def wsX5_power : List Cond := .code yX5_power cX5_power 5 (some .int) :: ((wsX5_power_r1 ++ wsX5_power_r2) ++ wsX50)
def wsX5_inverse_r1 : List Cond := [Cond.fieldLink RX5 27 "TurnedRowsModel" "out" "[I", Cond.methodLink RX5 68 yX5_isRegister, Cond.static yX5_isRegister, Cond.initialized RX5, Cond.code yX5_isRegister cX5_isRegister 1 (some .boolean), Cond.methodLink RX5 36 yX5_in, Cond.static yX5_in, Cond.code yX5_in cX5_in 3 (some .boolean), Cond.methodLink RX5 65 yX5_at, Cond.instanceMethod yX5_at, Cond.selects RX5 yX5_at yX5_at, Cond.code yX5_at cX5_at 3 (some .int), Cond.fieldLink RX5 7 "TurnedRowsModel" "z" "[I", Cond.methodLink RX5 40 yX5_lengthOf, Cond.instanceMethod yX5_lengthOf, Cond.selects RX5 yX5_lengthOf yX5_lengthOf, Cond.code yX5_lengthOf cX5_lengthOf 2 (some .int), Cond.methodLink RX5 52 yX5_record, Cond.instanceMethod yX5_record, Cond.selects RX5 yX5_record yX5_record, Cond.code yX5_record cX5_record 2 none, Cond.fieldLink RX5 44 "TurnedRowsModel" "pastMany" "I", Cond.fieldLink RX5 13 "TurnedRowsModel" "past" "[I", Cond.methodLink RX5 75 yX5_blank]
def wsX5_inverse_r2 : List Cond := [Cond.instanceMethod yX5_blank, Cond.selects RX5 yX5_blank yX5_blank, Cond.code yX5_blank cX5_blank 3 none, Cond.fieldLink RX5 62 "TurnedRowsModel" "length" "I", Cond.methodLink RX5 88 yX5_over, Cond.static yX5_over, Cond.code yX5_over cX5_over 1 (some .int), Cond.methodLink RX5 59 yX5_raised, Cond.static yX5_raised, Cond.code yX5_raised cX5_raised 4 (some .int), Cond.methodLink RX5 55 yX5_times, Cond.static yX5_times, Cond.code yX5_times cX5_times 2 (some .int), Cond.methodLink RX5 91 yX5_less, Cond.static yX5_less, Cond.code yX5_less cX5_less 2 (some .int), Cond.methodLink RX5 79 yX5_store, Cond.instanceMethod yX5_store, Cond.selects RX5 yX5_store yX5_store, Cond.code yX5_store cX5_store 3 none, Cond.methodLink RX5 82 yX5_degreeOut, Cond.instanceMethod yX5_degreeOut, Cond.selects RX5 yX5_degreeOut yX5_degreeOut, Cond.code yX5_degreeOut cX5_degreeOut 3 (some .int)]
def wsX5_inverse : List Cond := .code yX5_inverse cX5_inverse 8 (some .int) :: ((wsX5_inverse_r1 ++ wsX5_inverse_r2) ++ wsX50)
def wsX5_divideRows : List Cond := .code yX5_divideRows cX5_divideRows 7 none :: ([.fieldLink RX5 33 "TurnedRowsModel" "two" "[I", .fieldLink RX5 30 "TurnedRowsModel" "one" "[I", .fieldLink RX5 27 "TurnedRowsModel" "out" "[I", .methodLink RX5 88 yX5_over, .static yX5_over, .initialized RX5, .code yX5_over cX5_over 1 (some .int), .methodLink RX5 59 yX5_raised, .static yX5_raised, .code yX5_raised cX5_raised 4 (some .int), .methodLink RX5 55 yX5_times, .static yX5_times, .code yX5_times cX5_times 2 (some .int), .methodLink RX5 91 yX5_less, .static yX5_less, .code yX5_less cX5_less 2 (some .int)] ++ wsX50)
def wsX5_divide_r1 : List Cond := [Cond.fieldLink RX5 30 "TurnedRowsModel" "one" "[I", Cond.fieldLink RX5 33 "TurnedRowsModel" "two" "[I", Cond.fieldLink RX5 27 "TurnedRowsModel" "out" "[I", Cond.methodLink RX5 68 yX5_isRegister, Cond.static yX5_isRegister, Cond.initialized RX5, Cond.code yX5_isRegister cX5_isRegister 1 (some .boolean), Cond.methodLink RX5 36 yX5_in, Cond.static yX5_in, Cond.code yX5_in cX5_in 3 (some .boolean), Cond.methodLink RX5 94 yX5_degreeOf, Cond.instanceMethod yX5_degreeOf, Cond.selects RX5 yX5_degreeOf yX5_degreeOf, Cond.code yX5_degreeOf cX5_degreeOf 4 (some .int), Cond.methodLink RX5 40 yX5_lengthOf, Cond.instanceMethod yX5_lengthOf, Cond.selects RX5 yX5_lengthOf yX5_lengthOf, Cond.code yX5_lengthOf cX5_lengthOf 2 (some .int), Cond.fieldLink RX5 7 "TurnedRowsModel" "z" "[I", Cond.methodLink RX5 65 yX5_at, Cond.instanceMethod yX5_at, Cond.selects RX5 yX5_at yX5_at, Cond.code yX5_at cX5_at 3 (some .int), Cond.methodLink RX5 52 yX5_record]
def wsX5_divide_r2 : List Cond := [Cond.instanceMethod yX5_record, Cond.selects RX5 yX5_record yX5_record, Cond.code yX5_record cX5_record 2 none, Cond.fieldLink RX5 44 "TurnedRowsModel" "pastMany" "I", Cond.fieldLink RX5 13 "TurnedRowsModel" "past" "[I", Cond.methodLink RX5 75 yX5_blank, Cond.instanceMethod yX5_blank, Cond.selects RX5 yX5_blank yX5_blank, Cond.code yX5_blank cX5_blank 3 none, Cond.fieldLink RX5 62 "TurnedRowsModel" "length" "I", Cond.methodLink RX5 97 yX5_divideRows, Cond.instanceMethod yX5_divideRows, Cond.selects RX5 yX5_divideRows yX5_divideRows, Cond.code yX5_divideRows cX5_divideRows 7 none, Cond.methodLink RX5 88 yX5_over, Cond.static yX5_over, Cond.code yX5_over cX5_over 1 (some .int), Cond.methodLink RX5 59 yX5_raised, Cond.static yX5_raised, Cond.code yX5_raised cX5_raised 4 (some .int), Cond.methodLink RX5 55 yX5_times, Cond.static yX5_times, Cond.code yX5_times cX5_times 2 (some .int), Cond.methodLink RX5 91 yX5_less]
def wsX5_divide_r3 : List Cond := [Cond.static yX5_less, Cond.code yX5_less cX5_less 2 (some .int), Cond.methodLink RX5 79 yX5_store, Cond.instanceMethod yX5_store, Cond.selects RX5 yX5_store yX5_store, Cond.code yX5_store cX5_store 3 none, Cond.methodLink RX5 82 yX5_degreeOut, Cond.instanceMethod yX5_degreeOut, Cond.selects RX5 yX5_degreeOut yX5_degreeOut, Cond.code yX5_degreeOut cX5_degreeOut 3 (some .int)]
def wsX5_divide : List Cond := .code yX5_divide cX5_divide 8 (some .int) :: ((wsX5_divide_r1 ++ (wsX5_divide_r2 ++ wsX5_divide_r3)) ++ wsX50)
def wsX5_degreeIn : List Cond := .code yX5_degreeIn cX5_degreeIn 3 (some .int) :: ([])
def wsX5_divisor_r1 : List Cond := [Cond.fieldLink RX5 30 "TurnedRowsModel" "one" "[I", Cond.fieldLink RX5 33 "TurnedRowsModel" "two" "[I", Cond.fieldLink RX5 27 "TurnedRowsModel" "out" "[I", Cond.methodLink RX5 68 yX5_isRegister, Cond.static yX5_isRegister, Cond.initialized RX5, Cond.code yX5_isRegister cX5_isRegister 1 (some .boolean), Cond.methodLink RX5 36 yX5_in, Cond.static yX5_in, Cond.code yX5_in cX5_in 3 (some .boolean), Cond.methodLink RX5 94 yX5_degreeOf, Cond.instanceMethod yX5_degreeOf, Cond.selects RX5 yX5_degreeOf yX5_degreeOf, Cond.code yX5_degreeOf cX5_degreeOf 4 (some .int), Cond.methodLink RX5 40 yX5_lengthOf, Cond.instanceMethod yX5_lengthOf, Cond.selects RX5 yX5_lengthOf yX5_lengthOf, Cond.code yX5_lengthOf cX5_lengthOf 2 (some .int), Cond.fieldLink RX5 7 "TurnedRowsModel" "z" "[I", Cond.methodLink RX5 65 yX5_at, Cond.instanceMethod yX5_at, Cond.selects RX5 yX5_at yX5_at, Cond.code yX5_at cX5_at 3 (some .int), Cond.methodLink RX5 52 yX5_record]
def wsX5_divisor_r2 : List Cond := [Cond.instanceMethod yX5_record, Cond.selects RX5 yX5_record yX5_record, Cond.code yX5_record cX5_record 2 none, Cond.fieldLink RX5 44 "TurnedRowsModel" "pastMany" "I", Cond.fieldLink RX5 13 "TurnedRowsModel" "past" "[I", Cond.methodLink RX5 101 yX5_degreeIn, Cond.static yX5_degreeIn, Cond.code yX5_degreeIn cX5_degreeIn 3 (some .int), Cond.methodLink RX5 75 yX5_blank, Cond.instanceMethod yX5_blank, Cond.selects RX5 yX5_blank yX5_blank, Cond.code yX5_blank cX5_blank 3 none, Cond.fieldLink RX5 62 "TurnedRowsModel" "length" "I", Cond.methodLink RX5 97 yX5_divideRows, Cond.instanceMethod yX5_divideRows, Cond.selects RX5 yX5_divideRows yX5_divideRows, Cond.code yX5_divideRows cX5_divideRows 7 none, Cond.methodLink RX5 88 yX5_over, Cond.static yX5_over, Cond.code yX5_over cX5_over 1 (some .int), Cond.methodLink RX5 59 yX5_raised, Cond.static yX5_raised, Cond.code yX5_raised cX5_raised 4 (some .int), Cond.methodLink RX5 55 yX5_times]
def wsX5_divisor_r3 : List Cond := [Cond.static yX5_times, Cond.code yX5_times cX5_times 2 (some .int), Cond.methodLink RX5 91 yX5_less, Cond.static yX5_less, Cond.code yX5_less cX5_less 2 (some .int), Cond.methodLink RX5 79 yX5_store, Cond.instanceMethod yX5_store, Cond.selects RX5 yX5_store yX5_store, Cond.code yX5_store cX5_store 3 none]
def wsX5_divisor : List Cond := .code yX5_divisor cX5_divisor 6 (some .int) :: ((wsX5_divisor_r1 ++ (wsX5_divisor_r2 ++ wsX5_divisor_r3)) ++ wsX50)
def wsX5_isSize : List Cond := .code yX5_isSize cX5_isSize 1 (some .boolean) :: ([])
def wsX5_pointOf : List Cond := .code yX5_pointOf cX5_pointOf 1 (some .int) :: ([.methodLink RX5 59 yX5_raised, .static yX5_raised, .initialized RX5, .code yX5_raised cX5_raised 4 (some .int), .methodLink RX5 55 yX5_times, .static yX5_times, .code yX5_times cX5_times 2 (some .int)])
def wsX5_valueAt : List Cond := .code yX5_valueAt cX5_valueAt 5 (some .int) :: ([.methodLink RX5 40 yX5_lengthOf, .instanceMethod yX5_lengthOf, .selects RX5 yX5_lengthOf yX5_lengthOf, .initialized RX5, .code yX5_lengthOf cX5_lengthOf 2 (some .int), .fieldLink RX5 7 "TurnedRowsModel" "z" "[I", .methodLink RX5 65 yX5_at, .instanceMethod yX5_at, .selects RX5 yX5_at yX5_at, .code yX5_at cX5_at 3 (some .int)] ++ wsX50)
def wsX5_turn_r1 : List Cond := [Cond.fieldLink RX5 27 "TurnedRowsModel" "out" "[I", Cond.methodLink RX5 68 yX5_isRegister, Cond.static yX5_isRegister, Cond.initialized RX5, Cond.code yX5_isRegister cX5_isRegister 1 (some .boolean), Cond.methodLink RX5 36 yX5_in, Cond.static yX5_in, Cond.code yX5_in cX5_in 3 (some .boolean), Cond.methodLink RX5 105 yX5_isSize, Cond.static yX5_isSize, Cond.code yX5_isSize cX5_isSize 1 (some .boolean), Cond.methodLink RX5 40 yX5_lengthOf, Cond.instanceMethod yX5_lengthOf, Cond.selects RX5 yX5_lengthOf yX5_lengthOf, Cond.code yX5_lengthOf cX5_lengthOf 2 (some .int), Cond.fieldLink RX5 7 "TurnedRowsModel" "z" "[I", Cond.methodLink RX5 52 yX5_record, Cond.instanceMethod yX5_record, Cond.selects RX5 yX5_record yX5_record, Cond.code yX5_record cX5_record 2 none, Cond.fieldLink RX5 44 "TurnedRowsModel" "pastMany" "I", Cond.fieldLink RX5 13 "TurnedRowsModel" "past" "[I", Cond.methodLink RX5 75 yX5_blank, Cond.instanceMethod yX5_blank]
def wsX5_turn_r2 : List Cond := [Cond.selects RX5 yX5_blank yX5_blank, Cond.code yX5_blank cX5_blank 3 none, Cond.fieldLink RX5 62 "TurnedRowsModel" "length" "I", Cond.methodLink RX5 108 yX5_pointOf, Cond.static yX5_pointOf, Cond.code yX5_pointOf cX5_pointOf 1 (some .int), Cond.methodLink RX5 59 yX5_raised, Cond.static yX5_raised, Cond.code yX5_raised cX5_raised 4 (some .int), Cond.methodLink RX5 55 yX5_times, Cond.static yX5_times, Cond.code yX5_times cX5_times 2 (some .int), Cond.methodLink RX5 111 yX5_valueAt, Cond.instanceMethod yX5_valueAt, Cond.selects RX5 yX5_valueAt yX5_valueAt, Cond.code yX5_valueAt cX5_valueAt 5 (some .int), Cond.methodLink RX5 65 yX5_at, Cond.instanceMethod yX5_at, Cond.selects RX5 yX5_at yX5_at, Cond.code yX5_at cX5_at 3 (some .int), Cond.methodLink RX5 79 yX5_store, Cond.instanceMethod yX5_store, Cond.selects RX5 yX5_store yX5_store, Cond.code yX5_store cX5_store 3 none]
def wsX5_turn : List Cond := .code yX5_turn cX5_turn 6 (some .int) :: ((wsX5_turn_r1 ++ wsX5_turn_r2) ++ wsX50)
def wsX5_turnBack_r1 : List Cond := [Cond.fieldLink RX5 27 "TurnedRowsModel" "out" "[I", Cond.methodLink RX5 68 yX5_isRegister, Cond.static yX5_isRegister, Cond.initialized RX5, Cond.code yX5_isRegister cX5_isRegister 1 (some .boolean), Cond.methodLink RX5 36 yX5_in, Cond.static yX5_in, Cond.code yX5_in cX5_in 3 (some .boolean), Cond.methodLink RX5 40 yX5_lengthOf, Cond.instanceMethod yX5_lengthOf, Cond.selects RX5 yX5_lengthOf yX5_lengthOf, Cond.code yX5_lengthOf cX5_lengthOf 2 (some .int), Cond.fieldLink RX5 7 "TurnedRowsModel" "z" "[I", Cond.methodLink RX5 105 yX5_isSize, Cond.static yX5_isSize, Cond.code yX5_isSize cX5_isSize 1 (some .boolean), Cond.methodLink RX5 52 yX5_record, Cond.instanceMethod yX5_record, Cond.selects RX5 yX5_record yX5_record, Cond.code yX5_record cX5_record 2 none, Cond.fieldLink RX5 44 "TurnedRowsModel" "pastMany" "I", Cond.fieldLink RX5 13 "TurnedRowsModel" "past" "[I", Cond.methodLink RX5 75 yX5_blank, Cond.instanceMethod yX5_blank]
def wsX5_turnBack_r2 : List Cond := [Cond.selects RX5 yX5_blank yX5_blank, Cond.code yX5_blank cX5_blank 3 none, Cond.fieldLink RX5 62 "TurnedRowsModel" "length" "I", Cond.methodLink RX5 108 yX5_pointOf, Cond.static yX5_pointOf, Cond.code yX5_pointOf cX5_pointOf 1 (some .int), Cond.methodLink RX5 59 yX5_raised, Cond.static yX5_raised, Cond.code yX5_raised cX5_raised 4 (some .int), Cond.methodLink RX5 55 yX5_times, Cond.static yX5_times, Cond.code yX5_times cX5_times 2 (some .int), Cond.methodLink RX5 88 yX5_over, Cond.static yX5_over, Cond.code yX5_over cX5_over 1 (some .int), Cond.methodLink RX5 111 yX5_valueAt, Cond.instanceMethod yX5_valueAt, Cond.selects RX5 yX5_valueAt yX5_valueAt, Cond.code yX5_valueAt cX5_valueAt 5 (some .int), Cond.methodLink RX5 65 yX5_at, Cond.instanceMethod yX5_at, Cond.selects RX5 yX5_at yX5_at, Cond.code yX5_at cX5_at 3 (some .int), Cond.methodLink RX5 79 yX5_store]
def wsX5_turnBack_r3 : List Cond := [Cond.instanceMethod yX5_store, Cond.selects RX5 yX5_store yX5_store, Cond.code yX5_store cX5_store 3 none, Cond.methodLink RX5 82 yX5_degreeOut, Cond.instanceMethod yX5_degreeOut, Cond.selects RX5 yX5_degreeOut yX5_degreeOut, Cond.code yX5_degreeOut cX5_degreeOut 3 (some .int)]
def wsX5_turnBack : List Cond := .code yX5_turnBack cX5_turnBack 6 (some .int) :: ((wsX5_turnBack_r1 ++ (wsX5_turnBack_r2 ++ wsX5_turnBack_r3)) ++ wsX50)
def wsX5_number : List Cond := .code yX5_number cX5_number 3 (some .int) :: ([.methodLink RX5 68 yX5_isRegister, .static yX5_isRegister, .initialized RX5, .code yX5_isRegister cX5_isRegister 1 (some .boolean), .methodLink RX5 36 yX5_in, .static yX5_in, .code yX5_in cX5_in 3 (some .boolean), .methodLink RX5 40 yX5_lengthOf, .instanceMethod yX5_lengthOf, .selects RX5 yX5_lengthOf yX5_lengthOf, .code yX5_lengthOf cX5_lengthOf 2 (some .int), .fieldLink RX5 7 "TurnedRowsModel" "z" "[I", .methodLink RX5 65 yX5_at, .instanceMethod yX5_at, .selects RX5 yX5_at yX5_at, .code yX5_at cX5_at 3 (some .int)] ++ wsX50)
def wsX5_notNought : List Cond := .code yX5_notNought cX5_notNought 4 (some .int) :: ([.methodLink RX5 40 yX5_lengthOf, .instanceMethod yX5_lengthOf, .selects RX5 yX5_lengthOf yX5_lengthOf, .initialized RX5, .code yX5_lengthOf cX5_lengthOf 2 (some .int), .fieldLink RX5 7 "TurnedRowsModel" "z" "[I", .methodLink RX5 65 yX5_at, .instanceMethod yX5_at, .selects RX5 yX5_at yX5_at, .code yX5_at cX5_at 3 (some .int)] ++ wsX50)
def wsX5_sumOf : List Cond := .code yX5_sumOf cX5_sumOf 4 (some .int) :: ([.methodLink RX5 40 yX5_lengthOf, .instanceMethod yX5_lengthOf, .selects RX5 yX5_lengthOf yX5_lengthOf, .initialized RX5, .code yX5_lengthOf cX5_lengthOf 2 (some .int), .fieldLink RX5 7 "TurnedRowsModel" "z" "[I", .methodLink RX5 65 yX5_at, .instanceMethod yX5_at, .selects RX5 yX5_at yX5_at, .code yX5_at cX5_at 3 (some .int)] ++ wsX50)
def wsX5_noughts : List Cond := .code yX5_noughts cX5_noughts 7 (some .int) :: ([.methodLink RX5 111 yX5_valueAt, .instanceMethod yX5_valueAt, .selects RX5 yX5_valueAt yX5_valueAt, .initialized RX5, .code yX5_valueAt cX5_valueAt 5 (some .int), .methodLink RX5 40 yX5_lengthOf, .instanceMethod yX5_lengthOf, .selects RX5 yX5_lengthOf yX5_lengthOf, .code yX5_lengthOf cX5_lengthOf 2 (some .int), .fieldLink RX5 7 "TurnedRowsModel" "z" "[I", .methodLink RX5 65 yX5_at, .instanceMethod yX5_at, .selects RX5 yX5_at yX5_at, .code yX5_at cX5_at 3 (some .int)] ++ wsX50)
def wsX5_of_r1 : List Cond := [Cond.methodLink RX5 68 yX5_isRegister, Cond.static yX5_isRegister, Cond.initialized RX5, Cond.code yX5_isRegister cX5_isRegister 1 (some .boolean), Cond.methodLink RX5 36 yX5_in, Cond.static yX5_in, Cond.code yX5_in cX5_in 3 (some .boolean), Cond.methodLink RX5 40 yX5_lengthOf, Cond.instanceMethod yX5_lengthOf, Cond.selects RX5 yX5_lengthOf yX5_lengthOf, Cond.code yX5_lengthOf cX5_lengthOf 2 (some .int), Cond.fieldLink RX5 7 "TurnedRowsModel" "z" "[I", Cond.methodLink RX5 94 yX5_degreeOf, Cond.instanceMethod yX5_degreeOf, Cond.selects RX5 yX5_degreeOf yX5_degreeOf, Cond.code yX5_degreeOf cX5_degreeOf 4 (some .int), Cond.methodLink RX5 65 yX5_at, Cond.instanceMethod yX5_at, Cond.selects RX5 yX5_at yX5_at, Cond.code yX5_at cX5_at 3 (some .int), Cond.methodLink RX5 114 yX5_notNought, Cond.instanceMethod yX5_notNought, Cond.selects RX5 yX5_notNought yX5_notNought, Cond.code yX5_notNought cX5_notNought 4 (some .int)]
def wsX5_of_r2 : List Cond := [Cond.methodLink RX5 117 yX5_sumOf, Cond.instanceMethod yX5_sumOf, Cond.selects RX5 yX5_sumOf yX5_sumOf, Cond.code yX5_sumOf cX5_sumOf 4 (some .int), Cond.methodLink RX5 120 yX5_noughts, Cond.instanceMethod yX5_noughts, Cond.selects RX5 yX5_noughts yX5_noughts, Cond.code yX5_noughts cX5_noughts 7 (some .int), Cond.methodLink RX5 111 yX5_valueAt, Cond.instanceMethod yX5_valueAt, Cond.selects RX5 yX5_valueAt yX5_valueAt, Cond.code yX5_valueAt cX5_valueAt 5 (some .int)]
def wsX5_of : List Cond := .code yX5_of cX5_of 3 (some .int) :: ((wsX5_of_r1 ++ wsX5_of_r2) ++ wsX50)
def wsX5_value : List Cond := .code yX5_value cX5_value 3 (some .int) :: ([.methodLink RX5 68 yX5_isRegister, .static yX5_isRegister, .initialized RX5, .code yX5_isRegister cX5_isRegister 1 (some .boolean), .methodLink RX5 36 yX5_in, .static yX5_in, .code yX5_in cX5_in 3 (some .boolean), .methodLink RX5 72 yX5_isNumber, .static yX5_isNumber, .code yX5_isNumber cX5_isNumber 1 (some .boolean), .methodLink RX5 111 yX5_valueAt, .instanceMethod yX5_valueAt, .selects RX5 yX5_valueAt yX5_valueAt, .code yX5_valueAt cX5_valueAt 5 (some .int), .methodLink RX5 40 yX5_lengthOf, .instanceMethod yX5_lengthOf, .selects RX5 yX5_lengthOf yX5_lengthOf, .code yX5_lengthOf cX5_lengthOf 2 (some .int), .fieldLink RX5 7 "TurnedRowsModel" "z" "[I", .methodLink RX5 65 yX5_at, .instanceMethod yX5_at, .selects RX5 yX5_at yX5_at, .code yX5_at cX5_at 3 (some .int)] ++ wsX50)
def wsX5_turningPoint : List Cond := .code yX5_turningPoint cX5_turningPoint 3 (some .int) :: ([.methodLink RX5 105 yX5_isSize, .static yX5_isSize, .initialized RX5, .code yX5_isSize cX5_isSize 1 (some .boolean), .methodLink RX5 36 yX5_in, .static yX5_in, .code yX5_in cX5_in 3 (some .boolean), .methodLink RX5 108 yX5_pointOf, .static yX5_pointOf, .code yX5_pointOf cX5_pointOf 1 (some .int), .methodLink RX5 59 yX5_raised, .static yX5_raised, .code yX5_raised cX5_raised 4 (some .int), .methodLink RX5 55 yX5_times, .static yX5_times, .code yX5_times cX5_times 2 (some .int)])
def wsX5_count : List Cond := .code yX5_count cX5_count 2 (some .int) :: ([.fieldLink RX5 124 "TurnedRowsModel" "typed" "I", .fieldLink RX5 44 "TurnedRowsModel" "pastMany" "I", .methodLink RX5 48 yX5_lengths, .instanceMethod yX5_lengths, .selects RX5 yX5_lengths yX5_lengths, .initialized RX5, .code yX5_lengths cX5_lengths 3 (some .int), .methodLink RX5 40 yX5_lengthOf, .instanceMethod yX5_lengthOf, .selects RX5 yX5_lengthOf yX5_lengthOf, .code yX5_lengthOf cX5_lengthOf 2 (some .int), .fieldLink RX5 7 "TurnedRowsModel" "z" "[I"] ++ wsX50)
def wsX5_places : List Cond := .code yX5_places cX5_places 4 (some .int) :: ([.methodLink RX5 40 yX5_lengthOf, .instanceMethod yX5_lengthOf, .selects RX5 yX5_lengthOf yX5_lengthOf, .initialized RX5, .code yX5_lengthOf cX5_lengthOf 2 (some .int), .fieldLink RX5 7 "TurnedRowsModel" "z" "[I"] ++ wsX50)
def wsX5_fitsAt : List Cond := .code yX5_fitsAt cX5_fitsAt 8 (some .boolean) :: ([.methodLink RX5 40 yX5_lengthOf, .instanceMethod yX5_lengthOf, .selects RX5 yX5_lengthOf yX5_lengthOf, .initialized RX5, .code yX5_lengthOf cX5_lengthOf 2 (some .int), .fieldLink RX5 7 "TurnedRowsModel" "z" "[I", .methodLink RX5 65 yX5_at, .instanceMethod yX5_at, .selects RX5 yX5_at yX5_at, .code yX5_at cX5_at 3 (some .int)] ++ wsX50)
def wsX5_sumAt : List Cond := .code yX5_sumAt cX5_sumAt 9 (some .int) :: ([.methodLink RX5 40 yX5_lengthOf, .instanceMethod yX5_lengthOf, .selects RX5 yX5_lengthOf yX5_lengthOf, .initialized RX5, .code yX5_lengthOf cX5_lengthOf 2 (some .int), .fieldLink RX5 7 "TurnedRowsModel" "z" "[I", .methodLink RX5 65 yX5_at, .instanceMethod yX5_at, .selects RX5 yX5_at yX5_at, .code yX5_at cX5_at 3 (some .int), .methodLink RX5 91 yX5_less, .static yX5_less, .code yX5_less cX5_less 2 (some .int), .methodLink RX5 55 yX5_times, .static yX5_times, .code yX5_times cX5_times 2 (some .int)] ++ wsX50)
def wsX5_fits_r1 : List Cond := [Cond.constantLong RX5 127 (-1), Cond.constantLong RX5 132 (-5), Cond.methodLink RX5 68 yX5_isRegister, Cond.static yX5_isRegister, Cond.initialized RX5, Cond.code yX5_isRegister cX5_isRegister 1 (some .boolean), Cond.methodLink RX5 36 yX5_in, Cond.static yX5_in, Cond.code yX5_in cX5_in 3 (some .boolean), Cond.methodLink RX5 129 yX5_places, Cond.instanceMethod yX5_places, Cond.selects RX5 yX5_places yX5_places, Cond.code yX5_places cX5_places 4 (some .int), Cond.methodLink RX5 40 yX5_lengthOf, Cond.instanceMethod yX5_lengthOf, Cond.selects RX5 yX5_lengthOf yX5_lengthOf, Cond.code yX5_lengthOf cX5_lengthOf 2 (some .int), Cond.fieldLink RX5 7 "TurnedRowsModel" "z" "[I", Cond.methodLink RX5 134 yX5_fitsAt, Cond.instanceMethod yX5_fitsAt, Cond.selects RX5 yX5_fitsAt yX5_fitsAt, Cond.code yX5_fitsAt cX5_fitsAt 8 (some .boolean), Cond.methodLink RX5 65 yX5_at, Cond.instanceMethod yX5_at]
def wsX5_fits_r2 : List Cond := [Cond.selects RX5 yX5_at yX5_at, Cond.code yX5_at cX5_at 3 (some .int)]
def wsX5_fits : List Cond := .code yX5_fits cX5_fits 6 (some .long) :: ((wsX5_fits_r1 ++ wsX5_fits_r2) ++ wsX50)
def wsX5_sum_r1 : List Cond := [Cond.methodLink RX5 68 yX5_isRegister, Cond.static yX5_isRegister, Cond.initialized RX5, Cond.code yX5_isRegister cX5_isRegister 1 (some .boolean), Cond.methodLink RX5 36 yX5_in, Cond.static yX5_in, Cond.code yX5_in cX5_in 3 (some .boolean), Cond.methodLink RX5 129 yX5_places, Cond.instanceMethod yX5_places, Cond.selects RX5 yX5_places yX5_places, Cond.code yX5_places cX5_places 4 (some .int), Cond.methodLink RX5 40 yX5_lengthOf, Cond.instanceMethod yX5_lengthOf, Cond.selects RX5 yX5_lengthOf yX5_lengthOf, Cond.code yX5_lengthOf cX5_lengthOf 2 (some .int), Cond.fieldLink RX5 7 "TurnedRowsModel" "z" "[I", Cond.methodLink RX5 137 yX5_sumAt, Cond.instanceMethod yX5_sumAt, Cond.selects RX5 yX5_sumAt yX5_sumAt, Cond.code yX5_sumAt cX5_sumAt 9 (some .int), Cond.methodLink RX5 65 yX5_at, Cond.instanceMethod yX5_at, Cond.selects RX5 yX5_at yX5_at, Cond.code yX5_at cX5_at 3 (some .int)]
def wsX5_sum_r2 : List Cond := [Cond.methodLink RX5 91 yX5_less, Cond.static yX5_less, Cond.code yX5_less cX5_less 2 (some .int), Cond.methodLink RX5 55 yX5_times, Cond.static yX5_times, Cond.code yX5_times cX5_times 2 (some .int)]
def wsX5_sum : List Cond := .code yX5_sum cX5_sum 5 (some .int) :: ((wsX5_sum_r1 ++ wsX5_sum_r2) ++ wsX50)
def wsX5_found_r1 : List Cond := [Cond.methodLink RX5 68 yX5_isRegister, Cond.static yX5_isRegister, Cond.initialized RX5, Cond.code yX5_isRegister cX5_isRegister 1 (some .boolean), Cond.methodLink RX5 36 yX5_in, Cond.static yX5_in, Cond.code yX5_in cX5_in 3 (some .boolean), Cond.methodLink RX5 129 yX5_places, Cond.instanceMethod yX5_places, Cond.selects RX5 yX5_places yX5_places, Cond.code yX5_places cX5_places 4 (some .int), Cond.methodLink RX5 40 yX5_lengthOf, Cond.instanceMethod yX5_lengthOf, Cond.selects RX5 yX5_lengthOf yX5_lengthOf, Cond.code yX5_lengthOf cX5_lengthOf 2 (some .int), Cond.fieldLink RX5 7 "TurnedRowsModel" "z" "[I", Cond.methodLink RX5 134 yX5_fitsAt, Cond.instanceMethod yX5_fitsAt, Cond.selects RX5 yX5_fitsAt yX5_fitsAt, Cond.code yX5_fitsAt cX5_fitsAt 8 (some .boolean), Cond.methodLink RX5 65 yX5_at, Cond.instanceMethod yX5_at, Cond.selects RX5 yX5_at yX5_at, Cond.code yX5_at cX5_at 3 (some .int)]
def wsX5_found_r2 : List Cond := [Cond.methodLink RX5 137 yX5_sumAt, Cond.instanceMethod yX5_sumAt, Cond.selects RX5 yX5_sumAt yX5_sumAt, Cond.code yX5_sumAt cX5_sumAt 9 (some .int), Cond.methodLink RX5 91 yX5_less, Cond.static yX5_less, Cond.code yX5_less cX5_less 2 (some .int), Cond.methodLink RX5 55 yX5_times, Cond.static yX5_times, Cond.code yX5_times cX5_times 2 (some .int)]
def wsX5_found : List Cond := .code yX5_found cX5_found 13 (some .int) :: ((wsX5_found_r1 ++ wsX5_found_r2) ++ wsX50)
def wsX5_put : List Cond := .code yX5_put cX5_put 8 (some .int) :: ([.constantLong RX5 141 (255), .fieldLink RX5 124 "TurnedRowsModel" "typed" "I", .fieldLink RX5 23 "TurnedRowsModel" "pad" "[C", .methodLink RX5 36 yX5_in, .static yX5_in, .initialized RX5, .code yX5_in cX5_in 3 (some .boolean)] ++ wsX50)
def wsX5_wipe : List Cond := .code yX5_wipe cX5_wipe 2 (some .int) :: ([.fieldLink RX5 124 "TurnedRowsModel" "typed" "I"] ++ wsX50)
def wsX5_readPad : List Cond := .code yX5_readPad cX5_readPad 6 (some .int) :: ([.fieldLink RX5 124 "TurnedRowsModel" "typed" "I", .fieldLink RX5 23 "TurnedRowsModel" "pad" "[C", .fieldLink RX5 27 "TurnedRowsModel" "out" "[I", .fieldLink RX5 62 "TurnedRowsModel" "length" "I", .methodLink RX5 75 yX5_blank, .instanceMethod yX5_blank, .selects RX5 yX5_blank yX5_blank, .initialized RX5, .code yX5_blank cX5_blank 3 none, .methodLink RX5 36 yX5_in, .static yX5_in, .code yX5_in cX5_in 3 (some .boolean)] ++ wsX50)
def wsX5_fault : List Cond := .code yX5_fault cX5_fault 1 (some .int) :: ([.methodLink RX5 143 yX5_readPad, .instanceMethod yX5_readPad, .selects RX5 yX5_readPad yX5_readPad, .initialized RX5, .code yX5_readPad cX5_readPad 6 (some .int), .fieldLink RX5 124 "TurnedRowsModel" "typed" "I", .fieldLink RX5 23 "TurnedRowsModel" "pad" "[C", .fieldLink RX5 27 "TurnedRowsModel" "out" "[I", .fieldLink RX5 62 "TurnedRowsModel" "length" "I", .methodLink RX5 75 yX5_blank, .instanceMethod yX5_blank, .selects RX5 yX5_blank yX5_blank, .code yX5_blank cX5_blank 3 none, .methodLink RX5 36 yX5_in, .static yX5_in, .code yX5_in cX5_in 3 (some .boolean)] ++ wsX50)
def wsX5_read_r1 : List Cond := [Cond.fieldLink RX5 124 "TurnedRowsModel" "typed" "I", Cond.fieldLink RX5 62 "TurnedRowsModel" "length" "I", Cond.methodLink RX5 68 yX5_isRegister, Cond.static yX5_isRegister, Cond.initialized RX5, Cond.code yX5_isRegister cX5_isRegister 1 (some .boolean), Cond.methodLink RX5 36 yX5_in, Cond.static yX5_in, Cond.code yX5_in cX5_in 3 (some .boolean), Cond.methodLink RX5 143 yX5_readPad, Cond.instanceMethod yX5_readPad, Cond.selects RX5 yX5_readPad yX5_readPad, Cond.code yX5_readPad cX5_readPad 6 (some .int), Cond.fieldLink RX5 23 "TurnedRowsModel" "pad" "[C", Cond.fieldLink RX5 27 "TurnedRowsModel" "out" "[I", Cond.methodLink RX5 75 yX5_blank, Cond.instanceMethod yX5_blank, Cond.selects RX5 yX5_blank yX5_blank, Cond.code yX5_blank cX5_blank 3 none, Cond.methodLink RX5 52 yX5_record, Cond.instanceMethod yX5_record, Cond.selects RX5 yX5_record yX5_record, Cond.code yX5_record cX5_record 2 none, Cond.fieldLink RX5 44 "TurnedRowsModel" "pastMany" "I"]
def wsX5_read_r2 : List Cond := [Cond.fieldLink RX5 13 "TurnedRowsModel" "past" "[I", Cond.fieldLink RX5 7 "TurnedRowsModel" "z" "[I", Cond.methodLink RX5 79 yX5_store, Cond.instanceMethod yX5_store, Cond.selects RX5 yX5_store yX5_store, Cond.code yX5_store cX5_store 3 none]
def wsX5_read : List Cond := .code yX5_read cX5_read 2 (some .int) :: ((wsX5_read_r1 ++ wsX5_read_r2) ++ wsX50)
def wsJ9_max_7cf53 : List Cond := .code yJ9_max_7cf53 cJ9_max_7cf53 2 (some .int) :: ([])
def wsL_law_r1 : List Cond := [Cond.classLink RL 7 RX4, Cond.instantiable RX4 10, Cond.initialized RX4, Cond.classLink RL 10 RX5, Cond.instantiable RX5 11, Cond.initialized RX5, Cond.constantLong RL 94 (4294967295), Cond.methodLink RL 9 yX4_init, Cond.instanceMethod yX4_init, Cond.code yX4_init cX4_init 2 none, Cond.methodLink RX4 1 objectInit, Cond.instanceMethod objectInit, Cond.code objectInit ⟨#[0xb1]⟩ 1 none, Cond.classLink RX4 7 RX3, Cond.instantiable RX3 1, Cond.initialized RX3, Cond.fieldLink RX4 10 "TurnedRows" "state" "LTurnedRows$State;", Cond.classLink RX4 16 RX0, Cond.instantiable RX0 2, Cond.initialized RX0, Cond.fieldLink RX4 19 "TurnedRows" "history" "LTurnedRows$History;", Cond.classLink RX4 23 RX1, Cond.instantiable RX1 2, Cond.initialized RX1]
def wsL_law_r2 : List Cond := [Cond.fieldLink RX4 26 "TurnedRows" "pad" "LTurnedRows$Pad;", Cond.fieldLink RX4 30 "TurnedRows" "slots" "[LTurnedRows$State;", Cond.arrayClass .boolean, Cond.fieldLink RX4 34 "TurnedRows" "saved" "[Z", Cond.classLink RX4 38 RX2, Cond.instantiable RX2 2, Cond.initialized RX2, Cond.fieldLink RX4 41 "TurnedRows" "made" "LTurnedRows$Row;", Cond.fieldLink RX4 45 "TurnedRows" "madeRest" "LTurnedRows$Row;", Cond.fieldLink RX4 48 "TurnedRows" "stepDividend" "LTurnedRows$Row;", Cond.fieldLink RX4 51 "TurnedRows" "stepDivisor" "LTurnedRows$Row;", Cond.fieldLink RX4 54 "TurnedRows" "stepResult" "LTurnedRows$Row;", Cond.methodLink RX4 9 yX3_init, Cond.instanceMethod yX3_init, Cond.code yX3_init cX3_init 2 none, Cond.methodLink RX3 3 objectInit, Cond.classLink RX3 9 RX2, Cond.fieldLink RX3 11 "TurnedRows$State" "rows" "[LTurnedRows$Row;", Cond.instanceMethod yX2_init, Cond.code yX2_init cX2_init 1 none, Cond.methodLink RX2 3 objectInit, Cond.arrayClass .int, Cond.fieldLink RX2 9 "TurnedRows$Row" "numbers" "[I", Cond.fieldLink RX2 15 "TurnedRows$Row" "length" "I"]
def wsL_law_r3 : List Cond := [Cond.methodLink RX4 18 yX0_init, Cond.instanceMethod yX0_init, Cond.code yX0_init cX0_init 2 none, Cond.methodLink RX0 3 objectInit, Cond.classLink RX0 9 RX3, Cond.fieldLink RX0 11 "TurnedRows$History" "states" "[LTurnedRows$State;", Cond.fieldLink RX0 17 "TurnedRows$History" "length" "I", Cond.methodLink RX0 21 yX3_init, Cond.instanceMethod yX1_init, Cond.code yX1_init cX1_init 1 none, Cond.methodLink RX1 3 objectInit, Cond.fieldLink RX1 9 "TurnedRows$Pad" "codes" "[I", Cond.fieldLink RX1 15 "TurnedRows$Pad" "length" "I", Cond.methodLink RL 12 yX5_init, Cond.instanceMethod yX5_init, Cond.code yX5_init cX5_init 2 none, Cond.methodLink RX5 1 objectInit, Cond.fieldLink RX5 7 "TurnedRowsModel" "z" "[I", Cond.fieldLink RX5 13 "TurnedRowsModel" "past" "[I", Cond.fieldLink RX5 16 "TurnedRowsModel" "slots" "[I", Cond.fieldLink RX5 19 "TurnedRowsModel" "isSaved" "[Z", Cond.arrayClass .char, Cond.fieldLink RX5 23 "TurnedRowsModel" "pad" "[C", Cond.fieldLink RX5 27 "TurnedRowsModel" "out" "[I"]
def wsL_law_r4 : List Cond := [Cond.fieldLink RX5 30 "TurnedRowsModel" "one" "[I", Cond.fieldLink RX5 33 "TurnedRowsModel" "two" "[I", Cond.methodLink RL 13 yX4_read, Cond.instanceMethod yX4_read, Cond.selects RX4 yX4_read yX4_read, Cond.code yX4_read cX4_read 3 (some .int), Cond.methodLink RX4 57 yX3_rowOf, Cond.instanceMethod yX3_rowOf, Cond.selects RX3 yX3_rowOf yX3_rowOf, Cond.code yX3_rowOf cX3_rowOf 2 (some (.object "TurnedRows$Row")), Cond.methodLink RX4 61 yX1_scan, Cond.instanceMethod yX1_scan, Cond.selects RX1 yX1_scan yX1_scan, Cond.code yX1_scan cX1_scan 5 (some .int), Cond.methodLink RX1 19 yX1_withDigit, Cond.static yX1_withDigit, Cond.code yX1_withDigit cX1_withDigit 3 (some .int), Cond.methodLink RX1 33 Lib.Math.max.name, Cond.static Lib.Math.max.name, Cond.initialized "java/lang/Math", Cond.code Lib.Math.max.name Lib.Math.max.code 2 (some .int), Cond.methodLink RX1 23 yX2_write, Cond.instanceMethod yX2_write, Cond.selects RX2 yX2_write yX2_write]
def wsL_law_r5 : List Cond := [Cond.code yX2_write cX2_write 3 none, Cond.methodLink RX2 19 yJ9_floorMod_7cf53, Cond.static yJ9_floorMod_7cf53, Cond.initialized RJ9, Cond.code yJ9_floorMod_7cf53 cJ9_floorMod_7cf53 3 (some .int), Cond.methodLink RX1 29 yX2_resize, Cond.instanceMethod yX2_resize, Cond.selects RX2 yX2_resize yX2_resize, Cond.code yX2_resize cX2_resize 3 none, Cond.methodLink RX2 25 yX2_write, Cond.methodLink RX4 65 yX4_change, Cond.instanceMethod yX4_change, Cond.selects RX4 yX4_change yX4_change, Cond.code yX4_change cX4_change 2 none, Cond.methodLink RX4 80 yX0_keep, Cond.instanceMethod yX0_keep, Cond.selects RX0 yX0_keep yX0_keep, Cond.code yX0_keep cX0_keep 2 none, Cond.methodLink RX0 22 yX0_dropOldest, Cond.instanceMethod yX0_dropOldest, Cond.selects RX0 yX0_dropOldest yX0_dropOldest, Cond.code yX0_dropOldest cX0_dropOldest 3 none, Cond.methodLink RX0 25 yX3_copyFrom, Cond.instanceMethod yX3_copyFrom]
def wsL_law_r6 : List Cond := [Cond.selects RX3 yX3_copyFrom yX3_copyFrom, Cond.code yX3_copyFrom cX3_copyFrom 3 none, Cond.methodLink RX3 22 yX2_copyFrom, Cond.instanceMethod yX2_copyFrom, Cond.selects RX2 yX2_copyFrom yX2_copyFrom, Cond.code yX2_copyFrom cX2_copyFrom 2 none, Cond.methodLink RX2 35 arraycopyName, Cond.native arraycopyName, Cond.static arraycopyName, Cond.initialized "java/lang/System", Cond.methodLink RX4 116 yX2_copyFrom, Cond.methodLink RX4 69 yX1_empty, Cond.instanceMethod yX1_empty, Cond.selects RX1 yX1_empty yX1_empty, Cond.code yX1_empty cX1_empty 1 none, Cond.methodLink RX4 72 yX2_length, Cond.instanceMethod yX2_length, Cond.selects RX2 yX2_length yX2_length, Cond.code yX2_length cX2_length 1 (some .int), Cond.methodLink RL 17 yX5_read, Cond.instanceMethod yX5_read, Cond.selects RX5 yX5_read yX5_read, Cond.code yX5_read cX5_read 2 (some .int), Cond.fieldLink RX5 124 "TurnedRowsModel" "typed" "I"]
def wsL_law_r7 : List Cond := [Cond.fieldLink RX5 62 "TurnedRowsModel" "length" "I", Cond.methodLink RX5 68 yX5_isRegister, Cond.static yX5_isRegister, Cond.code yX5_isRegister cX5_isRegister 1 (some .boolean), Cond.methodLink RX5 36 yX5_in, Cond.static yX5_in, Cond.code yX5_in cX5_in 3 (some .boolean), Cond.methodLink RX5 143 yX5_readPad, Cond.instanceMethod yX5_readPad, Cond.selects RX5 yX5_readPad yX5_readPad, Cond.code yX5_readPad cX5_readPad 6 (some .int), Cond.methodLink RX5 75 yX5_blank, Cond.instanceMethod yX5_blank, Cond.selects RX5 yX5_blank yX5_blank, Cond.code yX5_blank cX5_blank 3 none, Cond.methodLink RX5 52 yX5_record, Cond.instanceMethod yX5_record, Cond.selects RX5 yX5_record yX5_record, Cond.code yX5_record cX5_record 2 none, Cond.fieldLink RX5 44 "TurnedRowsModel" "pastMany" "I", Cond.methodLink RX5 79 yX5_store, Cond.instanceMethod yX5_store, Cond.selects RX5 yX5_store yX5_store, Cond.code yX5_store cX5_store 3 none]
def wsL_law_r8 : List Cond := [Cond.methodLink RL 18 yX4_set, Cond.instanceMethod yX4_set, Cond.selects RX4 yX4_set yX4_set, Cond.code yX4_set cX4_set 5 (some .int), Cond.methodLink RX4 84 Lib.Math.max.name, Cond.methodLink RX4 76 yX4_isNumber, Cond.static yX4_isNumber, Cond.code yX4_isNumber cX4_isNumber 1 (some .boolean), Cond.methodLink RX4 90 yX2_resize, Cond.methodLink RX4 94 yX2_write, Cond.methodLink RL 22 yX5_set, Cond.instanceMethod yX5_set, Cond.selects RX5 yX5_set yX5_set, Cond.code yX5_set cX5_set 4 (some .int), Cond.methodLink RX5 40 yX5_lengthOf, Cond.instanceMethod yX5_lengthOf, Cond.selects RX5 yX5_lengthOf yX5_lengthOf, Cond.code yX5_lengthOf cX5_lengthOf 2 (some .int), Cond.methodLink RX5 72 yX5_isNumber, Cond.static yX5_isNumber, Cond.code yX5_isNumber cX5_isNumber 1 (some .boolean), Cond.methodLink RL 23 yX4_add, Cond.instanceMethod yX4_add, Cond.selects RX4 yX4_add yX4_add]
def wsL_law_r9 : List Cond := [Cond.code yX4_add cX4_add 9 (some .int), Cond.methodLink RX4 98 yX2_clear, Cond.instanceMethod yX2_clear, Cond.selects RX2 yX2_clear yX2_clear, Cond.code yX2_clear cX2_clear 2 none, Cond.methodLink RX2 29 yJ7_fill_53178, Cond.static yJ7_fill_53178, Cond.initialized RJ7, Cond.code yJ7_fill_53178 cJ7_fill_53178 4 none, Cond.methodLink RX4 101 yX2_at, Cond.instanceMethod yX2_at, Cond.selects RX2 yX2_at yX2_at, Cond.code yX2_at cX2_at 2 (some .int), Cond.methodLink RL 27 yX5_add, Cond.instanceMethod yX5_add, Cond.selects RX5 yX5_add yX5_add, Cond.code yX5_add cX5_add 6 (some .int), Cond.methodLink RX5 65 yX5_at, Cond.instanceMethod yX5_at, Cond.selects RX5 yX5_at yX5_at, Cond.code yX5_at cX5_at 3 (some .int), Cond.methodLink RX5 55 yX5_times, Cond.static yX5_times, Cond.code yX5_times cX5_times 2 (some .int)]
def wsL_law_r10 : List Cond := [Cond.methodLink RL 28 yX4_product, Cond.instanceMethod yX4_product, Cond.selects RX4 yX4_product yX4_product, Cond.code yX4_product cX4_product 8 (some .int), Cond.methodLink RX4 105 yX4_productLength, Cond.static yX4_productLength, Cond.code yX4_productLength cX4_productLength 2 (some .int), Cond.methodLink RX4 109 yX4_multiply, Cond.static yX4_multiply, Cond.code yX4_multiply cX4_multiply 8 none, Cond.methodLink RX4 209 yX4_nextPlace, Cond.static yX4_nextPlace, Cond.code yX4_nextPlace cX4_nextPlace 2 (some .int), Cond.methodLink RL 31 yX5_product, Cond.instanceMethod yX5_product, Cond.selects RX5 yX5_product yX5_product, Cond.code yX5_product cX5_product 7 (some .int), Cond.methodLink RL 32 yX4_round, Cond.instanceMethod yX4_round, Cond.selects RX4 yX4_round yX4_round, Cond.code yX4_round cX4_round 8 (some .int), Cond.methodLink RX4 113 yX2_degree, Cond.instanceMethod yX2_degree, Cond.selects RX2 yX2_degree yX2_degree]
def wsL_law_r11 : List Cond := [Cond.code yX2_degree cX2_degree 2 (some .int), Cond.methodLink RX2 41 yX2_at, Cond.methodLink RL 35 yX5_round, Cond.instanceMethod yX5_round, Cond.selects RX5 yX5_round yX5_round, Cond.code yX5_round cX5_round 8 (some .int), Cond.methodLink RX5 82 yX5_degreeOut, Cond.instanceMethod yX5_degreeOut, Cond.selects RX5 yX5_degreeOut yX5_degreeOut, Cond.code yX5_degreeOut cX5_degreeOut 3 (some .int), Cond.methodLink RL 36 yX4_power, Cond.instanceMethod yX4_power, Cond.selects RX4 yX4_power yX4_power, Cond.code yX4_power cX4_power 7 (some .int), Cond.methodLink RL 39 yX5_power, Cond.instanceMethod yX5_power, Cond.selects RX5 yX5_power yX5_power, Cond.code yX5_power cX5_power 5 (some .int), Cond.methodLink RX5 85 yX5_multiplyOut, Cond.instanceMethod yX5_multiplyOut, Cond.selects RX5 yX5_multiplyOut yX5_multiplyOut, Cond.code yX5_multiplyOut cX5_multiplyOut 5 none, Cond.methodLink RL 40 yX4_inverse, Cond.instanceMethod yX4_inverse]
def wsL_law_r12 : List Cond := [Cond.selects RX4 yX4_inverse yX4_inverse, Cond.code yX4_inverse cX4_inverse 6 (some .int), Cond.methodLink RX4 119 yX4_invertRow, Cond.static yX4_invertRow, Cond.code yX4_invertRow cX4_invertRow 7 none, Cond.methodLink RX4 141 yX4_inverseOf, Cond.static yX4_inverseOf, Cond.code yX4_inverseOf cX4_inverseOf 1 (some .int), Cond.methodLink RX4 159 yX4_raise, Cond.static yX4_raise, Cond.code yX4_raise cX4_raise 5 (some .int), Cond.methodLink RL 43 yX5_inverse, Cond.instanceMethod yX5_inverse, Cond.selects RX5 yX5_inverse yX5_inverse, Cond.code yX5_inverse cX5_inverse 8 (some .int), Cond.methodLink RX5 88 yX5_over, Cond.static yX5_over, Cond.code yX5_over cX5_over 1 (some .int), Cond.methodLink RX5 59 yX5_raised, Cond.static yX5_raised, Cond.code yX5_raised cX5_raised 4 (some .int), Cond.methodLink RX5 91 yX5_less, Cond.static yX5_less, Cond.code yX5_less cX5_less 2 (some .int)]
def wsL_law_r13 : List Cond := [Cond.methodLink RL 44 yX4_divide, Cond.instanceMethod yX4_divide, Cond.selects RX4 yX4_divide yX4_divide, Cond.code yX4_divide cX4_divide 9 (some .int), Cond.methodLink RX4 123 yX4_divideRows, Cond.static yX4_divideRows, Cond.code yX4_divideRows cX4_divideRows 10 none, Cond.methodLink RL 47 yX5_divide, Cond.instanceMethod yX5_divide, Cond.selects RX5 yX5_divide yX5_divide, Cond.code yX5_divide cX5_divide 8 (some .int), Cond.methodLink RX5 94 yX5_degreeOf, Cond.instanceMethod yX5_degreeOf, Cond.selects RX5 yX5_degreeOf yX5_degreeOf, Cond.code yX5_degreeOf cX5_degreeOf 4 (some .int), Cond.methodLink RX5 97 yX5_divideRows, Cond.instanceMethod yX5_divideRows, Cond.selects RX5 yX5_divideRows yX5_divideRows, Cond.code yX5_divideRows cX5_divideRows 7 none, Cond.methodLink RL 48 yX4_divisor, Cond.instanceMethod yX4_divisor, Cond.selects RX4 yX4_divisor yX4_divisor, Cond.code yX4_divisor cX4_divisor 7 (some .int), Cond.methodLink RX4 127 yX4_makeGreatestDivisor]
def wsL_law_r14 : List Cond := [Cond.instanceMethod yX4_makeGreatestDivisor, Cond.selects RX4 yX4_makeGreatestDivisor yX4_makeGreatestDivisor, Cond.code yX4_makeGreatestDivisor cX4_makeGreatestDivisor 4 none, Cond.methodLink RX4 144 yX2_scale, Cond.instanceMethod yX2_scale, Cond.selects RX2 yX2_scale yX2_scale, Cond.code yX2_scale cX2_scale 3 none, Cond.methodLink RL 51 yX5_divisor, Cond.instanceMethod yX5_divisor, Cond.selects RX5 yX5_divisor yX5_divisor, Cond.code yX5_divisor cX5_divisor 6 (some .int), Cond.methodLink RX5 101 yX5_degreeIn, Cond.static yX5_degreeIn, Cond.code yX5_degreeIn cX5_degreeIn 3 (some .int), Cond.methodLink RL 52 yX4_turn, Cond.instanceMethod yX4_turn, Cond.selects RX4 yX4_turn yX4_turn, Cond.code yX4_turn cX4_turn 7 (some .int), Cond.methodLink RX4 131 yX4_pointOf, Cond.static yX4_pointOf, Cond.code yX4_pointOf cX4_pointOf 1 (some .int), Cond.methodLink RX4 134 yX4_turnAround, Cond.static yX4_turnAround, Cond.code yX4_turnAround cX4_turnAround 6 none]
def wsL_law_r15 : List Cond := [Cond.methodLink RX4 156 yX2_valueAt, Cond.instanceMethod yX2_valueAt, Cond.selects RX2 yX2_valueAt yX2_valueAt, Cond.code yX2_valueAt cX2_valueAt 4 (some .int), Cond.methodLink RX4 138 yX2_countNotZero, Cond.instanceMethod yX2_countNotZero, Cond.selects RX2 yX2_countNotZero yX2_countNotZero, Cond.code yX2_countNotZero cX2_countNotZero 3 (some .int), Cond.methodLink RL 55 yX5_turn, Cond.instanceMethod yX5_turn, Cond.selects RX5 yX5_turn yX5_turn, Cond.code yX5_turn cX5_turn 6 (some .int), Cond.methodLink RX5 105 yX5_isSize, Cond.static yX5_isSize, Cond.code yX5_isSize cX5_isSize 1 (some .boolean), Cond.methodLink RX5 108 yX5_pointOf, Cond.static yX5_pointOf, Cond.code yX5_pointOf cX5_pointOf 1 (some .int), Cond.methodLink RX5 111 yX5_valueAt, Cond.instanceMethod yX5_valueAt, Cond.selects RX5 yX5_valueAt yX5_valueAt, Cond.code yX5_valueAt cX5_valueAt 5 (some .int), Cond.methodLink RL 56 yX4_turnBack, Cond.instanceMethod yX4_turnBack]
def wsL_law_r16 : List Cond := [Cond.selects RX4 yX4_turnBack yX4_turnBack, Cond.code yX4_turnBack cX4_turnBack 7 (some .int), Cond.methodLink RL 60 yX5_turnBack, Cond.instanceMethod yX5_turnBack, Cond.selects RX5 yX5_turnBack yX5_turnBack, Cond.code yX5_turnBack cX5_turnBack 6 (some .int), Cond.methodLink RL 61 yX4_number, Cond.instanceMethod yX4_number, Cond.selects RX4 yX4_number yX4_number, Cond.code yX4_number cX4_number 4 (some .int), Cond.methodLink RL 64 yX5_number, Cond.instanceMethod yX5_number, Cond.selects RX5 yX5_number yX5_number, Cond.code yX5_number cX5_number 3 (some .int), Cond.methodLink RL 65 yX4_of, Cond.instanceMethod yX4_of, Cond.selects RX4 yX4_of yX4_of, Cond.code yX4_of cX4_of 4 (some .int), Cond.methodLink RX4 147 yX2_total, Cond.instanceMethod yX2_total, Cond.selects RX2 yX2_total yX2_total, Cond.code yX2_total cX2_total 3 (some .int), Cond.methodLink RX4 150 yX2_countRoots, Cond.instanceMethod yX2_countRoots]
def wsL_law_r17 : List Cond := [Cond.selects RX2 yX2_countRoots yX2_countRoots, Cond.code yX2_countRoots cX2_countRoots 3 (some .int), Cond.methodLink RX2 45 yX2_valueAt, Cond.methodLink RX4 153 yX2_leastRoot, Cond.instanceMethod yX2_leastRoot, Cond.selects RX2 yX2_leastRoot yX2_leastRoot, Cond.code yX2_leastRoot cX2_leastRoot 2 (some .int), Cond.methodLink RL 68 yX5_of, Cond.instanceMethod yX5_of, Cond.selects RX5 yX5_of yX5_of, Cond.code yX5_of cX5_of 3 (some .int), Cond.methodLink RX5 114 yX5_notNought, Cond.instanceMethod yX5_notNought, Cond.selects RX5 yX5_notNought yX5_notNought, Cond.code yX5_notNought cX5_notNought 4 (some .int), Cond.methodLink RX5 117 yX5_sumOf, Cond.instanceMethod yX5_sumOf, Cond.selects RX5 yX5_sumOf yX5_sumOf, Cond.code yX5_sumOf cX5_sumOf 4 (some .int), Cond.methodLink RX5 120 yX5_noughts, Cond.instanceMethod yX5_noughts, Cond.selects RX5 yX5_noughts yX5_noughts, Cond.code yX5_noughts cX5_noughts 7 (some .int), Cond.methodLink RL 69 yX4_value]
def wsL_law_r18 : List Cond := [Cond.instanceMethod yX4_value, Cond.selects RX4 yX4_value yX4_value, Cond.code yX4_value cX4_value 4 (some .int), Cond.methodLink RL 72 yX5_value, Cond.instanceMethod yX5_value, Cond.selects RX5 yX5_value yX5_value, Cond.code yX5_value cX5_value 3 (some .int), Cond.methodLink RL 73 yX4_turningPoint, Cond.instanceMethod yX4_turningPoint, Cond.selects RX4 yX4_turningPoint yX4_turningPoint, Cond.code yX4_turningPoint cX4_turningPoint 4 (some .int), Cond.methodLink RL 76 yX5_turningPoint, Cond.instanceMethod yX5_turningPoint, Cond.selects RX5 yX5_turningPoint yX5_turningPoint, Cond.code yX5_turningPoint cX5_turningPoint 3 (some .int), Cond.methodLink RL 77 yX4_count, Cond.instanceMethod yX4_count, Cond.selects RX4 yX4_count yX4_count, Cond.code yX4_count cX4_count 2 (some .int), Cond.methodLink RX4 162 yX3_lengths, Cond.instanceMethod yX3_lengths, Cond.selects RX3 yX3_lengths yX3_lengths, Cond.code yX3_lengths cX3_lengths 3 (some .int), Cond.methodLink RX3 18 yX2_length]
def wsL_law_r19 : List Cond := [Cond.methodLink RX4 165 yX1_length, Cond.instanceMethod yX1_length, Cond.selects RX1 yX1_length yX1_length, Cond.code yX1_length cX1_length 1 (some .int), Cond.methodLink RX4 166 yX0_length, Cond.instanceMethod yX0_length, Cond.selects RX0 yX0_length yX0_length, Cond.code yX0_length cX0_length 1 (some .int), Cond.methodLink RL 80 yX5_count, Cond.instanceMethod yX5_count, Cond.selects RX5 yX5_count yX5_count, Cond.code yX5_count cX5_count 2 (some .int), Cond.methodLink RX5 48 yX5_lengths, Cond.instanceMethod yX5_lengths, Cond.selects RX5 yX5_lengths yX5_lengths, Cond.code yX5_lengths cX5_lengths 3 (some .int), Cond.methodLink RL 81 yX4_fits, Cond.instanceMethod yX4_fits, Cond.selects RX4 yX4_fits yX4_fits, Cond.code yX4_fits cX4_fits 9 (some .long), Cond.constantLong RX4 167 (-1), Cond.constantLong RX4 172 (-5), Cond.methodLink RX4 169 yX4_countPlaces, Cond.static yX4_countPlaces]
def wsL_law_r20 : List Cond := [Cond.code yX4_countPlaces cX4_countPlaces 2 (some .int), Cond.methodLink RX4 174 yX4_fitsAt, Cond.static yX4_fitsAt, Cond.code yX4_fitsAt cX4_fitsAt 6 (some .boolean), Cond.methodLink RL 85 yX5_fits, Cond.instanceMethod yX5_fits, Cond.selects RX5 yX5_fits yX5_fits, Cond.code yX5_fits cX5_fits 6 (some .long), Cond.constantLong RX5 127 (-1), Cond.constantLong RX5 132 (-5), Cond.methodLink RX5 129 yX5_places, Cond.instanceMethod yX5_places, Cond.selects RX5 yX5_places yX5_places, Cond.code yX5_places cX5_places 4 (some .int), Cond.methodLink RX5 134 yX5_fitsAt, Cond.instanceMethod yX5_fitsAt, Cond.selects RX5 yX5_fitsAt yX5_fitsAt, Cond.code yX5_fitsAt cX5_fitsAt 8 (some .boolean), Cond.methodLink RL 86 yX4_sum, Cond.instanceMethod yX4_sum, Cond.selects RX4 yX4_sum yX4_sum, Cond.code yX4_sum cX4_sum 7 (some .int), Cond.methodLink RX4 178 yX4_sumAt, Cond.static yX4_sumAt]
def wsL_law_r21 : List Cond := [Cond.code yX4_sumAt cX4_sumAt 8 (some .int), Cond.methodLink RL 89 yX5_sum, Cond.instanceMethod yX5_sum, Cond.selects RX5 yX5_sum yX5_sum, Cond.code yX5_sum cX5_sum 5 (some .int), Cond.methodLink RX5 137 yX5_sumAt, Cond.instanceMethod yX5_sumAt, Cond.selects RX5 yX5_sumAt yX5_sumAt, Cond.code yX5_sumAt cX5_sumAt 9 (some .int), Cond.methodLink RL 90 yX4_found, Cond.instanceMethod yX4_found, Cond.selects RX4 yX4_found yX4_found, Cond.code yX4_found cX4_found 6 (some .int), Cond.methodLink RX4 182 yX4_countFits, Cond.static yX4_countFits, Cond.code yX4_countFits cX4_countFits 4 (some .int), Cond.methodLink RX4 185 yX4_countFalseOnes, Cond.static yX4_countFalseOnes, Cond.code yX4_countFalseOnes cX4_countFalseOnes 4 (some .int), Cond.methodLink RX4 212 yX4_isFalseOne, Cond.static yX4_isFalseOne, Cond.code yX4_isFalseOne cX4_isFalseOne 3 (some .boolean), Cond.methodLink RX4 188 yX4_firstFalseOne, Cond.static yX4_firstFalseOne]
def wsL_law_r22 : List Cond := [Cond.code yX4_firstFalseOne cX4_firstFalseOne 3 (some .int), Cond.methodLink RX4 191 yX4_greatestSum, Cond.static yX4_greatestSum, Cond.code yX4_greatestSum cX4_greatestSum 4 (some .int), Cond.methodLink RL 93 yX5_found, Cond.instanceMethod yX5_found, Cond.selects RX5 yX5_found yX5_found, Cond.code yX5_found cX5_found 13 (some .int), Cond.methodLink RL 96 yX4_put, Cond.instanceMethod yX4_put, Cond.selects RX4 yX4_put yX4_put, Cond.code yX4_put cX4_put 5 (some .int), Cond.methodLink RX4 194 yX4_countCharacters, Cond.static yX4_countCharacters, Cond.code yX4_countCharacters cX4_countCharacters 6 (some .int), Cond.constantLong RX4 215 (255), Cond.methodLink RX4 198 yX1_append, Cond.instanceMethod yX1_append, Cond.selects RX1 yX1_append yX1_append, Cond.code yX1_append cX1_append 2 none, Cond.methodLink RL 100 yX5_put, Cond.instanceMethod yX5_put, Cond.selects RX5 yX5_put yX5_put, Cond.code yX5_put cX5_put 8 (some .int)]
def wsL_law_r23 : List Cond := [Cond.constantLong RX5 141 (255), Cond.methodLink RL 101 yX4_wipe, Cond.instanceMethod yX4_wipe, Cond.selects RX4 yX4_wipe yX4_wipe, Cond.code yX4_wipe cX4_wipe 2 (some .int), Cond.methodLink RL 105 yX5_wipe, Cond.instanceMethod yX5_wipe, Cond.selects RX5 yX5_wipe yX5_wipe, Cond.code yX5_wipe cX5_wipe 2 (some .int), Cond.methodLink RL 106 yX4_fault, Cond.instanceMethod yX4_fault, Cond.selects RX4 yX4_fault yX4_fault, Cond.code yX4_fault cX4_fault 1 (some .int), Cond.methodLink RL 109 yX5_fault, Cond.instanceMethod yX5_fault, Cond.selects RX5 yX5_fault yX5_fault, Cond.code yX5_fault cX5_fault 1 (some .int), Cond.methodLink RL 110 yX4_undo, Cond.instanceMethod yX4_undo, Cond.selects RX4 yX4_undo yX4_undo, Cond.code yX4_undo cX4_undo 1 (some .int), Cond.methodLink RX4 201 yX0_takeLatest, Cond.instanceMethod yX0_takeLatest, Cond.selects RX0 yX0_takeLatest yX0_takeLatest]
def wsL_law_r24 : List Cond := [Cond.code yX0_takeLatest cX0_takeLatest 2 none, Cond.methodLink RL 113 yX5_undo, Cond.instanceMethod yX5_undo, Cond.selects RX5 yX5_undo yX5_undo, Cond.code yX5_undo cX5_undo 2 (some .int), Cond.methodLink RL 114 yX4_save, Cond.instanceMethod yX4_save, Cond.selects RX4 yX4_save yX4_save, Cond.code yX4_save cX4_save 2 (some .int), Cond.methodLink RX4 204 yX4_isSlot, Cond.static yX4_isSlot, Cond.code yX4_isSlot cX4_isSlot 1 (some .boolean), Cond.methodLink RX4 207 yX3_copyFrom, Cond.methodLink RL 117 yX5_save, Cond.instanceMethod yX5_save, Cond.selects RX5 yX5_save yX5_save, Cond.code yX5_save cX5_save 3 (some .int), Cond.methodLink RL 118 yX4_restore, Cond.instanceMethod yX4_restore, Cond.selects RX4 yX4_restore yX4_restore, Cond.code yX4_restore cX4_restore 2 (some .int), Cond.methodLink RL 121 yX5_restore, Cond.instanceMethod yX5_restore, Cond.selects RX5 yX5_restore yX5_restore]
def wsL_law_r25 : List Cond := [Cond.code yX5_restore cX5_restore 3 (some .int)]
def wsL_law : List Cond := (wsL_law_r1 ++ (wsL_law_r2 ++ (wsL_law_r3 ++ (wsL_law_r4 ++ (wsL_law_r5 ++ (wsL_law_r6 ++ (wsL_law_r7 ++ (wsL_law_r8 ++ (wsL_law_r9 ++ (wsL_law_r10 ++ (wsL_law_r11 ++ (wsL_law_r12 ++ (wsL_law_r13 ++ (wsL_law_r14 ++ (wsL_law_r15 ++ (wsL_law_r16 ++ (wsL_law_r17 ++ (wsL_law_r18 ++ (wsL_law_r19 ++ (wsL_law_r20 ++ (wsL_law_r21 ++ (wsL_law_r22 ++ (wsL_law_r23 ++ (wsL_law_r24 ++ wsL_law_r25)))))))))))))))))))))))) ++ wsX40 ++ wsX50 ++ wsX30 ++ wsX00 ++ wsX10 ++ wsX20 ++ ([] : List Cond)
theorem in_app {big a b : List Cond} (ha : ∀ w ∈ a, w ∈ big) (hb : ∀ w ∈ b, w ∈ big) : ∀ w ∈ a ++ b, w ∈ big := fun w h => (List.mem_append.mp h).elim (ha w) (hb w)
set_option maxRecDepth 20000 in
theorem in_wsL_law_r1 : ∀ w ∈ wsL_law_r1, w ∈ lw_tbl := fun w h => (goodIn_p wsL_law_r1 [35, 38] (by decide +kernel) (by decide +kernel) w h).1
set_option maxRecDepth 20000 in
theorem in_wsL_law_r2 : ∀ w ∈ wsL_law_r2, w ∈ lw_tbl := fun w h => (goodIn_p wsL_law_r2 [43, 50] (by decide +kernel) (by decide +kernel) w h).1
set_option maxRecDepth 20000 in
theorem in_wsL_law_r3 : ∀ w ∈ wsL_law_r3, w ∈ lw_tbl := fun w h => (goodIn_p wsL_law_r3 [68, 84, 422] (by decide +kernel) (by decide +kernel) w h).1
set_option maxRecDepth 20000 in
theorem in_wsL_law_r4 : ∀ w ∈ wsL_law_r4, w ∈ lw_tbl := fun w h => (goodIn_p wsL_law_r4 [130, 134, 138, 141, 144] (by decide +kernel) (by decide +kernel) w h).1
set_option maxRecDepth 20000 in
theorem in_wsL_law_r5 : ∀ w ∈ wsL_law_r5, w ∈ lw_tbl := fun w h => (goodIn_p wsL_law_r5 [148, 151, 155, 160, 164, 168] (by decide +kernel) (by decide +kernel) w h).1
set_option maxRecDepth 20000 in
theorem in_wsL_law_r6 : ∀ w ∈ wsL_law_r6, w ∈ lw_tbl := fun w h => (goodIn_p wsL_law_r6 [172, 176, 184, 188, 663] (by decide +kernel) (by decide +kernel) w h).1
set_option maxRecDepth 20000 in
theorem in_wsL_law_r7 : ∀ w ∈ wsL_law_r7, w ∈ lw_tbl := fun w h => (goodIn_p wsL_law_r7 [492, 469, 659, 503, 485, 514] (by decide +kernel) (by decide +kernel) w h).1
set_option maxRecDepth 20000 in
theorem in_wsL_law_r8 : ∀ w ∈ wsL_law_r8, w ∈ lw_tbl := fun w h => (goodIn_p wsL_law_r8 [192, 195, 489, 477, 495] (by decide +kernel) (by decide +kernel) w h).1
set_option maxRecDepth 20000 in
theorem in_wsL_law_r9 : ∀ w ∈ wsL_law_r9, w ∈ lw_tbl := fun w h => (goodIn_p wsL_law_r9 [202, 206, 209, 213, 499, 507, 510] (by decide +kernel) (by decide +kernel) w h).1
set_option maxRecDepth 20000 in
theorem in_wsL_law_r10 : ∀ w ∈ wsL_law_r10, w ∈ lw_tbl := fun w h => (goodIn_p wsL_law_r10 [217, 220, 223, 226, 518, 230] (by decide +kernel) (by decide +kernel) w h).1
set_option maxRecDepth 20000 in
theorem in_wsL_law_r11 : ∀ w ∈ wsL_law_r11, w ∈ lw_tbl := fun w h => (goodIn_p wsL_law_r11 [234, 522, 526, 239, 530, 534] (by decide +kernel) (by decide +kernel) w h).1
set_option maxRecDepth 20000 in
theorem in_wsL_law_r12 : ∀ w ∈ wsL_law_r12, w ∈ lw_tbl := fun w h => (goodIn_p wsL_law_r12 [243, 246, 249, 252, 538, 541, 544, 547] (by decide +kernel) (by decide +kernel) w h).1
set_option maxRecDepth 20000 in
theorem in_wsL_law_r13 : ∀ w ∈ wsL_law_r13, w ∈ lw_tbl := fun w h => (goodIn_p wsL_law_r13 [256, 259, 551, 555, 559, 263] (by decide +kernel) (by decide +kernel) w h).1
set_option maxRecDepth 20000 in
theorem in_wsL_law_r14 : ∀ w ∈ wsL_law_r14, w ∈ lw_tbl := fun w h => (goodIn_p wsL_law_r14 [267, 271, 563, 566, 275, 278, 281] (by decide +kernel) (by decide +kernel) w h).1
set_option maxRecDepth 20000 in
theorem in_wsL_law_r15 : ∀ w ∈ wsL_law_r15, w ∈ lw_tbl := fun w h => (goodIn_p wsL_law_r15 [285, 289, 570, 573, 576, 580] (by decide +kernel) (by decide +kernel) w h).1
set_option maxRecDepth 20000 in
theorem in_wsL_law_r16 : ∀ w ∈ wsL_law_r16, w ∈ lw_tbl := fun w h => (goodIn_p wsL_law_r16 [293, 584, 297, 588, 301, 305] (by decide +kernel) (by decide +kernel) w h).1
set_option maxRecDepth 20000 in
theorem in_wsL_law_r17 : ∀ w ∈ wsL_law_r17, w ∈ lw_tbl := fun w h => (goodIn_p wsL_law_r17 [309, 314, 592, 596, 600, 604] (by decide +kernel) (by decide +kernel) w h).1
set_option maxRecDepth 20000 in
theorem in_wsL_law_r18 : ∀ w ∈ wsL_law_r18, w ∈ lw_tbl := fun w h => (goodIn_p wsL_law_r18 [318, 608, 322, 612, 326, 330] (by decide +kernel) (by decide +kernel) w h).1
set_option maxRecDepth 20000 in
theorem in_wsL_law_r19 : ∀ w ∈ wsL_law_r19, w ∈ lw_tbl := fun w h => (goodIn_p wsL_law_r19 [335, 339, 616, 473, 343] (by decide +kernel) (by decide +kernel) w h).1
set_option maxRecDepth 20000 in
theorem in_wsL_law_r20 : ∀ w ∈ wsL_law_r20, w ∈ lw_tbl := fun w h => (goodIn_p wsL_law_r20 [347, 351, 620, 625, 630, 355] (by decide +kernel) (by decide +kernel) w h).1
set_option maxRecDepth 20000 in
theorem in_wsL_law_r21 : ∀ w ∈ wsL_law_r21, w ∈ lw_tbl := fun w h => (goodIn_p wsL_law_r21 [358, 634, 638, 362, 365, 368, 371] (by decide +kernel) (by decide +kernel) w h).1
set_option maxRecDepth 20000 in
theorem in_wsL_law_r22 : ∀ w ∈ wsL_law_r22, w ∈ lw_tbl := fun w h => (goodIn_p wsL_law_r22 [374, 377, 642, 381, 384, 389, 646] (by decide +kernel) (by decide +kernel) w h).1
set_option maxRecDepth 20000 in
theorem in_wsL_law_r23 : ∀ w ∈ wsL_law_r23, w ∈ lw_tbl := fun w h => (goodIn_p wsL_law_r23 [393, 651, 397, 655, 401] (by decide +kernel) (by decide +kernel) w h).1
set_option maxRecDepth 20000 in
theorem in_wsL_law_r24 : ∀ w ∈ wsL_law_r24, w ∈ lw_tbl := fun w h => (goodIn_p wsL_law_r24 [405, 462, 409, 412, 466, 417] (by decide +kernel) (by decide +kernel) w h).1
set_option maxRecDepth 20000 in
theorem in_wsL_law_r25 : ∀ w ∈ wsL_law_r25, w ∈ lw_tbl := fun w h => (goodIn_p wsL_law_r25 [481] (by decide +kernel) (by decide +kernel) w h).1
theorem in_wsX40 : ∀ w ∈ wsX40, w ∈ lw_tbl := by decide +kernel
theorem in_wsX50 : ∀ w ∈ wsX50, w ∈ lw_tbl := by decide +kernel
theorem in_wsX30 : ∀ w ∈ wsX30, w ∈ lw_tbl := by decide +kernel
theorem in_wsX00 : ∀ w ∈ wsX00, w ∈ lw_tbl := by decide +kernel
theorem in_wsX10 : ∀ w ∈ wsX10, w ∈ lw_tbl := by decide +kernel
theorem in_wsX20 : ∀ w ∈ wsX20, w ∈ lw_tbl := by decide +kernel
theorem wsL_law_in : ∀ w ∈ wsL_law, w ∈ lw_tbl := in_app (in_app (in_app (in_app (in_app (in_app (in_app (in_app in_wsL_law_r1 (in_app in_wsL_law_r2 (in_app in_wsL_law_r3 (in_app in_wsL_law_r4 (in_app in_wsL_law_r5 (in_app in_wsL_law_r6 (in_app in_wsL_law_r7 (in_app in_wsL_law_r8 (in_app in_wsL_law_r9 (in_app in_wsL_law_r10 (in_app in_wsL_law_r11 (in_app in_wsL_law_r12 (in_app in_wsL_law_r13 (in_app in_wsL_law_r14 (in_app in_wsL_law_r15 (in_app in_wsL_law_r16 (in_app in_wsL_law_r17 (in_app in_wsL_law_r18 (in_app in_wsL_law_r19 (in_app in_wsL_law_r20 (in_app in_wsL_law_r21 (in_app in_wsL_law_r22 (in_app in_wsL_law_r23 (in_app in_wsL_law_r24 in_wsL_law_r25)))))))))))))))))))))))) in_wsX40) in_wsX50) in_wsX30) in_wsX00) in_wsX10) in_wsX20) (fun _ h => absurd h List.not_mem_nil)
theorem inlX0 : ∀ w ∈ wsX00, w ∈ wsL_law := fun _ h => List.mem_append_left _ (List.mem_append_left _ (List.mem_append_left _ (List.mem_append_right _ h)))
theorem inX0 : ∀ w ∈ wsX00, w ∈ lw_tbl := fun w h => wsL_law_in w (inlX0 w h)
theorem inlX1 : ∀ w ∈ wsX10, w ∈ wsL_law := fun _ h => List.mem_append_left _ (List.mem_append_left _ (List.mem_append_right _ h))
theorem inX1 : ∀ w ∈ wsX10, w ∈ lw_tbl := fun w h => wsL_law_in w (inlX1 w h)
theorem inlX2 : ∀ w ∈ wsX20, w ∈ wsL_law := fun _ h => List.mem_append_left _ (List.mem_append_right _ h)
theorem inX2 : ∀ w ∈ wsX20, w ∈ lw_tbl := fun w h => wsL_law_in w (inlX2 w h)
theorem inlX3 : ∀ w ∈ wsX30, w ∈ wsL_law := fun _ h => List.mem_append_left _ (List.mem_append_left _ (List.mem_append_left _ (List.mem_append_left _ (List.mem_append_right _ h))))
theorem inX3 : ∀ w ∈ wsX30, w ∈ lw_tbl := fun w h => wsL_law_in w (inlX3 w h)
theorem inlX4 : ∀ w ∈ wsX40, w ∈ wsL_law := fun _ h => List.mem_append_left _ (List.mem_append_left _ (List.mem_append_left _ (List.mem_append_left _ (List.mem_append_left _ (List.mem_append_left _ (List.mem_append_right _ h))))))
theorem inX4 : ∀ w ∈ wsX40, w ∈ lw_tbl := fun w h => wsL_law_in w (inlX4 w h)
theorem inlX5 : ∀ w ∈ wsX50, w ∈ wsL_law := fun _ h => List.mem_append_left _ (List.mem_append_left _ (List.mem_append_left _ (List.mem_append_left _ (List.mem_append_left _ (List.mem_append_right _ h)))))
theorem inX5 : ∀ w ∈ wsX50, w ∈ lw_tbl := fun w h => wsL_law_in w (inlX5 w h)
theorem inJ9 : ∀ w ∈ wsJ90, w ∈ lw_tbl := by decide +kernel
theorem inJ10 : ∀ w ∈ wsJ100, w ∈ lw_tbl := by decide +kernel
theorem inJ7 : ∀ w ∈ wsJ70, w ∈ lw_tbl := by decide +kernel
abbrev vwCl : List vw_C := [(RX0, TX0, 2), (RX1, TX1, 2), (RX2, TX2, 2), (RX3, TX3, 1), (RX4, TX4, 10), (RX5, TX5, 11)]
end
section
set_option maxRecDepth 20000 in
theorem ggX0_init_X3_init : GoodIn wsX0_init wsX3_init := goodIn_r _ [11, 12, 2, 3, 13, 14, 15, 16, 17, 18, 19, 20, 21, 22, 25, 26, 27] (by decide +kernel) (by decide +kernel)
set_option maxRecDepth 20000 in
theorem gX0_init_X3_init : GoodIn wsX0_init (wsX3_init) := ggX0_init_X3_init
theorem dX0_init_0 : decode cX0_init 0 = .ok (.aload_n 0, 1) := by decide +kernel
theorem dX0_init_1 : decode cX0_init 1 = .ok (.invokespecial 3, 3) := by decide +kernel
theorem dX0_init_4 : decode cX0_init 4 = .ok (.aload_n 0, 1) := by decide +kernel
theorem dX0_init_5 : decode cX0_init 5 = .ok (.bipush 6, 2) := by decide +kernel
theorem dX0_init_7 : decode cX0_init 7 = .ok (.anewarray 9, 3) := by decide +kernel
theorem dX0_init_10 : decode cX0_init 10 = .ok (.putfield 11, 3) := by decide +kernel
theorem dX0_init_13 : decode cX0_init 13 = .ok (.aload_n 0, 1) := by decide +kernel
theorem dX0_init_14 : decode cX0_init 14 = .ok (.iconst 0, 1) := by decide +kernel
theorem dX0_init_15 : decode cX0_init 15 = .ok (.putfield 17, 3) := by decide +kernel
theorem dX0_init_18 : decode cX0_init 18 = .ok (.iconst 0, 1) := by decide +kernel
theorem dX0_init_19 : decode cX0_init 19 = .ok (.istore_n 1, 1) := by decide +kernel
theorem dX0_init_20 : decode cX0_init 20 = .ok (.iload_n 1, 1) := by decide +kernel
theorem dX0_init_21 : decode cX0_init 21 = .ok (.aload_n 0, 1) := by decide +kernel
theorem dX0_init_22 : decode cX0_init 22 = .ok (.getfield 11, 3) := by decide +kernel
theorem dX0_init_25 : decode cX0_init 25 = .ok (.arraylength, 1) := by decide +kernel
theorem dX0_init_26 : decode cX0_init 26 = .ok (.if_icmp .ge 22, 3) := by decide +kernel
theorem dX0_init_29 : decode cX0_init 29 = .ok (.aload_n 0, 1) := by decide +kernel
theorem dX0_init_30 : decode cX0_init 30 = .ok (.getfield 11, 3) := by decide +kernel
theorem dX0_init_33 : decode cX0_init 33 = .ok (.iload_n 1, 1) := by decide +kernel
theorem dX0_init_34 : decode cX0_init 34 = .ok (.new 9, 3) := by decide +kernel
theorem dX0_init_37 : decode cX0_init 37 = .ok (.dup, 1) := by decide +kernel
theorem dX0_init_38 : decode cX0_init 38 = .ok (.invokespecial 21, 3) := by decide +kernel
theorem dX0_init_41 : decode cX0_init 41 = .ok (.aastore, 1) := by decide +kernel
theorem dX0_init_42 : decode cX0_init 42 = .ok (.iinc 1 1, 3) := by decide +kernel
theorem dX0_init_45 : decode cX0_init 45 = .ok (.goto (-25), 3) := by decide +kernel
theorem dX0_init_48 : decode cX0_init 48 = .ok (.return_, 1) := by decide +kernel
theorem dX0_length_0 : decode cX0_length 0 = .ok (.aload_n 0, 1) := by decide +kernel
theorem dX0_length_1 : decode cX0_length 1 = .ok (.getfield 17, 3) := by decide +kernel
theorem dX0_length_4 : decode cX0_length 4 = .ok (.ireturn, 1) := by decide +kernel
set_option maxRecDepth 20000 in
theorem ggX0_keep_X0_dropOldest : GoodIn wsX0_keep wsX0_dropOldest := goodIn_r _ [7, 2, 1, 25, 26] (by decide +kernel) (by decide +kernel)
set_option maxRecDepth 20000 in
theorem gX0_keep_X0_dropOldest : GoodIn wsX0_keep (wsV RX0 22 RX0 yX0_dropOldest wsX0_dropOldest) := goodIn_app (goodIn_of _ (by decide +kernel)) ggX0_keep_X0_dropOldest
set_option maxRecDepth 20000 in
theorem ggX0_keep_X3_copyFrom : GoodIn wsX0_keep wsX3_copyFrom := goodIn_r _ [12, 13, 14, 15, 16, 17, 18, 19, 20, 21, 22, 23, 24, 27, 28, 29] (by decide +kernel) (by decide +kernel)
set_option maxRecDepth 20000 in
theorem gX0_keep_X3_copyFrom : GoodIn wsX0_keep (wsV RX0 25 RX3 yX3_copyFrom wsX3_copyFrom) := goodIn_app (goodIn_of _ (by decide +kernel)) ggX0_keep_X3_copyFrom
theorem dX0_keep_0 : decode cX0_keep 0 = .ok (.aload_n 0, 1) := by decide +kernel
theorem dX0_keep_1 : decode cX0_keep 1 = .ok (.getfield 17, 3) := by decide +kernel
theorem dX0_keep_4 : decode cX0_keep 4 = .ok (.aload_n 0, 1) := by decide +kernel
theorem dX0_keep_5 : decode cX0_keep 5 = .ok (.getfield 11, 3) := by decide +kernel
theorem dX0_keep_8 : decode cX0_keep 8 = .ok (.arraylength, 1) := by decide +kernel
theorem dX0_keep_9 : decode cX0_keep 9 = .ok (.if_icmp .lt 7, 3) := by decide +kernel
theorem dX0_keep_12 : decode cX0_keep 12 = .ok (.aload_n 0, 1) := by decide +kernel
theorem dX0_keep_13 : decode cX0_keep 13 = .ok (.invokevirtual 22, 3) := by decide +kernel
theorem dX0_keep_16 : decode cX0_keep 16 = .ok (.aload_n 0, 1) := by decide +kernel
theorem dX0_keep_17 : decode cX0_keep 17 = .ok (.getfield 11, 3) := by decide +kernel
theorem dX0_keep_20 : decode cX0_keep 20 = .ok (.aload_n 0, 1) := by decide +kernel
theorem dX0_keep_21 : decode cX0_keep 21 = .ok (.getfield 17, 3) := by decide +kernel
theorem dX0_keep_24 : decode cX0_keep 24 = .ok (.aaload, 1) := by decide +kernel
theorem dX0_keep_25 : decode cX0_keep 25 = .ok (.aload_n 1, 1) := by decide +kernel
theorem dX0_keep_26 : decode cX0_keep 26 = .ok (.invokevirtual 25, 3) := by decide +kernel
theorem dX0_keep_29 : decode cX0_keep 29 = .ok (.aload_n 0, 1) := by decide +kernel
theorem dX0_keep_30 : decode cX0_keep 30 = .ok (.dup, 1) := by decide +kernel
theorem dX0_keep_31 : decode cX0_keep 31 = .ok (.getfield 17, 3) := by decide +kernel
theorem dX0_keep_34 : decode cX0_keep 34 = .ok (.iconst 1, 1) := by decide +kernel
theorem dX0_keep_35 : decode cX0_keep 35 = .ok (.iadd, 1) := by decide +kernel
theorem dX0_keep_36 : decode cX0_keep 36 = .ok (.putfield 17, 3) := by decide +kernel
theorem dX0_keep_39 : decode cX0_keep 39 = .ok (.return_, 1) := by decide +kernel
set_option maxRecDepth 20000 in
theorem ggX0_takeLatest_X3_copyFrom : GoodIn wsX0_takeLatest wsX3_copyFrom := goodIn_r _ [7, 8, 9, 10, 11, 12, 13, 14, 15, 16, 17, 18, 19, 22, 23, 24] (by decide +kernel) (by decide +kernel)
set_option maxRecDepth 20000 in
theorem gX0_takeLatest_X3_copyFrom : GoodIn wsX0_takeLatest (wsV RX0 25 RX3 yX3_copyFrom wsX3_copyFrom) := goodIn_app (goodIn_of _ (by decide +kernel)) ggX0_takeLatest_X3_copyFrom
theorem dX0_takeLatest_0 : decode cX0_takeLatest 0 = .ok (.aload_n 0, 1) := by decide +kernel
theorem dX0_takeLatest_1 : decode cX0_takeLatest 1 = .ok (.getfield 17, 3) := by decide +kernel
theorem dX0_takeLatest_4 : decode cX0_takeLatest 4 = .ok (.ifCond .le 26, 3) := by decide +kernel
theorem dX0_takeLatest_7 : decode cX0_takeLatest 7 = .ok (.aload_n 0, 1) := by decide +kernel
theorem dX0_takeLatest_8 : decode cX0_takeLatest 8 = .ok (.dup, 1) := by decide +kernel
theorem dX0_takeLatest_9 : decode cX0_takeLatest 9 = .ok (.getfield 17, 3) := by decide +kernel
theorem dX0_takeLatest_12 : decode cX0_takeLatest 12 = .ok (.iconst 1, 1) := by decide +kernel
theorem dX0_takeLatest_13 : decode cX0_takeLatest 13 = .ok (.isub, 1) := by decide +kernel
theorem dX0_takeLatest_14 : decode cX0_takeLatest 14 = .ok (.putfield 17, 3) := by decide +kernel
theorem dX0_takeLatest_17 : decode cX0_takeLatest 17 = .ok (.aload_n 1, 1) := by decide +kernel
theorem dX0_takeLatest_18 : decode cX0_takeLatest 18 = .ok (.aload_n 0, 1) := by decide +kernel
theorem dX0_takeLatest_19 : decode cX0_takeLatest 19 = .ok (.getfield 11, 3) := by decide +kernel
theorem dX0_takeLatest_22 : decode cX0_takeLatest 22 = .ok (.aload_n 0, 1) := by decide +kernel
theorem dX0_takeLatest_23 : decode cX0_takeLatest 23 = .ok (.getfield 17, 3) := by decide +kernel
theorem dX0_takeLatest_26 : decode cX0_takeLatest 26 = .ok (.aaload, 1) := by decide +kernel
theorem dX0_takeLatest_27 : decode cX0_takeLatest 27 = .ok (.invokevirtual 25, 3) := by decide +kernel
theorem dX0_takeLatest_30 : decode cX0_takeLatest 30 = .ok (.return_, 1) := by decide +kernel
theorem dX0_dropOldest_0 : decode cX0_dropOldest 0 = .ok (.aload_n 0, 1) := by decide +kernel
theorem dX0_dropOldest_1 : decode cX0_dropOldest 1 = .ok (.getfield 11, 3) := by decide +kernel
theorem dX0_dropOldest_4 : decode cX0_dropOldest 4 = .ok (.iconst 0, 1) := by decide +kernel
theorem dX0_dropOldest_5 : decode cX0_dropOldest 5 = .ok (.aaload, 1) := by decide +kernel
theorem dX0_dropOldest_6 : decode cX0_dropOldest 6 = .ok (.astore_n 1, 1) := by decide +kernel
theorem dX0_dropOldest_7 : decode cX0_dropOldest 7 = .ok (.iconst 1, 1) := by decide +kernel
theorem dX0_dropOldest_8 : decode cX0_dropOldest 8 = .ok (.istore_n 2, 1) := by decide +kernel
theorem dX0_dropOldest_9 : decode cX0_dropOldest 9 = .ok (.iload_n 2, 1) := by decide +kernel
theorem dX0_dropOldest_10 : decode cX0_dropOldest 10 = .ok (.aload_n 0, 1) := by decide +kernel
theorem dX0_dropOldest_11 : decode cX0_dropOldest 11 = .ok (.getfield 11, 3) := by decide +kernel
theorem dX0_dropOldest_14 : decode cX0_dropOldest 14 = .ok (.arraylength, 1) := by decide +kernel
theorem dX0_dropOldest_15 : decode cX0_dropOldest 15 = .ok (.if_icmp .ge 23, 3) := by decide +kernel
theorem dX0_dropOldest_18 : decode cX0_dropOldest 18 = .ok (.aload_n 0, 1) := by decide +kernel
theorem dX0_dropOldest_19 : decode cX0_dropOldest 19 = .ok (.getfield 11, 3) := by decide +kernel
theorem dX0_dropOldest_22 : decode cX0_dropOldest 22 = .ok (.iload_n 2, 1) := by decide +kernel
theorem dX0_dropOldest_23 : decode cX0_dropOldest 23 = .ok (.iconst 1, 1) := by decide +kernel
theorem dX0_dropOldest_24 : decode cX0_dropOldest 24 = .ok (.isub, 1) := by decide +kernel
theorem dX0_dropOldest_25 : decode cX0_dropOldest 25 = .ok (.aload_n 0, 1) := by decide +kernel
theorem dX0_dropOldest_26 : decode cX0_dropOldest 26 = .ok (.getfield 11, 3) := by decide +kernel
theorem dX0_dropOldest_29 : decode cX0_dropOldest 29 = .ok (.iload_n 2, 1) := by decide +kernel
theorem dX0_dropOldest_30 : decode cX0_dropOldest 30 = .ok (.aaload, 1) := by decide +kernel
theorem dX0_dropOldest_31 : decode cX0_dropOldest 31 = .ok (.aastore, 1) := by decide +kernel
theorem dX0_dropOldest_32 : decode cX0_dropOldest 32 = .ok (.iinc 2 1, 3) := by decide +kernel
theorem dX0_dropOldest_35 : decode cX0_dropOldest 35 = .ok (.goto (-26), 3) := by decide +kernel
theorem dX0_dropOldest_38 : decode cX0_dropOldest 38 = .ok (.aload_n 0, 1) := by decide +kernel
theorem dX0_dropOldest_39 : decode cX0_dropOldest 39 = .ok (.aload_n 0, 1) := by decide +kernel
theorem dX0_dropOldest_40 : decode cX0_dropOldest 40 = .ok (.getfield 11, 3) := by decide +kernel
theorem dX0_dropOldest_43 : decode cX0_dropOldest 43 = .ok (.arraylength, 1) := by decide +kernel
theorem dX0_dropOldest_44 : decode cX0_dropOldest 44 = .ok (.iconst 1, 1) := by decide +kernel
theorem dX0_dropOldest_45 : decode cX0_dropOldest 45 = .ok (.isub, 1) := by decide +kernel
theorem dX0_dropOldest_46 : decode cX0_dropOldest 46 = .ok (.putfield 17, 3) := by decide +kernel
theorem dX0_dropOldest_49 : decode cX0_dropOldest 49 = .ok (.aload_n 0, 1) := by decide +kernel
theorem dX0_dropOldest_50 : decode cX0_dropOldest 50 = .ok (.getfield 11, 3) := by decide +kernel
theorem dX0_dropOldest_53 : decode cX0_dropOldest 53 = .ok (.aload_n 0, 1) := by decide +kernel
theorem dX0_dropOldest_54 : decode cX0_dropOldest 54 = .ok (.getfield 17, 3) := by decide +kernel
theorem dX0_dropOldest_57 : decode cX0_dropOldest 57 = .ok (.aload_n 1, 1) := by decide +kernel
theorem dX0_dropOldest_58 : decode cX0_dropOldest 58 = .ok (.aastore, 1) := by decide +kernel
theorem dX0_dropOldest_59 : decode cX0_dropOldest 59 = .ok (.return_, 1) := by decide +kernel
theorem dX1_init_0 : decode cX1_init 0 = .ok (.aload_n 0, 1) := by decide +kernel
theorem dX1_init_1 : decode cX1_init 1 = .ok (.invokespecial 3, 3) := by decide +kernel
theorem dX1_init_4 : decode cX1_init 4 = .ok (.aload_n 0, 1) := by decide +kernel
theorem dX1_init_5 : decode cX1_init 5 = .ok (.bipush 80, 2) := by decide +kernel
theorem dX1_init_7 : decode cX1_init 7 = .ok (.newarray .int, 2) := by decide +kernel
theorem dX1_init_9 : decode cX1_init 9 = .ok (.putfield 9, 3) := by decide +kernel
theorem dX1_init_12 : decode cX1_init 12 = .ok (.aload_n 0, 1) := by decide +kernel
theorem dX1_init_13 : decode cX1_init 13 = .ok (.iconst 0, 1) := by decide +kernel
theorem dX1_init_14 : decode cX1_init 14 = .ok (.putfield 15, 3) := by decide +kernel
theorem dX1_init_17 : decode cX1_init 17 = .ok (.return_, 1) := by decide +kernel
theorem dX1_length_0 : decode cX1_length 0 = .ok (.aload_n 0, 1) := by decide +kernel
theorem dX1_length_1 : decode cX1_length 1 = .ok (.getfield 15, 3) := by decide +kernel
theorem dX1_length_4 : decode cX1_length 4 = .ok (.ireturn, 1) := by decide +kernel
theorem dX1_empty_0 : decode cX1_empty 0 = .ok (.aload_n 0, 1) := by decide +kernel
theorem dX1_empty_1 : decode cX1_empty 1 = .ok (.iconst 0, 1) := by decide +kernel
theorem dX1_empty_2 : decode cX1_empty 2 = .ok (.putfield 15, 3) := by decide +kernel
theorem dX1_empty_5 : decode cX1_empty 5 = .ok (.return_, 1) := by decide +kernel
theorem dX1_append_0 : decode cX1_append 0 = .ok (.aload_n 0, 1) := by decide +kernel
theorem dX1_append_1 : decode cX1_append 1 = .ok (.getfield 15, 3) := by decide +kernel
theorem dX1_append_4 : decode cX1_append 4 = .ok (.aload_n 0, 1) := by decide +kernel
theorem dX1_append_5 : decode cX1_append 5 = .ok (.getfield 9, 3) := by decide +kernel
theorem dX1_append_8 : decode cX1_append 8 = .ok (.arraylength, 1) := by decide +kernel
theorem dX1_append_9 : decode cX1_append 9 = .ok (.if_icmp .ge 23, 3) := by decide +kernel
theorem dX1_append_12 : decode cX1_append 12 = .ok (.aload_n 0, 1) := by decide +kernel
theorem dX1_append_13 : decode cX1_append 13 = .ok (.getfield 9, 3) := by decide +kernel
theorem dX1_append_16 : decode cX1_append 16 = .ok (.aload_n 0, 1) := by decide +kernel
theorem dX1_append_17 : decode cX1_append 17 = .ok (.getfield 15, 3) := by decide +kernel
theorem dX1_append_20 : decode cX1_append 20 = .ok (.iload_n 1, 1) := by decide +kernel
theorem dX1_append_21 : decode cX1_append 21 = .ok (.iastore, 1) := by decide +kernel
theorem dX1_append_22 : decode cX1_append 22 = .ok (.aload_n 0, 1) := by decide +kernel
theorem dX1_append_23 : decode cX1_append 23 = .ok (.dup, 1) := by decide +kernel
theorem dX1_append_24 : decode cX1_append 24 = .ok (.getfield 15, 3) := by decide +kernel
theorem dX1_append_27 : decode cX1_append 27 = .ok (.iconst 1, 1) := by decide +kernel
theorem dX1_append_28 : decode cX1_append 28 = .ok (.iadd, 1) := by decide +kernel
theorem dX1_append_29 : decode cX1_append 29 = .ok (.putfield 15, 3) := by decide +kernel
theorem dX1_append_32 : decode cX1_append 32 = .ok (.return_, 1) := by decide +kernel
set_option maxRecDepth 20000 in
theorem ggX1_scan_X1_withDigit : GoodIn wsX1_scan wsX1_withDigit := goodIn_r _ [6, 7, 8, 9, 10] (by decide +kernel) (by decide +kernel)
set_option maxRecDepth 20000 in
theorem gX1_scan_X1_withDigit : GoodIn wsX1_scan (va_wsS RX1 19 yX1_withDigit wsX1_withDigit) := goodIn_app (goodIn_of _ (by decide +kernel)) ggX1_scan_X1_withDigit
set_option maxRecDepth 20000 in
theorem ggX1_scan_X2_write : GoodIn wsX1_scan wsX2_write := goodIn_r _ [15, 16, 17, 18, 19, 20, 29, 30] (by decide +kernel) (by decide +kernel)
set_option maxRecDepth 20000 in
theorem gX1_scan_X2_write : GoodIn wsX1_scan (wsV RX1 23 RX2 yX2_write wsX2_write) := goodIn_app (goodIn_of _ (by decide +kernel)) ggX1_scan_X2_write
set_option maxRecDepth 20000 in
theorem ggX1_scan_X2_resize : GoodIn wsX1_scan wsX2_resize := goodIn_r _ [24, 25, 26, 12, 13, 14, 15, 16, 17, 18, 19, 20, 29, 30] (by decide +kernel) (by decide +kernel)
set_option maxRecDepth 20000 in
theorem gX1_scan_X2_resize : GoodIn wsX1_scan (wsV RX1 29 RX2 yX2_resize wsX2_resize) := goodIn_app (goodIn_of _ (by decide +kernel)) ggX1_scan_X2_resize
theorem dX1_scan_0 : decode cX1_scan 0 = .ok (.iconst 0, 1) := by decide +kernel
theorem dX1_scan_1 : decode cX1_scan 1 = .ok (.istore_n 2, 1) := by decide +kernel
theorem dX1_scan_2 : decode cX1_scan 2 = .ok (.bipush (-6), 2) := by decide +kernel
theorem dX1_scan_4 : decode cX1_scan 4 = .ok (.istore_n 3, 1) := by decide +kernel
theorem dX1_scan_5 : decode cX1_scan 5 = .ok (.iconst 0, 1) := by decide +kernel
theorem dX1_scan_6 : decode cX1_scan 6 = .ok (.istore 4, 2) := by decide +kernel
theorem dX1_scan_8 : decode cX1_scan 8 = .ok (.iload 4, 2) := by decide +kernel
theorem dX1_scan_10 : decode cX1_scan 10 = .ok (.aload_n 0, 1) := by decide +kernel
theorem dX1_scan_11 : decode cX1_scan 11 = .ok (.getfield 9, 3) := by decide +kernel
theorem dX1_scan_14 : decode cX1_scan 14 = .ok (.arraylength, 1) := by decide +kernel
theorem dX1_scan_15 : decode cX1_scan 15 = .ok (.if_icmp .ge 72, 3) := by decide +kernel
theorem dX1_scan_18 : decode cX1_scan 18 = .ok (.iload 4, 2) := by decide +kernel
theorem dX1_scan_20 : decode cX1_scan 20 = .ok (.aload_n 0, 1) := by decide +kernel
theorem dX1_scan_21 : decode cX1_scan 21 = .ok (.getfield 15, 3) := by decide +kernel
theorem dX1_scan_24 : decode cX1_scan 24 = .ok (.if_icmp .ge 63, 3) := by decide +kernel
theorem dX1_scan_27 : decode cX1_scan 27 = .ok (.aload_n 0, 1) := by decide +kernel
theorem dX1_scan_28 : decode cX1_scan 28 = .ok (.getfield 9, 3) := by decide +kernel
theorem dX1_scan_31 : decode cX1_scan 31 = .ok (.iload 4, 2) := by decide +kernel
theorem dX1_scan_33 : decode cX1_scan 33 = .ok (.iaload, 1) := by decide +kernel
theorem dX1_scan_34 : decode cX1_scan 34 = .ok (.bipush 44, 2) := by decide +kernel
theorem dX1_scan_36 : decode cX1_scan 36 = .ok (.if_icmp .eq 24, 3) := by decide +kernel
theorem dX1_scan_39 : decode cX1_scan 39 = .ok (.iload_n 3, 1) := by decide +kernel
theorem dX1_scan_40 : decode cX1_scan 40 = .ok (.aload_n 0, 1) := by decide +kernel
theorem dX1_scan_41 : decode cX1_scan 41 = .ok (.getfield 9, 3) := by decide +kernel
theorem dX1_scan_44 : decode cX1_scan 44 = .ok (.iload 4, 2) := by decide +kernel
theorem dX1_scan_46 : decode cX1_scan 46 = .ok (.iaload, 1) := by decide +kernel
theorem dX1_scan_47 : decode cX1_scan 47 = .ok (.invokestatic 19, 3) := by decide +kernel
theorem dX1_scan_50 : decode cX1_scan 50 = .ok (.istore_n 3, 1) := by decide +kernel
theorem dX1_scan_51 : decode cX1_scan 51 = .ok (.iload_n 3, 1) := by decide +kernel
theorem dX1_scan_52 : decode cX1_scan 52 = .ok (.bipush (-3), 2) := by decide +kernel
theorem dX1_scan_54 : decode cX1_scan 54 = .ok (.if_icmp .ne 27, 3) := by decide +kernel
theorem dX1_scan_57 : decode cX1_scan 57 = .ok (.iload 4, 2) := by decide +kernel
theorem dX1_scan_59 : decode cX1_scan 59 = .ok (.ireturn, 1) := by decide +kernel
theorem dX1_scan_60 : decode cX1_scan 60 = .ok (.iload_n 3, 1) := by decide +kernel
theorem dX1_scan_61 : decode cX1_scan 61 = .ok (.bipush (-6), 2) := by decide +kernel
theorem dX1_scan_63 : decode cX1_scan 63 = .ok (.if_icmp .ne 6, 3) := by decide +kernel
theorem dX1_scan_66 : decode cX1_scan 66 = .ok (.iload 4, 2) := by decide +kernel
theorem dX1_scan_68 : decode cX1_scan 68 = .ok (.ireturn, 1) := by decide +kernel
theorem dX1_scan_69 : decode cX1_scan 69 = .ok (.aload_n 1, 1) := by decide +kernel
theorem dX1_scan_70 : decode cX1_scan 70 = .ok (.iload_n 2, 1) := by decide +kernel
theorem dX1_scan_71 : decode cX1_scan 71 = .ok (.iload_n 3, 1) := by decide +kernel
theorem dX1_scan_72 : decode cX1_scan 72 = .ok (.invokevirtual 23, 3) := by decide +kernel
theorem dX1_scan_75 : decode cX1_scan 75 = .ok (.iinc 2 1, 3) := by decide +kernel
theorem dX1_scan_78 : decode cX1_scan 78 = .ok (.bipush (-6), 2) := by decide +kernel
theorem dX1_scan_80 : decode cX1_scan 80 = .ok (.istore_n 3, 1) := by decide +kernel
theorem dX1_scan_81 : decode cX1_scan 81 = .ok (.iinc 4 1, 3) := by decide +kernel
theorem dX1_scan_84 : decode cX1_scan 84 = .ok (.goto (-76), 3) := by decide +kernel
theorem dX1_scan_87 : decode cX1_scan 87 = .ok (.iload_n 3, 1) := by decide +kernel
theorem dX1_scan_88 : decode cX1_scan 88 = .ok (.bipush (-6), 2) := by decide +kernel
theorem dX1_scan_90 : decode cX1_scan 90 = .ok (.if_icmp .ne 8, 3) := by decide +kernel
theorem dX1_scan_93 : decode cX1_scan 93 = .ok (.aload_n 0, 1) := by decide +kernel
theorem dX1_scan_94 : decode cX1_scan 94 = .ok (.getfield 15, 3) := by decide +kernel
theorem dX1_scan_97 : decode cX1_scan 97 = .ok (.ireturn, 1) := by decide +kernel
theorem dX1_scan_98 : decode cX1_scan 98 = .ok (.aload_n 1, 1) := by decide +kernel
theorem dX1_scan_99 : decode cX1_scan 99 = .ok (.iload_n 2, 1) := by decide +kernel
theorem dX1_scan_100 : decode cX1_scan 100 = .ok (.iconst 1, 1) := by decide +kernel
theorem dX1_scan_101 : decode cX1_scan 101 = .ok (.iadd, 1) := by decide +kernel
theorem dX1_scan_102 : decode cX1_scan 102 = .ok (.invokevirtual 29, 3) := by decide +kernel
theorem dX1_scan_105 : decode cX1_scan 105 = .ok (.aload_n 1, 1) := by decide +kernel
theorem dX1_scan_106 : decode cX1_scan 106 = .ok (.iload_n 2, 1) := by decide +kernel
theorem dX1_scan_107 : decode cX1_scan 107 = .ok (.iload_n 3, 1) := by decide +kernel
theorem dX1_scan_108 : decode cX1_scan 108 = .ok (.invokevirtual 23, 3) := by decide +kernel
theorem dX1_scan_111 : decode cX1_scan 111 = .ok (.bipush (-6), 2) := by decide +kernel
theorem dX1_scan_113 : decode cX1_scan 113 = .ok (.ireturn, 1) := by decide +kernel
theorem dX1_withDigit_0 : decode cX1_withDigit 0 = .ok (.iload_n 1, 1) := by decide +kernel
theorem dX1_withDigit_1 : decode cX1_withDigit 1 = .ok (.bipush 48, 2) := by decide +kernel
theorem dX1_withDigit_3 : decode cX1_withDigit 3 = .ok (.if_icmp .lt 13, 3) := by decide +kernel
theorem dX1_withDigit_6 : decode cX1_withDigit 6 = .ok (.iload_n 1, 1) := by decide +kernel
theorem dX1_withDigit_7 : decode cX1_withDigit 7 = .ok (.bipush 57, 2) := by decide +kernel
theorem dX1_withDigit_9 : decode cX1_withDigit 9 = .ok (.if_icmp .gt 7, 3) := by decide +kernel
theorem dX1_withDigit_12 : decode cX1_withDigit 12 = .ok (.iload_n 0, 1) := by decide +kernel
theorem dX1_withDigit_13 : decode cX1_withDigit 13 = .ok (.ifCond .ne 6, 3) := by decide +kernel
theorem dX1_withDigit_16 : decode cX1_withDigit 16 = .ok (.bipush (-3), 2) := by decide +kernel
theorem dX1_withDigit_18 : decode cX1_withDigit 18 = .ok (.ireturn, 1) := by decide +kernel
theorem dX1_withDigit_19 : decode cX1_withDigit 19 = .ok (.iload_n 0, 1) := by decide +kernel
theorem dX1_withDigit_20 : decode cX1_withDigit 20 = .ok (.iconst 0, 1) := by decide +kernel
theorem dX1_withDigit_21 : decode cX1_withDigit 21 = .ok (.invokestatic 33, 3) := by decide +kernel
theorem dX1_withDigit_24 : decode cX1_withDigit 24 = .ok (.bipush 10, 2) := by decide +kernel
theorem dX1_withDigit_26 : decode cX1_withDigit 26 = .ok (.imul, 1) := by decide +kernel
theorem dX1_withDigit_27 : decode cX1_withDigit 27 = .ok (.iload_n 1, 1) := by decide +kernel
theorem dX1_withDigit_28 : decode cX1_withDigit 28 = .ok (.iadd, 1) := by decide +kernel
theorem dX1_withDigit_29 : decode cX1_withDigit 29 = .ok (.bipush 48, 2) := by decide +kernel
theorem dX1_withDigit_31 : decode cX1_withDigit 31 = .ok (.isub, 1) := by decide +kernel
theorem dX1_withDigit_32 : decode cX1_withDigit 32 = .ok (.istore_n 2, 1) := by decide +kernel
theorem dX1_withDigit_33 : decode cX1_withDigit 33 = .ok (.iload_n 2, 1) := by decide +kernel
theorem dX1_withDigit_34 : decode cX1_withDigit 34 = .ok (.sipush 257, 3) := by decide +kernel
theorem dX1_withDigit_37 : decode cX1_withDigit 37 = .ok (.if_icmp .ge 7, 3) := by decide +kernel
theorem dX1_withDigit_40 : decode cX1_withDigit 40 = .ok (.iload_n 2, 1) := by decide +kernel
theorem dX1_withDigit_41 : decode cX1_withDigit 41 = .ok (.goto 5, 3) := by decide +kernel
theorem dX1_withDigit_44 : decode cX1_withDigit 44 = .ok (.bipush (-3), 2) := by decide +kernel
theorem dX1_withDigit_46 : decode cX1_withDigit 46 = .ok (.ireturn, 1) := by decide +kernel
theorem dX2_init_0 : decode cX2_init 0 = .ok (.aload_n 0, 1) := by decide +kernel
theorem dX2_init_1 : decode cX2_init 1 = .ok (.invokespecial 3, 3) := by decide +kernel
theorem dX2_init_4 : decode cX2_init 4 = .ok (.aload_n 0, 1) := by decide +kernel
theorem dX2_init_5 : decode cX2_init 5 = .ok (.bipush 64, 2) := by decide +kernel
theorem dX2_init_7 : decode cX2_init 7 = .ok (.newarray .int, 2) := by decide +kernel
theorem dX2_init_9 : decode cX2_init 9 = .ok (.putfield 9, 3) := by decide +kernel
theorem dX2_init_12 : decode cX2_init 12 = .ok (.aload_n 0, 1) := by decide +kernel
theorem dX2_init_13 : decode cX2_init 13 = .ok (.iconst 1, 1) := by decide +kernel
theorem dX2_init_14 : decode cX2_init 14 = .ok (.putfield 15, 3) := by decide +kernel
theorem dX2_init_17 : decode cX2_init 17 = .ok (.return_, 1) := by decide +kernel
theorem dX2_length_0 : decode cX2_length 0 = .ok (.aload_n 0, 1) := by decide +kernel
theorem dX2_length_1 : decode cX2_length 1 = .ok (.getfield 15, 3) := by decide +kernel
theorem dX2_length_4 : decode cX2_length 4 = .ok (.ireturn, 1) := by decide +kernel
theorem dX2_at_0 : decode cX2_at 0 = .ok (.iload_n 1, 1) := by decide +kernel
theorem dX2_at_1 : decode cX2_at 1 = .ok (.ifCond .lt 21, 3) := by decide +kernel
theorem dX2_at_4 : decode cX2_at 4 = .ok (.iload_n 1, 1) := by decide +kernel
theorem dX2_at_5 : decode cX2_at 5 = .ok (.aload_n 0, 1) := by decide +kernel
theorem dX2_at_6 : decode cX2_at 6 = .ok (.getfield 9, 3) := by decide +kernel
theorem dX2_at_9 : decode cX2_at 9 = .ok (.arraylength, 1) := by decide +kernel
theorem dX2_at_10 : decode cX2_at 10 = .ok (.if_icmp .ge 12, 3) := by decide +kernel
theorem dX2_at_13 : decode cX2_at 13 = .ok (.aload_n 0, 1) := by decide +kernel
theorem dX2_at_14 : decode cX2_at 14 = .ok (.getfield 9, 3) := by decide +kernel
theorem dX2_at_17 : decode cX2_at 17 = .ok (.iload_n 1, 1) := by decide +kernel
theorem dX2_at_18 : decode cX2_at 18 = .ok (.iaload, 1) := by decide +kernel
theorem dX2_at_19 : decode cX2_at 19 = .ok (.goto 4, 3) := by decide +kernel
theorem dX2_at_22 : decode cX2_at 22 = .ok (.iconst 0, 1) := by decide +kernel
theorem dX2_at_23 : decode cX2_at 23 = .ok (.ireturn, 1) := by decide +kernel
set_option maxRecDepth 20000 in
theorem ggX2_write_J9_floorMod_7cf53 : GoodIn wsX2_write wsJ9_floorMod_7cf53 := goodIn_r _ [5] (by decide +kernel) (by decide +kernel)
set_option maxRecDepth 20000 in
theorem gX2_write_J9_floorMod_7cf53 : GoodIn wsX2_write (va_wsS RX2 19 yJ9_floorMod_7cf53 wsJ9_floorMod_7cf53) := goodIn_app (goodIn_of _ (by decide +kernel)) ggX2_write_J9_floorMod_7cf53
theorem dX2_write_0 : decode cX2_write 0 = .ok (.iload_n 1, 1) := by decide +kernel
theorem dX2_write_1 : decode cX2_write 1 = .ok (.ifCond .lt 25, 3) := by decide +kernel
theorem dX2_write_4 : decode cX2_write 4 = .ok (.iload_n 1, 1) := by decide +kernel
theorem dX2_write_5 : decode cX2_write 5 = .ok (.aload_n 0, 1) := by decide +kernel
theorem dX2_write_6 : decode cX2_write 6 = .ok (.getfield 9, 3) := by decide +kernel
theorem dX2_write_9 : decode cX2_write 9 = .ok (.arraylength, 1) := by decide +kernel
theorem dX2_write_10 : decode cX2_write 10 = .ok (.if_icmp .ge 16, 3) := by decide +kernel
theorem dX2_write_13 : decode cX2_write 13 = .ok (.aload_n 0, 1) := by decide +kernel
theorem dX2_write_14 : decode cX2_write 14 = .ok (.getfield 9, 3) := by decide +kernel
theorem dX2_write_17 : decode cX2_write 17 = .ok (.iload_n 1, 1) := by decide +kernel
theorem dX2_write_18 : decode cX2_write 18 = .ok (.iload_n 2, 1) := by decide +kernel
theorem dX2_write_19 : decode cX2_write 19 = .ok (.sipush 257, 3) := by decide +kernel
theorem dX2_write_22 : decode cX2_write 22 = .ok (.invokestatic 19, 3) := by decide +kernel
theorem dX2_write_25 : decode cX2_write 25 = .ok (.iastore, 1) := by decide +kernel
theorem dX2_write_26 : decode cX2_write 26 = .ok (.return_, 1) := by decide +kernel
set_option maxRecDepth 20000 in
theorem ggX2_resize_X2_write : GoodIn wsX2_resize wsX2_write := goodIn_r _ [6, 7, 8, 9, 10, 11, 12, 13] (by decide +kernel) (by decide +kernel)
set_option maxRecDepth 20000 in
theorem gX2_resize_X2_write : GoodIn wsX2_resize (wsV RX2 25 RX2 yX2_write wsX2_write) := goodIn_app (goodIn_of _ (by decide +kernel)) ggX2_resize_X2_write
theorem dX2_resize_0 : decode cX2_resize 0 = .ok (.iload_n 1, 1) := by decide +kernel
theorem dX2_resize_1 : decode cX2_resize 1 = .ok (.istore_n 2, 1) := by decide +kernel
theorem dX2_resize_2 : decode cX2_resize 2 = .ok (.iload_n 2, 1) := by decide +kernel
theorem dX2_resize_3 : decode cX2_resize 3 = .ok (.bipush 64, 2) := by decide +kernel
theorem dX2_resize_5 : decode cX2_resize 5 = .ok (.if_icmp .ge 15, 3) := by decide +kernel
theorem dX2_resize_8 : decode cX2_resize 8 = .ok (.aload_n 0, 1) := by decide +kernel
theorem dX2_resize_9 : decode cX2_resize 9 = .ok (.iload_n 2, 1) := by decide +kernel
theorem dX2_resize_10 : decode cX2_resize 10 = .ok (.iconst 0, 1) := by decide +kernel
theorem dX2_resize_11 : decode cX2_resize 11 = .ok (.invokevirtual 25, 3) := by decide +kernel
theorem dX2_resize_14 : decode cX2_resize 14 = .ok (.iinc 2 1, 3) := by decide +kernel
theorem dX2_resize_17 : decode cX2_resize 17 = .ok (.goto (-15), 3) := by decide +kernel
theorem dX2_resize_20 : decode cX2_resize 20 = .ok (.aload_n 0, 1) := by decide +kernel
theorem dX2_resize_21 : decode cX2_resize 21 = .ok (.iload_n 1, 1) := by decide +kernel
theorem dX2_resize_22 : decode cX2_resize 22 = .ok (.putfield 15, 3) := by decide +kernel
theorem dX2_resize_25 : decode cX2_resize 25 = .ok (.return_, 1) := by decide +kernel
set_option maxRecDepth 20000 in
theorem ggX2_clear_J7_fill_53178 : GoodIn wsX2_clear wsJ7_fill_53178 := goodIn_r _ [6] (by decide +kernel) (by decide +kernel)
set_option maxRecDepth 20000 in
theorem gX2_clear_J7_fill_53178 : GoodIn wsX2_clear (va_wsS RX2 29 yJ7_fill_53178 wsJ7_fill_53178) := goodIn_app (goodIn_of _ (by decide +kernel)) ggX2_clear_J7_fill_53178
theorem dX2_clear_0 : decode cX2_clear 0 = .ok (.aload_n 0, 1) := by decide +kernel
theorem dX2_clear_1 : decode cX2_clear 1 = .ok (.getfield 9, 3) := by decide +kernel
theorem dX2_clear_4 : decode cX2_clear 4 = .ok (.iconst 0, 1) := by decide +kernel
theorem dX2_clear_5 : decode cX2_clear 5 = .ok (.invokestatic 29, 3) := by decide +kernel
theorem dX2_clear_8 : decode cX2_clear 8 = .ok (.aload_n 0, 1) := by decide +kernel
theorem dX2_clear_9 : decode cX2_clear 9 = .ok (.iload_n 1, 1) := by decide +kernel
theorem dX2_clear_10 : decode cX2_clear 10 = .ok (.putfield 15, 3) := by decide +kernel
theorem dX2_clear_13 : decode cX2_clear 13 = .ok (.return_, 1) := by decide +kernel
theorem dX2_copyFrom_0 : decode cX2_copyFrom 0 = .ok (.aload_n 1, 1) := by decide +kernel
theorem dX2_copyFrom_1 : decode cX2_copyFrom 1 = .ok (.getfield 9, 3) := by decide +kernel
theorem dX2_copyFrom_4 : decode cX2_copyFrom 4 = .ok (.iconst 0, 1) := by decide +kernel
theorem dX2_copyFrom_5 : decode cX2_copyFrom 5 = .ok (.aload_n 0, 1) := by decide +kernel
theorem dX2_copyFrom_6 : decode cX2_copyFrom 6 = .ok (.getfield 9, 3) := by decide +kernel
theorem dX2_copyFrom_9 : decode cX2_copyFrom 9 = .ok (.iconst 0, 1) := by decide +kernel
theorem dX2_copyFrom_10 : decode cX2_copyFrom 10 = .ok (.bipush 64, 2) := by decide +kernel
theorem dX2_copyFrom_12 : decode cX2_copyFrom 12 = .ok (.invokestatic 35, 3) := by decide +kernel
theorem dX2_copyFrom_15 : decode cX2_copyFrom 15 = .ok (.aload_n 0, 1) := by decide +kernel
theorem dX2_copyFrom_16 : decode cX2_copyFrom 16 = .ok (.aload_n 1, 1) := by decide +kernel
theorem dX2_copyFrom_17 : decode cX2_copyFrom 17 = .ok (.getfield 15, 3) := by decide +kernel
theorem dX2_copyFrom_20 : decode cX2_copyFrom 20 = .ok (.putfield 15, 3) := by decide +kernel
theorem dX2_copyFrom_23 : decode cX2_copyFrom 23 = .ok (.return_, 1) := by decide +kernel
set_option maxRecDepth 20000 in
theorem ggX2_scale_X2_at : GoodIn wsX2_scale wsX2_at := goodIn_r _ [6, 7, 16, 17] (by decide +kernel) (by decide +kernel)
set_option maxRecDepth 20000 in
theorem gX2_scale_X2_at : GoodIn wsX2_scale (wsV RX2 41 RX2 yX2_at wsX2_at) := goodIn_app (goodIn_of _ (by decide +kernel)) ggX2_scale_X2_at
set_option maxRecDepth 20000 in
theorem ggX2_scale_X2_write : GoodIn wsX2_scale wsX2_write := goodIn_r _ [11, 7, 12, 13, 14, 15, 16, 17] (by decide +kernel) (by decide +kernel)
set_option maxRecDepth 20000 in
theorem gX2_scale_X2_write : GoodIn wsX2_scale (wsV RX2 25 RX2 yX2_write wsX2_write) := goodIn_app (goodIn_of _ (by decide +kernel)) ggX2_scale_X2_write
theorem dX2_scale_0 : decode cX2_scale 0 = .ok (.iconst 0, 1) := by decide +kernel
theorem dX2_scale_1 : decode cX2_scale 1 = .ok (.istore_n 2, 1) := by decide +kernel
theorem dX2_scale_2 : decode cX2_scale 2 = .ok (.iload_n 2, 1) := by decide +kernel
theorem dX2_scale_3 : decode cX2_scale 3 = .ok (.aload_n 0, 1) := by decide +kernel
theorem dX2_scale_4 : decode cX2_scale 4 = .ok (.getfield 15, 3) := by decide +kernel
theorem dX2_scale_7 : decode cX2_scale 7 = .ok (.if_icmp .ge 21, 3) := by decide +kernel
theorem dX2_scale_10 : decode cX2_scale 10 = .ok (.aload_n 0, 1) := by decide +kernel
theorem dX2_scale_11 : decode cX2_scale 11 = .ok (.iload_n 2, 1) := by decide +kernel
theorem dX2_scale_12 : decode cX2_scale 12 = .ok (.aload_n 0, 1) := by decide +kernel
theorem dX2_scale_13 : decode cX2_scale 13 = .ok (.iload_n 2, 1) := by decide +kernel
theorem dX2_scale_14 : decode cX2_scale 14 = .ok (.invokevirtual 41, 3) := by decide +kernel
theorem dX2_scale_17 : decode cX2_scale 17 = .ok (.iload_n 1, 1) := by decide +kernel
theorem dX2_scale_18 : decode cX2_scale 18 = .ok (.imul, 1) := by decide +kernel
theorem dX2_scale_19 : decode cX2_scale 19 = .ok (.invokevirtual 25, 3) := by decide +kernel
theorem dX2_scale_22 : decode cX2_scale 22 = .ok (.iinc 2 1, 3) := by decide +kernel
theorem dX2_scale_25 : decode cX2_scale 25 = .ok (.goto (-23), 3) := by decide +kernel
theorem dX2_scale_28 : decode cX2_scale 28 = .ok (.return_, 1) := by decide +kernel
set_option maxRecDepth 20000 in
theorem ggX2_degree_X2_at : GoodIn wsX2_degree wsX2_at := goodIn_r _ [6, 7, 8, 9] (by decide +kernel) (by decide +kernel)
set_option maxRecDepth 20000 in
theorem gX2_degree_X2_at : GoodIn wsX2_degree (wsV RX2 41 RX2 yX2_at wsX2_at) := goodIn_app (goodIn_of _ (by decide +kernel)) ggX2_degree_X2_at
theorem dX2_degree_0 : decode cX2_degree 0 = .ok (.aload_n 0, 1) := by decide +kernel
theorem dX2_degree_1 : decode cX2_degree 1 = .ok (.getfield 15, 3) := by decide +kernel
theorem dX2_degree_4 : decode cX2_degree 4 = .ok (.iconst 1, 1) := by decide +kernel
theorem dX2_degree_5 : decode cX2_degree 5 = .ok (.isub, 1) := by decide +kernel
theorem dX2_degree_6 : decode cX2_degree 6 = .ok (.istore_n 1, 1) := by decide +kernel
theorem dX2_degree_7 : decode cX2_degree 7 = .ok (.iload_n 1, 1) := by decide +kernel
theorem dX2_degree_8 : decode cX2_degree 8 = .ok (.ifCond .lt 19, 3) := by decide +kernel
theorem dX2_degree_11 : decode cX2_degree 11 = .ok (.aload_n 0, 1) := by decide +kernel
theorem dX2_degree_12 : decode cX2_degree 12 = .ok (.iload_n 1, 1) := by decide +kernel
theorem dX2_degree_13 : decode cX2_degree 13 = .ok (.invokevirtual 41, 3) := by decide +kernel
theorem dX2_degree_16 : decode cX2_degree 16 = .ok (.ifCond .eq 5, 3) := by decide +kernel
theorem dX2_degree_19 : decode cX2_degree 19 = .ok (.iload_n 1, 1) := by decide +kernel
theorem dX2_degree_20 : decode cX2_degree 20 = .ok (.ireturn, 1) := by decide +kernel
theorem dX2_degree_21 : decode cX2_degree 21 = .ok (.iinc 1 (-1), 3) := by decide +kernel
theorem dX2_degree_24 : decode cX2_degree 24 = .ok (.goto (-17), 3) := by decide +kernel
theorem dX2_degree_27 : decode cX2_degree 27 = .ok (.bipush (-6), 2) := by decide +kernel
theorem dX2_degree_29 : decode cX2_degree 29 = .ok (.ireturn, 1) := by decide +kernel
set_option maxRecDepth 20000 in
theorem ggX2_countNotZero_X2_at : GoodIn wsX2_countNotZero wsX2_at := goodIn_r _ [6, 7, 8, 9] (by decide +kernel) (by decide +kernel)
set_option maxRecDepth 20000 in
theorem gX2_countNotZero_X2_at : GoodIn wsX2_countNotZero (wsV RX2 41 RX2 yX2_at wsX2_at) := goodIn_app (goodIn_of _ (by decide +kernel)) ggX2_countNotZero_X2_at
theorem dX2_countNotZero_0 : decode cX2_countNotZero 0 = .ok (.iconst 0, 1) := by decide +kernel
theorem dX2_countNotZero_1 : decode cX2_countNotZero 1 = .ok (.istore_n 1, 1) := by decide +kernel
theorem dX2_countNotZero_2 : decode cX2_countNotZero 2 = .ok (.iconst 0, 1) := by decide +kernel
theorem dX2_countNotZero_3 : decode cX2_countNotZero 3 = .ok (.istore_n 2, 1) := by decide +kernel
theorem dX2_countNotZero_4 : decode cX2_countNotZero 4 = .ok (.iload_n 2, 1) := by decide +kernel
theorem dX2_countNotZero_5 : decode cX2_countNotZero 5 = .ok (.aload_n 0, 1) := by decide +kernel
theorem dX2_countNotZero_6 : decode cX2_countNotZero 6 = .ok (.getfield 15, 3) := by decide +kernel
theorem dX2_countNotZero_9 : decode cX2_countNotZero 9 = .ok (.if_icmp .ge 20, 3) := by decide +kernel
theorem dX2_countNotZero_12 : decode cX2_countNotZero 12 = .ok (.aload_n 0, 1) := by decide +kernel
theorem dX2_countNotZero_13 : decode cX2_countNotZero 13 = .ok (.iload_n 2, 1) := by decide +kernel
theorem dX2_countNotZero_14 : decode cX2_countNotZero 14 = .ok (.invokevirtual 41, 3) := by decide +kernel
theorem dX2_countNotZero_17 : decode cX2_countNotZero 17 = .ok (.ifCond .eq 6, 3) := by decide +kernel
theorem dX2_countNotZero_20 : decode cX2_countNotZero 20 = .ok (.iinc 1 1, 3) := by decide +kernel
theorem dX2_countNotZero_23 : decode cX2_countNotZero 23 = .ok (.iinc 2 1, 3) := by decide +kernel
theorem dX2_countNotZero_26 : decode cX2_countNotZero 26 = .ok (.goto (-22), 3) := by decide +kernel
theorem dX2_countNotZero_29 : decode cX2_countNotZero 29 = .ok (.iload_n 1, 1) := by decide +kernel
theorem dX2_countNotZero_30 : decode cX2_countNotZero 30 = .ok (.ireturn, 1) := by decide +kernel
set_option maxRecDepth 20000 in
theorem ggX2_total_X2_at : GoodIn wsX2_total wsX2_at := goodIn_r _ [6, 7, 8, 9] (by decide +kernel) (by decide +kernel)
set_option maxRecDepth 20000 in
theorem gX2_total_X2_at : GoodIn wsX2_total (wsV RX2 41 RX2 yX2_at wsX2_at) := goodIn_app (goodIn_of _ (by decide +kernel)) ggX2_total_X2_at
theorem dX2_total_0 : decode cX2_total 0 = .ok (.iconst 0, 1) := by decide +kernel
theorem dX2_total_1 : decode cX2_total 1 = .ok (.istore_n 1, 1) := by decide +kernel
theorem dX2_total_2 : decode cX2_total 2 = .ok (.iconst 0, 1) := by decide +kernel
theorem dX2_total_3 : decode cX2_total 3 = .ok (.istore_n 2, 1) := by decide +kernel
theorem dX2_total_4 : decode cX2_total 4 = .ok (.iload_n 2, 1) := by decide +kernel
theorem dX2_total_5 : decode cX2_total 5 = .ok (.aload_n 0, 1) := by decide +kernel
theorem dX2_total_6 : decode cX2_total 6 = .ok (.getfield 15, 3) := by decide +kernel
theorem dX2_total_9 : decode cX2_total 9 = .ok (.if_icmp .ge 17, 3) := by decide +kernel
theorem dX2_total_12 : decode cX2_total 12 = .ok (.iload_n 1, 1) := by decide +kernel
theorem dX2_total_13 : decode cX2_total 13 = .ok (.aload_n 0, 1) := by decide +kernel
theorem dX2_total_14 : decode cX2_total 14 = .ok (.iload_n 2, 1) := by decide +kernel
theorem dX2_total_15 : decode cX2_total 15 = .ok (.invokevirtual 41, 3) := by decide +kernel
theorem dX2_total_18 : decode cX2_total 18 = .ok (.iadd, 1) := by decide +kernel
theorem dX2_total_19 : decode cX2_total 19 = .ok (.istore_n 1, 1) := by decide +kernel
theorem dX2_total_20 : decode cX2_total 20 = .ok (.iinc 2 1, 3) := by decide +kernel
theorem dX2_total_23 : decode cX2_total 23 = .ok (.goto (-19), 3) := by decide +kernel
theorem dX2_total_26 : decode cX2_total 26 = .ok (.iload_n 1, 1) := by decide +kernel
theorem dX2_total_27 : decode cX2_total 27 = .ok (.ireturn, 1) := by decide +kernel
set_option maxRecDepth 20000 in
theorem ggX2_valueAt_X2_at : GoodIn wsX2_valueAt wsX2_at := goodIn_r _ [6, 7, 8, 9] (by decide +kernel) (by decide +kernel)
set_option maxRecDepth 20000 in
theorem gX2_valueAt_X2_at : GoodIn wsX2_valueAt (wsV RX2 41 RX2 yX2_at wsX2_at) := goodIn_app (goodIn_of _ (by decide +kernel)) ggX2_valueAt_X2_at
theorem dX2_valueAt_0 : decode cX2_valueAt 0 = .ok (.iconst 0, 1) := by decide +kernel
theorem dX2_valueAt_1 : decode cX2_valueAt 1 = .ok (.istore_n 2, 1) := by decide +kernel
theorem dX2_valueAt_2 : decode cX2_valueAt 2 = .ok (.aload_n 0, 1) := by decide +kernel
theorem dX2_valueAt_3 : decode cX2_valueAt 3 = .ok (.getfield 15, 3) := by decide +kernel
theorem dX2_valueAt_6 : decode cX2_valueAt 6 = .ok (.iconst 1, 1) := by decide +kernel
theorem dX2_valueAt_7 : decode cX2_valueAt 7 = .ok (.isub, 1) := by decide +kernel
theorem dX2_valueAt_8 : decode cX2_valueAt 8 = .ok (.istore_n 3, 1) := by decide +kernel
theorem dX2_valueAt_9 : decode cX2_valueAt 9 = .ok (.iload_n 3, 1) := by decide +kernel
theorem dX2_valueAt_10 : decode cX2_valueAt 10 = .ok (.ifCond .lt 23, 3) := by decide +kernel
theorem dX2_valueAt_13 : decode cX2_valueAt 13 = .ok (.iload_n 2, 1) := by decide +kernel
theorem dX2_valueAt_14 : decode cX2_valueAt 14 = .ok (.iload_n 1, 1) := by decide +kernel
theorem dX2_valueAt_15 : decode cX2_valueAt 15 = .ok (.imul, 1) := by decide +kernel
theorem dX2_valueAt_16 : decode cX2_valueAt 16 = .ok (.aload_n 0, 1) := by decide +kernel
theorem dX2_valueAt_17 : decode cX2_valueAt 17 = .ok (.iload_n 3, 1) := by decide +kernel
theorem dX2_valueAt_18 : decode cX2_valueAt 18 = .ok (.invokevirtual 41, 3) := by decide +kernel
theorem dX2_valueAt_21 : decode cX2_valueAt 21 = .ok (.iadd, 1) := by decide +kernel
theorem dX2_valueAt_22 : decode cX2_valueAt 22 = .ok (.sipush 257, 3) := by decide +kernel
theorem dX2_valueAt_25 : decode cX2_valueAt 25 = .ok (.irem, 1) := by decide +kernel
theorem dX2_valueAt_26 : decode cX2_valueAt 26 = .ok (.istore_n 2, 1) := by decide +kernel
theorem dX2_valueAt_27 : decode cX2_valueAt 27 = .ok (.iinc 3 (-1), 3) := by decide +kernel
theorem dX2_valueAt_30 : decode cX2_valueAt 30 = .ok (.goto (-21), 3) := by decide +kernel
theorem dX2_valueAt_33 : decode cX2_valueAt 33 = .ok (.iload_n 2, 1) := by decide +kernel
theorem dX2_valueAt_34 : decode cX2_valueAt 34 = .ok (.ireturn, 1) := by decide +kernel
set_option maxRecDepth 20000 in
theorem ggX2_countRoots_X2_valueAt : GoodIn wsX2_countRoots wsX2_valueAt := goodIn_r _ [5, 6, 7, 8, 9, 4, 10, 11, 12, 13] (by decide +kernel) (by decide +kernel)
set_option maxRecDepth 20000 in
theorem gX2_countRoots_X2_valueAt : GoodIn wsX2_countRoots (wsV RX2 45 RX2 yX2_valueAt wsX2_valueAt) := goodIn_app (goodIn_of _ (by decide +kernel)) ggX2_countRoots_X2_valueAt
theorem dX2_countRoots_0 : decode cX2_countRoots 0 = .ok (.iconst 0, 1) := by decide +kernel
theorem dX2_countRoots_1 : decode cX2_countRoots 1 = .ok (.istore_n 1, 1) := by decide +kernel
theorem dX2_countRoots_2 : decode cX2_countRoots 2 = .ok (.iconst 0, 1) := by decide +kernel
theorem dX2_countRoots_3 : decode cX2_countRoots 3 = .ok (.istore_n 2, 1) := by decide +kernel
theorem dX2_countRoots_4 : decode cX2_countRoots 4 = .ok (.iload_n 2, 1) := by decide +kernel
theorem dX2_countRoots_5 : decode cX2_countRoots 5 = .ok (.sipush 257, 3) := by decide +kernel
theorem dX2_countRoots_8 : decode cX2_countRoots 8 = .ok (.if_icmp .ge 20, 3) := by decide +kernel
theorem dX2_countRoots_11 : decode cX2_countRoots 11 = .ok (.aload_n 0, 1) := by decide +kernel
theorem dX2_countRoots_12 : decode cX2_countRoots 12 = .ok (.iload_n 2, 1) := by decide +kernel
theorem dX2_countRoots_13 : decode cX2_countRoots 13 = .ok (.invokevirtual 45, 3) := by decide +kernel
theorem dX2_countRoots_16 : decode cX2_countRoots 16 = .ok (.ifCond .ne 6, 3) := by decide +kernel
theorem dX2_countRoots_19 : decode cX2_countRoots 19 = .ok (.iinc 1 1, 3) := by decide +kernel
theorem dX2_countRoots_22 : decode cX2_countRoots 22 = .ok (.iinc 2 1, 3) := by decide +kernel
theorem dX2_countRoots_25 : decode cX2_countRoots 25 = .ok (.goto (-21), 3) := by decide +kernel
theorem dX2_countRoots_28 : decode cX2_countRoots 28 = .ok (.iload_n 1, 1) := by decide +kernel
theorem dX2_countRoots_29 : decode cX2_countRoots 29 = .ok (.ireturn, 1) := by decide +kernel
set_option maxRecDepth 20000 in
theorem ggX2_leastRoot_X2_valueAt : GoodIn wsX2_leastRoot wsX2_valueAt := goodIn_r _ [5, 6, 7, 8, 9, 4, 10, 11, 12, 13] (by decide +kernel) (by decide +kernel)
set_option maxRecDepth 20000 in
theorem gX2_leastRoot_X2_valueAt : GoodIn wsX2_leastRoot (wsV RX2 45 RX2 yX2_valueAt wsX2_valueAt) := goodIn_app (goodIn_of _ (by decide +kernel)) ggX2_leastRoot_X2_valueAt
theorem dX2_leastRoot_0 : decode cX2_leastRoot 0 = .ok (.iconst 0, 1) := by decide +kernel
theorem dX2_leastRoot_1 : decode cX2_leastRoot 1 = .ok (.istore_n 1, 1) := by decide +kernel
theorem dX2_leastRoot_2 : decode cX2_leastRoot 2 = .ok (.iload_n 1, 1) := by decide +kernel
theorem dX2_leastRoot_3 : decode cX2_leastRoot 3 = .ok (.sipush 257, 3) := by decide +kernel
theorem dX2_leastRoot_6 : decode cX2_leastRoot 6 = .ok (.if_icmp .ge 19, 3) := by decide +kernel
theorem dX2_leastRoot_9 : decode cX2_leastRoot 9 = .ok (.aload_n 0, 1) := by decide +kernel
theorem dX2_leastRoot_10 : decode cX2_leastRoot 10 = .ok (.iload_n 1, 1) := by decide +kernel
theorem dX2_leastRoot_11 : decode cX2_leastRoot 11 = .ok (.invokevirtual 45, 3) := by decide +kernel
theorem dX2_leastRoot_14 : decode cX2_leastRoot 14 = .ok (.ifCond .ne 5, 3) := by decide +kernel
theorem dX2_leastRoot_17 : decode cX2_leastRoot 17 = .ok (.iload_n 1, 1) := by decide +kernel
theorem dX2_leastRoot_18 : decode cX2_leastRoot 18 = .ok (.ireturn, 1) := by decide +kernel
theorem dX2_leastRoot_19 : decode cX2_leastRoot 19 = .ok (.iinc 1 1, 3) := by decide +kernel
theorem dX2_leastRoot_22 : decode cX2_leastRoot 22 = .ok (.goto (-20), 3) := by decide +kernel
theorem dX2_leastRoot_25 : decode cX2_leastRoot 25 = .ok (.bipush (-6), 2) := by decide +kernel
theorem dX2_leastRoot_27 : decode cX2_leastRoot 27 = .ok (.ireturn, 1) := by decide +kernel
set_option maxRecDepth 20000 in
theorem ggX3_init_X2_init : GoodIn wsX3_init wsX2_init := goodIn_r _ [9, 10, 2, 3, 11, 12, 13, 15, 16] (by decide +kernel) (by decide +kernel)
set_option maxRecDepth 20000 in
theorem gX3_init_X2_init_n17 : GoodIn wsX3_init (wsX2_init) := ggX3_init_X2_init
theorem dX3_init_0 : decode cX3_init 0 = .ok (.aload_n 0, 1) := by decide +kernel
theorem dX3_init_1 : decode cX3_init 1 = .ok (.invokespecial 3, 3) := by decide +kernel
theorem dX3_init_4 : decode cX3_init 4 = .ok (.aload_n 0, 1) := by decide +kernel
theorem dX3_init_5 : decode cX3_init 5 = .ok (.bipush 6, 2) := by decide +kernel
theorem dX3_init_7 : decode cX3_init 7 = .ok (.anewarray 9, 3) := by decide +kernel
theorem dX3_init_10 : decode cX3_init 10 = .ok (.putfield 11, 3) := by decide +kernel
theorem dX3_init_13 : decode cX3_init 13 = .ok (.iconst 0, 1) := by decide +kernel
theorem dX3_init_14 : decode cX3_init 14 = .ok (.istore_n 1, 1) := by decide +kernel
theorem dX3_init_15 : decode cX3_init 15 = .ok (.iload_n 1, 1) := by decide +kernel
theorem dX3_init_16 : decode cX3_init 16 = .ok (.aload_n 0, 1) := by decide +kernel
theorem dX3_init_17 : decode cX3_init 17 = .ok (.getfield 11, 3) := by decide +kernel
theorem dX3_init_20 : decode cX3_init 20 = .ok (.arraylength, 1) := by decide +kernel
theorem dX3_init_21 : decode cX3_init 21 = .ok (.if_icmp .ge 22, 3) := by decide +kernel
theorem dX3_init_24 : decode cX3_init 24 = .ok (.aload_n 0, 1) := by decide +kernel
theorem dX3_init_25 : decode cX3_init 25 = .ok (.getfield 11, 3) := by decide +kernel
theorem dX3_init_28 : decode cX3_init 28 = .ok (.iload_n 1, 1) := by decide +kernel
theorem dX3_init_29 : decode cX3_init 29 = .ok (.new 9, 3) := by decide +kernel
theorem dX3_init_32 : decode cX3_init 32 = .ok (.dup, 1) := by decide +kernel
theorem dX3_init_33 : decode cX3_init 33 = .ok (.invokespecial 17, 3) := by decide +kernel
theorem dX3_init_36 : decode cX3_init 36 = .ok (.aastore, 1) := by decide +kernel
theorem dX3_init_37 : decode cX3_init 37 = .ok (.iinc 1 1, 3) := by decide +kernel
theorem dX3_init_40 : decode cX3_init 40 = .ok (.goto (-25), 3) := by decide +kernel
theorem dX3_init_43 : decode cX3_init 43 = .ok (.return_, 1) := by decide +kernel
theorem dX3_rowOf_0 : decode cX3_rowOf 0 = .ok (.iload_n 1, 1) := by decide +kernel
theorem dX3_rowOf_1 : decode cX3_rowOf 1 = .ok (.ifCond .lt 21, 3) := by decide +kernel
theorem dX3_rowOf_4 : decode cX3_rowOf 4 = .ok (.iload_n 1, 1) := by decide +kernel
theorem dX3_rowOf_5 : decode cX3_rowOf 5 = .ok (.aload_n 0, 1) := by decide +kernel
theorem dX3_rowOf_6 : decode cX3_rowOf 6 = .ok (.getfield 11, 3) := by decide +kernel
theorem dX3_rowOf_9 : decode cX3_rowOf 9 = .ok (.arraylength, 1) := by decide +kernel
theorem dX3_rowOf_10 : decode cX3_rowOf 10 = .ok (.if_icmp .ge 12, 3) := by decide +kernel
theorem dX3_rowOf_13 : decode cX3_rowOf 13 = .ok (.aload_n 0, 1) := by decide +kernel
theorem dX3_rowOf_14 : decode cX3_rowOf 14 = .ok (.getfield 11, 3) := by decide +kernel
theorem dX3_rowOf_17 : decode cX3_rowOf 17 = .ok (.iload_n 1, 1) := by decide +kernel
theorem dX3_rowOf_18 : decode cX3_rowOf 18 = .ok (.aaload, 1) := by decide +kernel
theorem dX3_rowOf_19 : decode cX3_rowOf 19 = .ok (.goto 4, 3) := by decide +kernel
theorem dX3_rowOf_22 : decode cX3_rowOf 22 = .ok (.aconst_null, 1) := by decide +kernel
theorem dX3_rowOf_23 : decode cX3_rowOf 23 = .ok (.areturn, 1) := by decide +kernel
set_option maxRecDepth 20000 in
theorem ggX3_lengths_X2_length : GoodIn wsX3_lengths wsX2_length := goodIn_r _ [6, 7, 9, 10] (by decide +kernel) (by decide +kernel)
set_option maxRecDepth 20000 in
theorem gX3_lengths_X2_length : GoodIn wsX3_lengths (wsV RX3 18 RX2 yX2_length wsX2_length) := goodIn_app (goodIn_of _ (by decide +kernel)) ggX3_lengths_X2_length
theorem dX3_lengths_0 : decode cX3_lengths 0 = .ok (.iconst 0, 1) := by decide +kernel
theorem dX3_lengths_1 : decode cX3_lengths 1 = .ok (.istore_n 1, 1) := by decide +kernel
theorem dX3_lengths_2 : decode cX3_lengths 2 = .ok (.iconst 0, 1) := by decide +kernel
theorem dX3_lengths_3 : decode cX3_lengths 3 = .ok (.istore_n 2, 1) := by decide +kernel
theorem dX3_lengths_4 : decode cX3_lengths 4 = .ok (.iload_n 2, 1) := by decide +kernel
theorem dX3_lengths_5 : decode cX3_lengths 5 = .ok (.aload_n 0, 1) := by decide +kernel
theorem dX3_lengths_6 : decode cX3_lengths 6 = .ok (.getfield 11, 3) := by decide +kernel
theorem dX3_lengths_9 : decode cX3_lengths 9 = .ok (.arraylength, 1) := by decide +kernel
theorem dX3_lengths_10 : decode cX3_lengths 10 = .ok (.if_icmp .ge 21, 3) := by decide +kernel
theorem dX3_lengths_13 : decode cX3_lengths 13 = .ok (.iload_n 1, 1) := by decide +kernel
theorem dX3_lengths_14 : decode cX3_lengths 14 = .ok (.aload_n 0, 1) := by decide +kernel
theorem dX3_lengths_15 : decode cX3_lengths 15 = .ok (.getfield 11, 3) := by decide +kernel
theorem dX3_lengths_18 : decode cX3_lengths 18 = .ok (.iload_n 2, 1) := by decide +kernel
theorem dX3_lengths_19 : decode cX3_lengths 19 = .ok (.aaload, 1) := by decide +kernel
theorem dX3_lengths_20 : decode cX3_lengths 20 = .ok (.invokevirtual 18, 3) := by decide +kernel
theorem dX3_lengths_23 : decode cX3_lengths 23 = .ok (.iadd, 1) := by decide +kernel
theorem dX3_lengths_24 : decode cX3_lengths 24 = .ok (.istore_n 1, 1) := by decide +kernel
theorem dX3_lengths_25 : decode cX3_lengths 25 = .ok (.iinc 2 1, 3) := by decide +kernel
theorem dX3_lengths_28 : decode cX3_lengths 28 = .ok (.goto (-24), 3) := by decide +kernel
theorem dX3_lengths_31 : decode cX3_lengths 31 = .ok (.iload_n 1, 1) := by decide +kernel
theorem dX3_lengths_32 : decode cX3_lengths 32 = .ok (.ireturn, 1) := by decide +kernel
set_option maxRecDepth 20000 in
theorem ggX3_copyFrom_X2_copyFrom : GoodIn wsX3_copyFrom wsX2_copyFrom := goodIn_r _ [6, 7, 8, 9, 10, 11, 12, 14, 15] (by decide +kernel) (by decide +kernel)
set_option maxRecDepth 20000 in
theorem gX3_copyFrom_X2_copyFrom : GoodIn wsX3_copyFrom (wsV RX3 22 RX2 yX2_copyFrom wsX2_copyFrom) := goodIn_app (goodIn_of _ (by decide +kernel)) ggX3_copyFrom_X2_copyFrom
theorem dX3_copyFrom_0 : decode cX3_copyFrom 0 = .ok (.iconst 0, 1) := by decide +kernel
theorem dX3_copyFrom_1 : decode cX3_copyFrom 1 = .ok (.istore_n 2, 1) := by decide +kernel
theorem dX3_copyFrom_2 : decode cX3_copyFrom 2 = .ok (.iload_n 2, 1) := by decide +kernel
theorem dX3_copyFrom_3 : decode cX3_copyFrom 3 = .ok (.aload_n 0, 1) := by decide +kernel
theorem dX3_copyFrom_4 : decode cX3_copyFrom 4 = .ok (.getfield 11, 3) := by decide +kernel
theorem dX3_copyFrom_7 : decode cX3_copyFrom 7 = .ok (.arraylength, 1) := by decide +kernel
theorem dX3_copyFrom_8 : decode cX3_copyFrom 8 = .ok (.if_icmp .ge 24, 3) := by decide +kernel
theorem dX3_copyFrom_11 : decode cX3_copyFrom 11 = .ok (.aload_n 0, 1) := by decide +kernel
theorem dX3_copyFrom_12 : decode cX3_copyFrom 12 = .ok (.getfield 11, 3) := by decide +kernel
theorem dX3_copyFrom_15 : decode cX3_copyFrom 15 = .ok (.iload_n 2, 1) := by decide +kernel
theorem dX3_copyFrom_16 : decode cX3_copyFrom 16 = .ok (.aaload, 1) := by decide +kernel
theorem dX3_copyFrom_17 : decode cX3_copyFrom 17 = .ok (.aload_n 1, 1) := by decide +kernel
theorem dX3_copyFrom_18 : decode cX3_copyFrom 18 = .ok (.getfield 11, 3) := by decide +kernel
theorem dX3_copyFrom_21 : decode cX3_copyFrom 21 = .ok (.iload_n 2, 1) := by decide +kernel
theorem dX3_copyFrom_22 : decode cX3_copyFrom 22 = .ok (.aaload, 1) := by decide +kernel
theorem dX3_copyFrom_23 : decode cX3_copyFrom 23 = .ok (.invokevirtual 22, 3) := by decide +kernel
theorem dX3_copyFrom_26 : decode cX3_copyFrom 26 = .ok (.iinc 2 1, 3) := by decide +kernel
theorem dX3_copyFrom_29 : decode cX3_copyFrom 29 = .ok (.goto (-27), 3) := by decide +kernel
theorem dX3_copyFrom_32 : decode cX3_copyFrom 32 = .ok (.return_, 1) := by decide +kernel
set_option maxRecDepth 20000 in
theorem ggX4_init_X3_init : GoodIn wsX4_init wsX3_init := goodIn_r _ [29, 30, 2, 3, 31, 32, 20, 21, 33, 34, 35, 36, 37, 38, 52, 67, 68] (by decide +kernel) (by decide +kernel)
set_option maxRecDepth 20000 in
theorem gX4_init_X3_init : GoodIn wsX4_init (wsX3_init) := ggX4_init_X3_init
set_option maxRecDepth 20000 in
theorem ggX4_init_X0_init : GoodIn wsX4_init wsX0_init := goodIn_r _ [41, 42, 2, 3, 43, 44, 45, 5, 6, 46, 28, 29, 30, 31, 32, 20, 21, 33, 34, 35, 36, 37, 38, 63, 64, 52, 67, 68] (by decide +kernel) (by decide +kernel)
set_option maxRecDepth 20000 in
theorem gX4_init_X0_init : GoodIn wsX4_init (wsX0_init) := ggX4_init_X0_init
set_option maxRecDepth 20000 in
theorem ggX4_init_X1_init : GoodIn wsX4_init wsX1_init := goodIn_r _ [48, 49, 2, 3, 36, 50, 51, 65, 66] (by decide +kernel) (by decide +kernel)
set_option maxRecDepth 20000 in
theorem gX4_init_X1_init_n25 : GoodIn wsX4_init (wsX1_init) := ggX4_init_X1_init
set_option maxRecDepth 20000 in
theorem ggX4_init_X2_init : GoodIn wsX4_init wsX2_init := goodIn_r _ [34, 35, 2, 3, 36, 37, 38, 67, 68] (by decide +kernel) (by decide +kernel)
set_option maxRecDepth 20000 in
theorem gX4_init_X2_init_n40 : GoodIn wsX4_init (wsX2_init) := ggX4_init_X2_init
theorem dX4_init_0 : decode cX4_init 0 = .ok (.aload_n 0, 1) := by decide +kernel
theorem dX4_init_1 : decode cX4_init 1 = .ok (.invokespecial 1, 3) := by decide +kernel
theorem dX4_init_4 : decode cX4_init 4 = .ok (.aload_n 0, 1) := by decide +kernel
theorem dX4_init_5 : decode cX4_init 5 = .ok (.new 7, 3) := by decide +kernel
theorem dX4_init_8 : decode cX4_init 8 = .ok (.dup, 1) := by decide +kernel
theorem dX4_init_9 : decode cX4_init 9 = .ok (.invokespecial 9, 3) := by decide +kernel
theorem dX4_init_12 : decode cX4_init 12 = .ok (.putfield 10, 3) := by decide +kernel
theorem dX4_init_15 : decode cX4_init 15 = .ok (.aload_n 0, 1) := by decide +kernel
theorem dX4_init_16 : decode cX4_init 16 = .ok (.new 16, 3) := by decide +kernel
theorem dX4_init_19 : decode cX4_init 19 = .ok (.dup, 1) := by decide +kernel
theorem dX4_init_20 : decode cX4_init 20 = .ok (.invokespecial 18, 3) := by decide +kernel
theorem dX4_init_23 : decode cX4_init 23 = .ok (.putfield 19, 3) := by decide +kernel
theorem dX4_init_26 : decode cX4_init 26 = .ok (.aload_n 0, 1) := by decide +kernel
theorem dX4_init_27 : decode cX4_init 27 = .ok (.new 23, 3) := by decide +kernel
theorem dX4_init_30 : decode cX4_init 30 = .ok (.dup, 1) := by decide +kernel
theorem dX4_init_31 : decode cX4_init 31 = .ok (.invokespecial 25, 3) := by decide +kernel
theorem dX4_init_34 : decode cX4_init 34 = .ok (.putfield 26, 3) := by decide +kernel
theorem dX4_init_37 : decode cX4_init 37 = .ok (.aload_n 0, 1) := by decide +kernel
theorem dX4_init_38 : decode cX4_init 38 = .ok (.iconst 2, 1) := by decide +kernel
theorem dX4_init_39 : decode cX4_init 39 = .ok (.anewarray 7, 3) := by decide +kernel
theorem dX4_init_42 : decode cX4_init 42 = .ok (.putfield 30, 3) := by decide +kernel
theorem dX4_init_45 : decode cX4_init 45 = .ok (.aload_n 0, 1) := by decide +kernel
theorem dX4_init_46 : decode cX4_init 46 = .ok (.iconst 2, 1) := by decide +kernel
theorem dX4_init_47 : decode cX4_init 47 = .ok (.newarray .boolean, 2) := by decide +kernel
theorem dX4_init_49 : decode cX4_init 49 = .ok (.putfield 34, 3) := by decide +kernel
theorem dX4_init_52 : decode cX4_init 52 = .ok (.aload_n 0, 1) := by decide +kernel
theorem dX4_init_53 : decode cX4_init 53 = .ok (.new 38, 3) := by decide +kernel
theorem dX4_init_56 : decode cX4_init 56 = .ok (.dup, 1) := by decide +kernel
theorem dX4_init_57 : decode cX4_init 57 = .ok (.invokespecial 40, 3) := by decide +kernel
theorem dX4_init_60 : decode cX4_init 60 = .ok (.putfield 41, 3) := by decide +kernel
theorem dX4_init_63 : decode cX4_init 63 = .ok (.aload_n 0, 1) := by decide +kernel
theorem dX4_init_64 : decode cX4_init 64 = .ok (.new 38, 3) := by decide +kernel
theorem dX4_init_67 : decode cX4_init 67 = .ok (.dup, 1) := by decide +kernel
theorem dX4_init_68 : decode cX4_init 68 = .ok (.invokespecial 40, 3) := by decide +kernel
theorem dX4_init_71 : decode cX4_init 71 = .ok (.putfield 45, 3) := by decide +kernel
theorem dX4_init_74 : decode cX4_init 74 = .ok (.aload_n 0, 1) := by decide +kernel
theorem dX4_init_75 : decode cX4_init 75 = .ok (.new 38, 3) := by decide +kernel
theorem dX4_init_78 : decode cX4_init 78 = .ok (.dup, 1) := by decide +kernel
theorem dX4_init_79 : decode cX4_init 79 = .ok (.invokespecial 40, 3) := by decide +kernel
theorem dX4_init_82 : decode cX4_init 82 = .ok (.putfield 48, 3) := by decide +kernel
theorem dX4_init_85 : decode cX4_init 85 = .ok (.aload_n 0, 1) := by decide +kernel
theorem dX4_init_86 : decode cX4_init 86 = .ok (.new 38, 3) := by decide +kernel
theorem dX4_init_89 : decode cX4_init 89 = .ok (.dup, 1) := by decide +kernel
theorem dX4_init_90 : decode cX4_init 90 = .ok (.invokespecial 40, 3) := by decide +kernel
theorem dX4_init_93 : decode cX4_init 93 = .ok (.putfield 51, 3) := by decide +kernel
theorem dX4_init_96 : decode cX4_init 96 = .ok (.aload_n 0, 1) := by decide +kernel
theorem dX4_init_97 : decode cX4_init 97 = .ok (.new 38, 3) := by decide +kernel
theorem dX4_init_100 : decode cX4_init 100 = .ok (.dup, 1) := by decide +kernel
theorem dX4_init_101 : decode cX4_init 101 = .ok (.invokespecial 40, 3) := by decide +kernel
theorem dX4_init_104 : decode cX4_init 104 = .ok (.putfield 54, 3) := by decide +kernel
theorem dX4_init_107 : decode cX4_init 107 = .ok (.iconst 0, 1) := by decide +kernel
theorem dX4_init_108 : decode cX4_init 108 = .ok (.istore_n 1, 1) := by decide +kernel
theorem dX4_init_109 : decode cX4_init 109 = .ok (.iload_n 1, 1) := by decide +kernel
theorem dX4_init_110 : decode cX4_init 110 = .ok (.aload_n 0, 1) := by decide +kernel
theorem dX4_init_111 : decode cX4_init 111 = .ok (.getfield 30, 3) := by decide +kernel
theorem dX4_init_114 : decode cX4_init 114 = .ok (.arraylength, 1) := by decide +kernel
theorem dX4_init_115 : decode cX4_init 115 = .ok (.if_icmp .ge 22, 3) := by decide +kernel
theorem dX4_init_118 : decode cX4_init 118 = .ok (.aload_n 0, 1) := by decide +kernel
theorem dX4_init_119 : decode cX4_init 119 = .ok (.getfield 30, 3) := by decide +kernel
theorem dX4_init_122 : decode cX4_init 122 = .ok (.iload_n 1, 1) := by decide +kernel
theorem dX4_init_123 : decode cX4_init 123 = .ok (.new 7, 3) := by decide +kernel
theorem dX4_init_126 : decode cX4_init 126 = .ok (.dup, 1) := by decide +kernel
theorem dX4_init_127 : decode cX4_init 127 = .ok (.invokespecial 9, 3) := by decide +kernel
theorem dX4_init_130 : decode cX4_init 130 = .ok (.aastore, 1) := by decide +kernel
theorem dX4_init_131 : decode cX4_init 131 = .ok (.iinc 1 1, 3) := by decide +kernel
theorem dX4_init_134 : decode cX4_init 134 = .ok (.goto (-25), 3) := by decide +kernel
theorem dX4_init_137 : decode cX4_init 137 = .ok (.return_, 1) := by decide +kernel
set_option maxRecDepth 20000 in
theorem ggX4_read_X3_rowOf : GoodIn wsX4_read wsX3_rowOf := goodIn_r _ [8, 9, 88] (by decide +kernel) (by decide +kernel)
set_option maxRecDepth 20000 in
theorem gX4_read_X3_rowOf : GoodIn wsX4_read (wsV RX4 57 RX3 yX3_rowOf wsX3_rowOf) := goodIn_app (goodIn_of _ (by decide +kernel)) ggX4_read_X3_rowOf
set_option maxRecDepth 20000 in
theorem ggX4_read_X1_scan : GoodIn wsX4_read wsX1_scan := goodIn_r _ [14, 15, 16, 17, 18, 13, 19, 20, 21, 22, 23, 24, 25, 26, 27, 28, 29, 30, 31, 32, 33, 34, 35, 36, 37, 38, 39, 89, 90, 91, 92] (by decide +kernel) (by decide +kernel)
set_option maxRecDepth 20000 in
theorem gX4_read_X1_scan : GoodIn wsX4_read (wsV RX4 61 RX1 yX1_scan wsX1_scan) := goodIn_app (goodIn_of _ (by decide +kernel)) ggX4_read_X1_scan
set_option maxRecDepth 20000 in
theorem ggX4_read_X4_change : GoodIn wsX4_read wsX4_change := goodIn_r _ [44, 45, 1, 3, 46, 47, 48, 49, 50, 51, 52, 53, 54, 55, 56, 57, 58, 59, 7, 60, 9, 61, 62, 63, 27, 64, 29, 65, 66, 67, 68, 38, 69, 78, 79, 80, 81, 82, 83, 84, 85, 86, 87, 93, 94, 88, 91, 92] (by decide +kernel) (by decide +kernel)
set_option maxRecDepth 20000 in
theorem gX4_read_X4_change : GoodIn wsX4_read (wsV RX4 65 RX4 yX4_change wsX4_change) := goodIn_app (goodIn_of _ (by decide +kernel)) ggX4_read_X4_change
set_option maxRecDepth 20000 in
theorem ggX4_read_X1_empty : GoodIn wsX4_read wsX1_empty := goodIn_r _ [73, 16, 89, 90] (by decide +kernel) (by decide +kernel)
set_option maxRecDepth 20000 in
theorem gX4_read_X1_empty : GoodIn wsX4_read (wsV RX4 69 RX1 yX1_empty wsX1_empty) := goodIn_app (goodIn_of _ (by decide +kernel)) ggX4_read_X1_empty
set_option maxRecDepth 20000 in
theorem ggX4_read_X2_length : GoodIn wsX4_read wsX2_length := goodIn_r _ [77, 38, 91, 92] (by decide +kernel) (by decide +kernel)
set_option maxRecDepth 20000 in
theorem gX4_read_X2_length : GoodIn wsX4_read (wsV RX4 72 RX2 yX2_length wsX2_length) := goodIn_app (goodIn_of _ (by decide +kernel)) ggX4_read_X2_length
theorem dX4_read_0 : decode cX4_read 0 = .ok (.aload_n 0, 1) := by decide +kernel
theorem dX4_read_1 : decode cX4_read 1 = .ok (.getfield 10, 3) := by decide +kernel
theorem dX4_read_4 : decode cX4_read 4 = .ok (.iload_n 1, 1) := by decide +kernel
theorem dX4_read_5 : decode cX4_read 5 = .ok (.invokevirtual 57, 3) := by decide +kernel
theorem dX4_read_8 : decode cX4_read 8 = .ok (.astore_n 2, 1) := by decide +kernel
theorem dX4_read_9 : decode cX4_read 9 = .ok (.aload_n 2, 1) := by decide +kernel
theorem dX4_read_10 : decode cX4_read 10 = .ok (.ifnonnull 5, 3) := by decide +kernel
theorem dX4_read_13 : decode cX4_read 13 = .ok (.iconst (-1), 1) := by decide +kernel
theorem dX4_read_14 : decode cX4_read 14 = .ok (.ireturn, 1) := by decide +kernel
theorem dX4_read_15 : decode cX4_read 15 = .ok (.aload_n 0, 1) := by decide +kernel
theorem dX4_read_16 : decode cX4_read 16 = .ok (.getfield 26, 3) := by decide +kernel
theorem dX4_read_19 : decode cX4_read 19 = .ok (.aload_n 0, 1) := by decide +kernel
theorem dX4_read_20 : decode cX4_read 20 = .ok (.getfield 41, 3) := by decide +kernel
theorem dX4_read_23 : decode cX4_read 23 = .ok (.invokevirtual 61, 3) := by decide +kernel
theorem dX4_read_26 : decode cX4_read 26 = .ok (.bipush (-6), 2) := by decide +kernel
theorem dX4_read_28 : decode cX4_read 28 = .ok (.if_icmp .eq 6, 3) := by decide +kernel
theorem dX4_read_31 : decode cX4_read 31 = .ok (.bipush (-3), 2) := by decide +kernel
theorem dX4_read_33 : decode cX4_read 33 = .ok (.ireturn, 1) := by decide +kernel
theorem dX4_read_34 : decode cX4_read 34 = .ok (.aload_n 0, 1) := by decide +kernel
theorem dX4_read_35 : decode cX4_read 35 = .ok (.aload_n 2, 1) := by decide +kernel
theorem dX4_read_36 : decode cX4_read 36 = .ok (.invokevirtual 65, 3) := by decide +kernel
theorem dX4_read_39 : decode cX4_read 39 = .ok (.aload_n 0, 1) := by decide +kernel
theorem dX4_read_40 : decode cX4_read 40 = .ok (.getfield 26, 3) := by decide +kernel
theorem dX4_read_43 : decode cX4_read 43 = .ok (.invokevirtual 69, 3) := by decide +kernel
theorem dX4_read_46 : decode cX4_read 46 = .ok (.aload_n 2, 1) := by decide +kernel
theorem dX4_read_47 : decode cX4_read 47 = .ok (.invokevirtual 72, 3) := by decide +kernel
theorem dX4_read_50 : decode cX4_read 50 = .ok (.ireturn, 1) := by decide +kernel
set_option maxRecDepth 20000 in
theorem ggX4_set_X3_rowOf : GoodIn wsX4_set wsX3_rowOf := goodIn_r _ [11, 12, 70] (by decide +kernel) (by decide +kernel)
set_option maxRecDepth 20000 in
theorem gX4_set_X3_rowOf : GoodIn wsX4_set (wsV RX4 57 RX3 yX3_rowOf wsX3_rowOf) := goodIn_app (goodIn_of _ (by decide +kernel)) ggX4_set_X3_rowOf
set_option maxRecDepth 20000 in
theorem ggX4_set_X2_length : GoodIn wsX4_set wsX2_length := goodIn_r _ [17, 18, 71, 72] (by decide +kernel) (by decide +kernel)
set_option maxRecDepth 20000 in
theorem gX4_set_X2_length : GoodIn wsX4_set (wsV RX4 72 RX2 yX2_length wsX2_length) := goodIn_app (goodIn_of _ (by decide +kernel)) ggX4_set_X2_length
set_option maxRecDepth 20000 in
theorem ggX4_set_X4_isNumber : GoodIn wsX4_set wsX4_isNumber := goodIn_r _ [22] (by decide +kernel) (by decide +kernel)
set_option maxRecDepth 20000 in
theorem gX4_set_X4_isNumber : GoodIn wsX4_set (va_wsS RX4 76 yX4_isNumber wsX4_isNumber) := goodIn_app (goodIn_of _ (by decide +kernel)) ggX4_set_X4_isNumber
set_option maxRecDepth 20000 in
theorem ggX4_set_X0_keep : GoodIn wsX4_set wsX0_keep := goodIn_r _ [27, 28, 29, 30, 31, 32, 26, 33, 34, 35, 36, 10, 37, 12, 38, 39, 40, 16, 41, 42, 43, 44, 45, 46, 18, 73, 74, 70, 71, 72] (by decide +kernel) (by decide +kernel)
set_option maxRecDepth 20000 in
theorem gX4_set_X0_keep : GoodIn wsX4_set (wsV RX4 80 RX0 yX0_keep wsX0_keep) := goodIn_app (goodIn_of _ (by decide +kernel)) ggX4_set_X0_keep
set_option maxRecDepth 20000 in
theorem ggX4_set_X2_resize : GoodIn wsX4_set wsX2_resize := goodIn_r _ [50, 18, 51, 52, 53, 16, 54, 42, 55, 56, 57, 58, 71, 72] (by decide +kernel) (by decide +kernel)
set_option maxRecDepth 20000 in
theorem gX4_set_X2_resize : GoodIn wsX4_set (wsV RX4 90 RX2 yX2_resize wsX2_resize) := goodIn_app (goodIn_of _ (by decide +kernel)) ggX4_set_X2_resize
set_option maxRecDepth 20000 in
theorem ggX4_set_X2_write : GoodIn wsX4_set wsX2_write := goodIn_r _ [54, 42, 55, 56, 57, 58, 71, 72] (by decide +kernel) (by decide +kernel)
set_option maxRecDepth 20000 in
theorem gX4_set_X2_write : GoodIn wsX4_set (wsV RX4 94 RX2 yX2_write wsX2_write) := goodIn_app (goodIn_of _ (by decide +kernel)) ggX4_set_X2_write
theorem dX4_set_0 : decode cX4_set 0 = .ok (.aload_n 0, 1) := by decide +kernel
theorem dX4_set_1 : decode cX4_set 1 = .ok (.getfield 10, 3) := by decide +kernel
theorem dX4_set_4 : decode cX4_set 4 = .ok (.iload_n 1, 1) := by decide +kernel
theorem dX4_set_5 : decode cX4_set 5 = .ok (.invokevirtual 57, 3) := by decide +kernel
theorem dX4_set_8 : decode cX4_set 8 = .ok (.astore 4, 2) := by decide +kernel
theorem dX4_set_10 : decode cX4_set 10 = .ok (.aload 4, 2) := by decide +kernel
theorem dX4_set_12 : decode cX4_set 12 = .ok (.ifnull 16, 3) := by decide +kernel
theorem dX4_set_15 : decode cX4_set 15 = .ok (.iload_n 2, 1) := by decide +kernel
theorem dX4_set_16 : decode cX4_set 16 = .ok (.ifCond .lt 12, 3) := by decide +kernel
theorem dX4_set_19 : decode cX4_set 19 = .ok (.iload_n 2, 1) := by decide +kernel
theorem dX4_set_20 : decode cX4_set 20 = .ok (.aload 4, 2) := by decide +kernel
theorem dX4_set_22 : decode cX4_set 22 = .ok (.invokevirtual 72, 3) := by decide +kernel
theorem dX4_set_25 : decode cX4_set 25 = .ok (.if_icmp .le 5, 3) := by decide +kernel
theorem dX4_set_28 : decode cX4_set 28 = .ok (.iconst (-1), 1) := by decide +kernel
theorem dX4_set_29 : decode cX4_set 29 = .ok (.ireturn, 1) := by decide +kernel
theorem dX4_set_30 : decode cX4_set 30 = .ok (.iload_n 3, 1) := by decide +kernel
theorem dX4_set_31 : decode cX4_set 31 = .ok (.invokestatic 76, 3) := by decide +kernel
theorem dX4_set_34 : decode cX4_set 34 = .ok (.ifCond .ne 6, 3) := by decide +kernel
theorem dX4_set_37 : decode cX4_set 37 = .ok (.bipush (-2), 2) := by decide +kernel
theorem dX4_set_39 : decode cX4_set 39 = .ok (.ireturn, 1) := by decide +kernel
theorem dX4_set_40 : decode cX4_set 40 = .ok (.iload_n 2, 1) := by decide +kernel
theorem dX4_set_41 : decode cX4_set 41 = .ok (.bipush 64, 2) := by decide +kernel
theorem dX4_set_43 : decode cX4_set 43 = .ok (.if_icmp .lt 6, 3) := by decide +kernel
theorem dX4_set_46 : decode cX4_set 46 = .ok (.bipush (-4), 2) := by decide +kernel
theorem dX4_set_48 : decode cX4_set 48 = .ok (.ireturn, 1) := by decide +kernel
theorem dX4_set_49 : decode cX4_set 49 = .ok (.aload_n 0, 1) := by decide +kernel
theorem dX4_set_50 : decode cX4_set 50 = .ok (.getfield 19, 3) := by decide +kernel
theorem dX4_set_53 : decode cX4_set 53 = .ok (.aload_n 0, 1) := by decide +kernel
theorem dX4_set_54 : decode cX4_set 54 = .ok (.getfield 10, 3) := by decide +kernel
theorem dX4_set_57 : decode cX4_set 57 = .ok (.invokevirtual 80, 3) := by decide +kernel
theorem dX4_set_60 : decode cX4_set 60 = .ok (.aload 4, 2) := by decide +kernel
theorem dX4_set_62 : decode cX4_set 62 = .ok (.aload 4, 2) := by decide +kernel
theorem dX4_set_64 : decode cX4_set 64 = .ok (.invokevirtual 72, 3) := by decide +kernel
theorem dX4_set_67 : decode cX4_set 67 = .ok (.iload_n 2, 1) := by decide +kernel
theorem dX4_set_68 : decode cX4_set 68 = .ok (.iconst 1, 1) := by decide +kernel
theorem dX4_set_69 : decode cX4_set 69 = .ok (.iadd, 1) := by decide +kernel
theorem dX4_set_70 : decode cX4_set 70 = .ok (.invokestatic 84, 3) := by decide +kernel
theorem dX4_set_73 : decode cX4_set 73 = .ok (.invokevirtual 90, 3) := by decide +kernel
theorem dX4_set_76 : decode cX4_set 76 = .ok (.aload 4, 2) := by decide +kernel
theorem dX4_set_78 : decode cX4_set 78 = .ok (.iload_n 2, 1) := by decide +kernel
theorem dX4_set_79 : decode cX4_set 79 = .ok (.iload_n 3, 1) := by decide +kernel
theorem dX4_set_80 : decode cX4_set 80 = .ok (.invokevirtual 94, 3) := by decide +kernel
theorem dX4_set_83 : decode cX4_set 83 = .ok (.aload 4, 2) := by decide +kernel
theorem dX4_set_85 : decode cX4_set 85 = .ok (.invokevirtual 72, 3) := by decide +kernel
theorem dX4_set_88 : decode cX4_set 88 = .ok (.ireturn, 1) := by decide +kernel
set_option maxRecDepth 20000 in
theorem ggX4_add_X3_rowOf : GoodIn wsX4_add wsX3_rowOf := goodIn_r _ [11, 12, 83] (by decide +kernel) (by decide +kernel)
set_option maxRecDepth 20000 in
theorem gX4_add_X3_rowOf : GoodIn wsX4_add (wsV RX4 57 RX3 yX3_rowOf wsX3_rowOf) := goodIn_app (goodIn_of _ (by decide +kernel)) ggX4_add_X3_rowOf
set_option maxRecDepth 20000 in
theorem ggX4_add_X4_isNumber : GoodIn wsX4_add wsX4_isNumber := goodIn_r _ [16] (by decide +kernel) (by decide +kernel)
end
section
set_option maxRecDepth 20000 in
theorem gX4_add_X4_isNumber : GoodIn wsX4_add (va_wsS RX4 76 yX4_isNumber wsX4_isNumber) := goodIn_app (goodIn_of _ (by decide +kernel)) ggX4_add_X4_isNumber
set_option maxRecDepth 20000 in
theorem ggX4_add_X2_length : GoodIn wsX4_add wsX2_length := goodIn_r _ [21, 22, 84, 85] (by decide +kernel) (by decide +kernel)
set_option maxRecDepth 20000 in
theorem gX4_add_X2_length : GoodIn wsX4_add (wsV RX4 72 RX2 yX2_length wsX2_length) := goodIn_app (goodIn_of _ (by decide +kernel)) ggX4_add_X2_length
set_option maxRecDepth 20000 in
theorem ggX4_add_X2_clear : GoodIn wsX4_add wsX2_clear := goodIn_r _ [26, 27, 22, 28, 29, 30, 31, 84, 85] (by decide +kernel) (by decide +kernel)
set_option maxRecDepth 20000 in
theorem gX4_add_X2_clear : GoodIn wsX4_add (wsV RX4 98 RX2 yX2_clear wsX2_clear) := goodIn_app (goodIn_of _ (by decide +kernel)) ggX4_add_X2_clear
set_option maxRecDepth 20000 in
theorem ggX4_add_X2_at : GoodIn wsX4_add wsX2_at := goodIn_r _ [35, 27, 84, 85] (by decide +kernel) (by decide +kernel)
set_option maxRecDepth 20000 in
theorem gX4_add_X2_at : GoodIn wsX4_add (wsV RX4 101 RX2 yX2_at wsX2_at) := goodIn_app (goodIn_of _ (by decide +kernel)) ggX4_add_X2_at
set_option maxRecDepth 20000 in
theorem ggX4_add_X2_write : GoodIn wsX4_add wsX2_write := goodIn_r _ [39, 27, 40, 41, 42, 43, 84, 85] (by decide +kernel) (by decide +kernel)
set_option maxRecDepth 20000 in
theorem gX4_add_X2_write : GoodIn wsX4_add (wsV RX4 94 RX2 yX2_write wsX2_write) := goodIn_app (goodIn_of _ (by decide +kernel)) ggX4_add_X2_write
set_option maxRecDepth 20000 in
theorem ggX4_add_X4_change : GoodIn wsX4_add wsX4_change := goodIn_r _ [47, 48, 1, 2, 49, 50, 51, 52, 53, 54, 55, 56, 57, 58, 59, 60, 61, 62, 10, 63, 12, 64, 65, 66, 20, 67, 27, 68, 69, 70, 71, 22, 72, 73, 74, 75, 76, 77, 78, 79, 80, 81, 82, 86, 87, 83, 84, 85] (by decide +kernel) (by decide +kernel)
set_option maxRecDepth 20000 in
theorem gX4_add_X4_change : GoodIn wsX4_add (wsV RX4 65 RX4 yX4_change wsX4_change) := goodIn_app (goodIn_of _ (by decide +kernel)) ggX4_add_X4_change
theorem dX4_add_0 : decode cX4_add 0 = .ok (.aload_n 0, 1) := by decide +kernel
theorem dX4_add_1 : decode cX4_add 1 = .ok (.getfield 10, 3) := by decide +kernel
theorem dX4_add_4 : decode cX4_add 4 = .ok (.iload_n 1, 1) := by decide +kernel
theorem dX4_add_5 : decode cX4_add 5 = .ok (.invokevirtual 57, 3) := by decide +kernel
theorem dX4_add_8 : decode cX4_add 8 = .ok (.astore 5, 2) := by decide +kernel
theorem dX4_add_10 : decode cX4_add 10 = .ok (.aload_n 0, 1) := by decide +kernel
theorem dX4_add_11 : decode cX4_add 11 = .ok (.getfield 10, 3) := by decide +kernel
theorem dX4_add_14 : decode cX4_add 14 = .ok (.iload_n 2, 1) := by decide +kernel
theorem dX4_add_15 : decode cX4_add 15 = .ok (.invokevirtual 57, 3) := by decide +kernel
theorem dX4_add_18 : decode cX4_add 18 = .ok (.astore 6, 2) := by decide +kernel
theorem dX4_add_20 : decode cX4_add 20 = .ok (.aload_n 0, 1) := by decide +kernel
theorem dX4_add_21 : decode cX4_add 21 = .ok (.getfield 10, 3) := by decide +kernel
theorem dX4_add_24 : decode cX4_add 24 = .ok (.iload 4, 2) := by decide +kernel
theorem dX4_add_26 : decode cX4_add 26 = .ok (.invokevirtual 57, 3) := by decide +kernel
theorem dX4_add_29 : decode cX4_add 29 = .ok (.astore 7, 2) := by decide +kernel
theorem dX4_add_31 : decode cX4_add 31 = .ok (.aload 5, 2) := by decide +kernel
theorem dX4_add_33 : decode cX4_add 33 = .ok (.ifnull 13, 3) := by decide +kernel
theorem dX4_add_36 : decode cX4_add 36 = .ok (.aload 6, 2) := by decide +kernel
theorem dX4_add_38 : decode cX4_add 38 = .ok (.ifnull 8, 3) := by decide +kernel
theorem dX4_add_41 : decode cX4_add 41 = .ok (.aload 7, 2) := by decide +kernel
theorem dX4_add_43 : decode cX4_add 43 = .ok (.ifnonnull 5, 3) := by decide +kernel
theorem dX4_add_46 : decode cX4_add 46 = .ok (.iconst (-1), 1) := by decide +kernel
theorem dX4_add_47 : decode cX4_add 47 = .ok (.ireturn, 1) := by decide +kernel
theorem dX4_add_48 : decode cX4_add 48 = .ok (.iload_n 3, 1) := by decide +kernel
theorem dX4_add_49 : decode cX4_add 49 = .ok (.invokestatic 76, 3) := by decide +kernel
theorem dX4_add_52 : decode cX4_add 52 = .ok (.ifCond .ne 6, 3) := by decide +kernel
theorem dX4_add_55 : decode cX4_add 55 = .ok (.bipush (-2), 2) := by decide +kernel
theorem dX4_add_57 : decode cX4_add 57 = .ok (.ireturn, 1) := by decide +kernel
theorem dX4_add_58 : decode cX4_add 58 = .ok (.aload_n 0, 1) := by decide +kernel
theorem dX4_add_59 : decode cX4_add 59 = .ok (.getfield 41, 3) := by decide +kernel
theorem dX4_add_62 : decode cX4_add 62 = .ok (.aload 5, 2) := by decide +kernel
theorem dX4_add_64 : decode cX4_add 64 = .ok (.invokevirtual 72, 3) := by decide +kernel
theorem dX4_add_67 : decode cX4_add 67 = .ok (.aload 6, 2) := by decide +kernel
theorem dX4_add_69 : decode cX4_add 69 = .ok (.invokevirtual 72, 3) := by decide +kernel
theorem dX4_add_72 : decode cX4_add 72 = .ok (.invokestatic 84, 3) := by decide +kernel
theorem dX4_add_75 : decode cX4_add 75 = .ok (.invokevirtual 98, 3) := by decide +kernel
theorem dX4_add_78 : decode cX4_add 78 = .ok (.iconst 0, 1) := by decide +kernel
theorem dX4_add_79 : decode cX4_add 79 = .ok (.istore 8, 2) := by decide +kernel
theorem dX4_add_81 : decode cX4_add 81 = .ok (.iload 8, 2) := by decide +kernel
theorem dX4_add_83 : decode cX4_add 83 = .ok (.aload_n 0, 1) := by decide +kernel
theorem dX4_add_84 : decode cX4_add 84 = .ok (.getfield 41, 3) := by decide +kernel
theorem dX4_add_87 : decode cX4_add 87 = .ok (.invokevirtual 72, 3) := by decide +kernel
theorem dX4_add_90 : decode cX4_add 90 = .ok (.if_icmp .ge 35, 3) := by decide +kernel
theorem dX4_add_93 : decode cX4_add 93 = .ok (.aload_n 0, 1) := by decide +kernel
theorem dX4_add_94 : decode cX4_add 94 = .ok (.getfield 41, 3) := by decide +kernel
theorem dX4_add_97 : decode cX4_add 97 = .ok (.iload 8, 2) := by decide +kernel
theorem dX4_add_99 : decode cX4_add 99 = .ok (.aload 5, 2) := by decide +kernel
theorem dX4_add_101 : decode cX4_add 101 = .ok (.iload 8, 2) := by decide +kernel
theorem dX4_add_103 : decode cX4_add 103 = .ok (.invokevirtual 101, 3) := by decide +kernel
theorem dX4_add_106 : decode cX4_add 106 = .ok (.iload_n 3, 1) := by decide +kernel
theorem dX4_add_107 : decode cX4_add 107 = .ok (.aload 6, 2) := by decide +kernel
theorem dX4_add_109 : decode cX4_add 109 = .ok (.iload 8, 2) := by decide +kernel
theorem dX4_add_111 : decode cX4_add 111 = .ok (.invokevirtual 101, 3) := by decide +kernel
theorem dX4_add_114 : decode cX4_add 114 = .ok (.imul, 1) := by decide +kernel
theorem dX4_add_115 : decode cX4_add 115 = .ok (.iadd, 1) := by decide +kernel
theorem dX4_add_116 : decode cX4_add 116 = .ok (.invokevirtual 94, 3) := by decide +kernel
theorem dX4_add_119 : decode cX4_add 119 = .ok (.iinc 8 1, 3) := by decide +kernel
theorem dX4_add_122 : decode cX4_add 122 = .ok (.goto (-41), 3) := by decide +kernel
theorem dX4_add_125 : decode cX4_add 125 = .ok (.aload_n 0, 1) := by decide +kernel
theorem dX4_add_126 : decode cX4_add 126 = .ok (.aload 7, 2) := by decide +kernel
theorem dX4_add_128 : decode cX4_add 128 = .ok (.invokevirtual 65, 3) := by decide +kernel
theorem dX4_add_131 : decode cX4_add 131 = .ok (.aload 7, 2) := by decide +kernel
theorem dX4_add_133 : decode cX4_add 133 = .ok (.invokevirtual 72, 3) := by decide +kernel
theorem dX4_add_136 : decode cX4_add 136 = .ok (.ireturn, 1) := by decide +kernel
set_option maxRecDepth 20000 in
theorem ggX4_product_X3_rowOf : GoodIn wsX4_product wsX3_rowOf := goodIn_r _ [7, 8, 85] (by decide +kernel) (by decide +kernel)
set_option maxRecDepth 20000 in
theorem gX4_product_X3_rowOf : GoodIn wsX4_product (wsV RX4 57 RX3 yX3_rowOf wsX3_rowOf) := goodIn_app (goodIn_of _ (by decide +kernel)) ggX4_product_X3_rowOf
set_option maxRecDepth 20000 in
theorem ggX4_product_X4_productLength : GoodIn wsX4_product wsX4_productLength := goodIn_r _ [12, 13, 14, 15, 16, 17, 18, 86, 87] (by decide +kernel) (by decide +kernel)
set_option maxRecDepth 20000 in
theorem gX4_product_X4_productLength : GoodIn wsX4_product (va_wsS RX4 105 yX4_productLength wsX4_productLength) := goodIn_app (goodIn_of _ (by decide +kernel)) ggX4_product_X4_productLength
set_option maxRecDepth 20000 in
theorem ggX4_product_X4_multiply : GoodIn wsX4_product wsX4_multiply := goodIn_r _ [21, 22, 23, 24, 16, 25, 26, 18, 27, 28, 29, 30, 13, 14, 15, 17, 31, 32, 33, 34, 35, 36, 37, 38, 39, 40, 41, 42, 43, 44, 11, 45, 86, 87] (by decide +kernel) (by decide +kernel)
set_option maxRecDepth 20000 in
theorem gX4_product_X4_multiply : GoodIn wsX4_product (va_wsS RX4 109 yX4_multiply wsX4_multiply) := goodIn_app (goodIn_of _ (by decide +kernel)) ggX4_product_X4_multiply
set_option maxRecDepth 20000 in
theorem ggX4_product_X4_change : GoodIn wsX4_product wsX4_change := goodIn_r _ [49, 50, 1, 2, 51, 52, 53, 54, 55, 56, 57, 58, 59, 60, 61, 62, 63, 64, 6, 65, 8, 66, 67, 68, 16, 69, 26, 70, 71, 72, 73, 18, 74, 75, 76, 77, 78, 79, 80, 81, 82, 83, 84, 88, 89, 85, 86, 87] (by decide +kernel) (by decide +kernel)
set_option maxRecDepth 20000 in
theorem gX4_product_X4_change : GoodIn wsX4_product (wsV RX4 65 RX4 yX4_change wsX4_change) := goodIn_app (goodIn_of _ (by decide +kernel)) ggX4_product_X4_change
theorem dX4_product_0 : decode cX4_product 0 = .ok (.aload_n 0, 1) := by decide +kernel
theorem dX4_product_1 : decode cX4_product 1 = .ok (.getfield 10, 3) := by decide +kernel
theorem dX4_product_4 : decode cX4_product 4 = .ok (.iload_n 1, 1) := by decide +kernel
theorem dX4_product_5 : decode cX4_product 5 = .ok (.invokevirtual 57, 3) := by decide +kernel
theorem dX4_product_8 : decode cX4_product 8 = .ok (.astore 4, 2) := by decide +kernel
theorem dX4_product_10 : decode cX4_product 10 = .ok (.aload_n 0, 1) := by decide +kernel
theorem dX4_product_11 : decode cX4_product 11 = .ok (.getfield 10, 3) := by decide +kernel
theorem dX4_product_14 : decode cX4_product 14 = .ok (.iload_n 2, 1) := by decide +kernel
theorem dX4_product_15 : decode cX4_product 15 = .ok (.invokevirtual 57, 3) := by decide +kernel
theorem dX4_product_18 : decode cX4_product 18 = .ok (.astore 5, 2) := by decide +kernel
theorem dX4_product_20 : decode cX4_product 20 = .ok (.aload_n 0, 1) := by decide +kernel
theorem dX4_product_21 : decode cX4_product 21 = .ok (.getfield 10, 3) := by decide +kernel
theorem dX4_product_24 : decode cX4_product 24 = .ok (.iload_n 3, 1) := by decide +kernel
theorem dX4_product_25 : decode cX4_product 25 = .ok (.invokevirtual 57, 3) := by decide +kernel
theorem dX4_product_28 : decode cX4_product 28 = .ok (.astore 6, 2) := by decide +kernel
theorem dX4_product_30 : decode cX4_product 30 = .ok (.aload 4, 2) := by decide +kernel
theorem dX4_product_32 : decode cX4_product 32 = .ok (.ifnull 13, 3) := by decide +kernel
theorem dX4_product_35 : decode cX4_product 35 = .ok (.aload 5, 2) := by decide +kernel
theorem dX4_product_37 : decode cX4_product 37 = .ok (.ifnull 8, 3) := by decide +kernel
theorem dX4_product_40 : decode cX4_product 40 = .ok (.aload 6, 2) := by decide +kernel
theorem dX4_product_42 : decode cX4_product 42 = .ok (.ifnonnull 5, 3) := by decide +kernel
theorem dX4_product_45 : decode cX4_product 45 = .ok (.iconst (-1), 1) := by decide +kernel
theorem dX4_product_46 : decode cX4_product 46 = .ok (.ireturn, 1) := by decide +kernel
theorem dX4_product_47 : decode cX4_product 47 = .ok (.aload 4, 2) := by decide +kernel
theorem dX4_product_49 : decode cX4_product 49 = .ok (.aload 5, 2) := by decide +kernel
theorem dX4_product_51 : decode cX4_product 51 = .ok (.invokestatic 105, 3) := by decide +kernel
theorem dX4_product_54 : decode cX4_product 54 = .ok (.istore 7, 2) := by decide +kernel
theorem dX4_product_56 : decode cX4_product 56 = .ok (.iload 7, 2) := by decide +kernel
theorem dX4_product_58 : decode cX4_product 58 = .ok (.bipush 64, 2) := by decide +kernel
theorem dX4_product_60 : decode cX4_product 60 = .ok (.if_icmp .le 6, 3) := by decide +kernel
theorem dX4_product_63 : decode cX4_product 63 = .ok (.bipush (-4), 2) := by decide +kernel
theorem dX4_product_65 : decode cX4_product 65 = .ok (.ireturn, 1) := by decide +kernel
theorem dX4_product_66 : decode cX4_product 66 = .ok (.aload 4, 2) := by decide +kernel
theorem dX4_product_68 : decode cX4_product 68 = .ok (.aload 5, 2) := by decide +kernel
theorem dX4_product_70 : decode cX4_product 70 = .ok (.iload 7, 2) := by decide +kernel
theorem dX4_product_72 : decode cX4_product 72 = .ok (.aload_n 0, 1) := by decide +kernel
theorem dX4_product_73 : decode cX4_product 73 = .ok (.getfield 41, 3) := by decide +kernel
theorem dX4_product_76 : decode cX4_product 76 = .ok (.invokestatic 109, 3) := by decide +kernel
theorem dX4_product_79 : decode cX4_product 79 = .ok (.aload_n 0, 1) := by decide +kernel
theorem dX4_product_80 : decode cX4_product 80 = .ok (.aload 6, 2) := by decide +kernel
theorem dX4_product_82 : decode cX4_product 82 = .ok (.invokevirtual 65, 3) := by decide +kernel
theorem dX4_product_85 : decode cX4_product 85 = .ok (.iload 7, 2) := by decide +kernel
theorem dX4_product_87 : decode cX4_product 87 = .ok (.ireturn, 1) := by decide +kernel
set_option maxRecDepth 20000 in
theorem ggX4_round_X3_rowOf : GoodIn wsX4_round wsX3_rowOf := goodIn_r _ [7, 8, 87] (by decide +kernel) (by decide +kernel)
set_option maxRecDepth 20000 in
theorem gX4_round_X3_rowOf : GoodIn wsX4_round (wsV RX4 57 RX3 yX3_rowOf wsX3_rowOf) := goodIn_app (goodIn_of _ (by decide +kernel)) ggX4_round_X3_rowOf
set_option maxRecDepth 20000 in
theorem ggX4_round_X4_multiply : GoodIn wsX4_round wsX4_multiply := goodIn_r _ [12, 13, 14, 15, 16, 17, 18, 19, 20, 21, 22, 23, 24, 25, 26, 27, 28, 29, 30, 31, 32, 33, 34, 35, 36, 37, 38, 39, 40, 41, 11, 42, 88, 89] (by decide +kernel) (by decide +kernel)
set_option maxRecDepth 20000 in
theorem gX4_round_X4_multiply : GoodIn wsX4_round (va_wsS RX4 109 yX4_multiply wsX4_multiply) := goodIn_app (goodIn_of _ (by decide +kernel)) ggX4_round_X4_multiply
set_option maxRecDepth 20000 in
theorem ggX4_round_X4_change : GoodIn wsX4_round wsX4_change := goodIn_r _ [46, 47, 1, 2, 48, 49, 50, 51, 52, 53, 54, 55, 56, 57, 58, 59, 60, 61, 6, 62, 8, 63, 64, 65, 16, 66, 18, 67, 68, 69, 70, 19, 71, 77, 78, 79, 80, 81, 82, 83, 84, 85, 86, 90, 91, 87, 88, 89] (by decide +kernel) (by decide +kernel)
set_option maxRecDepth 20000 in
theorem gX4_round_X4_change : GoodIn wsX4_round (wsV RX4 65 RX4 yX4_change wsX4_change) := goodIn_app (goodIn_of _ (by decide +kernel)) ggX4_round_X4_change
set_option maxRecDepth 20000 in
theorem ggX4_round_X2_degree : GoodIn wsX4_round wsX2_degree := goodIn_r _ [75, 19, 76, 29, 30, 16, 31, 18, 88, 89] (by decide +kernel) (by decide +kernel)
set_option maxRecDepth 20000 in
theorem gX4_round_X2_degree : GoodIn wsX4_round (wsV RX4 113 RX2 yX2_degree wsX2_degree) := goodIn_app (goodIn_of _ (by decide +kernel)) ggX4_round_X2_degree
theorem dX4_round_0 : decode cX4_round 0 = .ok (.aload_n 0, 1) := by decide +kernel
theorem dX4_round_1 : decode cX4_round 1 = .ok (.getfield 10, 3) := by decide +kernel
theorem dX4_round_4 : decode cX4_round 4 = .ok (.iload_n 1, 1) := by decide +kernel
theorem dX4_round_5 : decode cX4_round 5 = .ok (.invokevirtual 57, 3) := by decide +kernel
theorem dX4_round_8 : decode cX4_round 8 = .ok (.astore 5, 2) := by decide +kernel
theorem dX4_round_10 : decode cX4_round 10 = .ok (.aload_n 0, 1) := by decide +kernel
theorem dX4_round_11 : decode cX4_round 11 = .ok (.getfield 10, 3) := by decide +kernel
theorem dX4_round_14 : decode cX4_round 14 = .ok (.iload_n 2, 1) := by decide +kernel
theorem dX4_round_15 : decode cX4_round 15 = .ok (.invokevirtual 57, 3) := by decide +kernel
theorem dX4_round_18 : decode cX4_round 18 = .ok (.astore 6, 2) := by decide +kernel
theorem dX4_round_20 : decode cX4_round 20 = .ok (.aload_n 0, 1) := by decide +kernel
theorem dX4_round_21 : decode cX4_round 21 = .ok (.getfield 10, 3) := by decide +kernel
theorem dX4_round_24 : decode cX4_round 24 = .ok (.iload 4, 2) := by decide +kernel
theorem dX4_round_26 : decode cX4_round 26 = .ok (.invokevirtual 57, 3) := by decide +kernel
theorem dX4_round_29 : decode cX4_round 29 = .ok (.astore 7, 2) := by decide +kernel
theorem dX4_round_31 : decode cX4_round 31 = .ok (.aload 5, 2) := by decide +kernel
theorem dX4_round_33 : decode cX4_round 33 = .ok (.ifnull 13, 3) := by decide +kernel
theorem dX4_round_36 : decode cX4_round 36 = .ok (.aload 6, 2) := by decide +kernel
theorem dX4_round_38 : decode cX4_round 38 = .ok (.ifnull 8, 3) := by decide +kernel
theorem dX4_round_41 : decode cX4_round 41 = .ok (.aload 7, 2) := by decide +kernel
theorem dX4_round_43 : decode cX4_round 43 = .ok (.ifnonnull 5, 3) := by decide +kernel
theorem dX4_round_46 : decode cX4_round 46 = .ok (.iconst (-1), 1) := by decide +kernel
theorem dX4_round_47 : decode cX4_round 47 = .ok (.ireturn, 1) := by decide +kernel
theorem dX4_round_48 : decode cX4_round 48 = .ok (.iload_n 3, 1) := by decide +kernel
theorem dX4_round_49 : decode cX4_round 49 = .ok (.iconst 1, 1) := by decide +kernel
theorem dX4_round_50 : decode cX4_round 50 = .ok (.if_icmp .lt 9, 3) := by decide +kernel
theorem dX4_round_53 : decode cX4_round 53 = .ok (.iload_n 3, 1) := by decide +kernel
theorem dX4_round_54 : decode cX4_round 54 = .ok (.bipush 64, 2) := by decide +kernel
theorem dX4_round_56 : decode cX4_round 56 = .ok (.if_icmp .le 6, 3) := by decide +kernel
theorem dX4_round_59 : decode cX4_round 59 = .ok (.bipush (-2), 2) := by decide +kernel
theorem dX4_round_61 : decode cX4_round 61 = .ok (.ireturn, 1) := by decide +kernel
theorem dX4_round_62 : decode cX4_round 62 = .ok (.aload 5, 2) := by decide +kernel
theorem dX4_round_64 : decode cX4_round 64 = .ok (.aload 6, 2) := by decide +kernel
theorem dX4_round_66 : decode cX4_round 66 = .ok (.iload_n 3, 1) := by decide +kernel
theorem dX4_round_67 : decode cX4_round 67 = .ok (.aload_n 0, 1) := by decide +kernel
theorem dX4_round_68 : decode cX4_round 68 = .ok (.getfield 41, 3) := by decide +kernel
theorem dX4_round_71 : decode cX4_round 71 = .ok (.invokestatic 109, 3) := by decide +kernel
theorem dX4_round_74 : decode cX4_round 74 = .ok (.aload_n 0, 1) := by decide +kernel
theorem dX4_round_75 : decode cX4_round 75 = .ok (.aload 7, 2) := by decide +kernel
theorem dX4_round_77 : decode cX4_round 77 = .ok (.invokevirtual 65, 3) := by decide +kernel
theorem dX4_round_80 : decode cX4_round 80 = .ok (.aload 7, 2) := by decide +kernel
theorem dX4_round_82 : decode cX4_round 82 = .ok (.invokevirtual 113, 3) := by decide +kernel
theorem dX4_round_85 : decode cX4_round 85 = .ok (.ireturn, 1) := by decide +kernel
set_option maxRecDepth 20000 in
theorem ggX4_power_X3_rowOf : GoodIn wsX4_power wsX3_rowOf := goodIn_r _ [8, 9, 86] (by decide +kernel) (by decide +kernel)
set_option maxRecDepth 20000 in
theorem gX4_power_X3_rowOf : GoodIn wsX4_power (wsV RX4 57 RX3 yX3_rowOf wsX3_rowOf) := goodIn_app (goodIn_of _ (by decide +kernel)) ggX4_power_X3_rowOf
set_option maxRecDepth 20000 in
theorem ggX4_power_X2_length : GoodIn wsX4_power wsX2_length := goodIn_r _ [14, 15, 87, 88] (by decide +kernel) (by decide +kernel)
set_option maxRecDepth 20000 in
theorem gX4_power_X2_length : GoodIn wsX4_power (wsV RX4 72 RX2 yX2_length wsX2_length) := goodIn_app (goodIn_of _ (by decide +kernel)) ggX4_power_X2_length
set_option maxRecDepth 20000 in
theorem ggX4_power_X2_clear : GoodIn wsX4_power wsX2_clear := goodIn_r _ [19, 20, 15, 21, 22, 23, 24, 87, 88] (by decide +kernel) (by decide +kernel)
set_option maxRecDepth 20000 in
theorem gX4_power_X2_clear : GoodIn wsX4_power (wsV RX4 98 RX2 yX2_clear wsX2_clear) := goodIn_app (goodIn_of _ (by decide +kernel)) ggX4_power_X2_clear
set_option maxRecDepth 20000 in
theorem ggX4_power_X2_write : GoodIn wsX4_power wsX2_write := goodIn_r _ [28, 20, 29, 30, 31, 32, 87, 88] (by decide +kernel) (by decide +kernel)
set_option maxRecDepth 20000 in
theorem gX4_power_X2_write : GoodIn wsX4_power (wsV RX4 94 RX2 yX2_write wsX2_write) := goodIn_app (goodIn_of _ (by decide +kernel)) ggX4_power_X2_write
set_option maxRecDepth 20000 in
theorem ggX4_power_X4_productLength : GoodIn wsX4_power wsX4_productLength := goodIn_r _ [36, 10, 11, 12, 13, 14, 15, 87, 88] (by decide +kernel) (by decide +kernel)
set_option maxRecDepth 20000 in
theorem gX4_power_X4_productLength : GoodIn wsX4_power (va_wsS RX4 105 yX4_productLength wsX4_productLength) := goodIn_app (goodIn_of _ (by decide +kernel)) ggX4_power_X4_productLength
set_option maxRecDepth 20000 in
theorem ggX4_power_X4_multiply : GoodIn wsX4_power wsX4_multiply := goodIn_r _ [39, 16, 17, 18, 13, 19, 20, 15, 21, 22, 23, 24, 10, 11, 12, 14, 40, 41, 42, 43, 25, 26, 27, 28, 29, 30, 31, 32, 44, 45, 35, 46, 87, 88] (by decide +kernel) (by decide +kernel)
set_option maxRecDepth 20000 in
theorem gX4_power_X4_multiply : GoodIn wsX4_power (va_wsS RX4 109 yX4_multiply wsX4_multiply) := goodIn_app (goodIn_of _ (by decide +kernel)) ggX4_power_X4_multiply
set_option maxRecDepth 20000 in
theorem ggX4_power_X2_copyFrom : GoodIn wsX4_power wsX2_copyFrom := goodIn_r _ [50, 20, 51, 52, 53, 54, 15, 87, 88] (by decide +kernel) (by decide +kernel)
set_option maxRecDepth 20000 in
theorem gX4_power_X2_copyFrom : GoodIn wsX4_power (wsV RX4 116 RX2 yX2_copyFrom wsX2_copyFrom) := goodIn_app (goodIn_of _ (by decide +kernel)) ggX4_power_X2_copyFrom
set_option maxRecDepth 20000 in
theorem ggX4_power_X4_change : GoodIn wsX4_power wsX4_change := goodIn_r _ [58, 59, 1, 2, 60, 61, 62, 63, 64, 65, 66, 67, 68, 69, 70, 71, 72, 73, 7, 74, 9, 75, 48, 49, 13, 50, 20, 51, 52, 53, 54, 15, 47, 76, 77, 78, 79, 80, 81, 82, 83, 84, 85, 89, 90, 86, 87, 88] (by decide +kernel) (by decide +kernel)
set_option maxRecDepth 20000 in
theorem gX4_power_X4_change : GoodIn wsX4_power (wsV RX4 65 RX4 yX4_change wsX4_change) := goodIn_app (goodIn_of _ (by decide +kernel)) ggX4_power_X4_change
theorem dX4_power_0 : decode cX4_power 0 = .ok (.aload_n 0, 1) := by decide +kernel
theorem dX4_power_1 : decode cX4_power 1 = .ok (.getfield 10, 3) := by decide +kernel
theorem dX4_power_4 : decode cX4_power 4 = .ok (.iload_n 1, 1) := by decide +kernel
theorem dX4_power_5 : decode cX4_power 5 = .ok (.invokevirtual 57, 3) := by decide +kernel
theorem dX4_power_8 : decode cX4_power 8 = .ok (.astore 4, 2) := by decide +kernel
theorem dX4_power_10 : decode cX4_power 10 = .ok (.aload_n 0, 1) := by decide +kernel
theorem dX4_power_11 : decode cX4_power 11 = .ok (.getfield 10, 3) := by decide +kernel
theorem dX4_power_14 : decode cX4_power 14 = .ok (.iload_n 3, 1) := by decide +kernel
theorem dX4_power_15 : decode cX4_power 15 = .ok (.invokevirtual 57, 3) := by decide +kernel
theorem dX4_power_18 : decode cX4_power 18 = .ok (.astore 5, 2) := by decide +kernel
theorem dX4_power_20 : decode cX4_power 20 = .ok (.aload 4, 2) := by decide +kernel
theorem dX4_power_22 : decode cX4_power 22 = .ok (.ifnull 8, 3) := by decide +kernel
theorem dX4_power_25 : decode cX4_power 25 = .ok (.aload 5, 2) := by decide +kernel
theorem dX4_power_27 : decode cX4_power 27 = .ok (.ifnonnull 5, 3) := by decide +kernel
theorem dX4_power_30 : decode cX4_power 30 = .ok (.iconst (-1), 1) := by decide +kernel
theorem dX4_power_31 : decode cX4_power 31 = .ok (.ireturn, 1) := by decide +kernel
theorem dX4_power_32 : decode cX4_power 32 = .ok (.iload_n 2, 1) := by decide +kernel
theorem dX4_power_33 : decode cX4_power 33 = .ok (.ifCond .lt 9, 3) := by decide +kernel
theorem dX4_power_36 : decode cX4_power 36 = .ok (.iload_n 2, 1) := by decide +kernel
theorem dX4_power_37 : decode cX4_power 37 = .ok (.bipush 9, 2) := by decide +kernel
theorem dX4_power_39 : decode cX4_power 39 = .ok (.if_icmp .le 6, 3) := by decide +kernel
theorem dX4_power_42 : decode cX4_power 42 = .ok (.bipush (-2), 2) := by decide +kernel
theorem dX4_power_44 : decode cX4_power 44 = .ok (.ireturn, 1) := by decide +kernel
theorem dX4_power_45 : decode cX4_power 45 = .ok (.iload_n 2, 1) := by decide +kernel
theorem dX4_power_46 : decode cX4_power 46 = .ok (.aload 4, 2) := by decide +kernel
theorem dX4_power_48 : decode cX4_power 48 = .ok (.invokevirtual 72, 3) := by decide +kernel
theorem dX4_power_51 : decode cX4_power 51 = .ok (.iconst 1, 1) := by decide +kernel
theorem dX4_power_52 : decode cX4_power 52 = .ok (.isub, 1) := by decide +kernel
theorem dX4_power_53 : decode cX4_power 53 = .ok (.imul, 1) := by decide +kernel
theorem dX4_power_54 : decode cX4_power 54 = .ok (.iconst 1, 1) := by decide +kernel
theorem dX4_power_55 : decode cX4_power 55 = .ok (.iadd, 1) := by decide +kernel
theorem dX4_power_56 : decode cX4_power 56 = .ok (.bipush 64, 2) := by decide +kernel
theorem dX4_power_58 : decode cX4_power 58 = .ok (.if_icmp .le 6, 3) := by decide +kernel
theorem dX4_power_61 : decode cX4_power 61 = .ok (.bipush (-4), 2) := by decide +kernel
theorem dX4_power_63 : decode cX4_power 63 = .ok (.ireturn, 1) := by decide +kernel
theorem dX4_power_64 : decode cX4_power 64 = .ok (.aload_n 0, 1) := by decide +kernel
theorem dX4_power_65 : decode cX4_power 65 = .ok (.getfield 41, 3) := by decide +kernel
theorem dX4_power_68 : decode cX4_power 68 = .ok (.iconst 1, 1) := by decide +kernel
theorem dX4_power_69 : decode cX4_power 69 = .ok (.invokevirtual 98, 3) := by decide +kernel
theorem dX4_power_72 : decode cX4_power 72 = .ok (.aload_n 0, 1) := by decide +kernel
theorem dX4_power_73 : decode cX4_power 73 = .ok (.getfield 41, 3) := by decide +kernel
theorem dX4_power_76 : decode cX4_power 76 = .ok (.iconst 0, 1) := by decide +kernel
theorem dX4_power_77 : decode cX4_power 77 = .ok (.iconst 1, 1) := by decide +kernel
theorem dX4_power_78 : decode cX4_power 78 = .ok (.invokevirtual 94, 3) := by decide +kernel
theorem dX4_power_81 : decode cX4_power 81 = .ok (.iconst 0, 1) := by decide +kernel
theorem dX4_power_82 : decode cX4_power 82 = .ok (.istore 6, 2) := by decide +kernel
theorem dX4_power_84 : decode cX4_power 84 = .ok (.iload 6, 2) := by decide +kernel
theorem dX4_power_86 : decode cX4_power 86 = .ok (.iload_n 2, 1) := by decide +kernel
theorem dX4_power_87 : decode cX4_power 87 = .ok (.if_icmp .ge 42, 3) := by decide +kernel
theorem dX4_power_90 : decode cX4_power 90 = .ok (.aload_n 0, 1) := by decide +kernel
theorem dX4_power_91 : decode cX4_power 91 = .ok (.getfield 41, 3) := by decide +kernel
theorem dX4_power_94 : decode cX4_power 94 = .ok (.aload 4, 2) := by decide +kernel
theorem dX4_power_96 : decode cX4_power 96 = .ok (.aload_n 0, 1) := by decide +kernel
theorem dX4_power_97 : decode cX4_power 97 = .ok (.getfield 41, 3) := by decide +kernel
theorem dX4_power_100 : decode cX4_power 100 = .ok (.aload 4, 2) := by decide +kernel
theorem dX4_power_102 : decode cX4_power 102 = .ok (.invokestatic 105, 3) := by decide +kernel
theorem dX4_power_105 : decode cX4_power 105 = .ok (.aload_n 0, 1) := by decide +kernel
theorem dX4_power_106 : decode cX4_power 106 = .ok (.getfield 54, 3) := by decide +kernel
theorem dX4_power_109 : decode cX4_power 109 = .ok (.invokestatic 109, 3) := by decide +kernel
theorem dX4_power_112 : decode cX4_power 112 = .ok (.aload_n 0, 1) := by decide +kernel
theorem dX4_power_113 : decode cX4_power 113 = .ok (.getfield 41, 3) := by decide +kernel
theorem dX4_power_116 : decode cX4_power 116 = .ok (.aload_n 0, 1) := by decide +kernel
theorem dX4_power_117 : decode cX4_power 117 = .ok (.getfield 54, 3) := by decide +kernel
theorem dX4_power_120 : decode cX4_power 120 = .ok (.invokevirtual 116, 3) := by decide +kernel
theorem dX4_power_123 : decode cX4_power 123 = .ok (.iinc 6 1, 3) := by decide +kernel
theorem dX4_power_126 : decode cX4_power 126 = .ok (.goto (-42), 3) := by decide +kernel
theorem dX4_power_129 : decode cX4_power 129 = .ok (.aload_n 0, 1) := by decide +kernel
theorem dX4_power_130 : decode cX4_power 130 = .ok (.aload 5, 2) := by decide +kernel
theorem dX4_power_132 : decode cX4_power 132 = .ok (.invokevirtual 65, 3) := by decide +kernel
theorem dX4_power_135 : decode cX4_power 135 = .ok (.aload 5, 2) := by decide +kernel
theorem dX4_power_137 : decode cX4_power 137 = .ok (.invokevirtual 72, 3) := by decide +kernel
theorem dX4_power_140 : decode cX4_power 140 = .ok (.ireturn, 1) := by decide +kernel
set_option maxRecDepth 20000 in
theorem ggX4_inverse_X3_rowOf : GoodIn wsX4_inverse wsX3_rowOf := goodIn_r _ [7, 8, 86] (by decide +kernel) (by decide +kernel)
set_option maxRecDepth 20000 in
theorem gX4_inverse_X3_rowOf : GoodIn wsX4_inverse (wsV RX4 57 RX3 yX3_rowOf wsX3_rowOf) := goodIn_app (goodIn_of _ (by decide +kernel)) ggX4_inverse_X3_rowOf
set_option maxRecDepth 20000 in
theorem ggX4_inverse_X2_at : GoodIn wsX4_inverse wsX2_at := goodIn_r _ [13, 14, 87, 88] (by decide +kernel) (by decide +kernel)
set_option maxRecDepth 20000 in
theorem gX4_inverse_X2_at : GoodIn wsX4_inverse (wsV RX4 101 RX2 yX2_at wsX2_at) := goodIn_app (goodIn_of _ (by decide +kernel)) ggX4_inverse_X2_at
set_option maxRecDepth 20000 in
theorem ggX4_inverse_X4_invertRow : GoodIn wsX4_inverse wsX4_invertRow := goodIn_r _ [18, 9, 10, 11, 12, 13, 14, 19, 20, 17, 21, 22, 23, 24, 25, 26, 27, 28, 29, 30, 31, 32, 33, 34, 35, 36, 37, 38, 39, 40, 41, 87, 88] (by decide +kernel) (by decide +kernel)
set_option maxRecDepth 20000 in
theorem gX4_inverse_X4_invertRow : GoodIn wsX4_inverse (va_wsS RX4 119 yX4_invertRow wsX4_invertRow) := goodIn_app (goodIn_of _ (by decide +kernel)) ggX4_inverse_X4_invertRow
set_option maxRecDepth 20000 in
theorem ggX4_inverse_X4_change : GoodIn wsX4_inverse wsX4_change := goodIn_r _ [45, 46, 1, 2, 47, 48, 49, 50, 51, 52, 53, 54, 55, 56, 57, 58, 59, 60, 6, 61, 8, 62, 63, 64, 12, 65, 14, 66, 67, 68, 69, 29, 70, 76, 77, 78, 79, 80, 81, 82, 83, 84, 85, 89, 90, 86, 87, 88] (by decide +kernel) (by decide +kernel)
set_option maxRecDepth 20000 in
theorem gX4_inverse_X4_change : GoodIn wsX4_inverse (wsV RX4 65 RX4 yX4_change wsX4_change) := goodIn_app (goodIn_of _ (by decide +kernel)) ggX4_inverse_X4_change
set_option maxRecDepth 20000 in
theorem ggX4_inverse_X2_degree : GoodIn wsX4_inverse wsX2_degree := goodIn_r _ [74, 29, 75, 10, 11, 12, 13, 14, 87, 88] (by decide +kernel) (by decide +kernel)
set_option maxRecDepth 20000 in
theorem gX4_inverse_X2_degree : GoodIn wsX4_inverse (wsV RX4 113 RX2 yX2_degree wsX2_degree) := goodIn_app (goodIn_of _ (by decide +kernel)) ggX4_inverse_X2_degree
theorem dX4_inverse_0 : decode cX4_inverse 0 = .ok (.aload_n 0, 1) := by decide +kernel
theorem dX4_inverse_1 : decode cX4_inverse 1 = .ok (.getfield 10, 3) := by decide +kernel
theorem dX4_inverse_4 : decode cX4_inverse 4 = .ok (.iload_n 1, 1) := by decide +kernel
theorem dX4_inverse_5 : decode cX4_inverse 5 = .ok (.invokevirtual 57, 3) := by decide +kernel
theorem dX4_inverse_8 : decode cX4_inverse 8 = .ok (.astore 4, 2) := by decide +kernel
theorem dX4_inverse_10 : decode cX4_inverse 10 = .ok (.aload_n 0, 1) := by decide +kernel
theorem dX4_inverse_11 : decode cX4_inverse 11 = .ok (.getfield 10, 3) := by decide +kernel
theorem dX4_inverse_14 : decode cX4_inverse 14 = .ok (.iload_n 3, 1) := by decide +kernel
theorem dX4_inverse_15 : decode cX4_inverse 15 = .ok (.invokevirtual 57, 3) := by decide +kernel
theorem dX4_inverse_18 : decode cX4_inverse 18 = .ok (.astore 5, 2) := by decide +kernel
theorem dX4_inverse_20 : decode cX4_inverse 20 = .ok (.aload 4, 2) := by decide +kernel
theorem dX4_inverse_22 : decode cX4_inverse 22 = .ok (.ifnull 8, 3) := by decide +kernel
theorem dX4_inverse_25 : decode cX4_inverse 25 = .ok (.aload 5, 2) := by decide +kernel
theorem dX4_inverse_27 : decode cX4_inverse 27 = .ok (.ifnonnull 5, 3) := by decide +kernel
theorem dX4_inverse_30 : decode cX4_inverse 30 = .ok (.iconst (-1), 1) := by decide +kernel
theorem dX4_inverse_31 : decode cX4_inverse 31 = .ok (.ireturn, 1) := by decide +kernel
theorem dX4_inverse_32 : decode cX4_inverse 32 = .ok (.iload_n 2, 1) := by decide +kernel
theorem dX4_inverse_33 : decode cX4_inverse 33 = .ok (.iconst 1, 1) := by decide +kernel
theorem dX4_inverse_34 : decode cX4_inverse 34 = .ok (.if_icmp .lt 9, 3) := by decide +kernel
theorem dX4_inverse_37 : decode cX4_inverse 37 = .ok (.iload_n 2, 1) := by decide +kernel
theorem dX4_inverse_38 : decode cX4_inverse 38 = .ok (.bipush 64, 2) := by decide +kernel
theorem dX4_inverse_40 : decode cX4_inverse 40 = .ok (.if_icmp .le 6, 3) := by decide +kernel
theorem dX4_inverse_43 : decode cX4_inverse 43 = .ok (.bipush (-2), 2) := by decide +kernel
theorem dX4_inverse_45 : decode cX4_inverse 45 = .ok (.ireturn, 1) := by decide +kernel
theorem dX4_inverse_46 : decode cX4_inverse 46 = .ok (.aload 4, 2) := by decide +kernel
theorem dX4_inverse_48 : decode cX4_inverse 48 = .ok (.iconst 0, 1) := by decide +kernel
theorem dX4_inverse_49 : decode cX4_inverse 49 = .ok (.invokevirtual 101, 3) := by decide +kernel
theorem dX4_inverse_52 : decode cX4_inverse 52 = .ok (.ifCond .ne 6, 3) := by decide +kernel
theorem dX4_inverse_55 : decode cX4_inverse 55 = .ok (.bipush (-5), 2) := by decide +kernel
theorem dX4_inverse_57 : decode cX4_inverse 57 = .ok (.ireturn, 1) := by decide +kernel
theorem dX4_inverse_58 : decode cX4_inverse 58 = .ok (.aload 4, 2) := by decide +kernel
theorem dX4_inverse_60 : decode cX4_inverse 60 = .ok (.iload_n 2, 1) := by decide +kernel
theorem dX4_inverse_61 : decode cX4_inverse 61 = .ok (.aload_n 0, 1) := by decide +kernel
theorem dX4_inverse_62 : decode cX4_inverse 62 = .ok (.getfield 41, 3) := by decide +kernel
theorem dX4_inverse_65 : decode cX4_inverse 65 = .ok (.invokestatic 119, 3) := by decide +kernel
theorem dX4_inverse_68 : decode cX4_inverse 68 = .ok (.aload_n 0, 1) := by decide +kernel
theorem dX4_inverse_69 : decode cX4_inverse 69 = .ok (.aload 5, 2) := by decide +kernel
theorem dX4_inverse_71 : decode cX4_inverse 71 = .ok (.invokevirtual 65, 3) := by decide +kernel
theorem dX4_inverse_74 : decode cX4_inverse 74 = .ok (.aload 5, 2) := by decide +kernel
theorem dX4_inverse_76 : decode cX4_inverse 76 = .ok (.invokevirtual 113, 3) := by decide +kernel
theorem dX4_inverse_79 : decode cX4_inverse 79 = .ok (.ireturn, 1) := by decide +kernel
set_option maxRecDepth 20000 in
theorem ggX4_divide_X3_rowOf : GoodIn wsX4_divide wsX3_rowOf := goodIn_r _ [8, 9, 96] (by decide +kernel) (by decide +kernel)
set_option maxRecDepth 20000 in
theorem gX4_divide_X3_rowOf : GoodIn wsX4_divide (wsV RX4 57 RX3 yX3_rowOf wsX3_rowOf) := goodIn_app (goodIn_of _ (by decide +kernel)) ggX4_divide_X3_rowOf
set_option maxRecDepth 20000 in
theorem ggX4_divide_X2_degree : GoodIn wsX4_divide wsX2_degree := goodIn_r _ [14, 15, 16, 17, 18, 13, 19, 20, 97, 98] (by decide +kernel) (by decide +kernel)
set_option maxRecDepth 20000 in
theorem gX4_divide_X2_degree : GoodIn wsX4_divide (wsV RX4 113 RX2 yX2_degree wsX2_degree) := goodIn_app (goodIn_of _ (by decide +kernel)) ggX4_divide_X2_degree
set_option maxRecDepth 20000 in
theorem ggX4_divide_X4_divideRows : GoodIn wsX4_divide wsX4_divideRows := goodIn_r _ [24, 25, 26, 27, 28, 10, 11, 12, 13, 14, 15, 16, 17, 18, 19, 20, 29, 30, 31, 23, 32, 33, 34, 35, 36, 37, 38, 39, 40, 41, 42, 43, 44, 45, 46, 47, 48, 49, 50, 51, 52, 53, 54, 55, 56, 57, 58, 59, 60, 61, 62, 63, 64, 97, 98] (by decide +kernel) (by decide +kernel)
set_option maxRecDepth 20000 in
theorem gX4_divide_X4_divideRows : GoodIn wsX4_divide (va_wsS RX4 123 yX4_divideRows wsX4_divideRows) := goodIn_app (goodIn_of _ (by decide +kernel)) ggX4_divide_X4_divideRows
set_option maxRecDepth 20000 in
theorem ggX4_divide_X4_change : GoodIn wsX4_divide wsX4_change := goodIn_r _ [68, 69, 1, 2, 70, 71, 72, 73, 74, 75, 76, 77, 78, 79, 80, 81, 82, 83, 7, 84, 9, 85, 45, 46, 13, 47, 20, 48, 49, 50, 51, 15, 44, 86, 87, 88, 89, 90, 91, 92, 93, 94, 95, 99, 100, 96, 97, 98] (by decide +kernel) (by decide +kernel)
set_option maxRecDepth 20000 in
theorem gX4_divide_X4_change : GoodIn wsX4_divide (wsV RX4 65 RX4 yX4_change wsX4_change) := goodIn_app (goodIn_of _ (by decide +kernel)) ggX4_divide_X4_change
set_option maxRecDepth 20000 in
theorem ggX4_divide_X2_copyFrom : GoodIn wsX4_divide wsX2_copyFrom := goodIn_r _ [47, 20, 48, 49, 50, 51, 15, 97, 98] (by decide +kernel) (by decide +kernel)
set_option maxRecDepth 20000 in
theorem gX4_divide_X2_copyFrom : GoodIn wsX4_divide (wsV RX4 116 RX2 yX2_copyFrom wsX2_copyFrom) := goodIn_app (goodIn_of _ (by decide +kernel)) ggX4_divide_X2_copyFrom
theorem dX4_divide_0 : decode cX4_divide 0 = .ok (.aload_n 0, 1) := by decide +kernel
theorem dX4_divide_1 : decode cX4_divide 1 = .ok (.getfield 10, 3) := by decide +kernel
theorem dX4_divide_4 : decode cX4_divide 4 = .ok (.iload_n 1, 1) := by decide +kernel
theorem dX4_divide_5 : decode cX4_divide 5 = .ok (.invokevirtual 57, 3) := by decide +kernel
theorem dX4_divide_8 : decode cX4_divide 8 = .ok (.astore 5, 2) := by decide +kernel
theorem dX4_divide_10 : decode cX4_divide 10 = .ok (.aload_n 0, 1) := by decide +kernel
theorem dX4_divide_11 : decode cX4_divide 11 = .ok (.getfield 10, 3) := by decide +kernel
theorem dX4_divide_14 : decode cX4_divide 14 = .ok (.iload_n 2, 1) := by decide +kernel
theorem dX4_divide_15 : decode cX4_divide 15 = .ok (.invokevirtual 57, 3) := by decide +kernel
theorem dX4_divide_18 : decode cX4_divide 18 = .ok (.astore 6, 2) := by decide +kernel
theorem dX4_divide_20 : decode cX4_divide 20 = .ok (.aload_n 0, 1) := by decide +kernel
theorem dX4_divide_21 : decode cX4_divide 21 = .ok (.getfield 10, 3) := by decide +kernel
theorem dX4_divide_24 : decode cX4_divide 24 = .ok (.iload_n 3, 1) := by decide +kernel
theorem dX4_divide_25 : decode cX4_divide 25 = .ok (.invokevirtual 57, 3) := by decide +kernel
theorem dX4_divide_28 : decode cX4_divide 28 = .ok (.astore 7, 2) := by decide +kernel
theorem dX4_divide_30 : decode cX4_divide 30 = .ok (.aload_n 0, 1) := by decide +kernel
theorem dX4_divide_31 : decode cX4_divide 31 = .ok (.getfield 10, 3) := by decide +kernel
theorem dX4_divide_34 : decode cX4_divide 34 = .ok (.iload 4, 2) := by decide +kernel
theorem dX4_divide_36 : decode cX4_divide 36 = .ok (.invokevirtual 57, 3) := by decide +kernel
theorem dX4_divide_39 : decode cX4_divide 39 = .ok (.astore 8, 2) := by decide +kernel
theorem dX4_divide_41 : decode cX4_divide 41 = .ok (.aload 5, 2) := by decide +kernel
theorem dX4_divide_43 : decode cX4_divide 43 = .ok (.ifnull 18, 3) := by decide +kernel
theorem dX4_divide_46 : decode cX4_divide 46 = .ok (.aload 6, 2) := by decide +kernel
theorem dX4_divide_48 : decode cX4_divide 48 = .ok (.ifnull 13, 3) := by decide +kernel
theorem dX4_divide_51 : decode cX4_divide 51 = .ok (.aload 7, 2) := by decide +kernel
theorem dX4_divide_53 : decode cX4_divide 53 = .ok (.ifnull 8, 3) := by decide +kernel
theorem dX4_divide_56 : decode cX4_divide 56 = .ok (.aload 8, 2) := by decide +kernel
theorem dX4_divide_58 : decode cX4_divide 58 = .ok (.ifnonnull 5, 3) := by decide +kernel
theorem dX4_divide_61 : decode cX4_divide 61 = .ok (.iconst (-1), 1) := by decide +kernel
theorem dX4_divide_62 : decode cX4_divide 62 = .ok (.ireturn, 1) := by decide +kernel
theorem dX4_divide_63 : decode cX4_divide 63 = .ok (.iload_n 3, 1) := by decide +kernel
theorem dX4_divide_64 : decode cX4_divide 64 = .ok (.iload 4, 2) := by decide +kernel
theorem dX4_divide_66 : decode cX4_divide 66 = .ok (.if_icmp .ne 6, 3) := by decide +kernel
theorem dX4_divide_69 : decode cX4_divide 69 = .ok (.bipush (-2), 2) := by decide +kernel
theorem dX4_divide_71 : decode cX4_divide 71 = .ok (.ireturn, 1) := by decide +kernel
theorem dX4_divide_72 : decode cX4_divide 72 = .ok (.aload 6, 2) := by decide +kernel
theorem dX4_divide_74 : decode cX4_divide 74 = .ok (.invokevirtual 113, 3) := by decide +kernel
theorem dX4_divide_77 : decode cX4_divide 77 = .ok (.bipush (-6), 2) := by decide +kernel
theorem dX4_divide_79 : decode cX4_divide 79 = .ok (.if_icmp .ne 6, 3) := by decide +kernel
theorem dX4_divide_82 : decode cX4_divide 82 = .ok (.bipush (-5), 2) := by decide +kernel
theorem dX4_divide_84 : decode cX4_divide 84 = .ok (.ireturn, 1) := by decide +kernel
theorem dX4_divide_85 : decode cX4_divide 85 = .ok (.aload 5, 2) := by decide +kernel
theorem dX4_divide_87 : decode cX4_divide 87 = .ok (.aload 6, 2) := by decide +kernel
theorem dX4_divide_89 : decode cX4_divide 89 = .ok (.aload_n 0, 1) := by decide +kernel
theorem dX4_divide_90 : decode cX4_divide 90 = .ok (.getfield 41, 3) := by decide +kernel
theorem dX4_divide_93 : decode cX4_divide 93 = .ok (.aload_n 0, 1) := by decide +kernel
theorem dX4_divide_94 : decode cX4_divide 94 = .ok (.getfield 45, 3) := by decide +kernel
theorem dX4_divide_97 : decode cX4_divide 97 = .ok (.invokestatic 123, 3) := by decide +kernel
theorem dX4_divide_100 : decode cX4_divide 100 = .ok (.aload_n 0, 1) := by decide +kernel
theorem dX4_divide_101 : decode cX4_divide 101 = .ok (.aload 7, 2) := by decide +kernel
theorem dX4_divide_103 : decode cX4_divide 103 = .ok (.invokevirtual 65, 3) := by decide +kernel
theorem dX4_divide_106 : decode cX4_divide 106 = .ok (.aload 8, 2) := by decide +kernel
theorem dX4_divide_108 : decode cX4_divide 108 = .ok (.aload_n 0, 1) := by decide +kernel
theorem dX4_divide_109 : decode cX4_divide 109 = .ok (.getfield 45, 3) := by decide +kernel
theorem dX4_divide_112 : decode cX4_divide 112 = .ok (.invokevirtual 116, 3) := by decide +kernel
theorem dX4_divide_115 : decode cX4_divide 115 = .ok (.aload 8, 2) := by decide +kernel
theorem dX4_divide_117 : decode cX4_divide 117 = .ok (.invokevirtual 113, 3) := by decide +kernel
theorem dX4_divide_120 : decode cX4_divide 120 = .ok (.ireturn, 1) := by decide +kernel
set_option maxRecDepth 20000 in
theorem ggX4_divisor_X3_rowOf : GoodIn wsX4_divisor wsX3_rowOf := goodIn_r _ [6, 7, 107] (by decide +kernel) (by decide +kernel)
set_option maxRecDepth 20000 in
theorem gX4_divisor_X3_rowOf : GoodIn wsX4_divisor (wsV RX4 57 RX3 yX3_rowOf wsX3_rowOf) := goodIn_app (goodIn_of _ (by decide +kernel)) ggX4_divisor_X3_rowOf
set_option maxRecDepth 20000 in
theorem ggX4_divisor_X2_degree : GoodIn wsX4_divisor wsX2_degree := goodIn_r _ [12, 13, 14, 15, 16, 11, 17, 18, 108, 109] (by decide +kernel) (by decide +kernel)
set_option maxRecDepth 20000 in
theorem gX4_divisor_X2_degree : GoodIn wsX4_divisor (wsV RX4 113 RX2 yX2_degree wsX2_degree) := goodIn_app (goodIn_of _ (by decide +kernel)) ggX4_divisor_X2_degree
set_option maxRecDepth 20000 in
theorem ggX4_divisor_X4_makeGreatestDivisor : GoodIn wsX4_divisor wsX4_makeGreatestDivisor := goodIn_r _ [23, 24, 25, 26, 27, 28, 29, 30, 31, 11, 32, 18, 33, 34, 35, 36, 13, 8, 9, 10, 12, 14, 15, 16, 17, 37, 38, 22, 39, 40, 41, 42, 43, 44, 45, 46, 47, 48, 49, 50, 51, 52, 53, 54, 55, 56, 57, 58, 59, 60, 61, 62, 63, 64, 65, 66, 67, 68, 69, 70, 71, 72, 73, 74, 75, 97, 98, 99, 100, 101, 102, 103, 104, 105, 106, 108, 109] (by decide +kernel) (by decide +kernel)
set_option maxRecDepth 20000 in
theorem gX4_divisor_X4_makeGreatestDivisor : GoodIn wsX4_divisor (wsV RX4 127 RX4 yX4_makeGreatestDivisor wsX4_makeGreatestDivisor) := goodIn_app (goodIn_of _ (by decide +kernel)) ggX4_divisor_X4_makeGreatestDivisor
set_option maxRecDepth 20000 in
theorem ggX4_divisor_X4_change : GoodIn wsX4_divisor wsX4_change := goodIn_r _ [79, 80, 1, 28, 81, 82, 83, 84, 85, 86, 87, 88, 89, 90, 91, 92, 93, 94, 5, 95, 7, 96, 30, 31, 11, 32, 18, 33, 34, 35, 36, 13, 29, 97, 98, 99, 100, 101, 102, 103, 104, 105, 106, 110, 111, 107, 108, 109] (by decide +kernel) (by decide +kernel)
set_option maxRecDepth 20000 in
theorem gX4_divisor_X4_change : GoodIn wsX4_divisor (wsV RX4 65 RX4 yX4_change wsX4_change) := goodIn_app (goodIn_of _ (by decide +kernel)) ggX4_divisor_X4_change
theorem dX4_divisor_0 : decode cX4_divisor 0 = .ok (.aload_n 0, 1) := by decide +kernel
theorem dX4_divisor_1 : decode cX4_divisor 1 = .ok (.getfield 10, 3) := by decide +kernel
theorem dX4_divisor_4 : decode cX4_divisor 4 = .ok (.iload_n 1, 1) := by decide +kernel
theorem dX4_divisor_5 : decode cX4_divisor 5 = .ok (.invokevirtual 57, 3) := by decide +kernel
theorem dX4_divisor_8 : decode cX4_divisor 8 = .ok (.astore 4, 2) := by decide +kernel
theorem dX4_divisor_10 : decode cX4_divisor 10 = .ok (.aload_n 0, 1) := by decide +kernel
theorem dX4_divisor_11 : decode cX4_divisor 11 = .ok (.getfield 10, 3) := by decide +kernel
theorem dX4_divisor_14 : decode cX4_divisor 14 = .ok (.iload_n 2, 1) := by decide +kernel
theorem dX4_divisor_15 : decode cX4_divisor 15 = .ok (.invokevirtual 57, 3) := by decide +kernel
theorem dX4_divisor_18 : decode cX4_divisor 18 = .ok (.astore 5, 2) := by decide +kernel
theorem dX4_divisor_20 : decode cX4_divisor 20 = .ok (.aload_n 0, 1) := by decide +kernel
theorem dX4_divisor_21 : decode cX4_divisor 21 = .ok (.getfield 10, 3) := by decide +kernel
theorem dX4_divisor_24 : decode cX4_divisor 24 = .ok (.iload_n 3, 1) := by decide +kernel
theorem dX4_divisor_25 : decode cX4_divisor 25 = .ok (.invokevirtual 57, 3) := by decide +kernel
theorem dX4_divisor_28 : decode cX4_divisor 28 = .ok (.astore 6, 2) := by decide +kernel
theorem dX4_divisor_30 : decode cX4_divisor 30 = .ok (.aload 4, 2) := by decide +kernel
theorem dX4_divisor_32 : decode cX4_divisor 32 = .ok (.ifnull 13, 3) := by decide +kernel
theorem dX4_divisor_35 : decode cX4_divisor 35 = .ok (.aload 5, 2) := by decide +kernel
theorem dX4_divisor_37 : decode cX4_divisor 37 = .ok (.ifnull 8, 3) := by decide +kernel
theorem dX4_divisor_40 : decode cX4_divisor 40 = .ok (.aload 6, 2) := by decide +kernel
theorem dX4_divisor_42 : decode cX4_divisor 42 = .ok (.ifnonnull 5, 3) := by decide +kernel
theorem dX4_divisor_45 : decode cX4_divisor 45 = .ok (.iconst (-1), 1) := by decide +kernel
theorem dX4_divisor_46 : decode cX4_divisor 46 = .ok (.ireturn, 1) := by decide +kernel
theorem dX4_divisor_47 : decode cX4_divisor 47 = .ok (.aload 4, 2) := by decide +kernel
theorem dX4_divisor_49 : decode cX4_divisor 49 = .ok (.invokevirtual 113, 3) := by decide +kernel
theorem dX4_divisor_52 : decode cX4_divisor 52 = .ok (.bipush (-6), 2) := by decide +kernel
theorem dX4_divisor_54 : decode cX4_divisor 54 = .ok (.if_icmp .ne 16, 3) := by decide +kernel
theorem dX4_divisor_57 : decode cX4_divisor 57 = .ok (.aload 5, 2) := by decide +kernel
theorem dX4_divisor_59 : decode cX4_divisor 59 = .ok (.invokevirtual 113, 3) := by decide +kernel
theorem dX4_divisor_62 : decode cX4_divisor 62 = .ok (.bipush (-6), 2) := by decide +kernel
theorem dX4_divisor_64 : decode cX4_divisor 64 = .ok (.if_icmp .ne 6, 3) := by decide +kernel
theorem dX4_divisor_67 : decode cX4_divisor 67 = .ok (.bipush (-5), 2) := by decide +kernel
theorem dX4_divisor_69 : decode cX4_divisor 69 = .ok (.ireturn, 1) := by decide +kernel
theorem dX4_divisor_70 : decode cX4_divisor 70 = .ok (.aload_n 0, 1) := by decide +kernel
theorem dX4_divisor_71 : decode cX4_divisor 71 = .ok (.aload 4, 2) := by decide +kernel
theorem dX4_divisor_73 : decode cX4_divisor 73 = .ok (.aload 5, 2) := by decide +kernel
theorem dX4_divisor_75 : decode cX4_divisor 75 = .ok (.invokevirtual 127, 3) := by decide +kernel
theorem dX4_divisor_78 : decode cX4_divisor 78 = .ok (.aload_n 0, 1) := by decide +kernel
theorem dX4_divisor_79 : decode cX4_divisor 79 = .ok (.aload 6, 2) := by decide +kernel
theorem dX4_divisor_81 : decode cX4_divisor 81 = .ok (.invokevirtual 65, 3) := by decide +kernel
theorem dX4_divisor_84 : decode cX4_divisor 84 = .ok (.aload 6, 2) := by decide +kernel
theorem dX4_divisor_86 : decode cX4_divisor 86 = .ok (.invokevirtual 113, 3) := by decide +kernel
theorem dX4_divisor_89 : decode cX4_divisor 89 = .ok (.ireturn, 1) := by decide +kernel
set_option maxRecDepth 20000 in
theorem ggX4_turn_X3_rowOf : GoodIn wsX4_turn wsX3_rowOf := goodIn_r _ [7, 8, 93] (by decide +kernel) (by decide +kernel)
set_option maxRecDepth 20000 in
theorem gX4_turn_X3_rowOf : GoodIn wsX4_turn (wsV RX4 57 RX3 yX3_rowOf wsX3_rowOf) := goodIn_app (goodIn_of _ (by decide +kernel)) ggX4_turn_X3_rowOf
set_option maxRecDepth 20000 in
theorem ggX4_turn_X4_pointOf : GoodIn wsX4_turn wsX4_pointOf := goodIn_r _ [12, 13, 14, 11, 15] (by decide +kernel) (by decide +kernel)
set_option maxRecDepth 20000 in
theorem gX4_turn_X4_pointOf : GoodIn wsX4_turn (va_wsS RX4 131 yX4_pointOf wsX4_pointOf) := goodIn_app (goodIn_of _ (by decide +kernel)) ggX4_turn_X4_pointOf
set_option maxRecDepth 20000 in
theorem ggX4_turn_X2_length : GoodIn wsX4_turn wsX2_length := goodIn_r _ [20, 21, 94, 95] (by decide +kernel) (by decide +kernel)
set_option maxRecDepth 20000 in
theorem gX4_turn_X2_length : GoodIn wsX4_turn (wsV RX4 72 RX2 yX2_length wsX2_length) := goodIn_app (goodIn_of _ (by decide +kernel)) ggX4_turn_X2_length
set_option maxRecDepth 20000 in
theorem ggX4_turn_X4_turnAround : GoodIn wsX4_turn wsX4_turnAround := goodIn_r _ [24, 25, 26, 27, 19, 28, 29, 21, 30, 31, 32, 33, 34, 35, 36, 37, 38, 39, 40, 41, 42, 43, 44, 45, 46, 47, 48, 49, 94, 95] (by decide +kernel) (by decide +kernel)
set_option maxRecDepth 20000 in
theorem gX4_turn_X4_turnAround : GoodIn wsX4_turn (va_wsS RX4 134 yX4_turnAround wsX4_turnAround) := goodIn_app (goodIn_of _ (by decide +kernel)) ggX4_turn_X4_turnAround
set_option maxRecDepth 20000 in
theorem ggX4_turn_X4_change : GoodIn wsX4_turn wsX4_change := goodIn_r _ [53, 54, 1, 2, 55, 56, 57, 58, 59, 60, 61, 62, 63, 64, 65, 66, 67, 68, 6, 69, 8, 70, 71, 72, 19, 73, 29, 74, 75, 76, 77, 21, 78, 83, 84, 85, 86, 87, 88, 89, 90, 91, 92, 96, 97, 93, 94, 95] (by decide +kernel) (by decide +kernel)
set_option maxRecDepth 20000 in
theorem gX4_turn_X4_change : GoodIn wsX4_turn (wsV RX4 65 RX4 yX4_change wsX4_change) := goodIn_app (goodIn_of _ (by decide +kernel)) ggX4_turn_X4_change
set_option maxRecDepth 20000 in
theorem ggX4_turn_X2_countNotZero : GoodIn wsX4_turn wsX2_countNotZero := goodIn_r _ [82, 21, 38, 39, 40, 19, 41, 29, 94, 95] (by decide +kernel) (by decide +kernel)
set_option maxRecDepth 20000 in
theorem gX4_turn_X2_countNotZero : GoodIn wsX4_turn (wsV RX4 138 RX2 yX2_countNotZero wsX2_countNotZero) := goodIn_app (goodIn_of _ (by decide +kernel)) ggX4_turn_X2_countNotZero
theorem dX4_turn_0 : decode cX4_turn 0 = .ok (.aload_n 0, 1) := by decide +kernel
theorem dX4_turn_1 : decode cX4_turn 1 = .ok (.getfield 10, 3) := by decide +kernel
theorem dX4_turn_4 : decode cX4_turn 4 = .ok (.iload_n 1, 1) := by decide +kernel
theorem dX4_turn_5 : decode cX4_turn 5 = .ok (.invokevirtual 57, 3) := by decide +kernel
theorem dX4_turn_8 : decode cX4_turn 8 = .ok (.astore 4, 2) := by decide +kernel
theorem dX4_turn_10 : decode cX4_turn 10 = .ok (.aload_n 0, 1) := by decide +kernel
theorem dX4_turn_11 : decode cX4_turn 11 = .ok (.getfield 10, 3) := by decide +kernel
theorem dX4_turn_14 : decode cX4_turn 14 = .ok (.iload_n 3, 1) := by decide +kernel
theorem dX4_turn_15 : decode cX4_turn 15 = .ok (.invokevirtual 57, 3) := by decide +kernel
theorem dX4_turn_18 : decode cX4_turn 18 = .ok (.astore 5, 2) := by decide +kernel
theorem dX4_turn_20 : decode cX4_turn 20 = .ok (.aload 4, 2) := by decide +kernel
theorem dX4_turn_22 : decode cX4_turn 22 = .ok (.ifnull 8, 3) := by decide +kernel
theorem dX4_turn_25 : decode cX4_turn 25 = .ok (.aload 5, 2) := by decide +kernel
theorem dX4_turn_27 : decode cX4_turn 27 = .ok (.ifnonnull 5, 3) := by decide +kernel
theorem dX4_turn_30 : decode cX4_turn 30 = .ok (.iconst (-1), 1) := by decide +kernel
theorem dX4_turn_31 : decode cX4_turn 31 = .ok (.ireturn, 1) := by decide +kernel
theorem dX4_turn_32 : decode cX4_turn 32 = .ok (.iload_n 2, 1) := by decide +kernel
theorem dX4_turn_33 : decode cX4_turn 33 = .ok (.invokestatic 131, 3) := by decide +kernel
theorem dX4_turn_36 : decode cX4_turn 36 = .ok (.istore 6, 2) := by decide +kernel
theorem dX4_turn_38 : decode cX4_turn 38 = .ok (.iload 6, 2) := by decide +kernel
theorem dX4_turn_40 : decode cX4_turn 40 = .ok (.bipush (-6), 2) := by decide +kernel
theorem dX4_turn_42 : decode cX4_turn 42 = .ok (.if_icmp .ne 6, 3) := by decide +kernel
theorem dX4_turn_45 : decode cX4_turn 45 = .ok (.bipush (-2), 2) := by decide +kernel
theorem dX4_turn_47 : decode cX4_turn 47 = .ok (.ireturn, 1) := by decide +kernel
theorem dX4_turn_48 : decode cX4_turn 48 = .ok (.aload 4, 2) := by decide +kernel
theorem dX4_turn_50 : decode cX4_turn 50 = .ok (.invokevirtual 72, 3) := by decide +kernel
theorem dX4_turn_53 : decode cX4_turn 53 = .ok (.iload_n 2, 1) := by decide +kernel
theorem dX4_turn_54 : decode cX4_turn 54 = .ok (.if_icmp .le 6, 3) := by decide +kernel
theorem dX4_turn_57 : decode cX4_turn 57 = .ok (.bipush (-5), 2) := by decide +kernel
theorem dX4_turn_59 : decode cX4_turn 59 = .ok (.ireturn, 1) := by decide +kernel
theorem dX4_turn_60 : decode cX4_turn 60 = .ok (.aload 4, 2) := by decide +kernel
theorem dX4_turn_62 : decode cX4_turn 62 = .ok (.iload_n 2, 1) := by decide +kernel
theorem dX4_turn_63 : decode cX4_turn 63 = .ok (.iload 6, 2) := by decide +kernel
theorem dX4_turn_65 : decode cX4_turn 65 = .ok (.aload_n 0, 1) := by decide +kernel
theorem dX4_turn_66 : decode cX4_turn 66 = .ok (.getfield 41, 3) := by decide +kernel
theorem dX4_turn_69 : decode cX4_turn 69 = .ok (.invokestatic 134, 3) := by decide +kernel
theorem dX4_turn_72 : decode cX4_turn 72 = .ok (.aload_n 0, 1) := by decide +kernel
theorem dX4_turn_73 : decode cX4_turn 73 = .ok (.aload 5, 2) := by decide +kernel
theorem dX4_turn_75 : decode cX4_turn 75 = .ok (.invokevirtual 65, 3) := by decide +kernel
theorem dX4_turn_78 : decode cX4_turn 78 = .ok (.aload 5, 2) := by decide +kernel
theorem dX4_turn_80 : decode cX4_turn 80 = .ok (.invokevirtual 72, 3) := by decide +kernel
theorem dX4_turn_83 : decode cX4_turn 83 = .ok (.aload 5, 2) := by decide +kernel
theorem dX4_turn_85 : decode cX4_turn 85 = .ok (.invokevirtual 138, 3) := by decide +kernel
theorem dX4_turn_88 : decode cX4_turn 88 = .ok (.isub, 1) := by decide +kernel
theorem dX4_turn_89 : decode cX4_turn 89 = .ok (.ireturn, 1) := by decide +kernel
set_option maxRecDepth 20000 in
theorem ggX4_turnBack_X3_rowOf : GoodIn wsX4_turnBack wsX3_rowOf := goodIn_r _ [7, 8, 101] (by decide +kernel) (by decide +kernel)
set_option maxRecDepth 20000 in
theorem gX4_turnBack_X3_rowOf : GoodIn wsX4_turnBack (wsV RX4 57 RX3 yX3_rowOf wsX3_rowOf) := goodIn_app (goodIn_of _ (by decide +kernel)) ggX4_turnBack_X3_rowOf
set_option maxRecDepth 20000 in
theorem ggX4_turnBack_X2_length : GoodIn wsX4_turnBack wsX2_length := goodIn_r _ [13, 14, 102, 103] (by decide +kernel) (by decide +kernel)
set_option maxRecDepth 20000 in
theorem gX4_turnBack_X2_length : GoodIn wsX4_turnBack (wsV RX4 72 RX2 yX2_length wsX2_length) := goodIn_app (goodIn_of _ (by decide +kernel)) ggX4_turnBack_X2_length
set_option maxRecDepth 20000 in
theorem ggX4_turnBack_X4_pointOf : GoodIn wsX4_turnBack wsX4_pointOf := goodIn_r _ [18, 19, 20, 17, 21] (by decide +kernel) (by decide +kernel)
set_option maxRecDepth 20000 in
theorem gX4_turnBack_X4_pointOf : GoodIn wsX4_turnBack (va_wsS RX4 131 yX4_pointOf wsX4_pointOf) := goodIn_app (goodIn_of _ (by decide +kernel)) ggX4_turnBack_X4_pointOf
set_option maxRecDepth 20000 in
theorem ggX4_turnBack_X4_inverseOf : GoodIn wsX4_turnBack wsX4_inverseOf := goodIn_r _ [24, 19, 20, 17, 21] (by decide +kernel) (by decide +kernel)
set_option maxRecDepth 20000 in
theorem gX4_turnBack_X4_inverseOf : GoodIn wsX4_turnBack (va_wsS RX4 141 yX4_inverseOf wsX4_inverseOf) := goodIn_app (goodIn_of _ (by decide +kernel)) ggX4_turnBack_X4_inverseOf
set_option maxRecDepth 20000 in
theorem ggX4_turnBack_X4_turnAround : GoodIn wsX4_turnBack wsX4_turnAround := goodIn_r _ [27, 28, 29, 30, 12, 31, 32, 14, 33, 34, 35, 36, 37, 38, 39, 40, 41, 42, 43, 44, 45, 46, 47, 48, 49, 50, 51, 52, 102, 103] (by decide +kernel) (by decide +kernel)
set_option maxRecDepth 20000 in
theorem gX4_turnBack_X4_turnAround : GoodIn wsX4_turnBack (va_wsS RX4 134 yX4_turnAround wsX4_turnAround) := goodIn_app (goodIn_of _ (by decide +kernel)) ggX4_turnBack_X4_turnAround
set_option maxRecDepth 20000 in
theorem ggX4_turnBack_X2_scale : GoodIn wsX4_turnBack wsX2_scale := goodIn_r _ [56, 14, 41, 42, 43, 12, 44, 32, 57, 46, 47, 48, 49, 50, 51, 52, 102, 103] (by decide +kernel) (by decide +kernel)
set_option maxRecDepth 20000 in
theorem gX4_turnBack_X2_scale : GoodIn wsX4_turnBack (wsV RX4 144 RX2 yX2_scale wsX2_scale) := goodIn_app (goodIn_of _ (by decide +kernel)) ggX4_turnBack_X2_scale
set_option maxRecDepth 20000 in
theorem ggX4_turnBack_X4_change : GoodIn wsX4_turnBack wsX4_change := goodIn_r _ [61, 62, 1, 2, 63, 64, 65, 66, 67, 68, 69, 70, 71, 72, 73, 74, 75, 76, 6, 77, 8, 78, 79, 80, 12, 81, 32, 82, 83, 84, 85, 14, 86, 91, 92, 93, 94, 95, 96, 97, 98, 99, 100, 104, 105, 101, 102, 103] (by decide +kernel) (by decide +kernel)
set_option maxRecDepth 20000 in
theorem gX4_turnBack_X4_change : GoodIn wsX4_turnBack (wsV RX4 65 RX4 yX4_change wsX4_change) := goodIn_app (goodIn_of _ (by decide +kernel)) ggX4_turnBack_X4_change
set_option maxRecDepth 20000 in
theorem ggX4_turnBack_X2_degree : GoodIn wsX4_turnBack wsX2_degree := goodIn_r _ [90, 14, 41, 42, 43, 12, 44, 32, 102, 103] (by decide +kernel) (by decide +kernel)
set_option maxRecDepth 20000 in
theorem gX4_turnBack_X2_degree : GoodIn wsX4_turnBack (wsV RX4 113 RX2 yX2_degree wsX2_degree) := goodIn_app (goodIn_of _ (by decide +kernel)) ggX4_turnBack_X2_degree
theorem dX4_turnBack_0 : decode cX4_turnBack 0 = .ok (.aload_n 0, 1) := by decide +kernel
theorem dX4_turnBack_1 : decode cX4_turnBack 1 = .ok (.getfield 10, 3) := by decide +kernel
theorem dX4_turnBack_4 : decode cX4_turnBack 4 = .ok (.iload_n 1, 1) := by decide +kernel
theorem dX4_turnBack_5 : decode cX4_turnBack 5 = .ok (.invokevirtual 57, 3) := by decide +kernel
theorem dX4_turnBack_8 : decode cX4_turnBack 8 = .ok (.astore_n 3, 1) := by decide +kernel
theorem dX4_turnBack_9 : decode cX4_turnBack 9 = .ok (.aload_n 0, 1) := by decide +kernel
theorem dX4_turnBack_10 : decode cX4_turnBack 10 = .ok (.getfield 10, 3) := by decide +kernel
theorem dX4_turnBack_13 : decode cX4_turnBack 13 = .ok (.iload_n 2, 1) := by decide +kernel
theorem dX4_turnBack_14 : decode cX4_turnBack 14 = .ok (.invokevirtual 57, 3) := by decide +kernel
theorem dX4_turnBack_17 : decode cX4_turnBack 17 = .ok (.astore 4, 2) := by decide +kernel
theorem dX4_turnBack_19 : decode cX4_turnBack 19 = .ok (.aload_n 3, 1) := by decide +kernel
theorem dX4_turnBack_20 : decode cX4_turnBack 20 = .ok (.ifnull 8, 3) := by decide +kernel
theorem dX4_turnBack_23 : decode cX4_turnBack 23 = .ok (.aload 4, 2) := by decide +kernel
theorem dX4_turnBack_25 : decode cX4_turnBack 25 = .ok (.ifnonnull 5, 3) := by decide +kernel
theorem dX4_turnBack_28 : decode cX4_turnBack 28 = .ok (.iconst (-1), 1) := by decide +kernel
theorem dX4_turnBack_29 : decode cX4_turnBack 29 = .ok (.ireturn, 1) := by decide +kernel
theorem dX4_turnBack_30 : decode cX4_turnBack 30 = .ok (.aload_n 3, 1) := by decide +kernel
theorem dX4_turnBack_31 : decode cX4_turnBack 31 = .ok (.invokevirtual 72, 3) := by decide +kernel
theorem dX4_turnBack_34 : decode cX4_turnBack 34 = .ok (.istore 5, 2) := by decide +kernel
theorem dX4_turnBack_36 : decode cX4_turnBack 36 = .ok (.iload 5, 2) := by decide +kernel
theorem dX4_turnBack_38 : decode cX4_turnBack 38 = .ok (.invokestatic 131, 3) := by decide +kernel
theorem dX4_turnBack_41 : decode cX4_turnBack 41 = .ok (.istore 6, 2) := by decide +kernel
theorem dX4_turnBack_43 : decode cX4_turnBack 43 = .ok (.iload 6, 2) := by decide +kernel
theorem dX4_turnBack_45 : decode cX4_turnBack 45 = .ok (.bipush (-6), 2) := by decide +kernel
theorem dX4_turnBack_47 : decode cX4_turnBack 47 = .ok (.if_icmp .ne 6, 3) := by decide +kernel
theorem dX4_turnBack_50 : decode cX4_turnBack 50 = .ok (.bipush (-5), 2) := by decide +kernel
theorem dX4_turnBack_52 : decode cX4_turnBack 52 = .ok (.ireturn, 1) := by decide +kernel
theorem dX4_turnBack_53 : decode cX4_turnBack 53 = .ok (.aload_n 3, 1) := by decide +kernel
theorem dX4_turnBack_54 : decode cX4_turnBack 54 = .ok (.iload 5, 2) := by decide +kernel
theorem dX4_turnBack_56 : decode cX4_turnBack 56 = .ok (.iload 6, 2) := by decide +kernel
theorem dX4_turnBack_58 : decode cX4_turnBack 58 = .ok (.invokestatic 141, 3) := by decide +kernel
theorem dX4_turnBack_61 : decode cX4_turnBack 61 = .ok (.aload_n 0, 1) := by decide +kernel
theorem dX4_turnBack_62 : decode cX4_turnBack 62 = .ok (.getfield 41, 3) := by decide +kernel
theorem dX4_turnBack_65 : decode cX4_turnBack 65 = .ok (.invokestatic 134, 3) := by decide +kernel
theorem dX4_turnBack_68 : decode cX4_turnBack 68 = .ok (.aload_n 0, 1) := by decide +kernel
theorem dX4_turnBack_69 : decode cX4_turnBack 69 = .ok (.getfield 41, 3) := by decide +kernel
theorem dX4_turnBack_72 : decode cX4_turnBack 72 = .ok (.iload 5, 2) := by decide +kernel
theorem dX4_turnBack_74 : decode cX4_turnBack 74 = .ok (.invokestatic 141, 3) := by decide +kernel
theorem dX4_turnBack_77 : decode cX4_turnBack 77 = .ok (.invokevirtual 144, 3) := by decide +kernel
theorem dX4_turnBack_80 : decode cX4_turnBack 80 = .ok (.aload_n 0, 1) := by decide +kernel
theorem dX4_turnBack_81 : decode cX4_turnBack 81 = .ok (.aload 4, 2) := by decide +kernel
theorem dX4_turnBack_83 : decode cX4_turnBack 83 = .ok (.invokevirtual 65, 3) := by decide +kernel
theorem dX4_turnBack_86 : decode cX4_turnBack 86 = .ok (.aload 4, 2) := by decide +kernel
theorem dX4_turnBack_88 : decode cX4_turnBack 88 = .ok (.invokevirtual 113, 3) := by decide +kernel
theorem dX4_turnBack_91 : decode cX4_turnBack 91 = .ok (.ireturn, 1) := by decide +kernel
set_option maxRecDepth 20000 in
theorem ggX4_number_X3_rowOf : GoodIn wsX4_number wsX3_rowOf := goodIn_r _ [6, 7, 29] (by decide +kernel) (by decide +kernel)
set_option maxRecDepth 20000 in
theorem gX4_number_X3_rowOf : GoodIn wsX4_number (wsV RX4 57 RX3 yX3_rowOf wsX3_rowOf) := goodIn_app (goodIn_of _ (by decide +kernel)) ggX4_number_X3_rowOf
set_option maxRecDepth 20000 in
theorem ggX4_number_X2_length : GoodIn wsX4_number wsX2_length := goodIn_r _ [12, 13, 30, 31] (by decide +kernel) (by decide +kernel)
set_option maxRecDepth 20000 in
theorem gX4_number_X2_length : GoodIn wsX4_number (wsV RX4 72 RX2 yX2_length wsX2_length) := goodIn_app (goodIn_of _ (by decide +kernel)) ggX4_number_X2_length
set_option maxRecDepth 20000 in
theorem ggX4_number_X2_at : GoodIn wsX4_number wsX2_at := goodIn_r _ [17, 18, 30, 31] (by decide +kernel) (by decide +kernel)
set_option maxRecDepth 20000 in
theorem gX4_number_X2_at : GoodIn wsX4_number (wsV RX4 101 RX2 yX2_at wsX2_at) := goodIn_app (goodIn_of _ (by decide +kernel)) ggX4_number_X2_at
theorem dX4_number_0 : decode cX4_number 0 = .ok (.aload_n 0, 1) := by decide +kernel
theorem dX4_number_1 : decode cX4_number 1 = .ok (.getfield 10, 3) := by decide +kernel
theorem dX4_number_4 : decode cX4_number 4 = .ok (.iload_n 1, 1) := by decide +kernel
theorem dX4_number_5 : decode cX4_number 5 = .ok (.invokevirtual 57, 3) := by decide +kernel
theorem dX4_number_8 : decode cX4_number 8 = .ok (.astore_n 3, 1) := by decide +kernel
theorem dX4_number_9 : decode cX4_number 9 = .ok (.aload_n 3, 1) := by decide +kernel
theorem dX4_number_10 : decode cX4_number 10 = .ok (.ifnull 15, 3) := by decide +kernel
theorem dX4_number_13 : decode cX4_number 13 = .ok (.iload_n 2, 1) := by decide +kernel
theorem dX4_number_14 : decode cX4_number 14 = .ok (.ifCond .lt 11, 3) := by decide +kernel
theorem dX4_number_17 : decode cX4_number 17 = .ok (.iload_n 2, 1) := by decide +kernel
theorem dX4_number_18 : decode cX4_number 18 = .ok (.aload_n 3, 1) := by decide +kernel
theorem dX4_number_19 : decode cX4_number 19 = .ok (.invokevirtual 72, 3) := by decide +kernel
theorem dX4_number_22 : decode cX4_number 22 = .ok (.if_icmp .lt 5, 3) := by decide +kernel
theorem dX4_number_25 : decode cX4_number 25 = .ok (.iconst (-1), 1) := by decide +kernel
theorem dX4_number_26 : decode cX4_number 26 = .ok (.ireturn, 1) := by decide +kernel
theorem dX4_number_27 : decode cX4_number 27 = .ok (.aload_n 3, 1) := by decide +kernel
theorem dX4_number_28 : decode cX4_number 28 = .ok (.iload_n 2, 1) := by decide +kernel
theorem dX4_number_29 : decode cX4_number 29 = .ok (.invokevirtual 101, 3) := by decide +kernel
theorem dX4_number_32 : decode cX4_number 32 = .ok (.ireturn, 1) := by decide +kernel
set_option maxRecDepth 20000 in
theorem ggX4_of_X3_rowOf : GoodIn wsX4_of wsX3_rowOf := goodIn_r _ [6, 7, 53] (by decide +kernel) (by decide +kernel)
set_option maxRecDepth 20000 in
theorem gX4_of_X3_rowOf : GoodIn wsX4_of (wsV RX4 57 RX3 yX3_rowOf wsX3_rowOf) := goodIn_app (goodIn_of _ (by decide +kernel)) ggX4_of_X3_rowOf
set_option maxRecDepth 20000 in
theorem ggX4_of_X2_length : GoodIn wsX4_of wsX2_length := goodIn_r _ [12, 13, 54, 55] (by decide +kernel) (by decide +kernel)
set_option maxRecDepth 20000 in
theorem gX4_of_X2_length : GoodIn wsX4_of (wsV RX4 72 RX2 yX2_length wsX2_length) := goodIn_app (goodIn_of _ (by decide +kernel)) ggX4_of_X2_length
set_option maxRecDepth 20000 in
theorem ggX4_of_X2_degree : GoodIn wsX4_of wsX2_degree := goodIn_r _ [17, 13, 18, 19, 20, 11, 21, 22, 54, 55] (by decide +kernel) (by decide +kernel)
set_option maxRecDepth 20000 in
theorem gX4_of_X2_degree : GoodIn wsX4_of (wsV RX4 113 RX2 yX2_degree wsX2_degree) := goodIn_app (goodIn_of _ (by decide +kernel)) ggX4_of_X2_degree
set_option maxRecDepth 20000 in
theorem ggX4_of_X2_countNotZero : GoodIn wsX4_of wsX2_countNotZero := goodIn_r _ [26, 13, 18, 19, 20, 11, 21, 22, 54, 55] (by decide +kernel) (by decide +kernel)
set_option maxRecDepth 20000 in
theorem gX4_of_X2_countNotZero : GoodIn wsX4_of (wsV RX4 138 RX2 yX2_countNotZero wsX2_countNotZero) := goodIn_app (goodIn_of _ (by decide +kernel)) ggX4_of_X2_countNotZero
set_option maxRecDepth 20000 in
theorem ggX4_of_X2_total : GoodIn wsX4_of wsX2_total := goodIn_r _ [30, 13, 18, 19, 20, 11, 21, 22, 54, 55] (by decide +kernel) (by decide +kernel)
set_option maxRecDepth 20000 in
theorem gX4_of_X2_total : GoodIn wsX4_of (wsV RX4 147 RX2 yX2_total wsX2_total) := goodIn_app (goodIn_of _ (by decide +kernel)) ggX4_of_X2_total
set_option maxRecDepth 20000 in
theorem ggX4_of_X2_countRoots : GoodIn wsX4_of wsX2_countRoots := goodIn_r _ [34, 35, 36, 37, 11, 38, 13, 18, 19, 20, 21, 22, 54, 55] (by decide +kernel) (by decide +kernel)
set_option maxRecDepth 20000 in
theorem gX4_of_X2_countRoots : GoodIn wsX4_of (wsV RX4 150 RX2 yX2_countRoots wsX2_countRoots) := goodIn_app (goodIn_of _ (by decide +kernel)) ggX4_of_X2_countRoots
set_option maxRecDepth 20000 in
theorem ggX4_of_X2_leastRoot : GoodIn wsX4_of wsX2_leastRoot := goodIn_r _ [42, 35, 36, 37, 11, 38, 13, 18, 19, 20, 21, 22, 54, 55] (by decide +kernel) (by decide +kernel)
set_option maxRecDepth 20000 in
theorem gX4_of_X2_leastRoot : GoodIn wsX4_of (wsV RX4 153 RX2 yX2_leastRoot wsX2_leastRoot) := goodIn_app (goodIn_of _ (by decide +kernel)) ggX4_of_X2_leastRoot
theorem dX4_of_0 : decode cX4_of 0 = .ok (.aload_n 0, 1) := by decide +kernel
theorem dX4_of_1 : decode cX4_of 1 = .ok (.getfield 10, 3) := by decide +kernel
theorem dX4_of_4 : decode cX4_of 4 = .ok (.iload_n 1, 1) := by decide +kernel
theorem dX4_of_5 : decode cX4_of 5 = .ok (.invokevirtual 57, 3) := by decide +kernel
theorem dX4_of_8 : decode cX4_of 8 = .ok (.astore_n 3, 1) := by decide +kernel
theorem dX4_of_9 : decode cX4_of 9 = .ok (.aload_n 3, 1) := by decide +kernel
theorem dX4_of_10 : decode cX4_of 10 = .ok (.ifnonnull 5, 3) := by decide +kernel
theorem dX4_of_13 : decode cX4_of 13 = .ok (.iconst (-1), 1) := by decide +kernel
theorem dX4_of_14 : decode cX4_of 14 = .ok (.ireturn, 1) := by decide +kernel
theorem dX4_of_15 : decode cX4_of 15 = .ok (.iload_n 2, 1) := by decide +kernel
theorem dX4_of_16 : decode cX4_of 16 = .ok (.tableswitch 70 0 5 #[40, 45, 50, 55, 60, 65], 40) := by decide +kernel
theorem dX4_of_56 : decode cX4_of 56 = .ok (.aload_n 3, 1) := by decide +kernel
theorem dX4_of_57 : decode cX4_of 57 = .ok (.invokevirtual 72, 3) := by decide +kernel
theorem dX4_of_60 : decode cX4_of 60 = .ok (.ireturn, 1) := by decide +kernel
theorem dX4_of_61 : decode cX4_of 61 = .ok (.aload_n 3, 1) := by decide +kernel
theorem dX4_of_62 : decode cX4_of 62 = .ok (.invokevirtual 113, 3) := by decide +kernel
theorem dX4_of_65 : decode cX4_of 65 = .ok (.ireturn, 1) := by decide +kernel
theorem dX4_of_66 : decode cX4_of 66 = .ok (.aload_n 3, 1) := by decide +kernel
theorem dX4_of_67 : decode cX4_of 67 = .ok (.invokevirtual 138, 3) := by decide +kernel
theorem dX4_of_70 : decode cX4_of 70 = .ok (.ireturn, 1) := by decide +kernel
theorem dX4_of_71 : decode cX4_of 71 = .ok (.aload_n 3, 1) := by decide +kernel
theorem dX4_of_72 : decode cX4_of 72 = .ok (.invokevirtual 147, 3) := by decide +kernel
theorem dX4_of_75 : decode cX4_of 75 = .ok (.ireturn, 1) := by decide +kernel
theorem dX4_of_76 : decode cX4_of 76 = .ok (.aload_n 3, 1) := by decide +kernel
theorem dX4_of_77 : decode cX4_of 77 = .ok (.invokevirtual 150, 3) := by decide +kernel
theorem dX4_of_80 : decode cX4_of 80 = .ok (.ireturn, 1) := by decide +kernel
theorem dX4_of_81 : decode cX4_of 81 = .ok (.aload_n 3, 1) := by decide +kernel
theorem dX4_of_82 : decode cX4_of 82 = .ok (.invokevirtual 153, 3) := by decide +kernel
theorem dX4_of_85 : decode cX4_of 85 = .ok (.ireturn, 1) := by decide +kernel
theorem dX4_of_86 : decode cX4_of 86 = .ok (.bipush (-2), 2) := by decide +kernel
theorem dX4_of_88 : decode cX4_of 88 = .ok (.ireturn, 1) := by decide +kernel
set_option maxRecDepth 20000 in
theorem ggX4_value_X3_rowOf : GoodIn wsX4_value wsX3_rowOf := goodIn_r _ [6, 7, 33] (by decide +kernel) (by decide +kernel)
set_option maxRecDepth 20000 in
theorem gX4_value_X3_rowOf : GoodIn wsX4_value (wsV RX4 57 RX3 yX3_rowOf wsX3_rowOf) := goodIn_app (goodIn_of _ (by decide +kernel)) ggX4_value_X3_rowOf
set_option maxRecDepth 20000 in
theorem ggX4_value_X4_isNumber : GoodIn wsX4_value wsX4_isNumber := goodIn_r _ [11] (by decide +kernel) (by decide +kernel)
set_option maxRecDepth 20000 in
theorem gX4_value_X4_isNumber : GoodIn wsX4_value (va_wsS RX4 76 yX4_isNumber wsX4_isNumber) := goodIn_app (goodIn_of _ (by decide +kernel)) ggX4_value_X4_isNumber
set_option maxRecDepth 20000 in
theorem ggX4_value_X2_valueAt : GoodIn wsX4_value wsX2_valueAt := goodIn_r _ [16, 17, 18, 19, 20, 15, 21, 22, 34, 35] (by decide +kernel) (by decide +kernel)
set_option maxRecDepth 20000 in
theorem gX4_value_X2_valueAt : GoodIn wsX4_value (wsV RX4 156 RX2 yX2_valueAt wsX2_valueAt) := goodIn_app (goodIn_of _ (by decide +kernel)) ggX4_value_X2_valueAt
theorem dX4_value_0 : decode cX4_value 0 = .ok (.aload_n 0, 1) := by decide +kernel
theorem dX4_value_1 : decode cX4_value 1 = .ok (.getfield 10, 3) := by decide +kernel
theorem dX4_value_4 : decode cX4_value 4 = .ok (.iload_n 1, 1) := by decide +kernel
theorem dX4_value_5 : decode cX4_value 5 = .ok (.invokevirtual 57, 3) := by decide +kernel
theorem dX4_value_8 : decode cX4_value 8 = .ok (.astore_n 3, 1) := by decide +kernel
theorem dX4_value_9 : decode cX4_value 9 = .ok (.aload_n 3, 1) := by decide +kernel
theorem dX4_value_10 : decode cX4_value 10 = .ok (.ifnonnull 5, 3) := by decide +kernel
theorem dX4_value_13 : decode cX4_value 13 = .ok (.iconst (-1), 1) := by decide +kernel
theorem dX4_value_14 : decode cX4_value 14 = .ok (.ireturn, 1) := by decide +kernel
theorem dX4_value_15 : decode cX4_value 15 = .ok (.iload_n 2, 1) := by decide +kernel
theorem dX4_value_16 : decode cX4_value 16 = .ok (.invokestatic 76, 3) := by decide +kernel
theorem dX4_value_19 : decode cX4_value 19 = .ok (.ifCond .ne 6, 3) := by decide +kernel
theorem dX4_value_22 : decode cX4_value 22 = .ok (.bipush (-2), 2) := by decide +kernel
theorem dX4_value_24 : decode cX4_value 24 = .ok (.ireturn, 1) := by decide +kernel
theorem dX4_value_25 : decode cX4_value 25 = .ok (.aload_n 3, 1) := by decide +kernel
theorem dX4_value_26 : decode cX4_value 26 = .ok (.iload_n 2, 1) := by decide +kernel
theorem dX4_value_27 : decode cX4_value 27 = .ok (.invokevirtual 156, 3) := by decide +kernel
theorem dX4_value_30 : decode cX4_value 30 = .ok (.ireturn, 1) := by decide +kernel
set_option maxRecDepth 20000 in
theorem ggX4_turningPoint_X4_pointOf : GoodIn wsX4_turningPoint wsX4_pointOf := goodIn_r _ [4, 5, 6, 3, 7] (by decide +kernel) (by decide +kernel)
set_option maxRecDepth 20000 in
theorem gX4_turningPoint_X4_pointOf : GoodIn wsX4_turningPoint (va_wsS RX4 131 yX4_pointOf wsX4_pointOf) := goodIn_app (goodIn_of _ (by decide +kernel)) ggX4_turningPoint_X4_pointOf
set_option maxRecDepth 20000 in
theorem ggX4_turningPoint_X4_raise : GoodIn wsX4_turningPoint wsX4_raise := goodIn_r _ [7] (by decide +kernel) (by decide +kernel)
set_option maxRecDepth 20000 in
theorem gX4_turningPoint_X4_raise : GoodIn wsX4_turningPoint (va_wsS RX4 159 yX4_raise wsX4_raise) := goodIn_app (goodIn_of _ (by decide +kernel)) ggX4_turningPoint_X4_raise
theorem dX4_turningPoint_0 : decode cX4_turningPoint 0 = .ok (.iload_n 1, 1) := by decide +kernel
theorem dX4_turningPoint_1 : decode cX4_turningPoint 1 = .ok (.invokestatic 131, 3) := by decide +kernel
theorem dX4_turningPoint_4 : decode cX4_turningPoint 4 = .ok (.istore_n 3, 1) := by decide +kernel
theorem dX4_turningPoint_5 : decode cX4_turningPoint 5 = .ok (.iload_n 3, 1) := by decide +kernel
theorem dX4_turningPoint_6 : decode cX4_turningPoint 6 = .ok (.bipush (-6), 2) := by decide +kernel
theorem dX4_turningPoint_8 : decode cX4_turningPoint 8 = .ok (.if_icmp .eq 14, 3) := by decide +kernel
theorem dX4_turningPoint_11 : decode cX4_turningPoint 11 = .ok (.iload_n 2, 1) := by decide +kernel
theorem dX4_turningPoint_12 : decode cX4_turningPoint 12 = .ok (.ifCond .lt 10, 3) := by decide +kernel
theorem dX4_turningPoint_15 : decode cX4_turningPoint 15 = .ok (.iload_n 2, 1) := by decide +kernel
theorem dX4_turningPoint_16 : decode cX4_turningPoint 16 = .ok (.sipush 1000, 3) := by decide +kernel
theorem dX4_turningPoint_19 : decode cX4_turningPoint 19 = .ok (.if_icmp .le 6, 3) := by decide +kernel
theorem dX4_turningPoint_22 : decode cX4_turningPoint 22 = .ok (.bipush (-2), 2) := by decide +kernel
theorem dX4_turningPoint_24 : decode cX4_turningPoint 24 = .ok (.ireturn, 1) := by decide +kernel
theorem dX4_turningPoint_25 : decode cX4_turningPoint 25 = .ok (.iload_n 3, 1) := by decide +kernel
theorem dX4_turningPoint_26 : decode cX4_turningPoint 26 = .ok (.iload_n 2, 1) := by decide +kernel
theorem dX4_turningPoint_27 : decode cX4_turningPoint 27 = .ok (.invokestatic 159, 3) := by decide +kernel
theorem dX4_turningPoint_30 : decode cX4_turningPoint 30 = .ok (.ireturn, 1) := by decide +kernel
set_option maxRecDepth 20000 in
theorem ggX4_count_X3_lengths : GoodIn wsX4_count wsX3_lengths := goodIn_r _ [8, 9, 10, 11, 12, 13, 14, 15, 38, 39, 40] (by decide +kernel) (by decide +kernel)
set_option maxRecDepth 20000 in
theorem gX4_count_X3_lengths : GoodIn wsX4_count (wsV RX4 162 RX3 yX3_lengths wsX3_lengths) := goodIn_app (goodIn_of _ (by decide +kernel)) ggX4_count_X3_lengths
end
section
set_option maxRecDepth 20000 in
theorem ggX4_count_X1_length : GoodIn wsX4_count wsX1_length := goodIn_r _ [20, 21, 41, 42] (by decide +kernel) (by decide +kernel)
set_option maxRecDepth 20000 in
theorem gX4_count_X1_length : GoodIn wsX4_count (wsV RX4 165 RX1 yX1_length wsX1_length) := goodIn_app (goodIn_of _ (by decide +kernel)) ggX4_count_X1_length
set_option maxRecDepth 20000 in
theorem ggX4_count_X0_length : GoodIn wsX4_count wsX0_length := goodIn_r _ [26, 27, 43, 44] (by decide +kernel) (by decide +kernel)
set_option maxRecDepth 20000 in
theorem gX4_count_X0_length : GoodIn wsX4_count (wsV RX4 166 RX0 yX0_length wsX0_length) := goodIn_app (goodIn_of _ (by decide +kernel)) ggX4_count_X0_length
theorem dX4_count_0 : decode cX4_count 0 = .ok (.iload_n 1, 1) := by decide +kernel
theorem dX4_count_1 : decode cX4_count 1 = .ok (.tableswitch 51 0 2 #[27, 35, 43], 27) := by decide +kernel
theorem dX4_count_28 : decode cX4_count 28 = .ok (.aload_n 0, 1) := by decide +kernel
theorem dX4_count_29 : decode cX4_count 29 = .ok (.getfield 10, 3) := by decide +kernel
theorem dX4_count_32 : decode cX4_count 32 = .ok (.invokevirtual 162, 3) := by decide +kernel
theorem dX4_count_35 : decode cX4_count 35 = .ok (.ireturn, 1) := by decide +kernel
theorem dX4_count_36 : decode cX4_count 36 = .ok (.aload_n 0, 1) := by decide +kernel
theorem dX4_count_37 : decode cX4_count 37 = .ok (.getfield 26, 3) := by decide +kernel
theorem dX4_count_40 : decode cX4_count 40 = .ok (.invokevirtual 165, 3) := by decide +kernel
theorem dX4_count_43 : decode cX4_count 43 = .ok (.ireturn, 1) := by decide +kernel
theorem dX4_count_44 : decode cX4_count 44 = .ok (.aload_n 0, 1) := by decide +kernel
theorem dX4_count_45 : decode cX4_count 45 = .ok (.getfield 19, 3) := by decide +kernel
theorem dX4_count_48 : decode cX4_count 48 = .ok (.invokevirtual 166, 3) := by decide +kernel
theorem dX4_count_51 : decode cX4_count 51 = .ok (.ireturn, 1) := by decide +kernel
theorem dX4_count_52 : decode cX4_count 52 = .ok (.bipush (-2), 2) := by decide +kernel
theorem dX4_count_54 : decode cX4_count 54 = .ok (.ireturn, 1) := by decide +kernel
set_option maxRecDepth 20000 in
theorem ggX4_fits_X3_rowOf : GoodIn wsX4_fits wsX3_rowOf := goodIn_r _ [8, 9, 38] (by decide +kernel) (by decide +kernel)
set_option maxRecDepth 20000 in
theorem gX4_fits_X3_rowOf : GoodIn wsX4_fits (wsV RX4 57 RX3 yX3_rowOf wsX3_rowOf) := goodIn_app (goodIn_of _ (by decide +kernel)) ggX4_fits_X3_rowOf
set_option maxRecDepth 20000 in
theorem ggX4_fits_X4_countPlaces : GoodIn wsX4_fits wsX4_countPlaces := goodIn_r _ [13, 14, 15, 16, 17, 18, 19, 39, 40] (by decide +kernel) (by decide +kernel)
set_option maxRecDepth 20000 in
theorem gX4_fits_X4_countPlaces : GoodIn wsX4_fits (va_wsS RX4 169 yX4_countPlaces wsX4_countPlaces) := goodIn_app (goodIn_of _ (by decide +kernel)) ggX4_fits_X4_countPlaces
set_option maxRecDepth 20000 in
theorem ggX4_fits_X4_fitsAt : GoodIn wsX4_fits wsX4_fitsAt := goodIn_r _ [22, 14, 15, 16, 17, 18, 19, 23, 24, 25, 26, 27, 39, 40] (by decide +kernel) (by decide +kernel)
set_option maxRecDepth 20000 in
theorem gX4_fits_X4_fitsAt : GoodIn wsX4_fits (va_wsS RX4 174 yX4_fitsAt wsX4_fitsAt) := goodIn_app (goodIn_of _ (by decide +kernel)) ggX4_fits_X4_fitsAt
theorem dX4_fits_0 : decode cX4_fits 0 = .ok (.aload_n 0, 1) := by decide +kernel
theorem dX4_fits_1 : decode cX4_fits 1 = .ok (.getfield 10, 3) := by decide +kernel
theorem dX4_fits_4 : decode cX4_fits 4 = .ok (.iload_n 1, 1) := by decide +kernel
theorem dX4_fits_5 : decode cX4_fits 5 = .ok (.invokevirtual 57, 3) := by decide +kernel
theorem dX4_fits_8 : decode cX4_fits 8 = .ok (.astore_n 3, 1) := by decide +kernel
theorem dX4_fits_9 : decode cX4_fits 9 = .ok (.aload_n 0, 1) := by decide +kernel
theorem dX4_fits_10 : decode cX4_fits 10 = .ok (.getfield 10, 3) := by decide +kernel
theorem dX4_fits_13 : decode cX4_fits 13 = .ok (.iload_n 2, 1) := by decide +kernel
theorem dX4_fits_14 : decode cX4_fits 14 = .ok (.invokevirtual 57, 3) := by decide +kernel
theorem dX4_fits_17 : decode cX4_fits 17 = .ok (.astore 4, 2) := by decide +kernel
theorem dX4_fits_19 : decode cX4_fits 19 = .ok (.aload_n 3, 1) := by decide +kernel
theorem dX4_fits_20 : decode cX4_fits 20 = .ok (.ifnull 8, 3) := by decide +kernel
theorem dX4_fits_23 : decode cX4_fits 23 = .ok (.aload 4, 2) := by decide +kernel
theorem dX4_fits_25 : decode cX4_fits 25 = .ok (.ifnonnull 7, 3) := by decide +kernel
theorem dX4_fits_28 : decode cX4_fits 28 = .ok (.ldc2_w 167, 3) := by decide +kernel
theorem dX4_fits_31 : decode cX4_fits 31 = .ok (.lreturn, 1) := by decide +kernel
theorem dX4_fits_32 : decode cX4_fits 32 = .ok (.aload_n 3, 1) := by decide +kernel
theorem dX4_fits_33 : decode cX4_fits 33 = .ok (.aload 4, 2) := by decide +kernel
theorem dX4_fits_35 : decode cX4_fits 35 = .ok (.invokestatic 169, 3) := by decide +kernel
theorem dX4_fits_38 : decode cX4_fits 38 = .ok (.istore 5, 2) := by decide +kernel
theorem dX4_fits_40 : decode cX4_fits 40 = .ok (.iload 5, 2) := by decide +kernel
theorem dX4_fits_42 : decode cX4_fits 42 = .ok (.iconst 1, 1) := by decide +kernel
theorem dX4_fits_43 : decode cX4_fits 43 = .ok (.if_icmp .ge 7, 3) := by decide +kernel
theorem dX4_fits_46 : decode cX4_fits 46 = .ok (.ldc2_w 172, 3) := by decide +kernel
theorem dX4_fits_49 : decode cX4_fits 49 = .ok (.lreturn, 1) := by decide +kernel
theorem dX4_fits_50 : decode cX4_fits 50 = .ok (.lconst 0, 1) := by decide +kernel
theorem dX4_fits_51 : decode cX4_fits 51 = .ok (.lstore 6, 2) := by decide +kernel
theorem dX4_fits_53 : decode cX4_fits 53 = .ok (.iconst 0, 1) := by decide +kernel
theorem dX4_fits_54 : decode cX4_fits 54 = .ok (.istore 8, 2) := by decide +kernel
theorem dX4_fits_56 : decode cX4_fits 56 = .ok (.iload 8, 2) := by decide +kernel
theorem dX4_fits_58 : decode cX4_fits 58 = .ok (.iload 5, 2) := by decide +kernel
theorem dX4_fits_60 : decode cX4_fits 60 = .ok (.if_icmp .ge 36, 3) := by decide +kernel
theorem dX4_fits_63 : decode cX4_fits 63 = .ok (.iload 8, 2) := by decide +kernel
theorem dX4_fits_65 : decode cX4_fits 65 = .ok (.bipush 60, 2) := by decide +kernel
theorem dX4_fits_67 : decode cX4_fits 67 = .ok (.if_icmp .ge 29, 3) := by decide +kernel
theorem dX4_fits_70 : decode cX4_fits 70 = .ok (.aload_n 3, 1) := by decide +kernel
theorem dX4_fits_71 : decode cX4_fits 71 = .ok (.aload 4, 2) := by decide +kernel
theorem dX4_fits_73 : decode cX4_fits 73 = .ok (.iload 8, 2) := by decide +kernel
theorem dX4_fits_75 : decode cX4_fits 75 = .ok (.invokestatic 174, 3) := by decide +kernel
theorem dX4_fits_78 : decode cX4_fits 78 = .ok (.ifCond .eq 12, 3) := by decide +kernel
theorem dX4_fits_81 : decode cX4_fits 81 = .ok (.lload 6, 2) := by decide +kernel
theorem dX4_fits_83 : decode cX4_fits 83 = .ok (.lconst 1, 1) := by decide +kernel
theorem dX4_fits_84 : decode cX4_fits 84 = .ok (.iload 8, 2) := by decide +kernel
theorem dX4_fits_86 : decode cX4_fits 86 = .ok (.lshl, 1) := by decide +kernel
theorem dX4_fits_87 : decode cX4_fits 87 = .ok (.lor, 1) := by decide +kernel
theorem dX4_fits_88 : decode cX4_fits 88 = .ok (.lstore 6, 2) := by decide +kernel
theorem dX4_fits_90 : decode cX4_fits 90 = .ok (.iinc 8 1, 3) := by decide +kernel
theorem dX4_fits_93 : decode cX4_fits 93 = .ok (.goto (-37), 3) := by decide +kernel
theorem dX4_fits_96 : decode cX4_fits 96 = .ok (.lload 6, 2) := by decide +kernel
theorem dX4_fits_98 : decode cX4_fits 98 = .ok (.lreturn, 1) := by decide +kernel
set_option maxRecDepth 20000 in
theorem ggX4_sum_X3_rowOf : GoodIn wsX4_sum wsX3_rowOf := goodIn_r _ [6, 7, 36] (by decide +kernel) (by decide +kernel)
set_option maxRecDepth 20000 in
theorem gX4_sum_X3_rowOf : GoodIn wsX4_sum (wsV RX4 57 RX3 yX3_rowOf wsX3_rowOf) := goodIn_app (goodIn_of _ (by decide +kernel)) ggX4_sum_X3_rowOf
set_option maxRecDepth 20000 in
theorem ggX4_sum_X4_countPlaces : GoodIn wsX4_sum wsX4_countPlaces := goodIn_r _ [11, 12, 13, 14, 15, 16, 17, 37, 38] (by decide +kernel) (by decide +kernel)
set_option maxRecDepth 20000 in
theorem gX4_sum_X4_countPlaces : GoodIn wsX4_sum (va_wsS RX4 169 yX4_countPlaces wsX4_countPlaces) := goodIn_app (goodIn_of _ (by decide +kernel)) ggX4_sum_X4_countPlaces
set_option maxRecDepth 20000 in
theorem ggX4_sum_X4_sumAt : GoodIn wsX4_sum wsX4_sumAt := goodIn_r _ [20, 12, 13, 14, 15, 16, 17, 21, 22, 23, 24, 25, 37, 38] (by decide +kernel) (by decide +kernel)
set_option maxRecDepth 20000 in
theorem gX4_sum_X4_sumAt : GoodIn wsX4_sum (va_wsS RX4 178 yX4_sumAt wsX4_sumAt) := goodIn_app (goodIn_of _ (by decide +kernel)) ggX4_sum_X4_sumAt
theorem dX4_sum_0 : decode cX4_sum 0 = .ok (.aload_n 0, 1) := by decide +kernel
theorem dX4_sum_1 : decode cX4_sum 1 = .ok (.getfield 10, 3) := by decide +kernel
theorem dX4_sum_4 : decode cX4_sum 4 = .ok (.iload_n 1, 1) := by decide +kernel
theorem dX4_sum_5 : decode cX4_sum 5 = .ok (.invokevirtual 57, 3) := by decide +kernel
theorem dX4_sum_8 : decode cX4_sum 8 = .ok (.astore 4, 2) := by decide +kernel
theorem dX4_sum_10 : decode cX4_sum 10 = .ok (.aload_n 0, 1) := by decide +kernel
theorem dX4_sum_11 : decode cX4_sum 11 = .ok (.getfield 10, 3) := by decide +kernel
theorem dX4_sum_14 : decode cX4_sum 14 = .ok (.iload_n 2, 1) := by decide +kernel
theorem dX4_sum_15 : decode cX4_sum 15 = .ok (.invokevirtual 57, 3) := by decide +kernel
theorem dX4_sum_18 : decode cX4_sum 18 = .ok (.astore 5, 2) := by decide +kernel
theorem dX4_sum_20 : decode cX4_sum 20 = .ok (.aload 4, 2) := by decide +kernel
theorem dX4_sum_22 : decode cX4_sum 22 = .ok (.ifnull 8, 3) := by decide +kernel
theorem dX4_sum_25 : decode cX4_sum 25 = .ok (.aload 5, 2) := by decide +kernel
theorem dX4_sum_27 : decode cX4_sum 27 = .ok (.ifnonnull 5, 3) := by decide +kernel
theorem dX4_sum_30 : decode cX4_sum 30 = .ok (.iconst (-1), 1) := by decide +kernel
theorem dX4_sum_31 : decode cX4_sum 31 = .ok (.ireturn, 1) := by decide +kernel
theorem dX4_sum_32 : decode cX4_sum 32 = .ok (.aload 4, 2) := by decide +kernel
theorem dX4_sum_34 : decode cX4_sum 34 = .ok (.aload 5, 2) := by decide +kernel
theorem dX4_sum_36 : decode cX4_sum 36 = .ok (.invokestatic 169, 3) := by decide +kernel
theorem dX4_sum_39 : decode cX4_sum 39 = .ok (.istore 6, 2) := by decide +kernel
theorem dX4_sum_41 : decode cX4_sum 41 = .ok (.iload 6, 2) := by decide +kernel
theorem dX4_sum_43 : decode cX4_sum 43 = .ok (.iconst 1, 1) := by decide +kernel
theorem dX4_sum_44 : decode cX4_sum 44 = .ok (.if_icmp .ge 6, 3) := by decide +kernel
theorem dX4_sum_47 : decode cX4_sum 47 = .ok (.bipush (-5), 2) := by decide +kernel
theorem dX4_sum_49 : decode cX4_sum 49 = .ok (.ireturn, 1) := by decide +kernel
theorem dX4_sum_50 : decode cX4_sum 50 = .ok (.iload_n 3, 1) := by decide +kernel
theorem dX4_sum_51 : decode cX4_sum 51 = .ok (.ifCond .lt 9, 3) := by decide +kernel
theorem dX4_sum_54 : decode cX4_sum 54 = .ok (.iload_n 3, 1) := by decide +kernel
theorem dX4_sum_55 : decode cX4_sum 55 = .ok (.iload 6, 2) := by decide +kernel
theorem dX4_sum_57 : decode cX4_sum 57 = .ok (.if_icmp .lt 6, 3) := by decide +kernel
theorem dX4_sum_60 : decode cX4_sum 60 = .ok (.bipush (-2), 2) := by decide +kernel
theorem dX4_sum_62 : decode cX4_sum 62 = .ok (.ireturn, 1) := by decide +kernel
theorem dX4_sum_63 : decode cX4_sum 63 = .ok (.aload 4, 2) := by decide +kernel
theorem dX4_sum_65 : decode cX4_sum 65 = .ok (.aload 5, 2) := by decide +kernel
theorem dX4_sum_67 : decode cX4_sum 67 = .ok (.iload_n 3, 1) := by decide +kernel
theorem dX4_sum_68 : decode cX4_sum 68 = .ok (.invokestatic 178, 3) := by decide +kernel
theorem dX4_sum_71 : decode cX4_sum 71 = .ok (.ireturn, 1) := by decide +kernel
set_option maxRecDepth 20000 in
theorem ggX4_found_X3_rowOf : GoodIn wsX4_found wsX3_rowOf := goodIn_r _ [6, 7, 58] (by decide +kernel) (by decide +kernel)
set_option maxRecDepth 20000 in
theorem gX4_found_X3_rowOf : GoodIn wsX4_found (wsV RX4 57 RX3 yX3_rowOf wsX3_rowOf) := goodIn_app (goodIn_of _ (by decide +kernel)) ggX4_found_X3_rowOf
set_option maxRecDepth 20000 in
theorem ggX4_found_X4_countPlaces : GoodIn wsX4_found wsX4_countPlaces := goodIn_r _ [11, 12, 13, 14, 15, 16, 17, 59, 60] (by decide +kernel) (by decide +kernel)
set_option maxRecDepth 20000 in
theorem gX4_found_X4_countPlaces : GoodIn wsX4_found (va_wsS RX4 169 yX4_countPlaces wsX4_countPlaces) := goodIn_app (goodIn_of _ (by decide +kernel)) ggX4_found_X4_countPlaces
set_option maxRecDepth 20000 in
theorem ggX4_found_X4_countFits : GoodIn wsX4_found wsX4_countFits := goodIn_r _ [20, 8, 9, 10, 11, 12, 13, 14, 15, 16, 17, 21, 22, 23, 24, 25, 26, 27, 28, 59, 60] (by decide +kernel) (by decide +kernel)
set_option maxRecDepth 20000 in
theorem gX4_found_X4_countFits : GoodIn wsX4_found (va_wsS RX4 182 yX4_countFits wsX4_countFits) := goodIn_app (goodIn_of _ (by decide +kernel)) ggX4_found_X4_countFits
set_option maxRecDepth 20000 in
theorem ggX4_found_X4_countFalseOnes : GoodIn wsX4_found wsX4_countFalseOnes := goodIn_r _ [31, 8, 9, 10, 11, 12, 13, 14, 15, 16, 17, 32, 33, 34, 35, 36, 37, 24, 25, 26, 27, 28, 21, 22, 23, 59, 60] (by decide +kernel) (by decide +kernel)
set_option maxRecDepth 20000 in
theorem gX4_found_X4_countFalseOnes : GoodIn wsX4_found (va_wsS RX4 185 yX4_countFalseOnes wsX4_countFalseOnes) := goodIn_app (goodIn_of _ (by decide +kernel)) ggX4_found_X4_countFalseOnes
set_option maxRecDepth 20000 in
theorem ggX4_found_X4_firstFalseOne : GoodIn wsX4_found wsX4_firstFalseOne := goodIn_r _ [40, 8, 9, 10, 11, 12, 13, 14, 15, 16, 17, 32, 33, 34, 35, 36, 37, 24, 25, 26, 27, 28, 21, 22, 23, 59, 60] (by decide +kernel) (by decide +kernel)
set_option maxRecDepth 20000 in
theorem gX4_found_X4_firstFalseOne : GoodIn wsX4_found (va_wsS RX4 188 yX4_firstFalseOne wsX4_firstFalseOne) := goodIn_app (goodIn_of _ (by decide +kernel)) ggX4_found_X4_firstFalseOne
set_option maxRecDepth 20000 in
theorem ggX4_found_X4_greatestSum : GoodIn wsX4_found wsX4_greatestSum := goodIn_r _ [43, 44, 45, 46, 47, 8, 9, 10, 11, 12, 13, 14, 15, 16, 17, 35, 36, 37, 24, 25, 26, 27, 28, 59, 60] (by decide +kernel) (by decide +kernel)
set_option maxRecDepth 20000 in
theorem gX4_found_X4_greatestSum : GoodIn wsX4_found (va_wsS RX4 191 yX4_greatestSum wsX4_greatestSum) := goodIn_app (goodIn_of _ (by decide +kernel)) ggX4_found_X4_greatestSum
theorem dX4_found_0 : decode cX4_found 0 = .ok (.aload_n 0, 1) := by decide +kernel
theorem dX4_found_1 : decode cX4_found 1 = .ok (.getfield 10, 3) := by decide +kernel
theorem dX4_found_4 : decode cX4_found 4 = .ok (.iload_n 1, 1) := by decide +kernel
theorem dX4_found_5 : decode cX4_found 5 = .ok (.invokevirtual 57, 3) := by decide +kernel
theorem dX4_found_8 : decode cX4_found 8 = .ok (.astore 4, 2) := by decide +kernel
theorem dX4_found_10 : decode cX4_found 10 = .ok (.aload_n 0, 1) := by decide +kernel
theorem dX4_found_11 : decode cX4_found 11 = .ok (.getfield 10, 3) := by decide +kernel
theorem dX4_found_14 : decode cX4_found 14 = .ok (.iload_n 2, 1) := by decide +kernel
theorem dX4_found_15 : decode cX4_found 15 = .ok (.invokevirtual 57, 3) := by decide +kernel
theorem dX4_found_18 : decode cX4_found 18 = .ok (.astore 5, 2) := by decide +kernel
theorem dX4_found_20 : decode cX4_found 20 = .ok (.aload 4, 2) := by decide +kernel
theorem dX4_found_22 : decode cX4_found 22 = .ok (.ifnull 8, 3) := by decide +kernel
theorem dX4_found_25 : decode cX4_found 25 = .ok (.aload 5, 2) := by decide +kernel
theorem dX4_found_27 : decode cX4_found 27 = .ok (.ifnonnull 5, 3) := by decide +kernel
theorem dX4_found_30 : decode cX4_found 30 = .ok (.iconst (-1), 1) := by decide +kernel
theorem dX4_found_31 : decode cX4_found 31 = .ok (.ireturn, 1) := by decide +kernel
theorem dX4_found_32 : decode cX4_found 32 = .ok (.aload 4, 2) := by decide +kernel
theorem dX4_found_34 : decode cX4_found 34 = .ok (.aload 5, 2) := by decide +kernel
theorem dX4_found_36 : decode cX4_found 36 = .ok (.invokestatic 169, 3) := by decide +kernel
theorem dX4_found_39 : decode cX4_found 39 = .ok (.iconst 1, 1) := by decide +kernel
theorem dX4_found_40 : decode cX4_found 40 = .ok (.if_icmp .ge 6, 3) := by decide +kernel
theorem dX4_found_43 : decode cX4_found 43 = .ok (.bipush (-5), 2) := by decide +kernel
theorem dX4_found_45 : decode cX4_found 45 = .ok (.ireturn, 1) := by decide +kernel
theorem dX4_found_46 : decode cX4_found 46 = .ok (.iload_n 3, 1) := by decide +kernel
theorem dX4_found_47 : decode cX4_found 47 = .ok (.tableswitch 61 0 3 #[29, 37, 45, 53], 29) := by decide +kernel
theorem dX4_found_76 : decode cX4_found 76 = .ok (.aload 4, 2) := by decide +kernel
theorem dX4_found_78 : decode cX4_found 78 = .ok (.aload 5, 2) := by decide +kernel
theorem dX4_found_80 : decode cX4_found 80 = .ok (.invokestatic 182, 3) := by decide +kernel
theorem dX4_found_83 : decode cX4_found 83 = .ok (.ireturn, 1) := by decide +kernel
theorem dX4_found_84 : decode cX4_found 84 = .ok (.aload 4, 2) := by decide +kernel
theorem dX4_found_86 : decode cX4_found 86 = .ok (.aload 5, 2) := by decide +kernel
theorem dX4_found_88 : decode cX4_found 88 = .ok (.invokestatic 185, 3) := by decide +kernel
theorem dX4_found_91 : decode cX4_found 91 = .ok (.ireturn, 1) := by decide +kernel
theorem dX4_found_92 : decode cX4_found 92 = .ok (.aload 4, 2) := by decide +kernel
theorem dX4_found_94 : decode cX4_found 94 = .ok (.aload 5, 2) := by decide +kernel
theorem dX4_found_96 : decode cX4_found 96 = .ok (.invokestatic 188, 3) := by decide +kernel
theorem dX4_found_99 : decode cX4_found 99 = .ok (.ireturn, 1) := by decide +kernel
theorem dX4_found_100 : decode cX4_found 100 = .ok (.aload 4, 2) := by decide +kernel
theorem dX4_found_102 : decode cX4_found 102 = .ok (.aload 5, 2) := by decide +kernel
theorem dX4_found_104 : decode cX4_found 104 = .ok (.invokestatic 191, 3) := by decide +kernel
theorem dX4_found_107 : decode cX4_found 107 = .ok (.ireturn, 1) := by decide +kernel
theorem dX4_found_108 : decode cX4_found 108 = .ok (.bipush (-2), 2) := by decide +kernel
theorem dX4_found_110 : decode cX4_found 110 = .ok (.ireturn, 1) := by decide +kernel
set_option maxRecDepth 20000 in
theorem ggX4_put_X4_countCharacters : GoodIn wsX4_put wsX4_countCharacters := goodIn_r _ [5, 6] (by decide +kernel) (by decide +kernel)
set_option maxRecDepth 20000 in
theorem gX4_put_X4_countCharacters : GoodIn wsX4_put (va_wsS RX4 194 yX4_countCharacters wsX4_countCharacters) := goodIn_app (goodIn_of _ (by decide +kernel)) ggX4_put_X4_countCharacters
set_option maxRecDepth 20000 in
theorem ggX4_put_X1_length : GoodIn wsX4_put wsX1_length := goodIn_r _ [11, 12, 28, 29] (by decide +kernel) (by decide +kernel)
set_option maxRecDepth 20000 in
theorem gX4_put_X1_length : GoodIn wsX4_put (wsV RX4 165 RX1 yX1_length wsX1_length) := goodIn_app (goodIn_of _ (by decide +kernel)) ggX4_put_X1_length
set_option maxRecDepth 20000 in
theorem ggX4_put_X1_append : GoodIn wsX4_put wsX1_append := goodIn_r _ [16, 12, 17, 28, 29] (by decide +kernel) (by decide +kernel)
set_option maxRecDepth 20000 in
theorem gX4_put_X1_append : GoodIn wsX4_put (wsV RX4 198 RX1 yX1_append wsX1_append) := goodIn_app (goodIn_of _ (by decide +kernel)) ggX4_put_X1_append
theorem dX4_put_0 : decode cX4_put 0 = .ok (.lload_n 1, 1) := by decide +kernel
theorem dX4_put_1 : decode cX4_put 1 = .ok (.invokestatic 194, 3) := by decide +kernel
theorem dX4_put_4 : decode cX4_put 4 = .ok (.istore_n 3, 1) := by decide +kernel
theorem dX4_put_5 : decode cX4_put 5 = .ok (.iload_n 3, 1) := by decide +kernel
theorem dX4_put_6 : decode cX4_put 6 = .ok (.ifCond .ne 6, 3) := by decide +kernel
theorem dX4_put_9 : decode cX4_put 9 = .ok (.bipush (-2), 2) := by decide +kernel
theorem dX4_put_11 : decode cX4_put 11 = .ok (.ireturn, 1) := by decide +kernel
theorem dX4_put_12 : decode cX4_put 12 = .ok (.aload_n 0, 1) := by decide +kernel
theorem dX4_put_13 : decode cX4_put 13 = .ok (.getfield 26, 3) := by decide +kernel
theorem dX4_put_16 : decode cX4_put 16 = .ok (.invokevirtual 165, 3) := by decide +kernel
theorem dX4_put_19 : decode cX4_put 19 = .ok (.iload_n 3, 1) := by decide +kernel
theorem dX4_put_20 : decode cX4_put 20 = .ok (.iadd, 1) := by decide +kernel
theorem dX4_put_21 : decode cX4_put 21 = .ok (.bipush 80, 2) := by decide +kernel
theorem dX4_put_23 : decode cX4_put 23 = .ok (.if_icmp .le 6, 3) := by decide +kernel
theorem dX4_put_26 : decode cX4_put 26 = .ok (.bipush (-4), 2) := by decide +kernel
theorem dX4_put_28 : decode cX4_put 28 = .ok (.ireturn, 1) := by decide +kernel
theorem dX4_put_29 : decode cX4_put 29 = .ok (.iload_n 3, 1) := by decide +kernel
theorem dX4_put_30 : decode cX4_put 30 = .ok (.iconst 1, 1) := by decide +kernel
theorem dX4_put_31 : decode cX4_put 31 = .ok (.isub, 1) := by decide +kernel
theorem dX4_put_32 : decode cX4_put 32 = .ok (.istore 4, 2) := by decide +kernel
theorem dX4_put_34 : decode cX4_put 34 = .ok (.iload 4, 2) := by decide +kernel
theorem dX4_put_36 : decode cX4_put 36 = .ok (.ifCond .lt 28, 3) := by decide +kernel
theorem dX4_put_39 : decode cX4_put 39 = .ok (.aload_n 0, 1) := by decide +kernel
theorem dX4_put_40 : decode cX4_put 40 = .ok (.getfield 26, 3) := by decide +kernel
theorem dX4_put_43 : decode cX4_put 43 = .ok (.lload_n 1, 1) := by decide +kernel
theorem dX4_put_44 : decode cX4_put 44 = .ok (.bipush 8, 2) := by decide +kernel
theorem dX4_put_46 : decode cX4_put 46 = .ok (.iload 4, 2) := by decide +kernel
theorem dX4_put_48 : decode cX4_put 48 = .ok (.imul, 1) := by decide +kernel
theorem dX4_put_49 : decode cX4_put 49 = .ok (.lushr, 1) := by decide +kernel
theorem dX4_put_50 : decode cX4_put 50 = .ok (.l2i, 1) := by decide +kernel
theorem dX4_put_51 : decode cX4_put 51 = .ok (.sipush 255, 3) := by decide +kernel
theorem dX4_put_54 : decode cX4_put 54 = .ok (.iand, 1) := by decide +kernel
theorem dX4_put_55 : decode cX4_put 55 = .ok (.invokevirtual 198, 3) := by decide +kernel
theorem dX4_put_58 : decode cX4_put 58 = .ok (.iinc 4 (-1), 3) := by decide +kernel
theorem dX4_put_61 : decode cX4_put 61 = .ok (.goto (-27), 3) := by decide +kernel
theorem dX4_put_64 : decode cX4_put 64 = .ok (.aload_n 0, 1) := by decide +kernel
theorem dX4_put_65 : decode cX4_put 65 = .ok (.getfield 26, 3) := by decide +kernel
theorem dX4_put_68 : decode cX4_put 68 = .ok (.invokevirtual 165, 3) := by decide +kernel
theorem dX4_put_71 : decode cX4_put 71 = .ok (.ireturn, 1) := by decide +kernel
set_option maxRecDepth 20000 in
theorem ggX4_wipe_X1_length : GoodIn wsX4_wipe wsX1_length := goodIn_r _ [6, 7, 22, 23] (by decide +kernel) (by decide +kernel)
set_option maxRecDepth 20000 in
theorem gX4_wipe_X1_length : GoodIn wsX4_wipe (wsV RX4 165 RX1 yX1_length wsX1_length) := goodIn_app (goodIn_of _ (by decide +kernel)) ggX4_wipe_X1_length
set_option maxRecDepth 20000 in
theorem ggX4_wipe_X1_empty : GoodIn wsX4_wipe wsX1_empty := goodIn_r _ [11, 7, 22, 23] (by decide +kernel) (by decide +kernel)
set_option maxRecDepth 20000 in
theorem gX4_wipe_X1_empty : GoodIn wsX4_wipe (wsV RX4 69 RX1 yX1_empty wsX1_empty) := goodIn_app (goodIn_of _ (by decide +kernel)) ggX4_wipe_X1_empty
theorem dX4_wipe_0 : decode cX4_wipe 0 = .ok (.aload_n 0, 1) := by decide +kernel
theorem dX4_wipe_1 : decode cX4_wipe 1 = .ok (.getfield 26, 3) := by decide +kernel
theorem dX4_wipe_4 : decode cX4_wipe 4 = .ok (.invokevirtual 165, 3) := by decide +kernel
theorem dX4_wipe_7 : decode cX4_wipe 7 = .ok (.istore_n 1, 1) := by decide +kernel
theorem dX4_wipe_8 : decode cX4_wipe 8 = .ok (.aload_n 0, 1) := by decide +kernel
theorem dX4_wipe_9 : decode cX4_wipe 9 = .ok (.getfield 26, 3) := by decide +kernel
theorem dX4_wipe_12 : decode cX4_wipe 12 = .ok (.invokevirtual 69, 3) := by decide +kernel
theorem dX4_wipe_15 : decode cX4_wipe 15 = .ok (.iload_n 1, 1) := by decide +kernel
theorem dX4_wipe_16 : decode cX4_wipe 16 = .ok (.ireturn, 1) := by decide +kernel
set_option maxRecDepth 20000 in
theorem ggX4_fault_X1_scan : GoodIn wsX4_fault wsX1_scan := goodIn_r _ [7, 8, 9, 10, 11, 6, 12, 13, 14, 15, 16, 17, 18, 19, 20, 21, 22, 23, 24, 25, 26, 27, 28, 29, 30, 31, 32, 43, 44, 45, 46] (by decide +kernel) (by decide +kernel)
set_option maxRecDepth 20000 in
theorem gX4_fault_X1_scan : GoodIn wsX4_fault (wsV RX4 61 RX1 yX1_scan wsX1_scan) := goodIn_app (goodIn_of _ (by decide +kernel)) ggX4_fault_X1_scan
theorem dX4_fault_0 : decode cX4_fault 0 = .ok (.aload_n 0, 1) := by decide +kernel
theorem dX4_fault_1 : decode cX4_fault 1 = .ok (.getfield 26, 3) := by decide +kernel
theorem dX4_fault_4 : decode cX4_fault 4 = .ok (.aload_n 0, 1) := by decide +kernel
theorem dX4_fault_5 : decode cX4_fault 5 = .ok (.getfield 41, 3) := by decide +kernel
theorem dX4_fault_8 : decode cX4_fault 8 = .ok (.invokevirtual 61, 3) := by decide +kernel
theorem dX4_fault_11 : decode cX4_fault 11 = .ok (.ireturn, 1) := by decide +kernel
set_option maxRecDepth 20000 in
theorem ggX4_undo_X0_length : GoodIn wsX4_undo wsX0_length := goodIn_r _ [7, 8, 41, 42] (by decide +kernel) (by decide +kernel)
set_option maxRecDepth 20000 in
theorem gX4_undo_X0_length : GoodIn wsX4_undo (wsV RX4 166 RX0 yX0_length wsX0_length) := goodIn_app (goodIn_of _ (by decide +kernel)) ggX4_undo_X0_length
set_option maxRecDepth 20000 in
theorem ggX4_undo_X0_takeLatest : GoodIn wsX4_undo wsX0_takeLatest := goodIn_r _ [12, 8, 13, 14, 15, 16, 17, 18, 19, 20, 21, 22, 23, 24, 25, 26, 27, 28, 29, 30, 41, 42, 43, 44, 45] (by decide +kernel) (by decide +kernel)
set_option maxRecDepth 20000 in
theorem gX4_undo_X0_takeLatest : GoodIn wsX4_undo (wsV RX4 201 RX0 yX0_takeLatest wsX0_takeLatest) := goodIn_app (goodIn_of _ (by decide +kernel)) ggX4_undo_X0_takeLatest
theorem dX4_undo_0 : decode cX4_undo 0 = .ok (.aload_n 0, 1) := by decide +kernel
theorem dX4_undo_1 : decode cX4_undo 1 = .ok (.getfield 19, 3) := by decide +kernel
theorem dX4_undo_4 : decode cX4_undo 4 = .ok (.invokevirtual 166, 3) := by decide +kernel
theorem dX4_undo_7 : decode cX4_undo 7 = .ok (.ifCond .ne 6, 3) := by decide +kernel
theorem dX4_undo_10 : decode cX4_undo 10 = .ok (.bipush (-5), 2) := by decide +kernel
theorem dX4_undo_12 : decode cX4_undo 12 = .ok (.ireturn, 1) := by decide +kernel
theorem dX4_undo_13 : decode cX4_undo 13 = .ok (.aload_n 0, 1) := by decide +kernel
theorem dX4_undo_14 : decode cX4_undo 14 = .ok (.getfield 19, 3) := by decide +kernel
theorem dX4_undo_17 : decode cX4_undo 17 = .ok (.aload_n 0, 1) := by decide +kernel
theorem dX4_undo_18 : decode cX4_undo 18 = .ok (.getfield 10, 3) := by decide +kernel
theorem dX4_undo_21 : decode cX4_undo 21 = .ok (.invokevirtual 201, 3) := by decide +kernel
theorem dX4_undo_24 : decode cX4_undo 24 = .ok (.aload_n 0, 1) := by decide +kernel
theorem dX4_undo_25 : decode cX4_undo 25 = .ok (.getfield 19, 3) := by decide +kernel
theorem dX4_undo_28 : decode cX4_undo 28 = .ok (.invokevirtual 166, 3) := by decide +kernel
theorem dX4_undo_31 : decode cX4_undo 31 = .ok (.ireturn, 1) := by decide +kernel
set_option maxRecDepth 20000 in
theorem ggX4_save_X4_isSlot : GoodIn wsX4_save wsX4_isSlot := goodIn_r _ [7] (by decide +kernel) (by decide +kernel)
set_option maxRecDepth 20000 in
theorem gX4_save_X4_isSlot : GoodIn wsX4_save (va_wsS RX4 204 yX4_isSlot wsX4_isSlot) := goodIn_app (goodIn_of _ (by decide +kernel)) ggX4_save_X4_isSlot
set_option maxRecDepth 20000 in
theorem ggX4_save_X3_copyFrom : GoodIn wsX4_save wsX3_copyFrom := goodIn_r _ [12, 13, 14, 15, 16, 17, 18, 19, 20, 21, 22, 23, 24, 43, 44, 45] (by decide +kernel) (by decide +kernel)
set_option maxRecDepth 20000 in
theorem gX4_save_X3_copyFrom : GoodIn wsX4_save (wsV RX4 207 RX3 yX3_copyFrom wsX3_copyFrom) := goodIn_app (goodIn_of _ (by decide +kernel)) ggX4_save_X3_copyFrom
set_option maxRecDepth 20000 in
theorem ggX4_save_X3_lengths : GoodIn wsX4_save wsX3_lengths := goodIn_r _ [28, 13, 29, 30, 31, 17, 32, 24, 43, 44, 45] (by decide +kernel) (by decide +kernel)
set_option maxRecDepth 20000 in
theorem gX4_save_X3_lengths : GoodIn wsX4_save (wsV RX4 162 RX3 yX3_lengths wsX3_lengths) := goodIn_app (goodIn_of _ (by decide +kernel)) ggX4_save_X3_lengths
theorem dX4_save_0 : decode cX4_save 0 = .ok (.iload_n 1, 1) := by decide +kernel
theorem dX4_save_1 : decode cX4_save 1 = .ok (.invokestatic 204, 3) := by decide +kernel
theorem dX4_save_4 : decode cX4_save 4 = .ok (.ifCond .ne 6, 3) := by decide +kernel
theorem dX4_save_7 : decode cX4_save 7 = .ok (.bipush (-2), 2) := by decide +kernel
theorem dX4_save_9 : decode cX4_save 9 = .ok (.ireturn, 1) := by decide +kernel
theorem dX4_save_10 : decode cX4_save 10 = .ok (.aload_n 0, 1) := by decide +kernel
theorem dX4_save_11 : decode cX4_save 11 = .ok (.getfield 30, 3) := by decide +kernel
theorem dX4_save_14 : decode cX4_save 14 = .ok (.iload_n 1, 1) := by decide +kernel
theorem dX4_save_15 : decode cX4_save 15 = .ok (.aaload, 1) := by decide +kernel
theorem dX4_save_16 : decode cX4_save 16 = .ok (.aload_n 0, 1) := by decide +kernel
theorem dX4_save_17 : decode cX4_save 17 = .ok (.getfield 10, 3) := by decide +kernel
theorem dX4_save_20 : decode cX4_save 20 = .ok (.invokevirtual 207, 3) := by decide +kernel
theorem dX4_save_23 : decode cX4_save 23 = .ok (.aload_n 0, 1) := by decide +kernel
theorem dX4_save_24 : decode cX4_save 24 = .ok (.getfield 34, 3) := by decide +kernel
theorem dX4_save_27 : decode cX4_save 27 = .ok (.iload_n 1, 1) := by decide +kernel
theorem dX4_save_28 : decode cX4_save 28 = .ok (.iconst 1, 1) := by decide +kernel
theorem dX4_save_29 : decode cX4_save 29 = .ok (.bastore, 1) := by decide +kernel
theorem dX4_save_30 : decode cX4_save 30 = .ok (.aload_n 0, 1) := by decide +kernel
theorem dX4_save_31 : decode cX4_save 31 = .ok (.getfield 10, 3) := by decide +kernel
theorem dX4_save_34 : decode cX4_save 34 = .ok (.invokevirtual 162, 3) := by decide +kernel
theorem dX4_save_37 : decode cX4_save 37 = .ok (.ireturn, 1) := by decide +kernel
set_option maxRecDepth 20000 in
theorem ggX4_restore_X4_isSlot : GoodIn wsX4_restore wsX4_isSlot := goodIn_r _ [8] (by decide +kernel) (by decide +kernel)
set_option maxRecDepth 20000 in
theorem gX4_restore_X4_isSlot : GoodIn wsX4_restore (va_wsS RX4 204 yX4_isSlot wsX4_isSlot) := goodIn_app (goodIn_of _ (by decide +kernel)) ggX4_restore_X4_isSlot
set_option maxRecDepth 20000 in
theorem ggX4_restore_X0_keep : GoodIn wsX4_restore wsX0_keep := goodIn_r _ [13, 14, 15, 16, 17, 18, 12, 19, 20, 21, 22, 23, 24, 25, 26, 27, 28, 29, 30, 31, 32, 33, 34, 35, 36, 56, 57, 58, 59, 60] (by decide +kernel) (by decide +kernel)
set_option maxRecDepth 20000 in
theorem gX4_restore_X0_keep : GoodIn wsX4_restore (wsV RX4 80 RX0 yX0_keep wsX0_keep) := goodIn_app (goodIn_of _ (by decide +kernel)) ggX4_restore_X0_keep
set_option maxRecDepth 20000 in
theorem ggX4_restore_X3_copyFrom : GoodIn wsX4_restore wsX3_copyFrom := goodIn_r _ [24, 25, 26, 27, 28, 29, 30, 31, 32, 33, 34, 35, 36, 58, 59, 60] (by decide +kernel) (by decide +kernel)
set_option maxRecDepth 20000 in
theorem gX4_restore_X3_copyFrom : GoodIn wsX4_restore (wsV RX4 207 RX3 yX3_copyFrom wsX3_copyFrom) := goodIn_app (goodIn_of _ (by decide +kernel)) ggX4_restore_X3_copyFrom
set_option maxRecDepth 20000 in
theorem ggX4_restore_X3_lengths : GoodIn wsX4_restore wsX3_lengths := goodIn_r _ [41, 25, 42, 43, 44, 29, 45, 36, 58, 59, 60] (by decide +kernel) (by decide +kernel)
set_option maxRecDepth 20000 in
theorem gX4_restore_X3_lengths : GoodIn wsX4_restore (wsV RX4 162 RX3 yX3_lengths wsX3_lengths) := goodIn_app (goodIn_of _ (by decide +kernel)) ggX4_restore_X3_lengths
theorem dX4_restore_0 : decode cX4_restore 0 = .ok (.iload_n 1, 1) := by decide +kernel
theorem dX4_restore_1 : decode cX4_restore 1 = .ok (.invokestatic 204, 3) := by decide +kernel
theorem dX4_restore_4 : decode cX4_restore 4 = .ok (.ifCond .ne 6, 3) := by decide +kernel
theorem dX4_restore_7 : decode cX4_restore 7 = .ok (.bipush (-2), 2) := by decide +kernel
theorem dX4_restore_9 : decode cX4_restore 9 = .ok (.ireturn, 1) := by decide +kernel
theorem dX4_restore_10 : decode cX4_restore 10 = .ok (.aload_n 0, 1) := by decide +kernel
theorem dX4_restore_11 : decode cX4_restore 11 = .ok (.getfield 34, 3) := by decide +kernel
theorem dX4_restore_14 : decode cX4_restore 14 = .ok (.iload_n 1, 1) := by decide +kernel
theorem dX4_restore_15 : decode cX4_restore 15 = .ok (.baload, 1) := by decide +kernel
theorem dX4_restore_16 : decode cX4_restore 16 = .ok (.ifCond .ne 6, 3) := by decide +kernel
theorem dX4_restore_19 : decode cX4_restore 19 = .ok (.bipush (-5), 2) := by decide +kernel
theorem dX4_restore_21 : decode cX4_restore 21 = .ok (.ireturn, 1) := by decide +kernel
theorem dX4_restore_22 : decode cX4_restore 22 = .ok (.aload_n 0, 1) := by decide +kernel
theorem dX4_restore_23 : decode cX4_restore 23 = .ok (.getfield 19, 3) := by decide +kernel
theorem dX4_restore_26 : decode cX4_restore 26 = .ok (.aload_n 0, 1) := by decide +kernel
theorem dX4_restore_27 : decode cX4_restore 27 = .ok (.getfield 10, 3) := by decide +kernel
theorem dX4_restore_30 : decode cX4_restore 30 = .ok (.invokevirtual 80, 3) := by decide +kernel
theorem dX4_restore_33 : decode cX4_restore 33 = .ok (.aload_n 0, 1) := by decide +kernel
theorem dX4_restore_34 : decode cX4_restore 34 = .ok (.getfield 10, 3) := by decide +kernel
theorem dX4_restore_37 : decode cX4_restore 37 = .ok (.aload_n 0, 1) := by decide +kernel
theorem dX4_restore_38 : decode cX4_restore 38 = .ok (.getfield 30, 3) := by decide +kernel
theorem dX4_restore_41 : decode cX4_restore 41 = .ok (.iload_n 1, 1) := by decide +kernel
theorem dX4_restore_42 : decode cX4_restore 42 = .ok (.aaload, 1) := by decide +kernel
theorem dX4_restore_43 : decode cX4_restore 43 = .ok (.invokevirtual 207, 3) := by decide +kernel
theorem dX4_restore_46 : decode cX4_restore 46 = .ok (.aload_n 0, 1) := by decide +kernel
theorem dX4_restore_47 : decode cX4_restore 47 = .ok (.getfield 10, 3) := by decide +kernel
theorem dX4_restore_50 : decode cX4_restore 50 = .ok (.invokevirtual 162, 3) := by decide +kernel
theorem dX4_restore_53 : decode cX4_restore 53 = .ok (.ireturn, 1) := by decide +kernel
set_option maxRecDepth 20000 in
theorem ggX4_change_X0_keep : GoodIn wsX4_change wsX0_keep := goodIn_r _ [8, 9, 10, 11, 12, 13, 7, 14, 15, 16, 17, 18, 19, 20, 21, 22, 23, 24, 25, 26, 27, 28, 29, 30, 31, 43, 44, 45, 46, 47] (by decide +kernel) (by decide +kernel)
set_option maxRecDepth 20000 in
theorem gX4_change_X0_keep : GoodIn wsX4_change (wsV RX4 80 RX0 yX0_keep wsX0_keep) := goodIn_app (goodIn_of _ (by decide +kernel)) ggX4_change_X0_keep
set_option maxRecDepth 20000 in
theorem ggX4_change_X2_copyFrom : GoodIn wsX4_change wsX2_copyFrom := goodIn_r _ [25, 26, 27, 28, 29, 30, 31, 46, 47] (by decide +kernel) (by decide +kernel)
set_option maxRecDepth 20000 in
theorem gX4_change_X2_copyFrom : GoodIn wsX4_change (wsV RX4 116 RX2 yX2_copyFrom wsX2_copyFrom) := goodIn_app (goodIn_of _ (by decide +kernel)) ggX4_change_X2_copyFrom
theorem dX4_change_0 : decode cX4_change 0 = .ok (.aload_n 0, 1) := by decide +kernel
theorem dX4_change_1 : decode cX4_change 1 = .ok (.getfield 19, 3) := by decide +kernel
theorem dX4_change_4 : decode cX4_change 4 = .ok (.aload_n 0, 1) := by decide +kernel
theorem dX4_change_5 : decode cX4_change 5 = .ok (.getfield 10, 3) := by decide +kernel
theorem dX4_change_8 : decode cX4_change 8 = .ok (.invokevirtual 80, 3) := by decide +kernel
theorem dX4_change_11 : decode cX4_change 11 = .ok (.aload_n 1, 1) := by decide +kernel
theorem dX4_change_12 : decode cX4_change 12 = .ok (.aload_n 0, 1) := by decide +kernel
theorem dX4_change_13 : decode cX4_change 13 = .ok (.getfield 41, 3) := by decide +kernel
theorem dX4_change_16 : decode cX4_change 16 = .ok (.invokevirtual 116, 3) := by decide +kernel
theorem dX4_change_19 : decode cX4_change 19 = .ok (.return_, 1) := by decide +kernel
theorem dX4_isNumber_0 : decode cX4_isNumber 0 = .ok (.iload_n 0, 1) := by decide +kernel
theorem dX4_isNumber_1 : decode cX4_isNumber 1 = .ok (.ifCond .lt 14, 3) := by decide +kernel
theorem dX4_isNumber_4 : decode cX4_isNumber 4 = .ok (.iload_n 0, 1) := by decide +kernel
theorem dX4_isNumber_5 : decode cX4_isNumber 5 = .ok (.sipush 257, 3) := by decide +kernel
theorem dX4_isNumber_8 : decode cX4_isNumber 8 = .ok (.if_icmp .ge 7, 3) := by decide +kernel
theorem dX4_isNumber_11 : decode cX4_isNumber 11 = .ok (.iconst 1, 1) := by decide +kernel
theorem dX4_isNumber_12 : decode cX4_isNumber 12 = .ok (.goto 4, 3) := by decide +kernel
theorem dX4_isNumber_15 : decode cX4_isNumber 15 = .ok (.iconst 0, 1) := by decide +kernel
theorem dX4_isNumber_16 : decode cX4_isNumber 16 = .ok (.ireturn, 1) := by decide +kernel
theorem dX4_isSlot_0 : decode cX4_isSlot 0 = .ok (.iload_n 0, 1) := by decide +kernel
theorem dX4_isSlot_1 : decode cX4_isSlot 1 = .ok (.ifCond .lt 12, 3) := by decide +kernel
theorem dX4_isSlot_4 : decode cX4_isSlot 4 = .ok (.iload_n 0, 1) := by decide +kernel
theorem dX4_isSlot_5 : decode cX4_isSlot 5 = .ok (.iconst 2, 1) := by decide +kernel
theorem dX4_isSlot_6 : decode cX4_isSlot 6 = .ok (.if_icmp .ge 7, 3) := by decide +kernel
theorem dX4_isSlot_9 : decode cX4_isSlot 9 = .ok (.iconst 1, 1) := by decide +kernel
theorem dX4_isSlot_10 : decode cX4_isSlot 10 = .ok (.goto 4, 3) := by decide +kernel
theorem dX4_isSlot_13 : decode cX4_isSlot 13 = .ok (.iconst 0, 1) := by decide +kernel
theorem dX4_isSlot_14 : decode cX4_isSlot 14 = .ok (.ireturn, 1) := by decide +kernel
theorem dX4_raise_0 : decode cX4_raise 0 = .ok (.iconst 1, 1) := by decide +kernel
theorem dX4_raise_1 : decode cX4_raise 1 = .ok (.istore_n 2, 1) := by decide +kernel
theorem dX4_raise_2 : decode cX4_raise 2 = .ok (.iload_n 0, 1) := by decide +kernel
theorem dX4_raise_3 : decode cX4_raise 3 = .ok (.istore_n 3, 1) := by decide +kernel
theorem dX4_raise_4 : decode cX4_raise 4 = .ok (.iload_n 1, 1) := by decide +kernel
theorem dX4_raise_5 : decode cX4_raise 5 = .ok (.istore 4, 2) := by decide +kernel
theorem dX4_raise_7 : decode cX4_raise 7 = .ok (.iload 4, 2) := by decide +kernel
theorem dX4_raise_9 : decode cX4_raise 9 = .ok (.ifCond .le 36, 3) := by decide +kernel
theorem dX4_raise_12 : decode cX4_raise 12 = .ok (.iload 4, 2) := by decide +kernel
theorem dX4_raise_14 : decode cX4_raise 14 = .ok (.iconst 1, 1) := by decide +kernel
theorem dX4_raise_15 : decode cX4_raise 15 = .ok (.iand, 1) := by decide +kernel
theorem dX4_raise_16 : decode cX4_raise 16 = .ok (.iconst 1, 1) := by decide +kernel
theorem dX4_raise_17 : decode cX4_raise 17 = .ok (.if_icmp .ne 11, 3) := by decide +kernel
theorem dX4_raise_20 : decode cX4_raise 20 = .ok (.iload_n 2, 1) := by decide +kernel
theorem dX4_raise_21 : decode cX4_raise 21 = .ok (.iload_n 3, 1) := by decide +kernel
theorem dX4_raise_22 : decode cX4_raise 22 = .ok (.imul, 1) := by decide +kernel
theorem dX4_raise_23 : decode cX4_raise 23 = .ok (.sipush 257, 3) := by decide +kernel
theorem dX4_raise_26 : decode cX4_raise 26 = .ok (.irem, 1) := by decide +kernel
theorem dX4_raise_27 : decode cX4_raise 27 = .ok (.istore_n 2, 1) := by decide +kernel
theorem dX4_raise_28 : decode cX4_raise 28 = .ok (.iload_n 3, 1) := by decide +kernel
theorem dX4_raise_29 : decode cX4_raise 29 = .ok (.iload_n 3, 1) := by decide +kernel
theorem dX4_raise_30 : decode cX4_raise 30 = .ok (.imul, 1) := by decide +kernel
theorem dX4_raise_31 : decode cX4_raise 31 = .ok (.sipush 257, 3) := by decide +kernel
theorem dX4_raise_34 : decode cX4_raise 34 = .ok (.irem, 1) := by decide +kernel
theorem dX4_raise_35 : decode cX4_raise 35 = .ok (.istore_n 3, 1) := by decide +kernel
theorem dX4_raise_36 : decode cX4_raise 36 = .ok (.iload 4, 2) := by decide +kernel
theorem dX4_raise_38 : decode cX4_raise 38 = .ok (.iconst 1, 1) := by decide +kernel
theorem dX4_raise_39 : decode cX4_raise 39 = .ok (.ishr, 1) := by decide +kernel
theorem dX4_raise_40 : decode cX4_raise 40 = .ok (.istore 4, 2) := by decide +kernel
theorem dX4_raise_42 : decode cX4_raise 42 = .ok (.goto (-35), 3) := by decide +kernel
theorem dX4_raise_45 : decode cX4_raise 45 = .ok (.iload_n 2, 1) := by decide +kernel
theorem dX4_raise_46 : decode cX4_raise 46 = .ok (.ireturn, 1) := by decide +kernel
set_option maxRecDepth 20000 in
theorem ggX4_inverseOf_X4_raise : GoodIn wsX4_inverseOf wsX4_raise := goodIn_r _ [4] (by decide +kernel) (by decide +kernel)
set_option maxRecDepth 20000 in
theorem gX4_inverseOf_X4_raise : GoodIn wsX4_inverseOf (va_wsS RX4 159 yX4_raise wsX4_raise) := goodIn_app (goodIn_of _ (by decide +kernel)) ggX4_inverseOf_X4_raise
theorem dX4_inverseOf_0 : decode cX4_inverseOf 0 = .ok (.iload_n 0, 1) := by decide +kernel
theorem dX4_inverseOf_1 : decode cX4_inverseOf 1 = .ok (.sipush 255, 3) := by decide +kernel
theorem dX4_inverseOf_4 : decode cX4_inverseOf 4 = .ok (.invokestatic 159, 3) := by decide +kernel
theorem dX4_inverseOf_7 : decode cX4_inverseOf 7 = .ok (.ireturn, 1) := by decide +kernel
set_option maxRecDepth 20000 in
theorem ggX4_pointOf_X4_raise : GoodIn wsX4_pointOf wsX4_raise := goodIn_r _ [4] (by decide +kernel) (by decide +kernel)
set_option maxRecDepth 20000 in
theorem gX4_pointOf_X4_raise : GoodIn wsX4_pointOf (va_wsS RX4 159 yX4_raise wsX4_raise) := goodIn_app (goodIn_of _ (by decide +kernel)) ggX4_pointOf_X4_raise
theorem dX4_pointOf_0 : decode cX4_pointOf 0 = .ok (.iload_n 0, 1) := by decide +kernel
theorem dX4_pointOf_1 : decode cX4_pointOf 1 = .ok (.iconst 1, 1) := by decide +kernel
theorem dX4_pointOf_2 : decode cX4_pointOf 2 = .ok (.if_icmp .lt 17, 3) := by decide +kernel
theorem dX4_pointOf_5 : decode cX4_pointOf 5 = .ok (.iload_n 0, 1) := by decide +kernel
theorem dX4_pointOf_6 : decode cX4_pointOf 6 = .ok (.bipush 64, 2) := by decide +kernel
theorem dX4_pointOf_8 : decode cX4_pointOf 8 = .ok (.if_icmp .gt 11, 3) := by decide +kernel
theorem dX4_pointOf_11 : decode cX4_pointOf 11 = .ok (.iload_n 0, 1) := by decide +kernel
theorem dX4_pointOf_12 : decode cX4_pointOf 12 = .ok (.iload_n 0, 1) := by decide +kernel
theorem dX4_pointOf_13 : decode cX4_pointOf 13 = .ok (.iconst 1, 1) := by decide +kernel
theorem dX4_pointOf_14 : decode cX4_pointOf 14 = .ok (.isub, 1) := by decide +kernel
theorem dX4_pointOf_15 : decode cX4_pointOf 15 = .ok (.iand, 1) := by decide +kernel
theorem dX4_pointOf_16 : decode cX4_pointOf 16 = .ok (.ifCond .eq 6, 3) := by decide +kernel
theorem dX4_pointOf_19 : decode cX4_pointOf 19 = .ok (.bipush (-6), 2) := by decide +kernel
theorem dX4_pointOf_21 : decode cX4_pointOf 21 = .ok (.ireturn, 1) := by decide +kernel
theorem dX4_pointOf_22 : decode cX4_pointOf 22 = .ok (.iconst 3, 1) := by decide +kernel
theorem dX4_pointOf_23 : decode cX4_pointOf 23 = .ok (.sipush 256, 3) := by decide +kernel
theorem dX4_pointOf_26 : decode cX4_pointOf 26 = .ok (.iload_n 0, 1) := by decide +kernel
theorem dX4_pointOf_27 : decode cX4_pointOf 27 = .ok (.idiv, 1) := by decide +kernel
theorem dX4_pointOf_28 : decode cX4_pointOf 28 = .ok (.invokestatic 159, 3) := by decide +kernel
theorem dX4_pointOf_31 : decode cX4_pointOf 31 = .ok (.ireturn, 1) := by decide +kernel
set_option maxRecDepth 20000 in
theorem ggX4_productLength_X2_length : GoodIn wsX4_productLength wsX2_length := goodIn_r _ [5, 6, 7, 8] (by decide +kernel) (by decide +kernel)
set_option maxRecDepth 20000 in
theorem gX4_productLength_X2_length : GoodIn wsX4_productLength (wsV RX4 72 RX2 yX2_length wsX2_length) := goodIn_app (goodIn_of _ (by decide +kernel)) ggX4_productLength_X2_length
theorem dX4_productLength_0 : decode cX4_productLength 0 = .ok (.aload_n 0, 1) := by decide +kernel
theorem dX4_productLength_1 : decode cX4_productLength 1 = .ok (.invokevirtual 72, 3) := by decide +kernel
theorem dX4_productLength_4 : decode cX4_productLength 4 = .ok (.aload_n 1, 1) := by decide +kernel
theorem dX4_productLength_5 : decode cX4_productLength 5 = .ok (.invokevirtual 72, 3) := by decide +kernel
theorem dX4_productLength_8 : decode cX4_productLength 8 = .ok (.iadd, 1) := by decide +kernel
theorem dX4_productLength_9 : decode cX4_productLength 9 = .ok (.iconst 1, 1) := by decide +kernel
theorem dX4_productLength_10 : decode cX4_productLength 10 = .ok (.isub, 1) := by decide +kernel
theorem dX4_productLength_11 : decode cX4_productLength 11 = .ok (.ireturn, 1) := by decide +kernel
set_option maxRecDepth 20000 in
theorem ggX4_multiply_X2_clear : GoodIn wsX4_multiply wsX2_clear := goodIn_r _ [5, 6, 7, 8, 9, 10, 11, 32, 33] (by decide +kernel) (by decide +kernel)
set_option maxRecDepth 20000 in
theorem gX4_multiply_X2_clear : GoodIn wsX4_multiply (wsV RX4 98 RX2 yX2_clear wsX2_clear) := goodIn_app (goodIn_of _ (by decide +kernel)) ggX4_multiply_X2_clear
set_option maxRecDepth 20000 in
theorem ggX4_multiply_X2_length : GoodIn wsX4_multiply wsX2_length := goodIn_r _ [15, 7, 32, 33] (by decide +kernel) (by decide +kernel)
set_option maxRecDepth 20000 in
theorem gX4_multiply_X2_length : GoodIn wsX4_multiply (wsV RX4 72 RX2 yX2_length wsX2_length) := goodIn_app (goodIn_of _ (by decide +kernel)) ggX4_multiply_X2_length
set_option maxRecDepth 20000 in
theorem ggX4_multiply_X2_at : GoodIn wsX4_multiply wsX2_at := goodIn_r _ [19, 6, 32, 33] (by decide +kernel) (by decide +kernel)
set_option maxRecDepth 20000 in
theorem gX4_multiply_X2_at : GoodIn wsX4_multiply (wsV RX4 101 RX2 yX2_at wsX2_at) := goodIn_app (goodIn_of _ (by decide +kernel)) ggX4_multiply_X2_at
set_option maxRecDepth 20000 in
theorem ggX4_multiply_X2_write : GoodIn wsX4_multiply wsX2_write := goodIn_r _ [23, 6, 24, 25, 26, 27, 32, 33] (by decide +kernel) (by decide +kernel)
set_option maxRecDepth 20000 in
theorem gX4_multiply_X2_write : GoodIn wsX4_multiply (wsV RX4 94 RX2 yX2_write wsX2_write) := goodIn_app (goodIn_of _ (by decide +kernel)) ggX4_multiply_X2_write
set_option maxRecDepth 20000 in
theorem ggX4_multiply_X4_nextPlace : GoodIn wsX4_multiply wsX4_nextPlace := goodIn_r _ [31] (by decide +kernel) (by decide +kernel)
set_option maxRecDepth 20000 in
theorem gX4_multiply_X4_nextPlace : GoodIn wsX4_multiply (va_wsS RX4 209 yX4_nextPlace wsX4_nextPlace) := goodIn_app (goodIn_of _ (by decide +kernel)) ggX4_multiply_X4_nextPlace
theorem dX4_multiply_0 : decode cX4_multiply 0 = .ok (.aload_n 3, 1) := by decide +kernel
theorem dX4_multiply_1 : decode cX4_multiply 1 = .ok (.iload_n 2, 1) := by decide +kernel
theorem dX4_multiply_2 : decode cX4_multiply 2 = .ok (.invokevirtual 98, 3) := by decide +kernel
theorem dX4_multiply_5 : decode cX4_multiply 5 = .ok (.iconst 0, 1) := by decide +kernel
theorem dX4_multiply_6 : decode cX4_multiply 6 = .ok (.istore 4, 2) := by decide +kernel
theorem dX4_multiply_8 : decode cX4_multiply 8 = .ok (.iconst 0, 1) := by decide +kernel
theorem dX4_multiply_9 : decode cX4_multiply 9 = .ok (.istore 5, 2) := by decide +kernel
theorem dX4_multiply_11 : decode cX4_multiply 11 = .ok (.iload 5, 2) := by decide +kernel
theorem dX4_multiply_13 : decode cX4_multiply 13 = .ok (.aload_n 0, 1) := by decide +kernel
theorem dX4_multiply_14 : decode cX4_multiply 14 = .ok (.invokevirtual 72, 3) := by decide +kernel
theorem dX4_multiply_17 : decode cX4_multiply 17 = .ok (.if_icmp .ge 73, 3) := by decide +kernel
theorem dX4_multiply_20 : decode cX4_multiply 20 = .ok (.iload 4, 2) := by decide +kernel
theorem dX4_multiply_22 : decode cX4_multiply 22 = .ok (.istore 6, 2) := by decide +kernel
theorem dX4_multiply_24 : decode cX4_multiply 24 = .ok (.iconst 0, 1) := by decide +kernel
theorem dX4_multiply_25 : decode cX4_multiply 25 = .ok (.istore 7, 2) := by decide +kernel
theorem dX4_multiply_27 : decode cX4_multiply 27 = .ok (.iload 7, 2) := by decide +kernel
theorem dX4_multiply_29 : decode cX4_multiply 29 = .ok (.aload_n 1, 1) := by decide +kernel
theorem dX4_multiply_30 : decode cX4_multiply 30 = .ok (.invokevirtual 72, 3) := by decide +kernel
theorem dX4_multiply_33 : decode cX4_multiply 33 = .ok (.if_icmp .ge 43, 3) := by decide +kernel
theorem dX4_multiply_36 : decode cX4_multiply 36 = .ok (.aload_n 3, 1) := by decide +kernel
theorem dX4_multiply_37 : decode cX4_multiply 37 = .ok (.iload 6, 2) := by decide +kernel
theorem dX4_multiply_39 : decode cX4_multiply 39 = .ok (.aload_n 3, 1) := by decide +kernel
theorem dX4_multiply_40 : decode cX4_multiply 40 = .ok (.iload 6, 2) := by decide +kernel
theorem dX4_multiply_42 : decode cX4_multiply 42 = .ok (.invokevirtual 101, 3) := by decide +kernel
theorem dX4_multiply_45 : decode cX4_multiply 45 = .ok (.aload_n 0, 1) := by decide +kernel
theorem dX4_multiply_46 : decode cX4_multiply 46 = .ok (.iload 5, 2) := by decide +kernel
theorem dX4_multiply_48 : decode cX4_multiply 48 = .ok (.invokevirtual 101, 3) := by decide +kernel
theorem dX4_multiply_51 : decode cX4_multiply 51 = .ok (.aload_n 1, 1) := by decide +kernel
theorem dX4_multiply_52 : decode cX4_multiply 52 = .ok (.iload 7, 2) := by decide +kernel
theorem dX4_multiply_54 : decode cX4_multiply 54 = .ok (.invokevirtual 101, 3) := by decide +kernel
theorem dX4_multiply_57 : decode cX4_multiply 57 = .ok (.imul, 1) := by decide +kernel
theorem dX4_multiply_58 : decode cX4_multiply 58 = .ok (.iadd, 1) := by decide +kernel
theorem dX4_multiply_59 : decode cX4_multiply 59 = .ok (.invokevirtual 94, 3) := by decide +kernel
theorem dX4_multiply_62 : decode cX4_multiply 62 = .ok (.iload 6, 2) := by decide +kernel
theorem dX4_multiply_64 : decode cX4_multiply 64 = .ok (.iload_n 2, 1) := by decide +kernel
theorem dX4_multiply_65 : decode cX4_multiply 65 = .ok (.invokestatic 209, 3) := by decide +kernel
theorem dX4_multiply_68 : decode cX4_multiply 68 = .ok (.istore 6, 2) := by decide +kernel
theorem dX4_multiply_70 : decode cX4_multiply 70 = .ok (.iinc 7 1, 3) := by decide +kernel
theorem dX4_multiply_73 : decode cX4_multiply 73 = .ok (.goto (-46), 3) := by decide +kernel
theorem dX4_multiply_76 : decode cX4_multiply 76 = .ok (.iload 4, 2) := by decide +kernel
theorem dX4_multiply_78 : decode cX4_multiply 78 = .ok (.iload_n 2, 1) := by decide +kernel
theorem dX4_multiply_79 : decode cX4_multiply 79 = .ok (.invokestatic 209, 3) := by decide +kernel
theorem dX4_multiply_82 : decode cX4_multiply 82 = .ok (.istore 4, 2) := by decide +kernel
theorem dX4_multiply_84 : decode cX4_multiply 84 = .ok (.iinc 5 1, 3) := by decide +kernel
theorem dX4_multiply_87 : decode cX4_multiply 87 = .ok (.goto (-76), 3) := by decide +kernel
theorem dX4_multiply_90 : decode cX4_multiply 90 = .ok (.return_, 1) := by decide +kernel
theorem dX4_nextPlace_0 : decode cX4_nextPlace 0 = .ok (.iload_n 0, 1) := by decide +kernel
theorem dX4_nextPlace_1 : decode cX4_nextPlace 1 = .ok (.iconst 1, 1) := by decide +kernel
theorem dX4_nextPlace_2 : decode cX4_nextPlace 2 = .ok (.iadd, 1) := by decide +kernel
theorem dX4_nextPlace_3 : decode cX4_nextPlace 3 = .ok (.iload_n 1, 1) := by decide +kernel
theorem dX4_nextPlace_4 : decode cX4_nextPlace 4 = .ok (.if_icmp .ge 9, 3) := by decide +kernel
theorem dX4_nextPlace_7 : decode cX4_nextPlace 7 = .ok (.iload_n 0, 1) := by decide +kernel
theorem dX4_nextPlace_8 : decode cX4_nextPlace 8 = .ok (.iconst 1, 1) := by decide +kernel
theorem dX4_nextPlace_9 : decode cX4_nextPlace 9 = .ok (.iadd, 1) := by decide +kernel
theorem dX4_nextPlace_10 : decode cX4_nextPlace 10 = .ok (.goto 4, 3) := by decide +kernel
theorem dX4_nextPlace_13 : decode cX4_nextPlace 13 = .ok (.iconst 0, 1) := by decide +kernel
theorem dX4_nextPlace_14 : decode cX4_nextPlace 14 = .ok (.ireturn, 1) := by decide +kernel
set_option maxRecDepth 20000 in
theorem ggX4_invertRow_X2_at : GoodIn wsX4_invertRow wsX2_at := goodIn_r _ [5, 6, 31, 32] (by decide +kernel) (by decide +kernel)
set_option maxRecDepth 20000 in
theorem gX4_invertRow_X2_at : GoodIn wsX4_invertRow (wsV RX4 101 RX2 yX2_at wsX2_at) := goodIn_app (goodIn_of _ (by decide +kernel)) ggX4_invertRow_X2_at
set_option maxRecDepth 20000 in
theorem ggX4_invertRow_X4_inverseOf : GoodIn wsX4_invertRow wsX4_inverseOf := goodIn_r _ [10, 11, 12, 9, 13] (by decide +kernel) (by decide +kernel)
set_option maxRecDepth 20000 in
theorem gX4_invertRow_X4_inverseOf : GoodIn wsX4_invertRow (va_wsS RX4 141 yX4_inverseOf wsX4_inverseOf) := goodIn_app (goodIn_of _ (by decide +kernel)) ggX4_invertRow_X4_inverseOf
set_option maxRecDepth 20000 in
theorem ggX4_invertRow_X2_clear : GoodIn wsX4_invertRow wsX2_clear := goodIn_r _ [17, 6, 18, 19, 20, 21, 22, 31, 32] (by decide +kernel) (by decide +kernel)
set_option maxRecDepth 20000 in
theorem gX4_invertRow_X2_clear : GoodIn wsX4_invertRow (wsV RX4 98 RX2 yX2_clear wsX2_clear) := goodIn_app (goodIn_of _ (by decide +kernel)) ggX4_invertRow_X2_clear
set_option maxRecDepth 20000 in
theorem ggX4_invertRow_X2_write : GoodIn wsX4_invertRow wsX2_write := goodIn_r _ [26, 6, 27, 28, 29, 30, 31, 32] (by decide +kernel) (by decide +kernel)
set_option maxRecDepth 20000 in
theorem gX4_invertRow_X2_write : GoodIn wsX4_invertRow (wsV RX4 94 RX2 yX2_write wsX2_write) := goodIn_app (goodIn_of _ (by decide +kernel)) ggX4_invertRow_X2_write
theorem dX4_invertRow_0 : decode cX4_invertRow 0 = .ok (.aload_n 0, 1) := by decide +kernel
theorem dX4_invertRow_1 : decode cX4_invertRow 1 = .ok (.iconst 0, 1) := by decide +kernel
theorem dX4_invertRow_2 : decode cX4_invertRow 2 = .ok (.invokevirtual 101, 3) := by decide +kernel
theorem dX4_invertRow_5 : decode cX4_invertRow 5 = .ok (.invokestatic 141, 3) := by decide +kernel
theorem dX4_invertRow_8 : decode cX4_invertRow 8 = .ok (.istore_n 3, 1) := by decide +kernel
theorem dX4_invertRow_9 : decode cX4_invertRow 9 = .ok (.aload_n 2, 1) := by decide +kernel
theorem dX4_invertRow_10 : decode cX4_invertRow 10 = .ok (.iload_n 1, 1) := by decide +kernel
theorem dX4_invertRow_11 : decode cX4_invertRow 11 = .ok (.invokevirtual 98, 3) := by decide +kernel
theorem dX4_invertRow_14 : decode cX4_invertRow 14 = .ok (.aload_n 2, 1) := by decide +kernel
theorem dX4_invertRow_15 : decode cX4_invertRow 15 = .ok (.iconst 0, 1) := by decide +kernel
theorem dX4_invertRow_16 : decode cX4_invertRow 16 = .ok (.iload_n 3, 1) := by decide +kernel
theorem dX4_invertRow_17 : decode cX4_invertRow 17 = .ok (.invokevirtual 94, 3) := by decide +kernel
theorem dX4_invertRow_20 : decode cX4_invertRow 20 = .ok (.iconst 1, 1) := by decide +kernel
theorem dX4_invertRow_21 : decode cX4_invertRow 21 = .ok (.istore 4, 2) := by decide +kernel
theorem dX4_invertRow_23 : decode cX4_invertRow 23 = .ok (.iload 4, 2) := by decide +kernel
theorem dX4_invertRow_25 : decode cX4_invertRow 25 = .ok (.iload_n 1, 1) := by decide +kernel
theorem dX4_invertRow_26 : decode cX4_invertRow 26 = .ok (.if_icmp .ge 64, 3) := by decide +kernel
theorem dX4_invertRow_29 : decode cX4_invertRow 29 = .ok (.iconst 0, 1) := by decide +kernel
theorem dX4_invertRow_30 : decode cX4_invertRow 30 = .ok (.istore 5, 2) := by decide +kernel
theorem dX4_invertRow_32 : decode cX4_invertRow 32 = .ok (.iconst 1, 1) := by decide +kernel
theorem dX4_invertRow_33 : decode cX4_invertRow 33 = .ok (.istore 6, 2) := by decide +kernel
theorem dX4_invertRow_35 : decode cX4_invertRow 35 = .ok (.iload 6, 2) := by decide +kernel
theorem dX4_invertRow_37 : decode cX4_invertRow 37 = .ok (.iload 4, 2) := by decide +kernel
theorem dX4_invertRow_39 : decode cX4_invertRow 39 = .ok (.if_icmp .gt 30, 3) := by decide +kernel
theorem dX4_invertRow_42 : decode cX4_invertRow 42 = .ok (.iload 5, 2) := by decide +kernel
theorem dX4_invertRow_44 : decode cX4_invertRow 44 = .ok (.aload_n 0, 1) := by decide +kernel
theorem dX4_invertRow_45 : decode cX4_invertRow 45 = .ok (.iload 6, 2) := by decide +kernel
theorem dX4_invertRow_47 : decode cX4_invertRow 47 = .ok (.invokevirtual 101, 3) := by decide +kernel
theorem dX4_invertRow_50 : decode cX4_invertRow 50 = .ok (.aload_n 2, 1) := by decide +kernel
theorem dX4_invertRow_51 : decode cX4_invertRow 51 = .ok (.iload 4, 2) := by decide +kernel
theorem dX4_invertRow_53 : decode cX4_invertRow 53 = .ok (.iload 6, 2) := by decide +kernel
theorem dX4_invertRow_55 : decode cX4_invertRow 55 = .ok (.isub, 1) := by decide +kernel
theorem dX4_invertRow_56 : decode cX4_invertRow 56 = .ok (.invokevirtual 101, 3) := by decide +kernel
theorem dX4_invertRow_59 : decode cX4_invertRow 59 = .ok (.imul, 1) := by decide +kernel
theorem dX4_invertRow_60 : decode cX4_invertRow 60 = .ok (.iadd, 1) := by decide +kernel
theorem dX4_invertRow_61 : decode cX4_invertRow 61 = .ok (.istore 5, 2) := by decide +kernel
theorem dX4_invertRow_63 : decode cX4_invertRow 63 = .ok (.iinc 6 1, 3) := by decide +kernel
theorem dX4_invertRow_66 : decode cX4_invertRow 66 = .ok (.goto (-31), 3) := by decide +kernel
theorem dX4_invertRow_69 : decode cX4_invertRow 69 = .ok (.aload_n 2, 1) := by decide +kernel
theorem dX4_invertRow_70 : decode cX4_invertRow 70 = .ok (.iload 4, 2) := by decide +kernel
theorem dX4_invertRow_72 : decode cX4_invertRow 72 = .ok (.iload 5, 2) := by decide +kernel
theorem dX4_invertRow_74 : decode cX4_invertRow 74 = .ok (.sipush 257, 3) := by decide +kernel
theorem dX4_invertRow_77 : decode cX4_invertRow 77 = .ok (.irem, 1) := by decide +kernel
theorem dX4_invertRow_78 : decode cX4_invertRow 78 = .ok (.ineg, 1) := by decide +kernel
theorem dX4_invertRow_79 : decode cX4_invertRow 79 = .ok (.iload_n 3, 1) := by decide +kernel
theorem dX4_invertRow_80 : decode cX4_invertRow 80 = .ok (.imul, 1) := by decide +kernel
theorem dX4_invertRow_81 : decode cX4_invertRow 81 = .ok (.invokevirtual 94, 3) := by decide +kernel
theorem dX4_invertRow_84 : decode cX4_invertRow 84 = .ok (.iinc 4 1, 3) := by decide +kernel
theorem dX4_invertRow_87 : decode cX4_invertRow 87 = .ok (.goto (-64), 3) := by decide +kernel
theorem dX4_invertRow_90 : decode cX4_invertRow 90 = .ok (.return_, 1) := by decide +kernel
set_option maxRecDepth 20000 in
theorem ggX4_divideRows_X2_degree : GoodIn wsX4_divideRows wsX2_degree := goodIn_r _ [9, 10, 11, 12, 13, 8, 14, 15, 53, 54] (by decide +kernel) (by decide +kernel)
set_option maxRecDepth 20000 in
theorem gX4_divideRows_X2_degree : GoodIn wsX4_divideRows (wsV RX4 113 RX2 yX2_degree wsX2_degree) := goodIn_app (goodIn_of _ (by decide +kernel)) ggX4_divideRows_X2_degree
set_option maxRecDepth 20000 in
theorem ggX4_divideRows_X2_at : GoodIn wsX4_divideRows wsX2_at := goodIn_r _ [14, 15, 53, 54] (by decide +kernel) (by decide +kernel)
set_option maxRecDepth 20000 in
theorem gX4_divideRows_X2_at : GoodIn wsX4_divideRows (wsV RX4 101 RX2 yX2_at wsX2_at) := goodIn_app (goodIn_of _ (by decide +kernel)) ggX4_divideRows_X2_at
set_option maxRecDepth 20000 in
theorem ggX4_divideRows_X4_inverseOf : GoodIn wsX4_divideRows wsX4_inverseOf := goodIn_r _ [20, 21, 22, 19, 23] (by decide +kernel) (by decide +kernel)
set_option maxRecDepth 20000 in
theorem gX4_divideRows_X4_inverseOf : GoodIn wsX4_divideRows (va_wsS RX4 141 yX4_inverseOf wsX4_inverseOf) := goodIn_app (goodIn_of _ (by decide +kernel)) ggX4_divideRows_X4_inverseOf
set_option maxRecDepth 20000 in
theorem ggX4_divideRows_X2_clear : GoodIn wsX4_divideRows wsX2_clear := goodIn_r _ [27, 15, 10, 28, 29, 30, 31, 53, 54] (by decide +kernel) (by decide +kernel)
set_option maxRecDepth 20000 in
theorem gX4_divideRows_X2_clear : GoodIn wsX4_divideRows (wsV RX4 98 RX2 yX2_clear wsX2_clear) := goodIn_app (goodIn_of _ (by decide +kernel)) ggX4_divideRows_X2_clear
set_option maxRecDepth 20000 in
theorem ggX4_divideRows_X2_copyFrom : GoodIn wsX4_divideRows wsX2_copyFrom := goodIn_r _ [35, 15, 36, 37, 38, 39, 10, 53, 54] (by decide +kernel) (by decide +kernel)
set_option maxRecDepth 20000 in
theorem gX4_divideRows_X2_copyFrom : GoodIn wsX4_divideRows (wsV RX4 116 RX2 yX2_copyFrom wsX2_copyFrom) := goodIn_app (goodIn_of _ (by decide +kernel)) ggX4_divideRows_X2_copyFrom
set_option maxRecDepth 20000 in
theorem ggX4_divideRows_X2_write : GoodIn wsX4_divideRows wsX2_write := goodIn_r _ [43, 15, 44, 45, 46, 47, 53, 54] (by decide +kernel) (by decide +kernel)
set_option maxRecDepth 20000 in
theorem gX4_divideRows_X2_write : GoodIn wsX4_divideRows (wsV RX4 94 RX2 yX2_write wsX2_write) := goodIn_app (goodIn_of _ (by decide +kernel)) ggX4_divideRows_X2_write
set_option maxRecDepth 20000 in
theorem ggX4_divideRows_X2_resize : GoodIn wsX4_divideRows wsX2_resize := goodIn_r _ [51, 10, 52, 41, 42, 8, 43, 15, 44, 45, 46, 47, 53, 54] (by decide +kernel) (by decide +kernel)
set_option maxRecDepth 20000 in
theorem gX4_divideRows_X2_resize : GoodIn wsX4_divideRows (wsV RX4 90 RX2 yX2_resize wsX2_resize) := goodIn_app (goodIn_of _ (by decide +kernel)) ggX4_divideRows_X2_resize
theorem dX4_divideRows_0 : decode cX4_divideRows 0 = .ok (.aload_n 1, 1) := by decide +kernel
theorem dX4_divideRows_1 : decode cX4_divideRows 1 = .ok (.invokevirtual 113, 3) := by decide +kernel
theorem dX4_divideRows_4 : decode cX4_divideRows 4 = .ok (.istore 4, 2) := by decide +kernel
theorem dX4_divideRows_6 : decode cX4_divideRows 6 = .ok (.aload_n 1, 1) := by decide +kernel
theorem dX4_divideRows_7 : decode cX4_divideRows 7 = .ok (.iload 4, 2) := by decide +kernel
theorem dX4_divideRows_9 : decode cX4_divideRows 9 = .ok (.invokevirtual 101, 3) := by decide +kernel
theorem dX4_divideRows_12 : decode cX4_divideRows 12 = .ok (.invokestatic 141, 3) := by decide +kernel
theorem dX4_divideRows_15 : decode cX4_divideRows 15 = .ok (.istore 5, 2) := by decide +kernel
theorem dX4_divideRows_17 : decode cX4_divideRows 17 = .ok (.aload_n 0, 1) := by decide +kernel
theorem dX4_divideRows_18 : decode cX4_divideRows 18 = .ok (.invokevirtual 113, 3) := by decide +kernel
theorem dX4_divideRows_21 : decode cX4_divideRows 21 = .ok (.iload 4, 2) := by decide +kernel
theorem dX4_divideRows_23 : decode cX4_divideRows 23 = .ok (.isub, 1) := by decide +kernel
theorem dX4_divideRows_24 : decode cX4_divideRows 24 = .ok (.istore 6, 2) := by decide +kernel
theorem dX4_divideRows_26 : decode cX4_divideRows 26 = .ok (.aload_n 2, 1) := by decide +kernel
theorem dX4_divideRows_27 : decode cX4_divideRows 27 = .ok (.iload 6, 2) := by decide +kernel
theorem dX4_divideRows_29 : decode cX4_divideRows 29 = .ok (.iconst 0, 1) := by decide +kernel
theorem dX4_divideRows_30 : decode cX4_divideRows 30 = .ok (.invokestatic 84, 3) := by decide +kernel
theorem dX4_divideRows_33 : decode cX4_divideRows 33 = .ok (.iconst 1, 1) := by decide +kernel
theorem dX4_divideRows_34 : decode cX4_divideRows 34 = .ok (.iadd, 1) := by decide +kernel
theorem dX4_divideRows_35 : decode cX4_divideRows 35 = .ok (.invokevirtual 98, 3) := by decide +kernel
theorem dX4_divideRows_38 : decode cX4_divideRows 38 = .ok (.aload_n 3, 1) := by decide +kernel
theorem dX4_divideRows_39 : decode cX4_divideRows 39 = .ok (.aload_n 0, 1) := by decide +kernel
theorem dX4_divideRows_40 : decode cX4_divideRows 40 = .ok (.invokevirtual 116, 3) := by decide +kernel
theorem dX4_divideRows_43 : decode cX4_divideRows 43 = .ok (.iload 6, 2) := by decide +kernel
theorem dX4_divideRows_45 : decode cX4_divideRows 45 = .ok (.istore 7, 2) := by decide +kernel
theorem dX4_divideRows_47 : decode cX4_divideRows 47 = .ok (.iload 7, 2) := by decide +kernel
theorem dX4_divideRows_49 : decode cX4_divideRows 49 = .ok (.ifCond .lt 79, 3) := by decide +kernel
theorem dX4_divideRows_52 : decode cX4_divideRows 52 = .ok (.aload_n 3, 1) := by decide +kernel
theorem dX4_divideRows_53 : decode cX4_divideRows 53 = .ok (.iload 7, 2) := by decide +kernel
theorem dX4_divideRows_55 : decode cX4_divideRows 55 = .ok (.iload 4, 2) := by decide +kernel
theorem dX4_divideRows_57 : decode cX4_divideRows 57 = .ok (.iadd, 1) := by decide +kernel
theorem dX4_divideRows_58 : decode cX4_divideRows 58 = .ok (.invokevirtual 101, 3) := by decide +kernel
theorem dX4_divideRows_61 : decode cX4_divideRows 61 = .ok (.iload 5, 2) := by decide +kernel
theorem dX4_divideRows_63 : decode cX4_divideRows 63 = .ok (.imul, 1) := by decide +kernel
theorem dX4_divideRows_64 : decode cX4_divideRows 64 = .ok (.sipush 257, 3) := by decide +kernel
theorem dX4_divideRows_67 : decode cX4_divideRows 67 = .ok (.irem, 1) := by decide +kernel
theorem dX4_divideRows_68 : decode cX4_divideRows 68 = .ok (.istore 8, 2) := by decide +kernel
theorem dX4_divideRows_70 : decode cX4_divideRows 70 = .ok (.aload_n 2, 1) := by decide +kernel
theorem dX4_divideRows_71 : decode cX4_divideRows 71 = .ok (.iload 7, 2) := by decide +kernel
theorem dX4_divideRows_73 : decode cX4_divideRows 73 = .ok (.iload 8, 2) := by decide +kernel
theorem dX4_divideRows_75 : decode cX4_divideRows 75 = .ok (.invokevirtual 94, 3) := by decide +kernel
theorem dX4_divideRows_78 : decode cX4_divideRows 78 = .ok (.iconst 0, 1) := by decide +kernel
theorem dX4_divideRows_79 : decode cX4_divideRows 79 = .ok (.istore 9, 2) := by decide +kernel
theorem dX4_divideRows_81 : decode cX4_divideRows 81 = .ok (.iload 9, 2) := by decide +kernel
theorem dX4_divideRows_83 : decode cX4_divideRows 83 = .ok (.iload 4, 2) := by decide +kernel
theorem dX4_divideRows_85 : decode cX4_divideRows 85 = .ok (.if_icmp .gt 37, 3) := by decide +kernel
theorem dX4_divideRows_88 : decode cX4_divideRows 88 = .ok (.aload_n 3, 1) := by decide +kernel
theorem dX4_divideRows_89 : decode cX4_divideRows 89 = .ok (.iload 7, 2) := by decide +kernel
theorem dX4_divideRows_91 : decode cX4_divideRows 91 = .ok (.iload 9, 2) := by decide +kernel
theorem dX4_divideRows_93 : decode cX4_divideRows 93 = .ok (.iadd, 1) := by decide +kernel
theorem dX4_divideRows_94 : decode cX4_divideRows 94 = .ok (.aload_n 3, 1) := by decide +kernel
theorem dX4_divideRows_95 : decode cX4_divideRows 95 = .ok (.iload 7, 2) := by decide +kernel
theorem dX4_divideRows_97 : decode cX4_divideRows 97 = .ok (.iload 9, 2) := by decide +kernel
theorem dX4_divideRows_99 : decode cX4_divideRows 99 = .ok (.iadd, 1) := by decide +kernel
theorem dX4_divideRows_100 : decode cX4_divideRows 100 = .ok (.invokevirtual 101, 3) := by decide +kernel
theorem dX4_divideRows_103 : decode cX4_divideRows 103 = .ok (.iload 8, 2) := by decide +kernel
theorem dX4_divideRows_105 : decode cX4_divideRows 105 = .ok (.aload_n 1, 1) := by decide +kernel
theorem dX4_divideRows_106 : decode cX4_divideRows 106 = .ok (.iload 9, 2) := by decide +kernel
theorem dX4_divideRows_108 : decode cX4_divideRows 108 = .ok (.invokevirtual 101, 3) := by decide +kernel
theorem dX4_divideRows_111 : decode cX4_divideRows 111 = .ok (.imul, 1) := by decide +kernel
theorem dX4_divideRows_112 : decode cX4_divideRows 112 = .ok (.isub, 1) := by decide +kernel
theorem dX4_divideRows_113 : decode cX4_divideRows 113 = .ok (.invokevirtual 94, 3) := by decide +kernel
theorem dX4_divideRows_116 : decode cX4_divideRows 116 = .ok (.iinc 9 1, 3) := by decide +kernel
theorem dX4_divideRows_119 : decode cX4_divideRows 119 = .ok (.goto (-38), 3) := by decide +kernel
theorem dX4_divideRows_122 : decode cX4_divideRows 122 = .ok (.iinc 7 (-1), 3) := by decide +kernel
theorem dX4_divideRows_125 : decode cX4_divideRows 125 = .ok (.goto (-78), 3) := by decide +kernel
theorem dX4_divideRows_128 : decode cX4_divideRows 128 = .ok (.aload_n 3, 1) := by decide +kernel
theorem dX4_divideRows_129 : decode cX4_divideRows 129 = .ok (.iload 4, 2) := by decide +kernel
theorem dX4_divideRows_131 : decode cX4_divideRows 131 = .ok (.iconst 1, 1) := by decide +kernel
theorem dX4_divideRows_132 : decode cX4_divideRows 132 = .ok (.invokestatic 84, 3) := by decide +kernel
theorem dX4_divideRows_135 : decode cX4_divideRows 135 = .ok (.invokevirtual 90, 3) := by decide +kernel
theorem dX4_divideRows_138 : decode cX4_divideRows 138 = .ok (.return_, 1) := by decide +kernel
set_option maxRecDepth 20000 in
theorem ggX4_makeGreatestDivisor_X2_copyFrom : GoodIn wsX4_makeGreatestDivisor wsX2_copyFrom := goodIn_r _ [10, 11, 12, 13, 14, 15, 16, 75, 76] (by decide +kernel) (by decide +kernel)
set_option maxRecDepth 20000 in
theorem gX4_makeGreatestDivisor_X2_copyFrom : GoodIn wsX4_makeGreatestDivisor (wsV RX4 116 RX2 yX2_copyFrom wsX2_copyFrom) := goodIn_app (goodIn_of _ (by decide +kernel)) ggX4_makeGreatestDivisor_X2_copyFrom
set_option maxRecDepth 20000 in
theorem ggX4_makeGreatestDivisor_X2_degree : GoodIn wsX4_makeGreatestDivisor wsX2_degree := goodIn_r _ [20, 16, 21, 22, 23, 9, 24, 11, 75, 76] (by decide +kernel) (by decide +kernel)
set_option maxRecDepth 20000 in
theorem gX4_makeGreatestDivisor_X2_degree : GoodIn wsX4_makeGreatestDivisor (wsV RX4 113 RX2 yX2_degree wsX2_degree) := goodIn_app (goodIn_of _ (by decide +kernel)) ggX4_makeGreatestDivisor_X2_degree
set_option maxRecDepth 20000 in
theorem ggX4_makeGreatestDivisor_X4_divideRows : GoodIn wsX4_makeGreatestDivisor wsX4_divideRows := goodIn_r _ [28, 29, 30, 31, 32, 17, 18, 19, 9, 20, 16, 21, 22, 23, 24, 11, 33, 34, 35, 27, 36, 37, 38, 39, 40, 41, 42, 43, 44, 45, 46, 47, 6, 7, 8, 10, 12, 13, 14, 15, 48, 49, 50, 51, 52, 53, 54, 55, 56, 57, 58, 59, 60, 75, 76] (by decide +kernel) (by decide +kernel)
set_option maxRecDepth 20000 in
theorem gX4_makeGreatestDivisor_X4_divideRows : GoodIn wsX4_makeGreatestDivisor (va_wsS RX4 123 yX4_divideRows wsX4_divideRows) := goodIn_app (goodIn_of _ (by decide +kernel)) ggX4_makeGreatestDivisor_X4_divideRows
set_option maxRecDepth 20000 in
theorem ggX4_makeGreatestDivisor_X2_resize : GoodIn wsX4_makeGreatestDivisor wsX2_resize := goodIn_r _ [59, 16, 60, 49, 50, 9, 51, 11, 52, 53, 54, 55, 75, 76] (by decide +kernel) (by decide +kernel)
set_option maxRecDepth 20000 in
theorem gX4_makeGreatestDivisor_X2_resize : GoodIn wsX4_makeGreatestDivisor (wsV RX4 90 RX2 yX2_resize wsX2_resize) := goodIn_app (goodIn_of _ (by decide +kernel)) ggX4_makeGreatestDivisor_X2_resize
set_option maxRecDepth 20000 in
theorem ggX4_makeGreatestDivisor_X2_at : GoodIn wsX4_makeGreatestDivisor wsX2_at := goodIn_r _ [24, 11, 75, 76] (by decide +kernel) (by decide +kernel)
set_option maxRecDepth 20000 in
theorem gX4_makeGreatestDivisor_X2_at : GoodIn wsX4_makeGreatestDivisor (wsV RX4 101 RX2 yX2_at wsX2_at) := goodIn_app (goodIn_of _ (by decide +kernel)) ggX4_makeGreatestDivisor_X2_at
set_option maxRecDepth 20000 in
theorem ggX4_makeGreatestDivisor_X4_inverseOf : GoodIn wsX4_makeGreatestDivisor wsX4_inverseOf := goodIn_r _ [36, 37, 38, 27, 39] (by decide +kernel) (by decide +kernel)
set_option maxRecDepth 20000 in
theorem gX4_makeGreatestDivisor_X4_inverseOf : GoodIn wsX4_makeGreatestDivisor (va_wsS RX4 141 yX4_inverseOf wsX4_inverseOf) := goodIn_app (goodIn_of _ (by decide +kernel)) ggX4_makeGreatestDivisor_X4_inverseOf
set_option maxRecDepth 20000 in
theorem ggX4_makeGreatestDivisor_X2_scale : GoodIn wsX4_makeGreatestDivisor wsX2_scale := goodIn_r _ [64, 16, 21, 22, 23, 9, 24, 11, 60, 49, 50, 51, 52, 53, 54, 55, 75, 76] (by decide +kernel) (by decide +kernel)
set_option maxRecDepth 20000 in
theorem gX4_makeGreatestDivisor_X2_scale : GoodIn wsX4_makeGreatestDivisor (wsV RX4 144 RX2 yX2_scale wsX2_scale) := goodIn_app (goodIn_of _ (by decide +kernel)) ggX4_makeGreatestDivisor_X2_scale
theorem dX4_makeGreatestDivisor_0 : decode cX4_makeGreatestDivisor 0 = .ok (.aload_n 0, 1) := by decide +kernel
theorem dX4_makeGreatestDivisor_1 : decode cX4_makeGreatestDivisor 1 = .ok (.getfield 48, 3) := by decide +kernel
theorem dX4_makeGreatestDivisor_4 : decode cX4_makeGreatestDivisor 4 = .ok (.aload_n 1, 1) := by decide +kernel
theorem dX4_makeGreatestDivisor_5 : decode cX4_makeGreatestDivisor 5 = .ok (.invokevirtual 116, 3) := by decide +kernel
theorem dX4_makeGreatestDivisor_8 : decode cX4_makeGreatestDivisor 8 = .ok (.aload_n 0, 1) := by decide +kernel
theorem dX4_makeGreatestDivisor_9 : decode cX4_makeGreatestDivisor 9 = .ok (.getfield 51, 3) := by decide +kernel
theorem dX4_makeGreatestDivisor_12 : decode cX4_makeGreatestDivisor 12 = .ok (.aload_n 2, 1) := by decide +kernel
theorem dX4_makeGreatestDivisor_13 : decode cX4_makeGreatestDivisor 13 = .ok (.invokevirtual 116, 3) := by decide +kernel
theorem dX4_makeGreatestDivisor_16 : decode cX4_makeGreatestDivisor 16 = .ok (.iconst 0, 1) := by decide +kernel
theorem dX4_makeGreatestDivisor_17 : decode cX4_makeGreatestDivisor 17 = .ok (.istore_n 3, 1) := by decide +kernel
theorem dX4_makeGreatestDivisor_18 : decode cX4_makeGreatestDivisor 18 = .ok (.iload_n 3, 1) := by decide +kernel
theorem dX4_makeGreatestDivisor_19 : decode cX4_makeGreatestDivisor 19 = .ok (.bipush 64, 2) := by decide +kernel
theorem dX4_makeGreatestDivisor_21 : decode cX4_makeGreatestDivisor 21 = .ok (.if_icmp .gt 62, 3) := by decide +kernel
theorem dX4_makeGreatestDivisor_24 : decode cX4_makeGreatestDivisor 24 = .ok (.aload_n 0, 1) := by decide +kernel
theorem dX4_makeGreatestDivisor_25 : decode cX4_makeGreatestDivisor 25 = .ok (.getfield 51, 3) := by decide +kernel
theorem dX4_makeGreatestDivisor_28 : decode cX4_makeGreatestDivisor 28 = .ok (.invokevirtual 113, 3) := by decide +kernel
theorem dX4_makeGreatestDivisor_31 : decode cX4_makeGreatestDivisor 31 = .ok (.bipush (-6), 2) := by decide +kernel
theorem dX4_makeGreatestDivisor_33 : decode cX4_makeGreatestDivisor 33 = .ok (.if_icmp .eq 50, 3) := by decide +kernel
theorem dX4_makeGreatestDivisor_36 : decode cX4_makeGreatestDivisor 36 = .ok (.aload_n 0, 1) := by decide +kernel
theorem dX4_makeGreatestDivisor_37 : decode cX4_makeGreatestDivisor 37 = .ok (.getfield 48, 3) := by decide +kernel
theorem dX4_makeGreatestDivisor_40 : decode cX4_makeGreatestDivisor 40 = .ok (.aload_n 0, 1) := by decide +kernel
theorem dX4_makeGreatestDivisor_41 : decode cX4_makeGreatestDivisor 41 = .ok (.getfield 51, 3) := by decide +kernel
theorem dX4_makeGreatestDivisor_44 : decode cX4_makeGreatestDivisor 44 = .ok (.aload_n 0, 1) := by decide +kernel
theorem dX4_makeGreatestDivisor_45 : decode cX4_makeGreatestDivisor 45 = .ok (.getfield 54, 3) := by decide +kernel
theorem dX4_makeGreatestDivisor_48 : decode cX4_makeGreatestDivisor 48 = .ok (.aload_n 0, 1) := by decide +kernel
theorem dX4_makeGreatestDivisor_49 : decode cX4_makeGreatestDivisor 49 = .ok (.getfield 45, 3) := by decide +kernel
theorem dX4_makeGreatestDivisor_52 : decode cX4_makeGreatestDivisor 52 = .ok (.invokestatic 123, 3) := by decide +kernel
theorem dX4_makeGreatestDivisor_55 : decode cX4_makeGreatestDivisor 55 = .ok (.aload_n 0, 1) := by decide +kernel
theorem dX4_makeGreatestDivisor_56 : decode cX4_makeGreatestDivisor 56 = .ok (.getfield 48, 3) := by decide +kernel
theorem dX4_makeGreatestDivisor_59 : decode cX4_makeGreatestDivisor 59 = .ok (.aload_n 0, 1) := by decide +kernel
theorem dX4_makeGreatestDivisor_60 : decode cX4_makeGreatestDivisor 60 = .ok (.getfield 51, 3) := by decide +kernel
theorem dX4_makeGreatestDivisor_63 : decode cX4_makeGreatestDivisor 63 = .ok (.invokevirtual 116, 3) := by decide +kernel
theorem dX4_makeGreatestDivisor_66 : decode cX4_makeGreatestDivisor 66 = .ok (.aload_n 0, 1) := by decide +kernel
theorem dX4_makeGreatestDivisor_67 : decode cX4_makeGreatestDivisor 67 = .ok (.getfield 51, 3) := by decide +kernel
theorem dX4_makeGreatestDivisor_70 : decode cX4_makeGreatestDivisor 70 = .ok (.aload_n 0, 1) := by decide +kernel
theorem dX4_makeGreatestDivisor_71 : decode cX4_makeGreatestDivisor 71 = .ok (.getfield 45, 3) := by decide +kernel
theorem dX4_makeGreatestDivisor_74 : decode cX4_makeGreatestDivisor 74 = .ok (.invokevirtual 116, 3) := by decide +kernel
end
section
theorem dX4_makeGreatestDivisor_77 : decode cX4_makeGreatestDivisor 77 = .ok (.iinc 3 1, 3) := by decide +kernel
theorem dX4_makeGreatestDivisor_80 : decode cX4_makeGreatestDivisor 80 = .ok (.goto (-62), 3) := by decide +kernel
theorem dX4_makeGreatestDivisor_83 : decode cX4_makeGreatestDivisor 83 = .ok (.aload_n 0, 1) := by decide +kernel
theorem dX4_makeGreatestDivisor_84 : decode cX4_makeGreatestDivisor 84 = .ok (.getfield 48, 3) := by decide +kernel
theorem dX4_makeGreatestDivisor_87 : decode cX4_makeGreatestDivisor 87 = .ok (.invokevirtual 113, 3) := by decide +kernel
theorem dX4_makeGreatestDivisor_90 : decode cX4_makeGreatestDivisor 90 = .ok (.istore_n 3, 1) := by decide +kernel
theorem dX4_makeGreatestDivisor_91 : decode cX4_makeGreatestDivisor 91 = .ok (.aload_n 0, 1) := by decide +kernel
theorem dX4_makeGreatestDivisor_92 : decode cX4_makeGreatestDivisor 92 = .ok (.getfield 41, 3) := by decide +kernel
theorem dX4_makeGreatestDivisor_95 : decode cX4_makeGreatestDivisor 95 = .ok (.aload_n 0, 1) := by decide +kernel
theorem dX4_makeGreatestDivisor_96 : decode cX4_makeGreatestDivisor 96 = .ok (.getfield 48, 3) := by decide +kernel
theorem dX4_makeGreatestDivisor_99 : decode cX4_makeGreatestDivisor 99 = .ok (.invokevirtual 116, 3) := by decide +kernel
theorem dX4_makeGreatestDivisor_102 : decode cX4_makeGreatestDivisor 102 = .ok (.aload_n 0, 1) := by decide +kernel
theorem dX4_makeGreatestDivisor_103 : decode cX4_makeGreatestDivisor 103 = .ok (.getfield 41, 3) := by decide +kernel
theorem dX4_makeGreatestDivisor_106 : decode cX4_makeGreatestDivisor 106 = .ok (.iload_n 3, 1) := by decide +kernel
theorem dX4_makeGreatestDivisor_107 : decode cX4_makeGreatestDivisor 107 = .ok (.iconst 1, 1) := by decide +kernel
theorem dX4_makeGreatestDivisor_108 : decode cX4_makeGreatestDivisor 108 = .ok (.iadd, 1) := by decide +kernel
theorem dX4_makeGreatestDivisor_109 : decode cX4_makeGreatestDivisor 109 = .ok (.invokevirtual 90, 3) := by decide +kernel
theorem dX4_makeGreatestDivisor_112 : decode cX4_makeGreatestDivisor 112 = .ok (.aload_n 0, 1) := by decide +kernel
theorem dX4_makeGreatestDivisor_113 : decode cX4_makeGreatestDivisor 113 = .ok (.getfield 41, 3) := by decide +kernel
theorem dX4_makeGreatestDivisor_116 : decode cX4_makeGreatestDivisor 116 = .ok (.aload_n 0, 1) := by decide +kernel
theorem dX4_makeGreatestDivisor_117 : decode cX4_makeGreatestDivisor 117 = .ok (.getfield 41, 3) := by decide +kernel
theorem dX4_makeGreatestDivisor_120 : decode cX4_makeGreatestDivisor 120 = .ok (.iload_n 3, 1) := by decide +kernel
theorem dX4_makeGreatestDivisor_121 : decode cX4_makeGreatestDivisor 121 = .ok (.invokevirtual 101, 3) := by decide +kernel
theorem dX4_makeGreatestDivisor_124 : decode cX4_makeGreatestDivisor 124 = .ok (.invokestatic 141, 3) := by decide +kernel
theorem dX4_makeGreatestDivisor_127 : decode cX4_makeGreatestDivisor 127 = .ok (.invokevirtual 144, 3) := by decide +kernel
theorem dX4_makeGreatestDivisor_130 : decode cX4_makeGreatestDivisor 130 = .ok (.return_, 1) := by decide +kernel
set_option maxRecDepth 20000 in
theorem ggX4_turnAround_X2_clear : GoodIn wsX4_turnAround wsX2_clear := goodIn_r _ [5, 6, 7, 8, 9, 10, 11, 28, 29] (by decide +kernel) (by decide +kernel)
set_option maxRecDepth 20000 in
theorem gX4_turnAround_X2_clear : GoodIn wsX4_turnAround (wsV RX4 98 RX2 yX2_clear wsX2_clear) := goodIn_app (goodIn_of _ (by decide +kernel)) ggX4_turnAround_X2_clear
set_option maxRecDepth 20000 in
theorem ggX4_turnAround_X2_valueAt : GoodIn wsX4_turnAround wsX2_valueAt := goodIn_r _ [15, 7, 16, 17, 18, 4, 19, 6, 28, 29] (by decide +kernel) (by decide +kernel)
set_option maxRecDepth 20000 in
theorem gX4_turnAround_X2_valueAt : GoodIn wsX4_turnAround (wsV RX4 156 RX2 yX2_valueAt wsX2_valueAt) := goodIn_app (goodIn_of _ (by decide +kernel)) ggX4_turnAround_X2_valueAt
set_option maxRecDepth 20000 in
theorem ggX4_turnAround_X2_write : GoodIn wsX4_turnAround wsX2_write := goodIn_r _ [23, 6, 24, 25, 26, 27, 28, 29] (by decide +kernel) (by decide +kernel)
set_option maxRecDepth 20000 in
theorem gX4_turnAround_X2_write : GoodIn wsX4_turnAround (wsV RX4 94 RX2 yX2_write wsX2_write) := goodIn_app (goodIn_of _ (by decide +kernel)) ggX4_turnAround_X2_write
theorem dX4_turnAround_0 : decode cX4_turnAround 0 = .ok (.aload_n 3, 1) := by decide +kernel
theorem dX4_turnAround_1 : decode cX4_turnAround 1 = .ok (.iload_n 1, 1) := by decide +kernel
theorem dX4_turnAround_2 : decode cX4_turnAround 2 = .ok (.invokevirtual 98, 3) := by decide +kernel
theorem dX4_turnAround_5 : decode cX4_turnAround 5 = .ok (.iconst 1, 1) := by decide +kernel
theorem dX4_turnAround_6 : decode cX4_turnAround 6 = .ok (.istore 4, 2) := by decide +kernel
theorem dX4_turnAround_8 : decode cX4_turnAround 8 = .ok (.iconst 0, 1) := by decide +kernel
theorem dX4_turnAround_9 : decode cX4_turnAround 9 = .ok (.istore 5, 2) := by decide +kernel
theorem dX4_turnAround_11 : decode cX4_turnAround 11 = .ok (.iload 5, 2) := by decide +kernel
theorem dX4_turnAround_13 : decode cX4_turnAround 13 = .ok (.iload_n 1, 1) := by decide +kernel
theorem dX4_turnAround_14 : decode cX4_turnAround 14 = .ok (.if_icmp .ge 31, 3) := by decide +kernel
theorem dX4_turnAround_17 : decode cX4_turnAround 17 = .ok (.aload_n 3, 1) := by decide +kernel
theorem dX4_turnAround_18 : decode cX4_turnAround 18 = .ok (.iload 5, 2) := by decide +kernel
theorem dX4_turnAround_20 : decode cX4_turnAround 20 = .ok (.aload_n 0, 1) := by decide +kernel
theorem dX4_turnAround_21 : decode cX4_turnAround 21 = .ok (.iload 4, 2) := by decide +kernel
theorem dX4_turnAround_23 : decode cX4_turnAround 23 = .ok (.invokevirtual 156, 3) := by decide +kernel
theorem dX4_turnAround_26 : decode cX4_turnAround 26 = .ok (.invokevirtual 94, 3) := by decide +kernel
theorem dX4_turnAround_29 : decode cX4_turnAround 29 = .ok (.iload 4, 2) := by decide +kernel
theorem dX4_turnAround_31 : decode cX4_turnAround 31 = .ok (.iload_n 2, 1) := by decide +kernel
theorem dX4_turnAround_32 : decode cX4_turnAround 32 = .ok (.imul, 1) := by decide +kernel
theorem dX4_turnAround_33 : decode cX4_turnAround 33 = .ok (.sipush 257, 3) := by decide +kernel
theorem dX4_turnAround_36 : decode cX4_turnAround 36 = .ok (.irem, 1) := by decide +kernel
theorem dX4_turnAround_37 : decode cX4_turnAround 37 = .ok (.istore 4, 2) := by decide +kernel
theorem dX4_turnAround_39 : decode cX4_turnAround 39 = .ok (.iinc 5 1, 3) := by decide +kernel
theorem dX4_turnAround_42 : decode cX4_turnAround 42 = .ok (.goto (-31), 3) := by decide +kernel
theorem dX4_turnAround_45 : decode cX4_turnAround 45 = .ok (.return_, 1) := by decide +kernel
set_option maxRecDepth 20000 in
theorem ggX4_countPlaces_X2_length : GoodIn wsX4_countPlaces wsX2_length := goodIn_r _ [5, 6, 7, 8] (by decide +kernel) (by decide +kernel)
set_option maxRecDepth 20000 in
theorem gX4_countPlaces_X2_length : GoodIn wsX4_countPlaces (wsV RX4 72 RX2 yX2_length wsX2_length) := goodIn_app (goodIn_of _ (by decide +kernel)) ggX4_countPlaces_X2_length
theorem dX4_countPlaces_0 : decode cX4_countPlaces 0 = .ok (.aload_n 0, 1) := by decide +kernel
theorem dX4_countPlaces_1 : decode cX4_countPlaces 1 = .ok (.invokevirtual 72, 3) := by decide +kernel
theorem dX4_countPlaces_4 : decode cX4_countPlaces 4 = .ok (.aload_n 1, 1) := by decide +kernel
theorem dX4_countPlaces_5 : decode cX4_countPlaces 5 = .ok (.invokevirtual 72, 3) := by decide +kernel
theorem dX4_countPlaces_8 : decode cX4_countPlaces 8 = .ok (.isub, 1) := by decide +kernel
theorem dX4_countPlaces_9 : decode cX4_countPlaces 9 = .ok (.iconst 1, 1) := by decide +kernel
theorem dX4_countPlaces_10 : decode cX4_countPlaces 10 = .ok (.iadd, 1) := by decide +kernel
theorem dX4_countPlaces_11 : decode cX4_countPlaces 11 = .ok (.ireturn, 1) := by decide +kernel
set_option maxRecDepth 20000 in
theorem ggX4_fitsAt_X2_length : GoodIn wsX4_fitsAt wsX2_length := goodIn_r _ [5, 6, 12, 13] (by decide +kernel) (by decide +kernel)
set_option maxRecDepth 20000 in
theorem gX4_fitsAt_X2_length : GoodIn wsX4_fitsAt (wsV RX4 72 RX2 yX2_length wsX2_length) := goodIn_app (goodIn_of _ (by decide +kernel)) ggX4_fitsAt_X2_length
set_option maxRecDepth 20000 in
theorem ggX4_fitsAt_X2_at : GoodIn wsX4_fitsAt wsX2_at := goodIn_r _ [10, 11, 12, 13] (by decide +kernel) (by decide +kernel)
set_option maxRecDepth 20000 in
theorem gX4_fitsAt_X2_at : GoodIn wsX4_fitsAt (wsV RX4 101 RX2 yX2_at wsX2_at) := goodIn_app (goodIn_of _ (by decide +kernel)) ggX4_fitsAt_X2_at
theorem dX4_fitsAt_0 : decode cX4_fitsAt 0 = .ok (.iconst 0, 1) := by decide +kernel
theorem dX4_fitsAt_1 : decode cX4_fitsAt 1 = .ok (.istore_n 3, 1) := by decide +kernel
theorem dX4_fitsAt_2 : decode cX4_fitsAt 2 = .ok (.iload_n 3, 1) := by decide +kernel
theorem dX4_fitsAt_3 : decode cX4_fitsAt 3 = .ok (.aload_n 1, 1) := by decide +kernel
theorem dX4_fitsAt_4 : decode cX4_fitsAt 4 = .ok (.invokevirtual 72, 3) := by decide +kernel
theorem dX4_fitsAt_7 : decode cX4_fitsAt 7 = .ok (.if_icmp .ge 44, 3) := by decide +kernel
theorem dX4_fitsAt_10 : decode cX4_fitsAt 10 = .ok (.aload_n 1, 1) := by decide +kernel
theorem dX4_fitsAt_11 : decode cX4_fitsAt 11 = .ok (.iload_n 3, 1) := by decide +kernel
theorem dX4_fitsAt_12 : decode cX4_fitsAt 12 = .ok (.invokevirtual 101, 3) := by decide +kernel
theorem dX4_fitsAt_15 : decode cX4_fitsAt 15 = .ok (.istore 4, 2) := by decide +kernel
theorem dX4_fitsAt_17 : decode cX4_fitsAt 17 = .ok (.aload_n 0, 1) := by decide +kernel
theorem dX4_fitsAt_18 : decode cX4_fitsAt 18 = .ok (.iload_n 2, 1) := by decide +kernel
theorem dX4_fitsAt_19 : decode cX4_fitsAt 19 = .ok (.iload_n 3, 1) := by decide +kernel
theorem dX4_fitsAt_20 : decode cX4_fitsAt 20 = .ok (.iadd, 1) := by decide +kernel
theorem dX4_fitsAt_21 : decode cX4_fitsAt 21 = .ok (.invokevirtual 101, 3) := by decide +kernel
theorem dX4_fitsAt_24 : decode cX4_fitsAt 24 = .ok (.istore 5, 2) := by decide +kernel
theorem dX4_fitsAt_26 : decode cX4_fitsAt 26 = .ok (.iload 4, 2) := by decide +kernel
theorem dX4_fitsAt_28 : decode cX4_fitsAt 28 = .ok (.ifCond .eq 17, 3) := by decide +kernel
theorem dX4_fitsAt_31 : decode cX4_fitsAt 31 = .ok (.iload 5, 2) := by decide +kernel
theorem dX4_fitsAt_33 : decode cX4_fitsAt 33 = .ok (.ifCond .eq 12, 3) := by decide +kernel
theorem dX4_fitsAt_36 : decode cX4_fitsAt 36 = .ok (.iload 4, 2) := by decide +kernel
theorem dX4_fitsAt_38 : decode cX4_fitsAt 38 = .ok (.iload 5, 2) := by decide +kernel
theorem dX4_fitsAt_40 : decode cX4_fitsAt 40 = .ok (.if_icmp .eq 5, 3) := by decide +kernel
theorem dX4_fitsAt_43 : decode cX4_fitsAt 43 = .ok (.iconst 0, 1) := by decide +kernel
theorem dX4_fitsAt_44 : decode cX4_fitsAt 44 = .ok (.ireturn, 1) := by decide +kernel
theorem dX4_fitsAt_45 : decode cX4_fitsAt 45 = .ok (.iinc 3 1, 3) := by decide +kernel
theorem dX4_fitsAt_48 : decode cX4_fitsAt 48 = .ok (.goto (-46), 3) := by decide +kernel
theorem dX4_fitsAt_51 : decode cX4_fitsAt 51 = .ok (.iconst 1, 1) := by decide +kernel
theorem dX4_fitsAt_52 : decode cX4_fitsAt 52 = .ok (.ireturn, 1) := by decide +kernel
set_option maxRecDepth 20000 in
theorem ggX4_sumAt_X2_length : GoodIn wsX4_sumAt wsX2_length := goodIn_r _ [5, 6, 12, 13] (by decide +kernel) (by decide +kernel)
set_option maxRecDepth 20000 in
theorem gX4_sumAt_X2_length : GoodIn wsX4_sumAt (wsV RX4 72 RX2 yX2_length wsX2_length) := goodIn_app (goodIn_of _ (by decide +kernel)) ggX4_sumAt_X2_length
set_option maxRecDepth 20000 in
theorem ggX4_sumAt_X2_at : GoodIn wsX4_sumAt wsX2_at := goodIn_r _ [10, 11, 12, 13] (by decide +kernel) (by decide +kernel)
set_option maxRecDepth 20000 in
theorem gX4_sumAt_X2_at : GoodIn wsX4_sumAt (wsV RX4 101 RX2 yX2_at wsX2_at) := goodIn_app (goodIn_of _ (by decide +kernel)) ggX4_sumAt_X2_at
theorem dX4_sumAt_0 : decode cX4_sumAt 0 = .ok (.iconst 0, 1) := by decide +kernel
theorem dX4_sumAt_1 : decode cX4_sumAt 1 = .ok (.istore_n 3, 1) := by decide +kernel
theorem dX4_sumAt_2 : decode cX4_sumAt 2 = .ok (.iconst 0, 1) := by decide +kernel
theorem dX4_sumAt_3 : decode cX4_sumAt 3 = .ok (.istore 4, 2) := by decide +kernel
theorem dX4_sumAt_5 : decode cX4_sumAt 5 = .ok (.iload 4, 2) := by decide +kernel
theorem dX4_sumAt_7 : decode cX4_sumAt 7 = .ok (.aload_n 1, 1) := by decide +kernel
theorem dX4_sumAt_8 : decode cX4_sumAt 8 = .ok (.invokevirtual 72, 3) := by decide +kernel
theorem dX4_sumAt_11 : decode cX4_sumAt 11 = .ok (.if_icmp .ge 63, 3) := by decide +kernel
theorem dX4_sumAt_14 : decode cX4_sumAt 14 = .ok (.aload_n 1, 1) := by decide +kernel
theorem dX4_sumAt_15 : decode cX4_sumAt 15 = .ok (.iload 4, 2) := by decide +kernel
theorem dX4_sumAt_17 : decode cX4_sumAt 17 = .ok (.invokevirtual 101, 3) := by decide +kernel
theorem dX4_sumAt_20 : decode cX4_sumAt 20 = .ok (.istore 5, 2) := by decide +kernel
theorem dX4_sumAt_22 : decode cX4_sumAt 22 = .ok (.aload_n 0, 1) := by decide +kernel
theorem dX4_sumAt_23 : decode cX4_sumAt 23 = .ok (.iload_n 2, 1) := by decide +kernel
theorem dX4_sumAt_24 : decode cX4_sumAt 24 = .ok (.iload 4, 2) := by decide +kernel
theorem dX4_sumAt_26 : decode cX4_sumAt 26 = .ok (.iadd, 1) := by decide +kernel
theorem dX4_sumAt_27 : decode cX4_sumAt 27 = .ok (.invokevirtual 101, 3) := by decide +kernel
theorem dX4_sumAt_30 : decode cX4_sumAt 30 = .ok (.istore 6, 2) := by decide +kernel
theorem dX4_sumAt_32 : decode cX4_sumAt 32 = .ok (.iload 5, 2) := by decide +kernel
theorem dX4_sumAt_34 : decode cX4_sumAt 34 = .ok (.iload 6, 2) := by decide +kernel
theorem dX4_sumAt_36 : decode cX4_sumAt 36 = .ok (.isub, 1) := by decide +kernel
theorem dX4_sumAt_37 : decode cX4_sumAt 37 = .ok (.iload 5, 2) := by decide +kernel
theorem dX4_sumAt_39 : decode cX4_sumAt 39 = .ok (.iload 6, 2) := by decide +kernel
theorem dX4_sumAt_41 : decode cX4_sumAt 41 = .ok (.isub, 1) := by decide +kernel
theorem dX4_sumAt_42 : decode cX4_sumAt 42 = .ok (.imul, 1) := by decide +kernel
theorem dX4_sumAt_43 : decode cX4_sumAt 43 = .ok (.sipush 257, 3) := by decide +kernel
theorem dX4_sumAt_46 : decode cX4_sumAt 46 = .ok (.irem, 1) := by decide +kernel
theorem dX4_sumAt_47 : decode cX4_sumAt 47 = .ok (.istore 7, 2) := by decide +kernel
theorem dX4_sumAt_49 : decode cX4_sumAt 49 = .ok (.iload_n 3, 1) := by decide +kernel
theorem dX4_sumAt_50 : decode cX4_sumAt 50 = .ok (.iload 5, 2) := by decide +kernel
theorem dX4_sumAt_52 : decode cX4_sumAt 52 = .ok (.iload 6, 2) := by decide +kernel
theorem dX4_sumAt_54 : decode cX4_sumAt 54 = .ok (.imul, 1) := by decide +kernel
theorem dX4_sumAt_55 : decode cX4_sumAt 55 = .ok (.sipush 257, 3) := by decide +kernel
theorem dX4_sumAt_58 : decode cX4_sumAt 58 = .ok (.irem, 1) := by decide +kernel
theorem dX4_sumAt_59 : decode cX4_sumAt 59 = .ok (.iload 7, 2) := by decide +kernel
theorem dX4_sumAt_61 : decode cX4_sumAt 61 = .ok (.imul, 1) := by decide +kernel
theorem dX4_sumAt_62 : decode cX4_sumAt 62 = .ok (.iadd, 1) := by decide +kernel
theorem dX4_sumAt_63 : decode cX4_sumAt 63 = .ok (.sipush 257, 3) := by decide +kernel
theorem dX4_sumAt_66 : decode cX4_sumAt 66 = .ok (.irem, 1) := by decide +kernel
theorem dX4_sumAt_67 : decode cX4_sumAt 67 = .ok (.istore_n 3, 1) := by decide +kernel
theorem dX4_sumAt_68 : decode cX4_sumAt 68 = .ok (.iinc 4 1, 3) := by decide +kernel
theorem dX4_sumAt_71 : decode cX4_sumAt 71 = .ok (.goto (-66), 3) := by decide +kernel
theorem dX4_sumAt_74 : decode cX4_sumAt 74 = .ok (.iload_n 3, 1) := by decide +kernel
theorem dX4_sumAt_75 : decode cX4_sumAt 75 = .ok (.ireturn, 1) := by decide +kernel
set_option maxRecDepth 20000 in
theorem ggX4_isFalseOne_X4_sumAt : GoodIn wsX4_isFalseOne wsX4_sumAt := goodIn_r _ [4, 5, 6, 7, 8, 9, 10, 11, 12, 13, 14, 15, 19, 20] (by decide +kernel) (by decide +kernel)
set_option maxRecDepth 20000 in
theorem gX4_isFalseOne_X4_sumAt : GoodIn wsX4_isFalseOne (va_wsS RX4 178 yX4_sumAt wsX4_sumAt) := goodIn_app (goodIn_of _ (by decide +kernel)) ggX4_isFalseOne_X4_sumAt
set_option maxRecDepth 20000 in
theorem ggX4_isFalseOne_X4_fitsAt : GoodIn wsX4_isFalseOne wsX4_fitsAt := goodIn_r _ [18, 5, 6, 7, 8, 9, 10, 11, 12, 13, 14, 15, 19, 20] (by decide +kernel) (by decide +kernel)
set_option maxRecDepth 20000 in
theorem gX4_isFalseOne_X4_fitsAt : GoodIn wsX4_isFalseOne (va_wsS RX4 174 yX4_fitsAt wsX4_fitsAt) := goodIn_app (goodIn_of _ (by decide +kernel)) ggX4_isFalseOne_X4_fitsAt
theorem dX4_isFalseOne_0 : decode cX4_isFalseOne 0 = .ok (.aload_n 0, 1) := by decide +kernel
theorem dX4_isFalseOne_1 : decode cX4_isFalseOne 1 = .ok (.aload_n 1, 1) := by decide +kernel
theorem dX4_isFalseOne_2 : decode cX4_isFalseOne 2 = .ok (.iload_n 2, 1) := by decide +kernel
theorem dX4_isFalseOne_3 : decode cX4_isFalseOne 3 = .ok (.invokestatic 178, 3) := by decide +kernel
theorem dX4_isFalseOne_6 : decode cX4_isFalseOne 6 = .ok (.ifCond .ne 16, 3) := by decide +kernel
theorem dX4_isFalseOne_9 : decode cX4_isFalseOne 9 = .ok (.aload_n 0, 1) := by decide +kernel
theorem dX4_isFalseOne_10 : decode cX4_isFalseOne 10 = .ok (.aload_n 1, 1) := by decide +kernel
theorem dX4_isFalseOne_11 : decode cX4_isFalseOne 11 = .ok (.iload_n 2, 1) := by decide +kernel
theorem dX4_isFalseOne_12 : decode cX4_isFalseOne 12 = .ok (.invokestatic 174, 3) := by decide +kernel
theorem dX4_isFalseOne_15 : decode cX4_isFalseOne 15 = .ok (.ifCond .ne 7, 3) := by decide +kernel
theorem dX4_isFalseOne_18 : decode cX4_isFalseOne 18 = .ok (.iconst 1, 1) := by decide +kernel
theorem dX4_isFalseOne_19 : decode cX4_isFalseOne 19 = .ok (.goto 4, 3) := by decide +kernel
theorem dX4_isFalseOne_22 : decode cX4_isFalseOne 22 = .ok (.iconst 0, 1) := by decide +kernel
theorem dX4_isFalseOne_23 : decode cX4_isFalseOne 23 = .ok (.ireturn, 1) := by decide +kernel
set_option maxRecDepth 20000 in
theorem ggX4_countFits_X4_countPlaces : GoodIn wsX4_countFits wsX4_countPlaces := goodIn_r _ [4, 5, 6, 7, 8, 9, 10, 19, 20] (by decide +kernel) (by decide +kernel)
set_option maxRecDepth 20000 in
theorem gX4_countFits_X4_countPlaces : GoodIn wsX4_countFits (va_wsS RX4 169 yX4_countPlaces wsX4_countPlaces) := goodIn_app (goodIn_of _ (by decide +kernel)) ggX4_countFits_X4_countPlaces
set_option maxRecDepth 20000 in
theorem ggX4_countFits_X4_fitsAt : GoodIn wsX4_countFits wsX4_fitsAt := goodIn_r _ [13, 5, 6, 7, 8, 9, 10, 14, 15, 16, 17, 18, 19, 20] (by decide +kernel) (by decide +kernel)
set_option maxRecDepth 20000 in
theorem gX4_countFits_X4_fitsAt : GoodIn wsX4_countFits (va_wsS RX4 174 yX4_fitsAt wsX4_fitsAt) := goodIn_app (goodIn_of _ (by decide +kernel)) ggX4_countFits_X4_fitsAt
theorem dX4_countFits_0 : decode cX4_countFits 0 = .ok (.iconst 0, 1) := by decide +kernel
theorem dX4_countFits_1 : decode cX4_countFits 1 = .ok (.istore_n 2, 1) := by decide +kernel
theorem dX4_countFits_2 : decode cX4_countFits 2 = .ok (.iconst 0, 1) := by decide +kernel
theorem dX4_countFits_3 : decode cX4_countFits 3 = .ok (.istore_n 3, 1) := by decide +kernel
theorem dX4_countFits_4 : decode cX4_countFits 4 = .ok (.iload_n 3, 1) := by decide +kernel
theorem dX4_countFits_5 : decode cX4_countFits 5 = .ok (.aload_n 0, 1) := by decide +kernel
theorem dX4_countFits_6 : decode cX4_countFits 6 = .ok (.aload_n 1, 1) := by decide +kernel
theorem dX4_countFits_7 : decode cX4_countFits 7 = .ok (.invokestatic 169, 3) := by decide +kernel
theorem dX4_countFits_10 : decode cX4_countFits 10 = .ok (.if_icmp .ge 21, 3) := by decide +kernel
theorem dX4_countFits_13 : decode cX4_countFits 13 = .ok (.aload_n 0, 1) := by decide +kernel
theorem dX4_countFits_14 : decode cX4_countFits 14 = .ok (.aload_n 1, 1) := by decide +kernel
theorem dX4_countFits_15 : decode cX4_countFits 15 = .ok (.iload_n 3, 1) := by decide +kernel
theorem dX4_countFits_16 : decode cX4_countFits 16 = .ok (.invokestatic 174, 3) := by decide +kernel
theorem dX4_countFits_19 : decode cX4_countFits 19 = .ok (.ifCond .eq 6, 3) := by decide +kernel
theorem dX4_countFits_22 : decode cX4_countFits 22 = .ok (.iinc 2 1, 3) := by decide +kernel
theorem dX4_countFits_25 : decode cX4_countFits 25 = .ok (.iinc 3 1, 3) := by decide +kernel
theorem dX4_countFits_28 : decode cX4_countFits 28 = .ok (.goto (-24), 3) := by decide +kernel
theorem dX4_countFits_31 : decode cX4_countFits 31 = .ok (.iload_n 2, 1) := by decide +kernel
theorem dX4_countFits_32 : decode cX4_countFits 32 = .ok (.ireturn, 1) := by decide +kernel
set_option maxRecDepth 20000 in
theorem ggX4_countFalseOnes_X4_countPlaces : GoodIn wsX4_countFalseOnes wsX4_countPlaces := goodIn_r _ [4, 5, 6, 7, 8, 9, 10, 25, 26] (by decide +kernel) (by decide +kernel)
set_option maxRecDepth 20000 in
theorem gX4_countFalseOnes_X4_countPlaces : GoodIn wsX4_countFalseOnes (va_wsS RX4 169 yX4_countPlaces wsX4_countPlaces) := goodIn_app (goodIn_of _ (by decide +kernel)) ggX4_countFalseOnes_X4_countPlaces
set_option maxRecDepth 20000 in
theorem ggX4_countFalseOnes_X4_isFalseOne : GoodIn wsX4_countFalseOnes wsX4_isFalseOne := goodIn_r _ [13, 14, 15, 3, 16, 5, 6, 7, 8, 9, 10, 17, 18, 19, 20, 21, 22, 23, 24, 25, 26] (by decide +kernel) (by decide +kernel)
set_option maxRecDepth 20000 in
theorem gX4_countFalseOnes_X4_isFalseOne : GoodIn wsX4_countFalseOnes (va_wsS RX4 212 yX4_isFalseOne wsX4_isFalseOne) := goodIn_app (goodIn_of _ (by decide +kernel)) ggX4_countFalseOnes_X4_isFalseOne
theorem dX4_countFalseOnes_0 : decode cX4_countFalseOnes 0 = .ok (.iconst 0, 1) := by decide +kernel
theorem dX4_countFalseOnes_1 : decode cX4_countFalseOnes 1 = .ok (.istore_n 2, 1) := by decide +kernel
theorem dX4_countFalseOnes_2 : decode cX4_countFalseOnes 2 = .ok (.iconst 0, 1) := by decide +kernel
theorem dX4_countFalseOnes_3 : decode cX4_countFalseOnes 3 = .ok (.istore_n 3, 1) := by decide +kernel
theorem dX4_countFalseOnes_4 : decode cX4_countFalseOnes 4 = .ok (.iload_n 3, 1) := by decide +kernel
theorem dX4_countFalseOnes_5 : decode cX4_countFalseOnes 5 = .ok (.aload_n 0, 1) := by decide +kernel
theorem dX4_countFalseOnes_6 : decode cX4_countFalseOnes 6 = .ok (.aload_n 1, 1) := by decide +kernel
theorem dX4_countFalseOnes_7 : decode cX4_countFalseOnes 7 = .ok (.invokestatic 169, 3) := by decide +kernel
theorem dX4_countFalseOnes_10 : decode cX4_countFalseOnes 10 = .ok (.if_icmp .ge 21, 3) := by decide +kernel
theorem dX4_countFalseOnes_13 : decode cX4_countFalseOnes 13 = .ok (.aload_n 0, 1) := by decide +kernel
theorem dX4_countFalseOnes_14 : decode cX4_countFalseOnes 14 = .ok (.aload_n 1, 1) := by decide +kernel
theorem dX4_countFalseOnes_15 : decode cX4_countFalseOnes 15 = .ok (.iload_n 3, 1) := by decide +kernel
theorem dX4_countFalseOnes_16 : decode cX4_countFalseOnes 16 = .ok (.invokestatic 212, 3) := by decide +kernel
theorem dX4_countFalseOnes_19 : decode cX4_countFalseOnes 19 = .ok (.ifCond .eq 6, 3) := by decide +kernel
theorem dX4_countFalseOnes_22 : decode cX4_countFalseOnes 22 = .ok (.iinc 2 1, 3) := by decide +kernel
theorem dX4_countFalseOnes_25 : decode cX4_countFalseOnes 25 = .ok (.iinc 3 1, 3) := by decide +kernel
theorem dX4_countFalseOnes_28 : decode cX4_countFalseOnes 28 = .ok (.goto (-24), 3) := by decide +kernel
theorem dX4_countFalseOnes_31 : decode cX4_countFalseOnes 31 = .ok (.iload_n 2, 1) := by decide +kernel
theorem dX4_countFalseOnes_32 : decode cX4_countFalseOnes 32 = .ok (.ireturn, 1) := by decide +kernel
set_option maxRecDepth 20000 in
theorem ggX4_firstFalseOne_X4_countPlaces : GoodIn wsX4_firstFalseOne wsX4_countPlaces := goodIn_r _ [4, 5, 6, 7, 8, 9, 10, 25, 26] (by decide +kernel) (by decide +kernel)
set_option maxRecDepth 20000 in
theorem gX4_firstFalseOne_X4_countPlaces : GoodIn wsX4_firstFalseOne (va_wsS RX4 169 yX4_countPlaces wsX4_countPlaces) := goodIn_app (goodIn_of _ (by decide +kernel)) ggX4_firstFalseOne_X4_countPlaces
set_option maxRecDepth 20000 in
theorem ggX4_firstFalseOne_X4_isFalseOne : GoodIn wsX4_firstFalseOne wsX4_isFalseOne := goodIn_r _ [13, 14, 15, 3, 16, 5, 6, 7, 8, 9, 10, 17, 18, 19, 20, 21, 22, 23, 24, 25, 26] (by decide +kernel) (by decide +kernel)
set_option maxRecDepth 20000 in
theorem gX4_firstFalseOne_X4_isFalseOne : GoodIn wsX4_firstFalseOne (va_wsS RX4 212 yX4_isFalseOne wsX4_isFalseOne) := goodIn_app (goodIn_of _ (by decide +kernel)) ggX4_firstFalseOne_X4_isFalseOne
theorem dX4_firstFalseOne_0 : decode cX4_firstFalseOne 0 = .ok (.iconst 0, 1) := by decide +kernel
theorem dX4_firstFalseOne_1 : decode cX4_firstFalseOne 1 = .ok (.istore_n 2, 1) := by decide +kernel
theorem dX4_firstFalseOne_2 : decode cX4_firstFalseOne 2 = .ok (.iload_n 2, 1) := by decide +kernel
theorem dX4_firstFalseOne_3 : decode cX4_firstFalseOne 3 = .ok (.aload_n 0, 1) := by decide +kernel
theorem dX4_firstFalseOne_4 : decode cX4_firstFalseOne 4 = .ok (.aload_n 1, 1) := by decide +kernel
theorem dX4_firstFalseOne_5 : decode cX4_firstFalseOne 5 = .ok (.invokestatic 169, 3) := by decide +kernel
theorem dX4_firstFalseOne_8 : decode cX4_firstFalseOne 8 = .ok (.if_icmp .ge 20, 3) := by decide +kernel
theorem dX4_firstFalseOne_11 : decode cX4_firstFalseOne 11 = .ok (.aload_n 0, 1) := by decide +kernel
theorem dX4_firstFalseOne_12 : decode cX4_firstFalseOne 12 = .ok (.aload_n 1, 1) := by decide +kernel
theorem dX4_firstFalseOne_13 : decode cX4_firstFalseOne 13 = .ok (.iload_n 2, 1) := by decide +kernel
theorem dX4_firstFalseOne_14 : decode cX4_firstFalseOne 14 = .ok (.invokestatic 212, 3) := by decide +kernel
theorem dX4_firstFalseOne_17 : decode cX4_firstFalseOne 17 = .ok (.ifCond .eq 5, 3) := by decide +kernel
theorem dX4_firstFalseOne_20 : decode cX4_firstFalseOne 20 = .ok (.iload_n 2, 1) := by decide +kernel
theorem dX4_firstFalseOne_21 : decode cX4_firstFalseOne 21 = .ok (.ireturn, 1) := by decide +kernel
theorem dX4_firstFalseOne_22 : decode cX4_firstFalseOne 22 = .ok (.iinc 2 1, 3) := by decide +kernel
theorem dX4_firstFalseOne_25 : decode cX4_firstFalseOne 25 = .ok (.goto (-23), 3) := by decide +kernel
theorem dX4_firstFalseOne_28 : decode cX4_firstFalseOne 28 = .ok (.bipush (-6), 2) := by decide +kernel
theorem dX4_firstFalseOne_30 : decode cX4_firstFalseOne 30 = .ok (.ireturn, 1) := by decide +kernel
set_option maxRecDepth 20000 in
theorem ggX4_greatestSum_X4_countPlaces : GoodIn wsX4_greatestSum wsX4_countPlaces := goodIn_r _ [8, 9, 10, 11, 12, 13, 14, 23, 24] (by decide +kernel) (by decide +kernel)
set_option maxRecDepth 20000 in
theorem gX4_greatestSum_X4_countPlaces : GoodIn wsX4_greatestSum (va_wsS RX4 169 yX4_countPlaces wsX4_countPlaces) := goodIn_app (goodIn_of _ (by decide +kernel)) ggX4_greatestSum_X4_countPlaces
set_option maxRecDepth 20000 in
theorem ggX4_greatestSum_X4_sumAt : GoodIn wsX4_greatestSum wsX4_sumAt := goodIn_r _ [17, 9, 10, 11, 12, 13, 14, 18, 19, 20, 21, 22, 23, 24] (by decide +kernel) (by decide +kernel)
set_option maxRecDepth 20000 in
theorem gX4_greatestSum_X4_sumAt : GoodIn wsX4_greatestSum (va_wsS RX4 178 yX4_sumAt wsX4_sumAt) := goodIn_app (goodIn_of _ (by decide +kernel)) ggX4_greatestSum_X4_sumAt
theorem dX4_greatestSum_0 : decode cX4_greatestSum 0 = .ok (.iconst 0, 1) := by decide +kernel
theorem dX4_greatestSum_1 : decode cX4_greatestSum 1 = .ok (.istore_n 2, 1) := by decide +kernel
theorem dX4_greatestSum_2 : decode cX4_greatestSum 2 = .ok (.iconst 0, 1) := by decide +kernel
theorem dX4_greatestSum_3 : decode cX4_greatestSum 3 = .ok (.istore_n 3, 1) := by decide +kernel
theorem dX4_greatestSum_4 : decode cX4_greatestSum 4 = .ok (.iload_n 3, 1) := by decide +kernel
theorem dX4_greatestSum_5 : decode cX4_greatestSum 5 = .ok (.aload_n 0, 1) := by decide +kernel
theorem dX4_greatestSum_6 : decode cX4_greatestSum 6 = .ok (.aload_n 1, 1) := by decide +kernel
theorem dX4_greatestSum_7 : decode cX4_greatestSum 7 = .ok (.invokestatic 169, 3) := by decide +kernel
theorem dX4_greatestSum_10 : decode cX4_greatestSum 10 = .ok (.if_icmp .ge 20, 3) := by decide +kernel
theorem dX4_greatestSum_13 : decode cX4_greatestSum 13 = .ok (.iload_n 2, 1) := by decide +kernel
theorem dX4_greatestSum_14 : decode cX4_greatestSum 14 = .ok (.aload_n 0, 1) := by decide +kernel
theorem dX4_greatestSum_15 : decode cX4_greatestSum 15 = .ok (.aload_n 1, 1) := by decide +kernel
theorem dX4_greatestSum_16 : decode cX4_greatestSum 16 = .ok (.iload_n 3, 1) := by decide +kernel
theorem dX4_greatestSum_17 : decode cX4_greatestSum 17 = .ok (.invokestatic 178, 3) := by decide +kernel
theorem dX4_greatestSum_20 : decode cX4_greatestSum 20 = .ok (.invokestatic 84, 3) := by decide +kernel
theorem dX4_greatestSum_23 : decode cX4_greatestSum 23 = .ok (.istore_n 2, 1) := by decide +kernel
theorem dX4_greatestSum_24 : decode cX4_greatestSum 24 = .ok (.iinc 3 1, 3) := by decide +kernel
theorem dX4_greatestSum_27 : decode cX4_greatestSum 27 = .ok (.goto (-23), 3) := by decide +kernel
theorem dX4_greatestSum_30 : decode cX4_greatestSum 30 = .ok (.iload_n 2, 1) := by decide +kernel
theorem dX4_greatestSum_31 : decode cX4_greatestSum 31 = .ok (.ireturn, 1) := by decide +kernel
theorem dX4_countCharacters_0 : decode cX4_countCharacters 0 = .ok (.iconst 0, 1) := by decide +kernel
theorem dX4_countCharacters_1 : decode cX4_countCharacters 1 = .ok (.istore_n 2, 1) := by decide +kernel
theorem dX4_countCharacters_2 : decode cX4_countCharacters 2 = .ok (.lload_n 0, 1) := by decide +kernel
theorem dX4_countCharacters_3 : decode cX4_countCharacters 3 = .ok (.lstore_n 3, 1) := by decide +kernel
theorem dX4_countCharacters_4 : decode cX4_countCharacters 4 = .ok (.iload_n 2, 1) := by decide +kernel
theorem dX4_countCharacters_5 : decode cX4_countCharacters 5 = .ok (.bipush 8, 2) := by decide +kernel
theorem dX4_countCharacters_7 : decode cX4_countCharacters 7 = .ok (.if_icmp .ge 44, 3) := by decide +kernel
theorem dX4_countCharacters_10 : decode cX4_countCharacters 10 = .ok (.lload_n 3, 1) := by decide +kernel
theorem dX4_countCharacters_11 : decode cX4_countCharacters 11 = .ok (.lconst 0, 1) := by decide +kernel
theorem dX4_countCharacters_12 : decode cX4_countCharacters 12 = .ok (.lcmp, 1) := by decide +kernel
theorem dX4_countCharacters_13 : decode cX4_countCharacters 13 = .ok (.ifCond .eq 38, 3) := by decide +kernel
theorem dX4_countCharacters_16 : decode cX4_countCharacters 16 = .ok (.lload_n 3, 1) := by decide +kernel
theorem dX4_countCharacters_17 : decode cX4_countCharacters 17 = .ok (.ldc2_w 215, 3) := by decide +kernel
theorem dX4_countCharacters_20 : decode cX4_countCharacters 20 = .ok (.land, 1) := by decide +kernel
theorem dX4_countCharacters_21 : decode cX4_countCharacters 21 = .ok (.l2i, 1) := by decide +kernel
theorem dX4_countCharacters_22 : decode cX4_countCharacters 22 = .ok (.istore 5, 2) := by decide +kernel
theorem dX4_countCharacters_24 : decode cX4_countCharacters 24 = .ok (.iload 5, 2) := by decide +kernel
theorem dX4_countCharacters_26 : decode cX4_countCharacters 26 = .ok (.bipush 33, 2) := by decide +kernel
theorem dX4_countCharacters_28 : decode cX4_countCharacters 28 = .ok (.if_icmp .lt 10, 3) := by decide +kernel
theorem dX4_countCharacters_31 : decode cX4_countCharacters 31 = .ok (.iload 5, 2) := by decide +kernel
theorem dX4_countCharacters_33 : decode cX4_countCharacters 33 = .ok (.bipush 126, 2) := by decide +kernel
theorem dX4_countCharacters_35 : decode cX4_countCharacters 35 = .ok (.if_icmp .le 5, 3) := by decide +kernel
theorem dX4_countCharacters_38 : decode cX4_countCharacters 38 = .ok (.iconst 0, 1) := by decide +kernel
theorem dX4_countCharacters_39 : decode cX4_countCharacters 39 = .ok (.ireturn, 1) := by decide +kernel
theorem dX4_countCharacters_40 : decode cX4_countCharacters 40 = .ok (.iinc 2 1, 3) := by decide +kernel
theorem dX4_countCharacters_43 : decode cX4_countCharacters 43 = .ok (.lload_n 3, 1) := by decide +kernel
theorem dX4_countCharacters_44 : decode cX4_countCharacters 44 = .ok (.bipush 8, 2) := by decide +kernel
theorem dX4_countCharacters_46 : decode cX4_countCharacters 46 = .ok (.lushr, 1) := by decide +kernel
theorem dX4_countCharacters_47 : decode cX4_countCharacters 47 = .ok (.lstore_n 3, 1) := by decide +kernel
theorem dX4_countCharacters_48 : decode cX4_countCharacters 48 = .ok (.goto (-44), 3) := by decide +kernel
theorem dX4_countCharacters_51 : decode cX4_countCharacters 51 = .ok (.iload_n 2, 1) := by decide +kernel
theorem dX4_countCharacters_52 : decode cX4_countCharacters 52 = .ok (.ireturn, 1) := by decide +kernel
theorem dX5_init_0 : decode cX5_init 0 = .ok (.aload_n 0, 1) := by decide +kernel
theorem dX5_init_1 : decode cX5_init 1 = .ok (.invokespecial 1, 3) := by decide +kernel
theorem dX5_init_4 : decode cX5_init 4 = .ok (.aload_n 0, 1) := by decide +kernel
theorem dX5_init_5 : decode cX5_init 5 = .ok (.sipush 390, 3) := by decide +kernel
theorem dX5_init_8 : decode cX5_init 8 = .ok (.newarray .int, 2) := by decide +kernel
theorem dX5_init_10 : decode cX5_init 10 = .ok (.putfield 7, 3) := by decide +kernel
theorem dX5_init_13 : decode cX5_init 13 = .ok (.aload_n 0, 1) := by decide +kernel
theorem dX5_init_14 : decode cX5_init 14 = .ok (.sipush 2340, 3) := by decide +kernel
theorem dX5_init_17 : decode cX5_init 17 = .ok (.newarray .int, 2) := by decide +kernel
theorem dX5_init_19 : decode cX5_init 19 = .ok (.putfield 13, 3) := by decide +kernel
theorem dX5_init_22 : decode cX5_init 22 = .ok (.aload_n 0, 1) := by decide +kernel
theorem dX5_init_23 : decode cX5_init 23 = .ok (.sipush 780, 3) := by decide +kernel
theorem dX5_init_26 : decode cX5_init 26 = .ok (.newarray .int, 2) := by decide +kernel
theorem dX5_init_28 : decode cX5_init 28 = .ok (.putfield 16, 3) := by decide +kernel
theorem dX5_init_31 : decode cX5_init 31 = .ok (.aload_n 0, 1) := by decide +kernel
theorem dX5_init_32 : decode cX5_init 32 = .ok (.iconst 2, 1) := by decide +kernel
theorem dX5_init_33 : decode cX5_init 33 = .ok (.newarray .boolean, 2) := by decide +kernel
theorem dX5_init_35 : decode cX5_init 35 = .ok (.putfield 19, 3) := by decide +kernel
theorem dX5_init_38 : decode cX5_init 38 = .ok (.aload_n 0, 1) := by decide +kernel
theorem dX5_init_39 : decode cX5_init 39 = .ok (.bipush 80, 2) := by decide +kernel
theorem dX5_init_41 : decode cX5_init 41 = .ok (.newarray .char, 2) := by decide +kernel
theorem dX5_init_43 : decode cX5_init 43 = .ok (.putfield 23, 3) := by decide +kernel
theorem dX5_init_46 : decode cX5_init 46 = .ok (.aload_n 0, 1) := by decide +kernel
theorem dX5_init_47 : decode cX5_init 47 = .ok (.bipush 64, 2) := by decide +kernel
theorem dX5_init_49 : decode cX5_init 49 = .ok (.newarray .int, 2) := by decide +kernel
theorem dX5_init_51 : decode cX5_init 51 = .ok (.putfield 27, 3) := by decide +kernel
theorem dX5_init_54 : decode cX5_init 54 = .ok (.aload_n 0, 1) := by decide +kernel
theorem dX5_init_55 : decode cX5_init 55 = .ok (.bipush 64, 2) := by decide +kernel
theorem dX5_init_57 : decode cX5_init 57 = .ok (.newarray .int, 2) := by decide +kernel
theorem dX5_init_59 : decode cX5_init 59 = .ok (.putfield 30, 3) := by decide +kernel
theorem dX5_init_62 : decode cX5_init 62 = .ok (.aload_n 0, 1) := by decide +kernel
theorem dX5_init_63 : decode cX5_init 63 = .ok (.bipush 64, 2) := by decide +kernel
theorem dX5_init_65 : decode cX5_init 65 = .ok (.newarray .int, 2) := by decide +kernel
theorem dX5_init_67 : decode cX5_init 67 = .ok (.putfield 33, 3) := by decide +kernel
theorem dX5_init_70 : decode cX5_init 70 = .ok (.iconst 0, 1) := by decide +kernel
theorem dX5_init_71 : decode cX5_init 71 = .ok (.istore_n 1, 1) := by decide +kernel
theorem dX5_init_72 : decode cX5_init 72 = .ok (.iload_n 1, 1) := by decide +kernel
theorem dX5_init_73 : decode cX5_init 73 = .ok (.bipush 6, 2) := by decide +kernel
theorem dX5_init_75 : decode cX5_init 75 = .ok (.if_icmp .ge 19, 3) := by decide +kernel
theorem dX5_init_78 : decode cX5_init 78 = .ok (.aload_n 0, 1) := by decide +kernel
theorem dX5_init_79 : decode cX5_init 79 = .ok (.getfield 7, 3) := by decide +kernel
theorem dX5_init_82 : decode cX5_init 82 = .ok (.bipush 65, 2) := by decide +kernel
theorem dX5_init_84 : decode cX5_init 84 = .ok (.iload_n 1, 1) := by decide +kernel
theorem dX5_init_85 : decode cX5_init 85 = .ok (.imul, 1) := by decide +kernel
theorem dX5_init_86 : decode cX5_init 86 = .ok (.iconst 1, 1) := by decide +kernel
theorem dX5_init_87 : decode cX5_init 87 = .ok (.iastore, 1) := by decide +kernel
theorem dX5_init_88 : decode cX5_init 88 = .ok (.iinc 1 1, 3) := by decide +kernel
theorem dX5_init_91 : decode cX5_init 91 = .ok (.goto (-19), 3) := by decide +kernel
theorem dX5_init_94 : decode cX5_init 94 = .ok (.return_, 1) := by decide +kernel
theorem dX5_in_0 : decode cX5_in 0 = .ok (.iload_n 0, 1) := by decide +kernel
theorem dX5_in_1 : decode cX5_in 1 = .ok (.iload_n 1, 1) := by decide +kernel
theorem dX5_in_2 : decode cX5_in 2 = .ok (.if_icmp .lt 12, 3) := by decide +kernel
theorem dX5_in_5 : decode cX5_in 5 = .ok (.iload_n 0, 1) := by decide +kernel
theorem dX5_in_6 : decode cX5_in 6 = .ok (.iload_n 2, 1) := by decide +kernel
theorem dX5_in_7 : decode cX5_in 7 = .ok (.if_icmp .gt 7, 3) := by decide +kernel
theorem dX5_in_10 : decode cX5_in 10 = .ok (.iconst 1, 1) := by decide +kernel
theorem dX5_in_11 : decode cX5_in 11 = .ok (.goto 4, 3) := by decide +kernel
theorem dX5_in_14 : decode cX5_in 14 = .ok (.iconst 0, 1) := by decide +kernel
theorem dX5_in_15 : decode cX5_in 15 = .ok (.ireturn, 1) := by decide +kernel
set_option maxRecDepth 20000 in
theorem ggX5_isRegister_X5_in : GoodIn wsX5_isRegister wsX5_in := goodIn_r _ [4] (by decide +kernel) (by decide +kernel)
set_option maxRecDepth 20000 in
theorem gX5_isRegister_X5_in : GoodIn wsX5_isRegister (va_wsS RX5 36 yX5_in wsX5_in) := goodIn_app (goodIn_of _ (by decide +kernel)) ggX5_isRegister_X5_in
theorem dX5_isRegister_0 : decode cX5_isRegister 0 = .ok (.iload_n 0, 1) := by decide +kernel
theorem dX5_isRegister_1 : decode cX5_isRegister 1 = .ok (.iconst 0, 1) := by decide +kernel
theorem dX5_isRegister_2 : decode cX5_isRegister 2 = .ok (.iconst 5, 1) := by decide +kernel
theorem dX5_isRegister_3 : decode cX5_isRegister 3 = .ok (.invokestatic 36, 3) := by decide +kernel
theorem dX5_isRegister_6 : decode cX5_isRegister 6 = .ok (.ireturn, 1) := by decide +kernel
set_option maxRecDepth 20000 in
theorem ggX5_isNumber_X5_in : GoodIn wsX5_isNumber wsX5_in := goodIn_r _ [4] (by decide +kernel) (by decide +kernel)
set_option maxRecDepth 20000 in
theorem gX5_isNumber_X5_in : GoodIn wsX5_isNumber (va_wsS RX5 36 yX5_in wsX5_in) := goodIn_app (goodIn_of _ (by decide +kernel)) ggX5_isNumber_X5_in
theorem dX5_isNumber_0 : decode cX5_isNumber 0 = .ok (.iload_n 0, 1) := by decide +kernel
theorem dX5_isNumber_1 : decode cX5_isNumber 1 = .ok (.iconst 0, 1) := by decide +kernel
theorem dX5_isNumber_2 : decode cX5_isNumber 2 = .ok (.sipush 256, 3) := by decide +kernel
theorem dX5_isNumber_5 : decode cX5_isNumber 5 = .ok (.invokestatic 36, 3) := by decide +kernel
theorem dX5_isNumber_8 : decode cX5_isNumber 8 = .ok (.ireturn, 1) := by decide +kernel
theorem dX5_lengthOf_0 : decode cX5_lengthOf 0 = .ok (.aload_n 0, 1) := by decide +kernel
theorem dX5_lengthOf_1 : decode cX5_lengthOf 1 = .ok (.getfield 7, 3) := by decide +kernel
theorem dX5_lengthOf_4 : decode cX5_lengthOf 4 = .ok (.bipush 65, 2) := by decide +kernel
theorem dX5_lengthOf_6 : decode cX5_lengthOf 6 = .ok (.iload_n 1, 1) := by decide +kernel
theorem dX5_lengthOf_7 : decode cX5_lengthOf 7 = .ok (.imul, 1) := by decide +kernel
theorem dX5_lengthOf_8 : decode cX5_lengthOf 8 = .ok (.iaload, 1) := by decide +kernel
theorem dX5_lengthOf_9 : decode cX5_lengthOf 9 = .ok (.ireturn, 1) := by decide +kernel
set_option maxRecDepth 20000 in
theorem ggX5_at_X5_lengthOf : GoodIn wsX5_at wsX5_lengthOf := goodIn_r _ [6, 1, 7, 8, 9, 10, 11, 12, 13, 14, 15, 16, 17] (by decide +kernel) (by decide +kernel)
set_option maxRecDepth 20000 in
theorem gX5_at_X5_lengthOf : GoodIn wsX5_at (wsV RX5 40 RX5 yX5_lengthOf wsX5_lengthOf) := goodIn_app (goodIn_of _ (by decide +kernel)) ggX5_at_X5_lengthOf
theorem dX5_at_0 : decode cX5_at 0 = .ok (.iload_n 2, 1) := by decide +kernel
theorem dX5_at_1 : decode cX5_at 1 = .ok (.aload_n 0, 1) := by decide +kernel
theorem dX5_at_2 : decode cX5_at 2 = .ok (.iload_n 1, 1) := by decide +kernel
theorem dX5_at_3 : decode cX5_at 3 = .ok (.invokevirtual 40, 3) := by decide +kernel
theorem dX5_at_6 : decode cX5_at 6 = .ok (.if_icmp .ge 19, 3) := by decide +kernel
theorem dX5_at_9 : decode cX5_at 9 = .ok (.aload_n 0, 1) := by decide +kernel
theorem dX5_at_10 : decode cX5_at 10 = .ok (.getfield 7, 3) := by decide +kernel
theorem dX5_at_13 : decode cX5_at 13 = .ok (.bipush 65, 2) := by decide +kernel
theorem dX5_at_15 : decode cX5_at 15 = .ok (.iload_n 1, 1) := by decide +kernel
theorem dX5_at_16 : decode cX5_at 16 = .ok (.imul, 1) := by decide +kernel
theorem dX5_at_17 : decode cX5_at 17 = .ok (.iconst 1, 1) := by decide +kernel
theorem dX5_at_18 : decode cX5_at 18 = .ok (.iadd, 1) := by decide +kernel
theorem dX5_at_19 : decode cX5_at 19 = .ok (.iload_n 2, 1) := by decide +kernel
theorem dX5_at_20 : decode cX5_at 20 = .ok (.iadd, 1) := by decide +kernel
theorem dX5_at_21 : decode cX5_at 21 = .ok (.iaload, 1) := by decide +kernel
theorem dX5_at_22 : decode cX5_at 22 = .ok (.goto 4, 3) := by decide +kernel
theorem dX5_at_25 : decode cX5_at 25 = .ok (.iconst 0, 1) := by decide +kernel
theorem dX5_at_26 : decode cX5_at 26 = .ok (.ireturn, 1) := by decide +kernel
theorem dX5_record_0 : decode cX5_record 0 = .ok (.aload_n 0, 1) := by decide +kernel
theorem dX5_record_1 : decode cX5_record 1 = .ok (.getfield 44, 3) := by decide +kernel
theorem dX5_record_4 : decode cX5_record 4 = .ok (.bipush 6, 2) := by decide +kernel
theorem dX5_record_6 : decode cX5_record 6 = .ok (.if_icmp .ne 44, 3) := by decide +kernel
theorem dX5_record_9 : decode cX5_record 9 = .ok (.iconst 0, 1) := by decide +kernel
theorem dX5_record_10 : decode cX5_record 10 = .ok (.istore_n 1, 1) := by decide +kernel
theorem dX5_record_11 : decode cX5_record 11 = .ok (.iload_n 1, 1) := by decide +kernel
theorem dX5_record_12 : decode cX5_record 12 = .ok (.sipush 1950, 3) := by decide +kernel
theorem dX5_record_15 : decode cX5_record 15 = .ok (.if_icmp .ge 25, 3) := by decide +kernel
theorem dX5_record_18 : decode cX5_record 18 = .ok (.aload_n 0, 1) := by decide +kernel
theorem dX5_record_19 : decode cX5_record 19 = .ok (.getfield 13, 3) := by decide +kernel
theorem dX5_record_22 : decode cX5_record 22 = .ok (.iload_n 1, 1) := by decide +kernel
theorem dX5_record_23 : decode cX5_record 23 = .ok (.aload_n 0, 1) := by decide +kernel
theorem dX5_record_24 : decode cX5_record 24 = .ok (.getfield 13, 3) := by decide +kernel
theorem dX5_record_27 : decode cX5_record 27 = .ok (.iload_n 1, 1) := by decide +kernel
theorem dX5_record_28 : decode cX5_record 28 = .ok (.sipush 390, 3) := by decide +kernel
theorem dX5_record_31 : decode cX5_record 31 = .ok (.iadd, 1) := by decide +kernel
theorem dX5_record_32 : decode cX5_record 32 = .ok (.iaload, 1) := by decide +kernel
theorem dX5_record_33 : decode cX5_record 33 = .ok (.iastore, 1) := by decide +kernel
theorem dX5_record_34 : decode cX5_record 34 = .ok (.iinc 1 1, 3) := by decide +kernel
theorem dX5_record_37 : decode cX5_record 37 = .ok (.goto (-26), 3) := by decide +kernel
theorem dX5_record_40 : decode cX5_record 40 = .ok (.aload_n 0, 1) := by decide +kernel
theorem dX5_record_41 : decode cX5_record 41 = .ok (.dup, 1) := by decide +kernel
theorem dX5_record_42 : decode cX5_record 42 = .ok (.getfield 44, 3) := by decide +kernel
theorem dX5_record_45 : decode cX5_record 45 = .ok (.iconst 1, 1) := by decide +kernel
theorem dX5_record_46 : decode cX5_record 46 = .ok (.isub, 1) := by decide +kernel
theorem dX5_record_47 : decode cX5_record 47 = .ok (.putfield 44, 3) := by decide +kernel
theorem dX5_record_50 : decode cX5_record 50 = .ok (.iconst 0, 1) := by decide +kernel
theorem dX5_record_51 : decode cX5_record 51 = .ok (.istore_n 1, 1) := by decide +kernel
theorem dX5_record_52 : decode cX5_record 52 = .ok (.iload_n 1, 1) := by decide +kernel
theorem dX5_record_53 : decode cX5_record 53 = .ok (.sipush 390, 3) := by decide +kernel
theorem dX5_record_56 : decode cX5_record 56 = .ok (.if_icmp .ge 30, 3) := by decide +kernel
theorem dX5_record_59 : decode cX5_record 59 = .ok (.aload_n 0, 1) := by decide +kernel
theorem dX5_record_60 : decode cX5_record 60 = .ok (.getfield 13, 3) := by decide +kernel
theorem dX5_record_63 : decode cX5_record 63 = .ok (.aload_n 0, 1) := by decide +kernel
theorem dX5_record_64 : decode cX5_record 64 = .ok (.getfield 44, 3) := by decide +kernel
theorem dX5_record_67 : decode cX5_record 67 = .ok (.sipush 390, 3) := by decide +kernel
theorem dX5_record_70 : decode cX5_record 70 = .ok (.imul, 1) := by decide +kernel
theorem dX5_record_71 : decode cX5_record 71 = .ok (.iload_n 1, 1) := by decide +kernel
theorem dX5_record_72 : decode cX5_record 72 = .ok (.iadd, 1) := by decide +kernel
theorem dX5_record_73 : decode cX5_record 73 = .ok (.aload_n 0, 1) := by decide +kernel
theorem dX5_record_74 : decode cX5_record 74 = .ok (.getfield 7, 3) := by decide +kernel
theorem dX5_record_77 : decode cX5_record 77 = .ok (.iload_n 1, 1) := by decide +kernel
theorem dX5_record_78 : decode cX5_record 78 = .ok (.iaload, 1) := by decide +kernel
theorem dX5_record_79 : decode cX5_record 79 = .ok (.iastore, 1) := by decide +kernel
theorem dX5_record_80 : decode cX5_record 80 = .ok (.iinc 1 1, 3) := by decide +kernel
theorem dX5_record_83 : decode cX5_record 83 = .ok (.goto (-31), 3) := by decide +kernel
theorem dX5_record_86 : decode cX5_record 86 = .ok (.aload_n 0, 1) := by decide +kernel
theorem dX5_record_87 : decode cX5_record 87 = .ok (.dup, 1) := by decide +kernel
theorem dX5_record_88 : decode cX5_record 88 = .ok (.getfield 44, 3) := by decide +kernel
theorem dX5_record_91 : decode cX5_record 91 = .ok (.iconst 1, 1) := by decide +kernel
theorem dX5_record_92 : decode cX5_record 92 = .ok (.iadd, 1) := by decide +kernel
theorem dX5_record_93 : decode cX5_record 93 = .ok (.putfield 44, 3) := by decide +kernel
theorem dX5_record_96 : decode cX5_record 96 = .ok (.return_, 1) := by decide +kernel
theorem dX5_undo_0 : decode cX5_undo 0 = .ok (.aload_n 0, 1) := by decide +kernel
theorem dX5_undo_1 : decode cX5_undo 1 = .ok (.getfield 44, 3) := by decide +kernel
theorem dX5_undo_4 : decode cX5_undo 4 = .ok (.ifCond .ne 6, 3) := by decide +kernel
theorem dX5_undo_7 : decode cX5_undo 7 = .ok (.bipush (-5), 2) := by decide +kernel
theorem dX5_undo_9 : decode cX5_undo 9 = .ok (.ireturn, 1) := by decide +kernel
theorem dX5_undo_10 : decode cX5_undo 10 = .ok (.aload_n 0, 1) := by decide +kernel
theorem dX5_undo_11 : decode cX5_undo 11 = .ok (.dup, 1) := by decide +kernel
theorem dX5_undo_12 : decode cX5_undo 12 = .ok (.getfield 44, 3) := by decide +kernel
theorem dX5_undo_15 : decode cX5_undo 15 = .ok (.iconst 1, 1) := by decide +kernel
theorem dX5_undo_16 : decode cX5_undo 16 = .ok (.isub, 1) := by decide +kernel
theorem dX5_undo_17 : decode cX5_undo 17 = .ok (.putfield 44, 3) := by decide +kernel
theorem dX5_undo_20 : decode cX5_undo 20 = .ok (.iconst 0, 1) := by decide +kernel
theorem dX5_undo_21 : decode cX5_undo 21 = .ok (.istore_n 1, 1) := by decide +kernel
theorem dX5_undo_22 : decode cX5_undo 22 = .ok (.iload_n 1, 1) := by decide +kernel
theorem dX5_undo_23 : decode cX5_undo 23 = .ok (.sipush 390, 3) := by decide +kernel
theorem dX5_undo_26 : decode cX5_undo 26 = .ok (.if_icmp .ge 30, 3) := by decide +kernel
theorem dX5_undo_29 : decode cX5_undo 29 = .ok (.aload_n 0, 1) := by decide +kernel
theorem dX5_undo_30 : decode cX5_undo 30 = .ok (.getfield 7, 3) := by decide +kernel
theorem dX5_undo_33 : decode cX5_undo 33 = .ok (.iload_n 1, 1) := by decide +kernel
theorem dX5_undo_34 : decode cX5_undo 34 = .ok (.aload_n 0, 1) := by decide +kernel
theorem dX5_undo_35 : decode cX5_undo 35 = .ok (.getfield 13, 3) := by decide +kernel
theorem dX5_undo_38 : decode cX5_undo 38 = .ok (.aload_n 0, 1) := by decide +kernel
theorem dX5_undo_39 : decode cX5_undo 39 = .ok (.getfield 44, 3) := by decide +kernel
theorem dX5_undo_42 : decode cX5_undo 42 = .ok (.sipush 390, 3) := by decide +kernel
theorem dX5_undo_45 : decode cX5_undo 45 = .ok (.imul, 1) := by decide +kernel
theorem dX5_undo_46 : decode cX5_undo 46 = .ok (.iload_n 1, 1) := by decide +kernel
theorem dX5_undo_47 : decode cX5_undo 47 = .ok (.iadd, 1) := by decide +kernel
theorem dX5_undo_48 : decode cX5_undo 48 = .ok (.iaload, 1) := by decide +kernel
theorem dX5_undo_49 : decode cX5_undo 49 = .ok (.iastore, 1) := by decide +kernel
theorem dX5_undo_50 : decode cX5_undo 50 = .ok (.iinc 1 1, 3) := by decide +kernel
theorem dX5_undo_53 : decode cX5_undo 53 = .ok (.goto (-31), 3) := by decide +kernel
theorem dX5_undo_56 : decode cX5_undo 56 = .ok (.aload_n 0, 1) := by decide +kernel
theorem dX5_undo_57 : decode cX5_undo 57 = .ok (.getfield 44, 3) := by decide +kernel
theorem dX5_undo_60 : decode cX5_undo 60 = .ok (.ireturn, 1) := by decide +kernel
set_option maxRecDepth 20000 in
theorem ggX5_lengths_X5_lengthOf : GoodIn wsX5_lengths wsX5_lengthOf := goodIn_r _ [5, 6, 7, 8, 9, 10, 11, 12, 13, 14, 15, 16, 17] (by decide +kernel) (by decide +kernel)
set_option maxRecDepth 20000 in
theorem gX5_lengths_X5_lengthOf : GoodIn wsX5_lengths (wsV RX5 40 RX5 yX5_lengthOf wsX5_lengthOf) := goodIn_app (goodIn_of _ (by decide +kernel)) ggX5_lengths_X5_lengthOf
theorem dX5_lengths_0 : decode cX5_lengths 0 = .ok (.iconst 0, 1) := by decide +kernel
theorem dX5_lengths_1 : decode cX5_lengths 1 = .ok (.istore_n 1, 1) := by decide +kernel
theorem dX5_lengths_2 : decode cX5_lengths 2 = .ok (.iconst 0, 1) := by decide +kernel
theorem dX5_lengths_3 : decode cX5_lengths 3 = .ok (.istore_n 2, 1) := by decide +kernel
theorem dX5_lengths_4 : decode cX5_lengths 4 = .ok (.iload_n 2, 1) := by decide +kernel
theorem dX5_lengths_5 : decode cX5_lengths 5 = .ok (.bipush 6, 2) := by decide +kernel
theorem dX5_lengths_7 : decode cX5_lengths 7 = .ok (.if_icmp .ge 17, 3) := by decide +kernel
theorem dX5_lengths_10 : decode cX5_lengths 10 = .ok (.iload_n 1, 1) := by decide +kernel
theorem dX5_lengths_11 : decode cX5_lengths 11 = .ok (.aload_n 0, 1) := by decide +kernel
theorem dX5_lengths_12 : decode cX5_lengths 12 = .ok (.iload_n 2, 1) := by decide +kernel
theorem dX5_lengths_13 : decode cX5_lengths 13 = .ok (.invokevirtual 40, 3) := by decide +kernel
theorem dX5_lengths_16 : decode cX5_lengths 16 = .ok (.iadd, 1) := by decide +kernel
theorem dX5_lengths_17 : decode cX5_lengths 17 = .ok (.istore_n 1, 1) := by decide +kernel
theorem dX5_lengths_18 : decode cX5_lengths 18 = .ok (.iinc 2 1, 3) := by decide +kernel
theorem dX5_lengths_21 : decode cX5_lengths 21 = .ok (.goto (-17), 3) := by decide +kernel
theorem dX5_lengths_24 : decode cX5_lengths 24 = .ok (.iload_n 1, 1) := by decide +kernel
theorem dX5_lengths_25 : decode cX5_lengths 25 = .ok (.ireturn, 1) := by decide +kernel
set_option maxRecDepth 20000 in
theorem ggX5_save_X5_in : GoodIn wsX5_save wsX5_in := goodIn_r _ [7] (by decide +kernel) (by decide +kernel)
set_option maxRecDepth 20000 in
theorem gX5_save_X5_in : GoodIn wsX5_save (va_wsS RX5 36 yX5_in wsX5_in) := goodIn_app (goodIn_of _ (by decide +kernel)) ggX5_save_X5_in
set_option maxRecDepth 20000 in
theorem ggX5_save_X5_lengths : GoodIn wsX5_save wsX5_lengths := goodIn_r _ [11, 12, 13, 14, 6, 15, 3, 16, 17, 18, 19, 20, 21, 22, 23, 24, 25, 26] (by decide +kernel) (by decide +kernel)
set_option maxRecDepth 20000 in
theorem gX5_save_X5_lengths : GoodIn wsX5_save (wsV RX5 48 RX5 yX5_lengths wsX5_lengths) := goodIn_app (goodIn_of _ (by decide +kernel)) ggX5_save_X5_lengths
theorem dX5_save_0 : decode cX5_save 0 = .ok (.iload_n 1, 1) := by decide +kernel
theorem dX5_save_1 : decode cX5_save 1 = .ok (.iconst 0, 1) := by decide +kernel
theorem dX5_save_2 : decode cX5_save 2 = .ok (.iconst 1, 1) := by decide +kernel
theorem dX5_save_3 : decode cX5_save 3 = .ok (.invokestatic 36, 3) := by decide +kernel
theorem dX5_save_6 : decode cX5_save 6 = .ok (.ifCond .ne 6, 3) := by decide +kernel
theorem dX5_save_9 : decode cX5_save 9 = .ok (.bipush (-2), 2) := by decide +kernel
theorem dX5_save_11 : decode cX5_save 11 = .ok (.ireturn, 1) := by decide +kernel
theorem dX5_save_12 : decode cX5_save 12 = .ok (.aload_n 0, 1) := by decide +kernel
theorem dX5_save_13 : decode cX5_save 13 = .ok (.getfield 19, 3) := by decide +kernel
theorem dX5_save_16 : decode cX5_save 16 = .ok (.iload_n 1, 1) := by decide +kernel
theorem dX5_save_17 : decode cX5_save 17 = .ok (.iconst 1, 1) := by decide +kernel
theorem dX5_save_18 : decode cX5_save 18 = .ok (.bastore, 1) := by decide +kernel
theorem dX5_save_19 : decode cX5_save 19 = .ok (.iconst 0, 1) := by decide +kernel
theorem dX5_save_20 : decode cX5_save 20 = .ok (.istore_n 2, 1) := by decide +kernel
theorem dX5_save_21 : decode cX5_save 21 = .ok (.iload_n 2, 1) := by decide +kernel
theorem dX5_save_22 : decode cX5_save 22 = .ok (.sipush 390, 3) := by decide +kernel
theorem dX5_save_25 : decode cX5_save 25 = .ok (.if_icmp .ge 27, 3) := by decide +kernel
theorem dX5_save_28 : decode cX5_save 28 = .ok (.aload_n 0, 1) := by decide +kernel
theorem dX5_save_29 : decode cX5_save 29 = .ok (.getfield 16, 3) := by decide +kernel
theorem dX5_save_32 : decode cX5_save 32 = .ok (.iload_n 1, 1) := by decide +kernel
theorem dX5_save_33 : decode cX5_save 33 = .ok (.sipush 390, 3) := by decide +kernel
theorem dX5_save_36 : decode cX5_save 36 = .ok (.imul, 1) := by decide +kernel
theorem dX5_save_37 : decode cX5_save 37 = .ok (.iload_n 2, 1) := by decide +kernel
theorem dX5_save_38 : decode cX5_save 38 = .ok (.iadd, 1) := by decide +kernel
theorem dX5_save_39 : decode cX5_save 39 = .ok (.aload_n 0, 1) := by decide +kernel
theorem dX5_save_40 : decode cX5_save 40 = .ok (.getfield 7, 3) := by decide +kernel
theorem dX5_save_43 : decode cX5_save 43 = .ok (.iload_n 2, 1) := by decide +kernel
theorem dX5_save_44 : decode cX5_save 44 = .ok (.iaload, 1) := by decide +kernel
theorem dX5_save_45 : decode cX5_save 45 = .ok (.iastore, 1) := by decide +kernel
theorem dX5_save_46 : decode cX5_save 46 = .ok (.iinc 2 1, 3) := by decide +kernel
theorem dX5_save_49 : decode cX5_save 49 = .ok (.goto (-28), 3) := by decide +kernel
theorem dX5_save_52 : decode cX5_save 52 = .ok (.aload_n 0, 1) := by decide +kernel
theorem dX5_save_53 : decode cX5_save 53 = .ok (.invokevirtual 48, 3) := by decide +kernel
theorem dX5_save_56 : decode cX5_save 56 = .ok (.ireturn, 1) := by decide +kernel
set_option maxRecDepth 20000 in
theorem ggX5_restore_X5_in : GoodIn wsX5_restore wsX5_in := goodIn_r _ [7] (by decide +kernel) (by decide +kernel)
set_option maxRecDepth 20000 in
theorem gX5_restore_X5_in : GoodIn wsX5_restore (va_wsS RX5 36 yX5_in wsX5_in) := goodIn_app (goodIn_of _ (by decide +kernel)) ggX5_restore_X5_in
set_option maxRecDepth 20000 in
theorem ggX5_restore_X5_record : GoodIn wsX5_restore wsX5_record := goodIn_r _ [11, 12, 13, 2, 22, 23, 24, 25, 26, 27, 28, 29, 30, 31, 32] (by decide +kernel) (by decide +kernel)
set_option maxRecDepth 20000 in
theorem gX5_restore_X5_record : GoodIn wsX5_restore (wsV RX5 52 RX5 yX5_record wsX5_record) := goodIn_app (goodIn_of _ (by decide +kernel)) ggX5_restore_X5_record
set_option maxRecDepth 20000 in
theorem ggX5_restore_X5_lengths : GoodIn wsX5_restore wsX5_lengths := goodIn_r _ [17, 18, 19, 20, 6, 21, 2, 22, 23, 24, 25, 26, 27, 28, 29, 30, 31, 32] (by decide +kernel) (by decide +kernel)
set_option maxRecDepth 20000 in
theorem gX5_restore_X5_lengths : GoodIn wsX5_restore (wsV RX5 48 RX5 yX5_lengths wsX5_lengths) := goodIn_app (goodIn_of _ (by decide +kernel)) ggX5_restore_X5_lengths
theorem dX5_restore_0 : decode cX5_restore 0 = .ok (.iload_n 1, 1) := by decide +kernel
theorem dX5_restore_1 : decode cX5_restore 1 = .ok (.iconst 0, 1) := by decide +kernel
theorem dX5_restore_2 : decode cX5_restore 2 = .ok (.iconst 1, 1) := by decide +kernel
theorem dX5_restore_3 : decode cX5_restore 3 = .ok (.invokestatic 36, 3) := by decide +kernel
theorem dX5_restore_6 : decode cX5_restore 6 = .ok (.ifCond .ne 6, 3) := by decide +kernel
theorem dX5_restore_9 : decode cX5_restore 9 = .ok (.bipush (-2), 2) := by decide +kernel
theorem dX5_restore_11 : decode cX5_restore 11 = .ok (.ireturn, 1) := by decide +kernel
theorem dX5_restore_12 : decode cX5_restore 12 = .ok (.aload_n 0, 1) := by decide +kernel
theorem dX5_restore_13 : decode cX5_restore 13 = .ok (.getfield 19, 3) := by decide +kernel
theorem dX5_restore_16 : decode cX5_restore 16 = .ok (.iload_n 1, 1) := by decide +kernel
theorem dX5_restore_17 : decode cX5_restore 17 = .ok (.baload, 1) := by decide +kernel
theorem dX5_restore_18 : decode cX5_restore 18 = .ok (.ifCond .ne 6, 3) := by decide +kernel
theorem dX5_restore_21 : decode cX5_restore 21 = .ok (.bipush (-5), 2) := by decide +kernel
theorem dX5_restore_23 : decode cX5_restore 23 = .ok (.ireturn, 1) := by decide +kernel
theorem dX5_restore_24 : decode cX5_restore 24 = .ok (.aload_n 0, 1) := by decide +kernel
theorem dX5_restore_25 : decode cX5_restore 25 = .ok (.invokevirtual 52, 3) := by decide +kernel
theorem dX5_restore_28 : decode cX5_restore 28 = .ok (.iconst 0, 1) := by decide +kernel
theorem dX5_restore_29 : decode cX5_restore 29 = .ok (.istore_n 2, 1) := by decide +kernel
theorem dX5_restore_30 : decode cX5_restore 30 = .ok (.iload_n 2, 1) := by decide +kernel
theorem dX5_restore_31 : decode cX5_restore 31 = .ok (.sipush 390, 3) := by decide +kernel
theorem dX5_restore_34 : decode cX5_restore 34 = .ok (.if_icmp .ge 27, 3) := by decide +kernel
theorem dX5_restore_37 : decode cX5_restore 37 = .ok (.aload_n 0, 1) := by decide +kernel
theorem dX5_restore_38 : decode cX5_restore 38 = .ok (.getfield 7, 3) := by decide +kernel
theorem dX5_restore_41 : decode cX5_restore 41 = .ok (.iload_n 2, 1) := by decide +kernel
theorem dX5_restore_42 : decode cX5_restore 42 = .ok (.aload_n 0, 1) := by decide +kernel
theorem dX5_restore_43 : decode cX5_restore 43 = .ok (.getfield 16, 3) := by decide +kernel
theorem dX5_restore_46 : decode cX5_restore 46 = .ok (.iload_n 1, 1) := by decide +kernel
theorem dX5_restore_47 : decode cX5_restore 47 = .ok (.sipush 390, 3) := by decide +kernel
theorem dX5_restore_50 : decode cX5_restore 50 = .ok (.imul, 1) := by decide +kernel
theorem dX5_restore_51 : decode cX5_restore 51 = .ok (.iload_n 2, 1) := by decide +kernel
theorem dX5_restore_52 : decode cX5_restore 52 = .ok (.iadd, 1) := by decide +kernel
theorem dX5_restore_53 : decode cX5_restore 53 = .ok (.iaload, 1) := by decide +kernel
theorem dX5_restore_54 : decode cX5_restore 54 = .ok (.iastore, 1) := by decide +kernel
theorem dX5_restore_55 : decode cX5_restore 55 = .ok (.iinc 2 1, 3) := by decide +kernel
theorem dX5_restore_58 : decode cX5_restore 58 = .ok (.goto (-28), 3) := by decide +kernel
theorem dX5_restore_61 : decode cX5_restore 61 = .ok (.aload_n 0, 1) := by decide +kernel
theorem dX5_restore_62 : decode cX5_restore 62 = .ok (.invokevirtual 48, 3) := by decide +kernel
theorem dX5_restore_65 : decode cX5_restore 65 = .ok (.ireturn, 1) := by decide +kernel
theorem dX5_times_0 : decode cX5_times 0 = .ok (.iload_n 0, 1) := by decide +kernel
theorem dX5_times_1 : decode cX5_times 1 = .ok (.iload_n 1, 1) := by decide +kernel
theorem dX5_times_2 : decode cX5_times 2 = .ok (.imul, 1) := by decide +kernel
theorem dX5_times_3 : decode cX5_times 3 = .ok (.sipush 257, 3) := by decide +kernel
theorem dX5_times_6 : decode cX5_times 6 = .ok (.irem, 1) := by decide +kernel
theorem dX5_times_7 : decode cX5_times 7 = .ok (.ireturn, 1) := by decide +kernel
theorem dX5_less_0 : decode cX5_less 0 = .ok (.iload_n 0, 1) := by decide +kernel
theorem dX5_less_1 : decode cX5_less 1 = .ok (.sipush 257, 3) := by decide +kernel
theorem dX5_less_4 : decode cX5_less 4 = .ok (.iadd, 1) := by decide +kernel
theorem dX5_less_5 : decode cX5_less 5 = .ok (.iload_n 1, 1) := by decide +kernel
theorem dX5_less_6 : decode cX5_less 6 = .ok (.isub, 1) := by decide +kernel
theorem dX5_less_7 : decode cX5_less 7 = .ok (.sipush 257, 3) := by decide +kernel
theorem dX5_less_10 : decode cX5_less 10 = .ok (.irem, 1) := by decide +kernel
theorem dX5_less_11 : decode cX5_less 11 = .ok (.ireturn, 1) := by decide +kernel
set_option maxRecDepth 20000 in
theorem ggX5_raised_X5_times : GoodIn wsX5_raised wsX5_times := goodIn_r _ [4] (by decide +kernel) (by decide +kernel)
set_option maxRecDepth 20000 in
theorem gX5_raised_X5_times : GoodIn wsX5_raised (va_wsS RX5 55 yX5_times wsX5_times) := goodIn_app (goodIn_of _ (by decide +kernel)) ggX5_raised_X5_times
theorem dX5_raised_0 : decode cX5_raised 0 = .ok (.iconst 1, 1) := by decide +kernel
theorem dX5_raised_1 : decode cX5_raised 1 = .ok (.istore_n 2, 1) := by decide +kernel
theorem dX5_raised_2 : decode cX5_raised 2 = .ok (.iconst 0, 1) := by decide +kernel
theorem dX5_raised_3 : decode cX5_raised 3 = .ok (.istore_n 3, 1) := by decide +kernel
theorem dX5_raised_4 : decode cX5_raised 4 = .ok (.iload_n 3, 1) := by decide +kernel
theorem dX5_raised_5 : decode cX5_raised 5 = .ok (.iload_n 1, 1) := by decide +kernel
theorem dX5_raised_6 : decode cX5_raised 6 = .ok (.if_icmp .ge 15, 3) := by decide +kernel
theorem dX5_raised_9 : decode cX5_raised 9 = .ok (.iload_n 2, 1) := by decide +kernel
theorem dX5_raised_10 : decode cX5_raised 10 = .ok (.iload_n 0, 1) := by decide +kernel
theorem dX5_raised_11 : decode cX5_raised 11 = .ok (.invokestatic 55, 3) := by decide +kernel
theorem dX5_raised_14 : decode cX5_raised 14 = .ok (.istore_n 2, 1) := by decide +kernel
theorem dX5_raised_15 : decode cX5_raised 15 = .ok (.iinc 3 1, 3) := by decide +kernel
theorem dX5_raised_18 : decode cX5_raised 18 = .ok (.goto (-14), 3) := by decide +kernel
theorem dX5_raised_21 : decode cX5_raised 21 = .ok (.iload_n 2, 1) := by decide +kernel
theorem dX5_raised_22 : decode cX5_raised 22 = .ok (.ireturn, 1) := by decide +kernel
set_option maxRecDepth 20000 in
theorem ggX5_over_X5_raised : GoodIn wsX5_over wsX5_raised := goodIn_r _ [4, 5, 6, 3, 7] (by decide +kernel) (by decide +kernel)
set_option maxRecDepth 20000 in
theorem gX5_over_X5_raised : GoodIn wsX5_over (va_wsS RX5 59 yX5_raised wsX5_raised) := goodIn_app (goodIn_of _ (by decide +kernel)) ggX5_over_X5_raised
theorem dX5_over_0 : decode cX5_over 0 = .ok (.iload_n 0, 1) := by decide +kernel
theorem dX5_over_1 : decode cX5_over 1 = .ok (.sipush 255, 3) := by decide +kernel
theorem dX5_over_4 : decode cX5_over 4 = .ok (.invokestatic 59, 3) := by decide +kernel
theorem dX5_over_7 : decode cX5_over 7 = .ok (.ireturn, 1) := by decide +kernel
theorem dX5_blank_0 : decode cX5_blank 0 = .ok (.aload_n 0, 1) := by decide +kernel
theorem dX5_blank_1 : decode cX5_blank 1 = .ok (.iload_n 1, 1) := by decide +kernel
theorem dX5_blank_2 : decode cX5_blank 2 = .ok (.putfield 62, 3) := by decide +kernel
theorem dX5_blank_5 : decode cX5_blank 5 = .ok (.iconst 0, 1) := by decide +kernel
theorem dX5_blank_6 : decode cX5_blank 6 = .ok (.istore_n 2, 1) := by decide +kernel
theorem dX5_blank_7 : decode cX5_blank 7 = .ok (.iload_n 2, 1) := by decide +kernel
theorem dX5_blank_8 : decode cX5_blank 8 = .ok (.bipush 64, 2) := by decide +kernel
theorem dX5_blank_10 : decode cX5_blank 10 = .ok (.if_icmp .ge 16, 3) := by decide +kernel
theorem dX5_blank_13 : decode cX5_blank 13 = .ok (.aload_n 0, 1) := by decide +kernel
theorem dX5_blank_14 : decode cX5_blank 14 = .ok (.getfield 27, 3) := by decide +kernel
theorem dX5_blank_17 : decode cX5_blank 17 = .ok (.iload_n 2, 1) := by decide +kernel
theorem dX5_blank_18 : decode cX5_blank 18 = .ok (.iconst 0, 1) := by decide +kernel
theorem dX5_blank_19 : decode cX5_blank 19 = .ok (.iastore, 1) := by decide +kernel
theorem dX5_blank_20 : decode cX5_blank 20 = .ok (.iinc 2 1, 3) := by decide +kernel
theorem dX5_blank_23 : decode cX5_blank 23 = .ok (.goto (-16), 3) := by decide +kernel
theorem dX5_blank_26 : decode cX5_blank 26 = .ok (.return_, 1) := by decide +kernel
theorem dX5_store_0 : decode cX5_store 0 = .ok (.aload_n 0, 1) := by decide +kernel
theorem dX5_store_1 : decode cX5_store 1 = .ok (.getfield 7, 3) := by decide +kernel
theorem dX5_store_4 : decode cX5_store 4 = .ok (.bipush 65, 2) := by decide +kernel
theorem dX5_store_6 : decode cX5_store 6 = .ok (.iload_n 1, 1) := by decide +kernel
theorem dX5_store_7 : decode cX5_store 7 = .ok (.imul, 1) := by decide +kernel
theorem dX5_store_8 : decode cX5_store 8 = .ok (.aload_n 0, 1) := by decide +kernel
theorem dX5_store_9 : decode cX5_store 9 = .ok (.getfield 62, 3) := by decide +kernel
theorem dX5_store_12 : decode cX5_store 12 = .ok (.iastore, 1) := by decide +kernel
theorem dX5_store_13 : decode cX5_store 13 = .ok (.iconst 0, 1) := by decide +kernel
theorem dX5_store_14 : decode cX5_store 14 = .ok (.istore_n 2, 1) := by decide +kernel
theorem dX5_store_15 : decode cX5_store 15 = .ok (.iload_n 2, 1) := by decide +kernel
theorem dX5_store_16 : decode cX5_store 16 = .ok (.bipush 64, 2) := by decide +kernel
theorem dX5_store_18 : decode cX5_store 18 = .ok (.if_icmp .ge 40, 3) := by decide +kernel
theorem dX5_store_21 : decode cX5_store 21 = .ok (.aload_n 0, 1) := by decide +kernel
theorem dX5_store_22 : decode cX5_store 22 = .ok (.getfield 7, 3) := by decide +kernel
theorem dX5_store_25 : decode cX5_store 25 = .ok (.bipush 65, 2) := by decide +kernel
theorem dX5_store_27 : decode cX5_store 27 = .ok (.iload_n 1, 1) := by decide +kernel
theorem dX5_store_28 : decode cX5_store 28 = .ok (.imul, 1) := by decide +kernel
theorem dX5_store_29 : decode cX5_store 29 = .ok (.iconst 1, 1) := by decide +kernel
theorem dX5_store_30 : decode cX5_store 30 = .ok (.iadd, 1) := by decide +kernel
theorem dX5_store_31 : decode cX5_store 31 = .ok (.iload_n 2, 1) := by decide +kernel
theorem dX5_store_32 : decode cX5_store 32 = .ok (.iadd, 1) := by decide +kernel
theorem dX5_store_33 : decode cX5_store 33 = .ok (.iload_n 2, 1) := by decide +kernel
theorem dX5_store_34 : decode cX5_store 34 = .ok (.aload_n 0, 1) := by decide +kernel
theorem dX5_store_35 : decode cX5_store 35 = .ok (.getfield 62, 3) := by decide +kernel
theorem dX5_store_38 : decode cX5_store 38 = .ok (.if_icmp .ge 12, 3) := by decide +kernel
theorem dX5_store_41 : decode cX5_store 41 = .ok (.aload_n 0, 1) := by decide +kernel
theorem dX5_store_42 : decode cX5_store 42 = .ok (.getfield 27, 3) := by decide +kernel
theorem dX5_store_45 : decode cX5_store 45 = .ok (.iload_n 2, 1) := by decide +kernel
theorem dX5_store_46 : decode cX5_store 46 = .ok (.iaload, 1) := by decide +kernel
theorem dX5_store_47 : decode cX5_store 47 = .ok (.goto 4, 3) := by decide +kernel
theorem dX5_store_50 : decode cX5_store 50 = .ok (.iconst 0, 1) := by decide +kernel
theorem dX5_store_51 : decode cX5_store 51 = .ok (.iastore, 1) := by decide +kernel
theorem dX5_store_52 : decode cX5_store 52 = .ok (.iinc 2 1, 3) := by decide +kernel
theorem dX5_store_55 : decode cX5_store 55 = .ok (.goto (-40), 3) := by decide +kernel
theorem dX5_store_58 : decode cX5_store 58 = .ok (.return_, 1) := by decide +kernel
set_option maxRecDepth 20000 in
theorem ggX5_degreeOf_X5_lengthOf : GoodIn wsX5_degreeOf wsX5_lengthOf := goodIn_r _ [5, 6, 11, 12, 13, 14, 15, 16, 17, 18, 19, 20, 21] (by decide +kernel) (by decide +kernel)
set_option maxRecDepth 20000 in
theorem gX5_degreeOf_X5_lengthOf : GoodIn wsX5_degreeOf (wsV RX5 40 RX5 yX5_lengthOf wsX5_lengthOf) := goodIn_app (goodIn_of _ (by decide +kernel)) ggX5_degreeOf_X5_lengthOf
set_option maxRecDepth 20000 in
theorem ggX5_degreeOf_X5_at : GoodIn wsX5_degreeOf wsX5_at := goodIn_r _ [10, 6, 1, 2, 3, 4, 5, 11, 12, 13, 14, 15, 16, 17, 18, 19, 20, 21] (by decide +kernel) (by decide +kernel)
set_option maxRecDepth 20000 in
theorem gX5_degreeOf_X5_at : GoodIn wsX5_degreeOf (wsV RX5 65 RX5 yX5_at wsX5_at) := goodIn_app (goodIn_of _ (by decide +kernel)) ggX5_degreeOf_X5_at
theorem dX5_degreeOf_0 : decode cX5_degreeOf 0 = .ok (.bipush (-6), 2) := by decide +kernel
theorem dX5_degreeOf_2 : decode cX5_degreeOf 2 = .ok (.istore_n 2, 1) := by decide +kernel
theorem dX5_degreeOf_3 : decode cX5_degreeOf 3 = .ok (.iconst 0, 1) := by decide +kernel
theorem dX5_degreeOf_4 : decode cX5_degreeOf 4 = .ok (.istore_n 3, 1) := by decide +kernel
theorem dX5_degreeOf_5 : decode cX5_degreeOf 5 = .ok (.iload_n 3, 1) := by decide +kernel
theorem dX5_degreeOf_6 : decode cX5_degreeOf 6 = .ok (.aload_n 0, 1) := by decide +kernel
theorem dX5_degreeOf_7 : decode cX5_degreeOf 7 = .ok (.iload_n 1, 1) := by decide +kernel
theorem dX5_degreeOf_8 : decode cX5_degreeOf 8 = .ok (.invokevirtual 40, 3) := by decide +kernel
theorem dX5_degreeOf_11 : decode cX5_degreeOf 11 = .ok (.if_icmp .ge 24, 3) := by decide +kernel
theorem dX5_degreeOf_14 : decode cX5_degreeOf 14 = .ok (.aload_n 0, 1) := by decide +kernel
theorem dX5_degreeOf_15 : decode cX5_degreeOf 15 = .ok (.iload_n 1, 1) := by decide +kernel
theorem dX5_degreeOf_16 : decode cX5_degreeOf 16 = .ok (.iload_n 3, 1) := by decide +kernel
theorem dX5_degreeOf_17 : decode cX5_degreeOf 17 = .ok (.invokevirtual 65, 3) := by decide +kernel
theorem dX5_degreeOf_20 : decode cX5_degreeOf 20 = .ok (.ifCond .ne 7, 3) := by decide +kernel
theorem dX5_degreeOf_23 : decode cX5_degreeOf 23 = .ok (.iload_n 2, 1) := by decide +kernel
theorem dX5_degreeOf_24 : decode cX5_degreeOf 24 = .ok (.goto 4, 3) := by decide +kernel
theorem dX5_degreeOf_27 : decode cX5_degreeOf 27 = .ok (.iload_n 3, 1) := by decide +kernel
theorem dX5_degreeOf_28 : decode cX5_degreeOf 28 = .ok (.istore_n 2, 1) := by decide +kernel
theorem dX5_degreeOf_29 : decode cX5_degreeOf 29 = .ok (.iinc 3 1, 3) := by decide +kernel
theorem dX5_degreeOf_32 : decode cX5_degreeOf 32 = .ok (.goto (-27), 3) := by decide +kernel
theorem dX5_degreeOf_35 : decode cX5_degreeOf 35 = .ok (.iload_n 2, 1) := by decide +kernel
theorem dX5_degreeOf_36 : decode cX5_degreeOf 36 = .ok (.ireturn, 1) := by decide +kernel
theorem dX5_degreeOut_0 : decode cX5_degreeOut 0 = .ok (.bipush (-6), 2) := by decide +kernel
theorem dX5_degreeOut_2 : decode cX5_degreeOut 2 = .ok (.istore_n 1, 1) := by decide +kernel
theorem dX5_degreeOut_3 : decode cX5_degreeOut 3 = .ok (.iconst 0, 1) := by decide +kernel
theorem dX5_degreeOut_4 : decode cX5_degreeOut 4 = .ok (.istore_n 2, 1) := by decide +kernel
theorem dX5_degreeOut_5 : decode cX5_degreeOut 5 = .ok (.iload_n 2, 1) := by decide +kernel
theorem dX5_degreeOut_6 : decode cX5_degreeOut 6 = .ok (.aload_n 0, 1) := by decide +kernel
theorem dX5_degreeOut_7 : decode cX5_degreeOut 7 = .ok (.getfield 62, 3) := by decide +kernel
theorem dX5_degreeOut_10 : decode cX5_degreeOut 10 = .ok (.if_icmp .ge 24, 3) := by decide +kernel
theorem dX5_degreeOut_13 : decode cX5_degreeOut 13 = .ok (.aload_n 0, 1) := by decide +kernel
theorem dX5_degreeOut_14 : decode cX5_degreeOut 14 = .ok (.getfield 27, 3) := by decide +kernel
theorem dX5_degreeOut_17 : decode cX5_degreeOut 17 = .ok (.iload_n 2, 1) := by decide +kernel
theorem dX5_degreeOut_18 : decode cX5_degreeOut 18 = .ok (.iaload, 1) := by decide +kernel
theorem dX5_degreeOut_19 : decode cX5_degreeOut 19 = .ok (.ifCond .ne 7, 3) := by decide +kernel
theorem dX5_degreeOut_22 : decode cX5_degreeOut 22 = .ok (.iload_n 1, 1) := by decide +kernel
theorem dX5_degreeOut_23 : decode cX5_degreeOut 23 = .ok (.goto 4, 3) := by decide +kernel
theorem dX5_degreeOut_26 : decode cX5_degreeOut 26 = .ok (.iload_n 2, 1) := by decide +kernel
theorem dX5_degreeOut_27 : decode cX5_degreeOut 27 = .ok (.istore_n 1, 1) := by decide +kernel
theorem dX5_degreeOut_28 : decode cX5_degreeOut 28 = .ok (.iinc 2 1, 3) := by decide +kernel
theorem dX5_degreeOut_31 : decode cX5_degreeOut 31 = .ok (.goto (-26), 3) := by decide +kernel
theorem dX5_degreeOut_34 : decode cX5_degreeOut 34 = .ok (.iload_n 1, 1) := by decide +kernel
theorem dX5_degreeOut_35 : decode cX5_degreeOut 35 = .ok (.ireturn, 1) := by decide +kernel
set_option maxRecDepth 20000 in
theorem ggX5_set_X5_isRegister : GoodIn wsX5_set wsX5_isRegister := goodIn_r _ [5, 6, 7, 4, 8] (by decide +kernel) (by decide +kernel)
set_option maxRecDepth 20000 in
theorem gX5_set_X5_isRegister : GoodIn wsX5_set (va_wsS RX5 68 yX5_isRegister wsX5_isRegister) := goodIn_app (goodIn_of _ (by decide +kernel)) ggX5_set_X5_isRegister
set_option maxRecDepth 20000 in
theorem ggX5_set_X5_lengthOf : GoodIn wsX5_set wsX5_lengthOf := goodIn_r _ [12, 1, 22, 23, 24, 25, 26, 27, 28, 29, 30, 31, 32] (by decide +kernel) (by decide +kernel)
set_option maxRecDepth 20000 in
theorem gX5_set_X5_lengthOf : GoodIn wsX5_set (wsV RX5 40 RX5 yX5_lengthOf wsX5_lengthOf) := goodIn_app (goodIn_of _ (by decide +kernel)) ggX5_set_X5_lengthOf
set_option maxRecDepth 20000 in
theorem ggX5_set_X5_in : GoodIn wsX5_set wsX5_in := goodIn_r _ [8] (by decide +kernel) (by decide +kernel)
set_option maxRecDepth 20000 in
theorem gX5_set_X5_in : GoodIn wsX5_set (va_wsS RX5 36 yX5_in wsX5_in) := goodIn_app (goodIn_of _ (by decide +kernel)) ggX5_set_X5_in
set_option maxRecDepth 20000 in
theorem ggX5_set_X5_isNumber : GoodIn wsX5_set wsX5_isNumber := goodIn_r _ [15, 6, 7, 4, 8] (by decide +kernel) (by decide +kernel)
set_option maxRecDepth 20000 in
theorem gX5_set_X5_isNumber : GoodIn wsX5_set (va_wsS RX5 72 yX5_isNumber wsX5_isNumber) := goodIn_app (goodIn_of _ (by decide +kernel)) ggX5_set_X5_isNumber
set_option maxRecDepth 20000 in
theorem ggX5_set_X5_record : GoodIn wsX5_set wsX5_record := goodIn_r _ [19, 20, 21, 1, 22, 23, 24, 25, 26, 27, 28, 29, 30, 31, 32] (by decide +kernel) (by decide +kernel)
set_option maxRecDepth 20000 in
theorem gX5_set_X5_record : GoodIn wsX5_set (wsV RX5 52 RX5 yX5_record wsX5_record) := goodIn_app (goodIn_of _ (by decide +kernel)) ggX5_set_X5_record
theorem dX5_set_0 : decode cX5_set 0 = .ok (.iload_n 1, 1) := by decide +kernel
theorem dX5_set_1 : decode cX5_set 1 = .ok (.invokestatic 68, 3) := by decide +kernel
theorem dX5_set_4 : decode cX5_set 4 = .ok (.ifCond .eq 16, 3) := by decide +kernel
end
section
theorem dX5_set_7 : decode cX5_set 7 = .ok (.iload_n 2, 1) := by decide +kernel
theorem dX5_set_8 : decode cX5_set 8 = .ok (.iconst 0, 1) := by decide +kernel
theorem dX5_set_9 : decode cX5_set 9 = .ok (.aload_n 0, 1) := by decide +kernel
theorem dX5_set_10 : decode cX5_set 10 = .ok (.iload_n 1, 1) := by decide +kernel
theorem dX5_set_11 : decode cX5_set 11 = .ok (.invokevirtual 40, 3) := by decide +kernel
theorem dX5_set_14 : decode cX5_set 14 = .ok (.invokestatic 36, 3) := by decide +kernel
theorem dX5_set_17 : decode cX5_set 17 = .ok (.ifCond .ne 5, 3) := by decide +kernel
theorem dX5_set_20 : decode cX5_set 20 = .ok (.iconst (-1), 1) := by decide +kernel
theorem dX5_set_21 : decode cX5_set 21 = .ok (.ireturn, 1) := by decide +kernel
theorem dX5_set_22 : decode cX5_set 22 = .ok (.iload_n 3, 1) := by decide +kernel
theorem dX5_set_23 : decode cX5_set 23 = .ok (.invokestatic 72, 3) := by decide +kernel
theorem dX5_set_26 : decode cX5_set 26 = .ok (.ifCond .ne 6, 3) := by decide +kernel
theorem dX5_set_29 : decode cX5_set 29 = .ok (.bipush (-2), 2) := by decide +kernel
theorem dX5_set_31 : decode cX5_set 31 = .ok (.ireturn, 1) := by decide +kernel
theorem dX5_set_32 : decode cX5_set 32 = .ok (.iload_n 2, 1) := by decide +kernel
theorem dX5_set_33 : decode cX5_set 33 = .ok (.bipush 64, 2) := by decide +kernel
theorem dX5_set_35 : decode cX5_set 35 = .ok (.if_icmp .ne 6, 3) := by decide +kernel
theorem dX5_set_38 : decode cX5_set 38 = .ok (.bipush (-4), 2) := by decide +kernel
theorem dX5_set_40 : decode cX5_set 40 = .ok (.ireturn, 1) := by decide +kernel
theorem dX5_set_41 : decode cX5_set 41 = .ok (.aload_n 0, 1) := by decide +kernel
theorem dX5_set_42 : decode cX5_set 42 = .ok (.invokevirtual 52, 3) := by decide +kernel
theorem dX5_set_45 : decode cX5_set 45 = .ok (.aload_n 0, 1) := by decide +kernel
theorem dX5_set_46 : decode cX5_set 46 = .ok (.getfield 7, 3) := by decide +kernel
theorem dX5_set_49 : decode cX5_set 49 = .ok (.bipush 65, 2) := by decide +kernel
theorem dX5_set_51 : decode cX5_set 51 = .ok (.iload_n 1, 1) := by decide +kernel
theorem dX5_set_52 : decode cX5_set 52 = .ok (.imul, 1) := by decide +kernel
theorem dX5_set_53 : decode cX5_set 53 = .ok (.iconst 1, 1) := by decide +kernel
theorem dX5_set_54 : decode cX5_set 54 = .ok (.iadd, 1) := by decide +kernel
theorem dX5_set_55 : decode cX5_set 55 = .ok (.iload_n 2, 1) := by decide +kernel
theorem dX5_set_56 : decode cX5_set 56 = .ok (.iadd, 1) := by decide +kernel
theorem dX5_set_57 : decode cX5_set 57 = .ok (.iload_n 3, 1) := by decide +kernel
theorem dX5_set_58 : decode cX5_set 58 = .ok (.iastore, 1) := by decide +kernel
theorem dX5_set_59 : decode cX5_set 59 = .ok (.aload_n 0, 1) := by decide +kernel
theorem dX5_set_60 : decode cX5_set 60 = .ok (.getfield 7, 3) := by decide +kernel
theorem dX5_set_63 : decode cX5_set 63 = .ok (.bipush 65, 2) := by decide +kernel
theorem dX5_set_65 : decode cX5_set 65 = .ok (.iload_n 1, 1) := by decide +kernel
theorem dX5_set_66 : decode cX5_set 66 = .ok (.imul, 1) := by decide +kernel
theorem dX5_set_67 : decode cX5_set 67 = .ok (.dup2, 1) := by decide +kernel
theorem dX5_set_68 : decode cX5_set 68 = .ok (.iaload, 1) := by decide +kernel
theorem dX5_set_69 : decode cX5_set 69 = .ok (.iload_n 2, 1) := by decide +kernel
theorem dX5_set_70 : decode cX5_set 70 = .ok (.aload_n 0, 1) := by decide +kernel
theorem dX5_set_71 : decode cX5_set 71 = .ok (.iload_n 1, 1) := by decide +kernel
theorem dX5_set_72 : decode cX5_set 72 = .ok (.invokevirtual 40, 3) := by decide +kernel
theorem dX5_set_75 : decode cX5_set 75 = .ok (.if_icmp .ne 7, 3) := by decide +kernel
theorem dX5_set_78 : decode cX5_set 78 = .ok (.iconst 1, 1) := by decide +kernel
theorem dX5_set_79 : decode cX5_set 79 = .ok (.goto 4, 3) := by decide +kernel
theorem dX5_set_82 : decode cX5_set 82 = .ok (.iconst 0, 1) := by decide +kernel
theorem dX5_set_83 : decode cX5_set 83 = .ok (.iadd, 1) := by decide +kernel
theorem dX5_set_84 : decode cX5_set 84 = .ok (.iastore, 1) := by decide +kernel
theorem dX5_set_85 : decode cX5_set 85 = .ok (.aload_n 0, 1) := by decide +kernel
theorem dX5_set_86 : decode cX5_set 86 = .ok (.iload_n 1, 1) := by decide +kernel
theorem dX5_set_87 : decode cX5_set 87 = .ok (.invokevirtual 40, 3) := by decide +kernel
theorem dX5_set_90 : decode cX5_set 90 = .ok (.ireturn, 1) := by decide +kernel
set_option maxRecDepth 20000 in
theorem ggX5_add_X5_isRegister : GoodIn wsX5_add wsX5_isRegister := goodIn_r _ [6, 7, 8, 5, 9] (by decide +kernel) (by decide +kernel)
set_option maxRecDepth 20000 in
theorem gX5_add_X5_isRegister : GoodIn wsX5_add (va_wsS RX5 68 yX5_isRegister wsX5_isRegister) := goodIn_app (goodIn_of _ (by decide +kernel)) ggX5_add_X5_isRegister
set_option maxRecDepth 20000 in
theorem ggX5_add_X5_isNumber : GoodIn wsX5_add wsX5_isNumber := goodIn_r _ [12, 7, 8, 5, 9] (by decide +kernel) (by decide +kernel)
set_option maxRecDepth 20000 in
theorem gX5_add_X5_isNumber : GoodIn wsX5_add (va_wsS RX5 72 yX5_isNumber wsX5_isNumber) := goodIn_app (goodIn_of _ (by decide +kernel)) ggX5_add_X5_isNumber
set_option maxRecDepth 20000 in
theorem ggX5_add_X5_record : GoodIn wsX5_add wsX5_record := goodIn_r _ [16, 17, 18, 19, 39, 40, 41, 42, 43, 44, 45, 46, 47, 48, 49] (by decide +kernel) (by decide +kernel)
set_option maxRecDepth 20000 in
theorem gX5_add_X5_record : GoodIn wsX5_add (wsV RX5 52 RX5 yX5_record wsX5_record) := goodIn_app (goodIn_of _ (by decide +kernel)) ggX5_add_X5_record
set_option maxRecDepth 20000 in
theorem ggX5_add_X5_lengthOf : GoodIn wsX5_add wsX5_lengthOf := goodIn_r _ [23, 19, 39, 40, 41, 42, 43, 44, 45, 46, 47, 48, 49] (by decide +kernel) (by decide +kernel)
set_option maxRecDepth 20000 in
theorem gX5_add_X5_lengthOf : GoodIn wsX5_add (wsV RX5 40 RX5 yX5_lengthOf wsX5_lengthOf) := goodIn_app (goodIn_of _ (by decide +kernel)) ggX5_add_X5_lengthOf
set_option maxRecDepth 20000 in
theorem ggX5_add_X5_blank : GoodIn wsX5_add wsX5_blank := goodIn_r _ [27, 1, 2, 39, 40, 41, 42, 43, 44, 45, 46, 47, 48, 49] (by decide +kernel) (by decide +kernel)
set_option maxRecDepth 20000 in
theorem gX5_add_X5_blank : GoodIn wsX5_add (wsV RX5 75 RX5 yX5_blank wsX5_blank) := goodIn_app (goodIn_of _ (by decide +kernel)) ggX5_add_X5_blank
set_option maxRecDepth 20000 in
theorem ggX5_add_X5_at : GoodIn wsX5_add wsX5_at := goodIn_r _ [31, 19, 20, 21, 22, 5, 23, 39, 40, 41, 42, 43, 44, 45, 46, 47, 48, 49] (by decide +kernel) (by decide +kernel)
set_option maxRecDepth 20000 in
theorem gX5_add_X5_at : GoodIn wsX5_add (wsV RX5 65 RX5 yX5_at wsX5_at) := goodIn_app (goodIn_of _ (by decide +kernel)) ggX5_add_X5_at
set_option maxRecDepth 20000 in
theorem ggX5_add_X5_times : GoodIn wsX5_add wsX5_times := goodIn_r _ [34] (by decide +kernel) (by decide +kernel)
set_option maxRecDepth 20000 in
theorem gX5_add_X5_times : GoodIn wsX5_add (va_wsS RX5 55 yX5_times wsX5_times) := goodIn_app (goodIn_of _ (by decide +kernel)) ggX5_add_X5_times
set_option maxRecDepth 20000 in
theorem ggX5_add_X5_store : GoodIn wsX5_add wsX5_store := goodIn_r _ [38, 19, 1, 2, 39, 40, 41, 42, 43, 44, 45, 46, 47, 48, 49] (by decide +kernel) (by decide +kernel)
set_option maxRecDepth 20000 in
theorem gX5_add_X5_store : GoodIn wsX5_add (wsV RX5 79 RX5 yX5_store wsX5_store) := goodIn_app (goodIn_of _ (by decide +kernel)) ggX5_add_X5_store
theorem dX5_add_0 : decode cX5_add 0 = .ok (.iload_n 1, 1) := by decide +kernel
theorem dX5_add_1 : decode cX5_add 1 = .ok (.invokestatic 68, 3) := by decide +kernel
theorem dX5_add_4 : decode cX5_add 4 = .ok (.ifCond .eq 18, 3) := by decide +kernel
theorem dX5_add_7 : decode cX5_add 7 = .ok (.iload_n 2, 1) := by decide +kernel
theorem dX5_add_8 : decode cX5_add 8 = .ok (.invokestatic 68, 3) := by decide +kernel
theorem dX5_add_11 : decode cX5_add 11 = .ok (.ifCond .eq 11, 3) := by decide +kernel
theorem dX5_add_14 : decode cX5_add 14 = .ok (.iload 4, 2) := by decide +kernel
theorem dX5_add_16 : decode cX5_add 16 = .ok (.invokestatic 68, 3) := by decide +kernel
theorem dX5_add_19 : decode cX5_add 19 = .ok (.ifCond .ne 5, 3) := by decide +kernel
theorem dX5_add_22 : decode cX5_add 22 = .ok (.iconst (-1), 1) := by decide +kernel
theorem dX5_add_23 : decode cX5_add 23 = .ok (.ireturn, 1) := by decide +kernel
theorem dX5_add_24 : decode cX5_add 24 = .ok (.iload_n 3, 1) := by decide +kernel
theorem dX5_add_25 : decode cX5_add 25 = .ok (.invokestatic 72, 3) := by decide +kernel
theorem dX5_add_28 : decode cX5_add 28 = .ok (.ifCond .ne 6, 3) := by decide +kernel
theorem dX5_add_31 : decode cX5_add 31 = .ok (.bipush (-2), 2) := by decide +kernel
theorem dX5_add_33 : decode cX5_add 33 = .ok (.ireturn, 1) := by decide +kernel
theorem dX5_add_34 : decode cX5_add 34 = .ok (.aload_n 0, 1) := by decide +kernel
theorem dX5_add_35 : decode cX5_add 35 = .ok (.invokevirtual 52, 3) := by decide +kernel
theorem dX5_add_38 : decode cX5_add 38 = .ok (.aload_n 0, 1) := by decide +kernel
theorem dX5_add_39 : decode cX5_add 39 = .ok (.aload_n 0, 1) := by decide +kernel
theorem dX5_add_40 : decode cX5_add 40 = .ok (.iload_n 1, 1) := by decide +kernel
theorem dX5_add_41 : decode cX5_add 41 = .ok (.invokevirtual 40, 3) := by decide +kernel
theorem dX5_add_44 : decode cX5_add 44 = .ok (.aload_n 0, 1) := by decide +kernel
theorem dX5_add_45 : decode cX5_add 45 = .ok (.iload_n 2, 1) := by decide +kernel
theorem dX5_add_46 : decode cX5_add 46 = .ok (.invokevirtual 40, 3) := by decide +kernel
theorem dX5_add_49 : decode cX5_add 49 = .ok (.if_icmp .le 11, 3) := by decide +kernel
theorem dX5_add_52 : decode cX5_add 52 = .ok (.aload_n 0, 1) := by decide +kernel
theorem dX5_add_53 : decode cX5_add 53 = .ok (.iload_n 1, 1) := by decide +kernel
theorem dX5_add_54 : decode cX5_add 54 = .ok (.invokevirtual 40, 3) := by decide +kernel
theorem dX5_add_57 : decode cX5_add 57 = .ok (.goto 8, 3) := by decide +kernel
theorem dX5_add_60 : decode cX5_add 60 = .ok (.aload_n 0, 1) := by decide +kernel
theorem dX5_add_61 : decode cX5_add 61 = .ok (.iload_n 2, 1) := by decide +kernel
theorem dX5_add_62 : decode cX5_add 62 = .ok (.invokevirtual 40, 3) := by decide +kernel
theorem dX5_add_65 : decode cX5_add 65 = .ok (.invokevirtual 75, 3) := by decide +kernel
theorem dX5_add_68 : decode cX5_add 68 = .ok (.iconst 0, 1) := by decide +kernel
theorem dX5_add_69 : decode cX5_add 69 = .ok (.istore 5, 2) := by decide +kernel
theorem dX5_add_71 : decode cX5_add 71 = .ok (.iload 5, 2) := by decide +kernel
theorem dX5_add_73 : decode cX5_add 73 = .ok (.aload_n 0, 1) := by decide +kernel
theorem dX5_add_74 : decode cX5_add 74 = .ok (.getfield 62, 3) := by decide +kernel
theorem dX5_add_77 : decode cX5_add 77 = .ok (.if_icmp .ge 39, 3) := by decide +kernel
theorem dX5_add_80 : decode cX5_add 80 = .ok (.aload_n 0, 1) := by decide +kernel
theorem dX5_add_81 : decode cX5_add 81 = .ok (.getfield 27, 3) := by decide +kernel
theorem dX5_add_84 : decode cX5_add 84 = .ok (.iload 5, 2) := by decide +kernel
theorem dX5_add_86 : decode cX5_add 86 = .ok (.aload_n 0, 1) := by decide +kernel
theorem dX5_add_87 : decode cX5_add 87 = .ok (.iload_n 1, 1) := by decide +kernel
theorem dX5_add_88 : decode cX5_add 88 = .ok (.iload 5, 2) := by decide +kernel
theorem dX5_add_90 : decode cX5_add 90 = .ok (.invokevirtual 65, 3) := by decide +kernel
theorem dX5_add_93 : decode cX5_add 93 = .ok (.iload_n 3, 1) := by decide +kernel
theorem dX5_add_94 : decode cX5_add 94 = .ok (.aload_n 0, 1) := by decide +kernel
theorem dX5_add_95 : decode cX5_add 95 = .ok (.iload_n 2, 1) := by decide +kernel
theorem dX5_add_96 : decode cX5_add 96 = .ok (.iload 5, 2) := by decide +kernel
theorem dX5_add_98 : decode cX5_add 98 = .ok (.invokevirtual 65, 3) := by decide +kernel
theorem dX5_add_101 : decode cX5_add 101 = .ok (.invokestatic 55, 3) := by decide +kernel
theorem dX5_add_104 : decode cX5_add 104 = .ok (.iadd, 1) := by decide +kernel
theorem dX5_add_105 : decode cX5_add 105 = .ok (.sipush 257, 3) := by decide +kernel
theorem dX5_add_108 : decode cX5_add 108 = .ok (.irem, 1) := by decide +kernel
theorem dX5_add_109 : decode cX5_add 109 = .ok (.iastore, 1) := by decide +kernel
theorem dX5_add_110 : decode cX5_add 110 = .ok (.iinc 5 1, 3) := by decide +kernel
theorem dX5_add_113 : decode cX5_add 113 = .ok (.goto (-42), 3) := by decide +kernel
theorem dX5_add_116 : decode cX5_add 116 = .ok (.aload_n 0, 1) := by decide +kernel
theorem dX5_add_117 : decode cX5_add 117 = .ok (.iload 4, 2) := by decide +kernel
theorem dX5_add_119 : decode cX5_add 119 = .ok (.invokevirtual 79, 3) := by decide +kernel
theorem dX5_add_122 : decode cX5_add 122 = .ok (.aload_n 0, 1) := by decide +kernel
theorem dX5_add_123 : decode cX5_add 123 = .ok (.getfield 62, 3) := by decide +kernel
theorem dX5_add_126 : decode cX5_add 126 = .ok (.ireturn, 1) := by decide +kernel
set_option maxRecDepth 20000 in
theorem ggX5_product_X5_isRegister : GoodIn wsX5_product wsX5_isRegister := goodIn_r _ [5, 6, 7, 4, 8] (by decide +kernel) (by decide +kernel)
set_option maxRecDepth 20000 in
theorem gX5_product_X5_isRegister : GoodIn wsX5_product (va_wsS RX5 68 yX5_isRegister wsX5_isRegister) := goodIn_app (goodIn_of _ (by decide +kernel)) ggX5_product_X5_isRegister
set_option maxRecDepth 20000 in
theorem ggX5_product_X5_lengthOf : GoodIn wsX5_product wsX5_lengthOf := goodIn_r _ [12, 13, 33, 34, 35, 36, 37, 38, 39, 40, 41, 42, 43] (by decide +kernel) (by decide +kernel)
set_option maxRecDepth 20000 in
theorem gX5_product_X5_lengthOf : GoodIn wsX5_product (wsV RX5 40 RX5 yX5_lengthOf wsX5_lengthOf) := goodIn_app (goodIn_of _ (by decide +kernel)) ggX5_product_X5_lengthOf
set_option maxRecDepth 20000 in
theorem ggX5_product_X5_record : GoodIn wsX5_product wsX5_record := goodIn_r _ [17, 18, 19, 13, 33, 34, 35, 36, 37, 38, 39, 40, 41, 42, 43] (by decide +kernel) (by decide +kernel)
set_option maxRecDepth 20000 in
theorem gX5_product_X5_record : GoodIn wsX5_product (wsV RX5 52 RX5 yX5_record wsX5_record) := goodIn_app (goodIn_of _ (by decide +kernel)) ggX5_product_X5_record
set_option maxRecDepth 20000 in
theorem ggX5_product_X5_blank : GoodIn wsX5_product wsX5_blank := goodIn_r _ [23, 24, 1, 33, 34, 35, 36, 37, 38, 39, 40, 41, 42, 43] (by decide +kernel) (by decide +kernel)
set_option maxRecDepth 20000 in
theorem gX5_product_X5_blank : GoodIn wsX5_product (wsV RX5 75 RX5 yX5_blank wsX5_blank) := goodIn_app (goodIn_of _ (by decide +kernel)) ggX5_product_X5_blank
set_option maxRecDepth 20000 in
theorem ggX5_product_X5_at : GoodIn wsX5_product wsX5_at := goodIn_r _ [28, 13, 9, 10, 11, 4, 12, 33, 34, 35, 36, 37, 38, 39, 40, 41, 42, 43] (by decide +kernel) (by decide +kernel)
set_option maxRecDepth 20000 in
theorem gX5_product_X5_at : GoodIn wsX5_product (wsV RX5 65 RX5 yX5_at wsX5_at) := goodIn_app (goodIn_of _ (by decide +kernel)) ggX5_product_X5_at
set_option maxRecDepth 20000 in
theorem ggX5_product_X5_store : GoodIn wsX5_product wsX5_store := goodIn_r _ [32, 13, 24, 1, 33, 34, 35, 36, 37, 38, 39, 40, 41, 42, 43] (by decide +kernel) (by decide +kernel)
set_option maxRecDepth 20000 in
theorem gX5_product_X5_store : GoodIn wsX5_product (wsV RX5 79 RX5 yX5_store wsX5_store) := goodIn_app (goodIn_of _ (by decide +kernel)) ggX5_product_X5_store
theorem dX5_product_0 : decode cX5_product 0 = .ok (.iload_n 1, 1) := by decide +kernel
theorem dX5_product_1 : decode cX5_product 1 = .ok (.invokestatic 68, 3) := by decide +kernel
theorem dX5_product_4 : decode cX5_product 4 = .ok (.ifCond .eq 17, 3) := by decide +kernel
theorem dX5_product_7 : decode cX5_product 7 = .ok (.iload_n 2, 1) := by decide +kernel
theorem dX5_product_8 : decode cX5_product 8 = .ok (.invokestatic 68, 3) := by decide +kernel
theorem dX5_product_11 : decode cX5_product 11 = .ok (.ifCond .eq 10, 3) := by decide +kernel
theorem dX5_product_14 : decode cX5_product 14 = .ok (.iload_n 3, 1) := by decide +kernel
theorem dX5_product_15 : decode cX5_product 15 = .ok (.invokestatic 68, 3) := by decide +kernel
theorem dX5_product_18 : decode cX5_product 18 = .ok (.ifCond .ne 5, 3) := by decide +kernel
theorem dX5_product_21 : decode cX5_product 21 = .ok (.iconst (-1), 1) := by decide +kernel
theorem dX5_product_22 : decode cX5_product 22 = .ok (.ireturn, 1) := by decide +kernel
theorem dX5_product_23 : decode cX5_product 23 = .ok (.aload_n 0, 1) := by decide +kernel
theorem dX5_product_24 : decode cX5_product 24 = .ok (.iload_n 1, 1) := by decide +kernel
theorem dX5_product_25 : decode cX5_product 25 = .ok (.invokevirtual 40, 3) := by decide +kernel
theorem dX5_product_28 : decode cX5_product 28 = .ok (.aload_n 0, 1) := by decide +kernel
theorem dX5_product_29 : decode cX5_product 29 = .ok (.iload_n 2, 1) := by decide +kernel
theorem dX5_product_30 : decode cX5_product 30 = .ok (.invokevirtual 40, 3) := by decide +kernel
theorem dX5_product_33 : decode cX5_product 33 = .ok (.iadd, 1) := by decide +kernel
theorem dX5_product_34 : decode cX5_product 34 = .ok (.iconst 1, 1) := by decide +kernel
theorem dX5_product_35 : decode cX5_product 35 = .ok (.isub, 1) := by decide +kernel
theorem dX5_product_36 : decode cX5_product 36 = .ok (.istore 4, 2) := by decide +kernel
theorem dX5_product_38 : decode cX5_product 38 = .ok (.iload 4, 2) := by decide +kernel
theorem dX5_product_40 : decode cX5_product 40 = .ok (.bipush 64, 2) := by decide +kernel
theorem dX5_product_42 : decode cX5_product 42 = .ok (.if_icmp .le 6, 3) := by decide +kernel
theorem dX5_product_45 : decode cX5_product 45 = .ok (.bipush (-4), 2) := by decide +kernel
theorem dX5_product_47 : decode cX5_product 47 = .ok (.ireturn, 1) := by decide +kernel
theorem dX5_product_48 : decode cX5_product 48 = .ok (.aload_n 0, 1) := by decide +kernel
theorem dX5_product_49 : decode cX5_product 49 = .ok (.invokevirtual 52, 3) := by decide +kernel
theorem dX5_product_52 : decode cX5_product 52 = .ok (.aload_n 0, 1) := by decide +kernel
theorem dX5_product_53 : decode cX5_product 53 = .ok (.iload 4, 2) := by decide +kernel
theorem dX5_product_55 : decode cX5_product 55 = .ok (.invokevirtual 75, 3) := by decide +kernel
theorem dX5_product_58 : decode cX5_product 58 = .ok (.iconst 0, 1) := by decide +kernel
theorem dX5_product_59 : decode cX5_product 59 = .ok (.istore 5, 2) := by decide +kernel
theorem dX5_product_61 : decode cX5_product 61 = .ok (.iload 5, 2) := by decide +kernel
theorem dX5_product_63 : decode cX5_product 63 = .ok (.aload_n 0, 1) := by decide +kernel
theorem dX5_product_64 : decode cX5_product 64 = .ok (.iload_n 1, 1) := by decide +kernel
theorem dX5_product_65 : decode cX5_product 65 = .ok (.invokevirtual 40, 3) := by decide +kernel
theorem dX5_product_68 : decode cX5_product 68 = .ok (.if_icmp .ge 68, 3) := by decide +kernel
theorem dX5_product_71 : decode cX5_product 71 = .ok (.iconst 0, 1) := by decide +kernel
theorem dX5_product_72 : decode cX5_product 72 = .ok (.istore 6, 2) := by decide +kernel
theorem dX5_product_74 : decode cX5_product 74 = .ok (.iload 6, 2) := by decide +kernel
theorem dX5_product_76 : decode cX5_product 76 = .ok (.aload_n 0, 1) := by decide +kernel
theorem dX5_product_77 : decode cX5_product 77 = .ok (.iload_n 2, 1) := by decide +kernel
theorem dX5_product_78 : decode cX5_product 78 = .ok (.invokevirtual 40, 3) := by decide +kernel
theorem dX5_product_81 : decode cX5_product 81 = .ok (.if_icmp .ge 49, 3) := by decide +kernel
theorem dX5_product_84 : decode cX5_product 84 = .ok (.aload_n 0, 1) := by decide +kernel
theorem dX5_product_85 : decode cX5_product 85 = .ok (.getfield 27, 3) := by decide +kernel
theorem dX5_product_88 : decode cX5_product 88 = .ok (.iload 5, 2) := by decide +kernel
theorem dX5_product_90 : decode cX5_product 90 = .ok (.iload 6, 2) := by decide +kernel
theorem dX5_product_92 : decode cX5_product 92 = .ok (.iadd, 1) := by decide +kernel
theorem dX5_product_93 : decode cX5_product 93 = .ok (.aload_n 0, 1) := by decide +kernel
theorem dX5_product_94 : decode cX5_product 94 = .ok (.getfield 27, 3) := by decide +kernel
theorem dX5_product_97 : decode cX5_product 97 = .ok (.iload 5, 2) := by decide +kernel
theorem dX5_product_99 : decode cX5_product 99 = .ok (.iload 6, 2) := by decide +kernel
theorem dX5_product_101 : decode cX5_product 101 = .ok (.iadd, 1) := by decide +kernel
theorem dX5_product_102 : decode cX5_product 102 = .ok (.iaload, 1) := by decide +kernel
theorem dX5_product_103 : decode cX5_product 103 = .ok (.aload_n 0, 1) := by decide +kernel
theorem dX5_product_104 : decode cX5_product 104 = .ok (.iload_n 1, 1) := by decide +kernel
theorem dX5_product_105 : decode cX5_product 105 = .ok (.iload 5, 2) := by decide +kernel
theorem dX5_product_107 : decode cX5_product 107 = .ok (.invokevirtual 65, 3) := by decide +kernel
theorem dX5_product_110 : decode cX5_product 110 = .ok (.aload_n 0, 1) := by decide +kernel
theorem dX5_product_111 : decode cX5_product 111 = .ok (.iload_n 2, 1) := by decide +kernel
theorem dX5_product_112 : decode cX5_product 112 = .ok (.iload 6, 2) := by decide +kernel
theorem dX5_product_114 : decode cX5_product 114 = .ok (.invokevirtual 65, 3) := by decide +kernel
theorem dX5_product_117 : decode cX5_product 117 = .ok (.imul, 1) := by decide +kernel
theorem dX5_product_118 : decode cX5_product 118 = .ok (.iadd, 1) := by decide +kernel
theorem dX5_product_119 : decode cX5_product 119 = .ok (.sipush 257, 3) := by decide +kernel
theorem dX5_product_122 : decode cX5_product 122 = .ok (.irem, 1) := by decide +kernel
theorem dX5_product_123 : decode cX5_product 123 = .ok (.iastore, 1) := by decide +kernel
theorem dX5_product_124 : decode cX5_product 124 = .ok (.iinc 6 1, 3) := by decide +kernel
theorem dX5_product_127 : decode cX5_product 127 = .ok (.goto (-53), 3) := by decide +kernel
theorem dX5_product_130 : decode cX5_product 130 = .ok (.iinc 5 1, 3) := by decide +kernel
theorem dX5_product_133 : decode cX5_product 133 = .ok (.goto (-72), 3) := by decide +kernel
theorem dX5_product_136 : decode cX5_product 136 = .ok (.aload_n 0, 1) := by decide +kernel
theorem dX5_product_137 : decode cX5_product 137 = .ok (.iload_n 3, 1) := by decide +kernel
theorem dX5_product_138 : decode cX5_product 138 = .ok (.invokevirtual 79, 3) := by decide +kernel
theorem dX5_product_141 : decode cX5_product 141 = .ok (.iload 4, 2) := by decide +kernel
theorem dX5_product_143 : decode cX5_product 143 = .ok (.ireturn, 1) := by decide +kernel
set_option maxRecDepth 20000 in
theorem ggX5_round_X5_isRegister : GoodIn wsX5_round wsX5_isRegister := goodIn_r _ [5, 6, 7, 4, 8] (by decide +kernel) (by decide +kernel)
set_option maxRecDepth 20000 in
theorem gX5_round_X5_isRegister : GoodIn wsX5_round (va_wsS RX5 68 yX5_isRegister wsX5_isRegister) := goodIn_app (goodIn_of _ (by decide +kernel)) ggX5_round_X5_isRegister
set_option maxRecDepth 20000 in
theorem ggX5_round_X5_in : GoodIn wsX5_round wsX5_in := goodIn_r _ [8] (by decide +kernel) (by decide +kernel)
set_option maxRecDepth 20000 in
theorem gX5_round_X5_in : GoodIn wsX5_round (va_wsS RX5 36 yX5_in wsX5_in) := goodIn_app (goodIn_of _ (by decide +kernel)) ggX5_round_X5_in
set_option maxRecDepth 20000 in
theorem ggX5_round_X5_record : GoodIn wsX5_round wsX5_record := goodIn_r _ [12, 13, 14, 15, 37, 38, 39, 40, 41, 42, 43, 44, 45, 46, 47] (by decide +kernel) (by decide +kernel)
set_option maxRecDepth 20000 in
theorem gX5_round_X5_record : GoodIn wsX5_round (wsV RX5 52 RX5 yX5_record wsX5_record) := goodIn_app (goodIn_of _ (by decide +kernel)) ggX5_round_X5_record
set_option maxRecDepth 20000 in
theorem ggX5_round_X5_blank : GoodIn wsX5_round wsX5_blank := goodIn_r _ [19, 20, 1, 37, 38, 39, 40, 41, 42, 43, 44, 45, 46, 47] (by decide +kernel) (by decide +kernel)
set_option maxRecDepth 20000 in
theorem gX5_round_X5_blank : GoodIn wsX5_round (wsV RX5 75 RX5 yX5_blank wsX5_blank) := goodIn_app (goodIn_of _ (by decide +kernel)) ggX5_round_X5_blank
set_option maxRecDepth 20000 in
theorem ggX5_round_X5_lengthOf : GoodIn wsX5_round wsX5_lengthOf := goodIn_r _ [24, 15, 37, 38, 39, 40, 41, 42, 43, 44, 45, 46, 47] (by decide +kernel) (by decide +kernel)
set_option maxRecDepth 20000 in
theorem gX5_round_X5_lengthOf : GoodIn wsX5_round (wsV RX5 40 RX5 yX5_lengthOf wsX5_lengthOf) := goodIn_app (goodIn_of _ (by decide +kernel)) ggX5_round_X5_lengthOf
set_option maxRecDepth 20000 in
theorem ggX5_round_X5_at : GoodIn wsX5_round wsX5_at := goodIn_r _ [28, 15, 21, 22, 23, 4, 24, 37, 38, 39, 40, 41, 42, 43, 44, 45, 46, 47] (by decide +kernel) (by decide +kernel)
set_option maxRecDepth 20000 in
theorem gX5_round_X5_at : GoodIn wsX5_round (wsV RX5 65 RX5 yX5_at wsX5_at) := goodIn_app (goodIn_of _ (by decide +kernel)) ggX5_round_X5_at
set_option maxRecDepth 20000 in
theorem ggX5_round_X5_store : GoodIn wsX5_round wsX5_store := goodIn_r _ [32, 15, 20, 1, 37, 38, 39, 40, 41, 42, 43, 44, 45, 46, 47] (by decide +kernel) (by decide +kernel)
set_option maxRecDepth 20000 in
theorem gX5_round_X5_store : GoodIn wsX5_round (wsV RX5 79 RX5 yX5_store wsX5_store) := goodIn_app (goodIn_of _ (by decide +kernel)) ggX5_round_X5_store
set_option maxRecDepth 20000 in
theorem ggX5_round_X5_degreeOut : GoodIn wsX5_round wsX5_degreeOut := goodIn_r _ [36, 20, 1, 37, 38, 39, 40, 41, 42, 43, 44, 45, 46, 47] (by decide +kernel) (by decide +kernel)
set_option maxRecDepth 20000 in
theorem gX5_round_X5_degreeOut : GoodIn wsX5_round (wsV RX5 82 RX5 yX5_degreeOut wsX5_degreeOut) := goodIn_app (goodIn_of _ (by decide +kernel)) ggX5_round_X5_degreeOut
theorem dX5_round_0 : decode cX5_round 0 = .ok (.iload_n 1, 1) := by decide +kernel
theorem dX5_round_1 : decode cX5_round 1 = .ok (.invokestatic 68, 3) := by decide +kernel
theorem dX5_round_4 : decode cX5_round 4 = .ok (.ifCond .eq 18, 3) := by decide +kernel
theorem dX5_round_7 : decode cX5_round 7 = .ok (.iload_n 2, 1) := by decide +kernel
theorem dX5_round_8 : decode cX5_round 8 = .ok (.invokestatic 68, 3) := by decide +kernel
theorem dX5_round_11 : decode cX5_round 11 = .ok (.ifCond .eq 11, 3) := by decide +kernel
theorem dX5_round_14 : decode cX5_round 14 = .ok (.iload 4, 2) := by decide +kernel
theorem dX5_round_16 : decode cX5_round 16 = .ok (.invokestatic 68, 3) := by decide +kernel
theorem dX5_round_19 : decode cX5_round 19 = .ok (.ifCond .ne 5, 3) := by decide +kernel
theorem dX5_round_22 : decode cX5_round 22 = .ok (.iconst (-1), 1) := by decide +kernel
theorem dX5_round_23 : decode cX5_round 23 = .ok (.ireturn, 1) := by decide +kernel
theorem dX5_round_24 : decode cX5_round 24 = .ok (.iload_n 3, 1) := by decide +kernel
theorem dX5_round_25 : decode cX5_round 25 = .ok (.iconst 1, 1) := by decide +kernel
theorem dX5_round_26 : decode cX5_round 26 = .ok (.bipush 64, 2) := by decide +kernel
theorem dX5_round_28 : decode cX5_round 28 = .ok (.invokestatic 36, 3) := by decide +kernel
theorem dX5_round_31 : decode cX5_round 31 = .ok (.ifCond .ne 6, 3) := by decide +kernel
theorem dX5_round_34 : decode cX5_round 34 = .ok (.bipush (-2), 2) := by decide +kernel
theorem dX5_round_36 : decode cX5_round 36 = .ok (.ireturn, 1) := by decide +kernel
theorem dX5_round_37 : decode cX5_round 37 = .ok (.aload_n 0, 1) := by decide +kernel
theorem dX5_round_38 : decode cX5_round 38 = .ok (.invokevirtual 52, 3) := by decide +kernel
theorem dX5_round_41 : decode cX5_round 41 = .ok (.aload_n 0, 1) := by decide +kernel
theorem dX5_round_42 : decode cX5_round 42 = .ok (.iload_n 3, 1) := by decide +kernel
theorem dX5_round_43 : decode cX5_round 43 = .ok (.invokevirtual 75, 3) := by decide +kernel
theorem dX5_round_46 : decode cX5_round 46 = .ok (.iconst 0, 1) := by decide +kernel
theorem dX5_round_47 : decode cX5_round 47 = .ok (.istore 5, 2) := by decide +kernel
theorem dX5_round_49 : decode cX5_round 49 = .ok (.iload 5, 2) := by decide +kernel
theorem dX5_round_51 : decode cX5_round 51 = .ok (.aload_n 0, 1) := by decide +kernel
theorem dX5_round_52 : decode cX5_round 52 = .ok (.iload_n 1, 1) := by decide +kernel
theorem dX5_round_53 : decode cX5_round 53 = .ok (.invokevirtual 40, 3) := by decide +kernel
theorem dX5_round_56 : decode cX5_round 56 = .ok (.if_icmp .ge 71, 3) := by decide +kernel
theorem dX5_round_59 : decode cX5_round 59 = .ok (.iconst 0, 1) := by decide +kernel
theorem dX5_round_60 : decode cX5_round 60 = .ok (.istore 6, 2) := by decide +kernel
theorem dX5_round_62 : decode cX5_round 62 = .ok (.iload 6, 2) := by decide +kernel
theorem dX5_round_64 : decode cX5_round 64 = .ok (.aload_n 0, 1) := by decide +kernel
theorem dX5_round_65 : decode cX5_round 65 = .ok (.iload_n 2, 1) := by decide +kernel
theorem dX5_round_66 : decode cX5_round 66 = .ok (.invokevirtual 40, 3) := by decide +kernel
theorem dX5_round_69 : decode cX5_round 69 = .ok (.if_icmp .ge 52, 3) := by decide +kernel
theorem dX5_round_72 : decode cX5_round 72 = .ok (.iload 5, 2) := by decide +kernel
theorem dX5_round_74 : decode cX5_round 74 = .ok (.iload 6, 2) := by decide +kernel
theorem dX5_round_76 : decode cX5_round 76 = .ok (.iadd, 1) := by decide +kernel
theorem dX5_round_77 : decode cX5_round 77 = .ok (.iload_n 3, 1) := by decide +kernel
theorem dX5_round_78 : decode cX5_round 78 = .ok (.irem, 1) := by decide +kernel
theorem dX5_round_79 : decode cX5_round 79 = .ok (.istore 7, 2) := by decide +kernel
theorem dX5_round_81 : decode cX5_round 81 = .ok (.aload_n 0, 1) := by decide +kernel
theorem dX5_round_82 : decode cX5_round 82 = .ok (.getfield 27, 3) := by decide +kernel
theorem dX5_round_85 : decode cX5_round 85 = .ok (.iload 7, 2) := by decide +kernel
theorem dX5_round_87 : decode cX5_round 87 = .ok (.aload_n 0, 1) := by decide +kernel
theorem dX5_round_88 : decode cX5_round 88 = .ok (.getfield 27, 3) := by decide +kernel
theorem dX5_round_91 : decode cX5_round 91 = .ok (.iload 7, 2) := by decide +kernel
theorem dX5_round_93 : decode cX5_round 93 = .ok (.iaload, 1) := by decide +kernel
theorem dX5_round_94 : decode cX5_round 94 = .ok (.aload_n 0, 1) := by decide +kernel
theorem dX5_round_95 : decode cX5_round 95 = .ok (.iload_n 1, 1) := by decide +kernel
theorem dX5_round_96 : decode cX5_round 96 = .ok (.iload 5, 2) := by decide +kernel
theorem dX5_round_98 : decode cX5_round 98 = .ok (.invokevirtual 65, 3) := by decide +kernel
theorem dX5_round_101 : decode cX5_round 101 = .ok (.aload_n 0, 1) := by decide +kernel
theorem dX5_round_102 : decode cX5_round 102 = .ok (.iload_n 2, 1) := by decide +kernel
theorem dX5_round_103 : decode cX5_round 103 = .ok (.iload 6, 2) := by decide +kernel
theorem dX5_round_105 : decode cX5_round 105 = .ok (.invokevirtual 65, 3) := by decide +kernel
theorem dX5_round_108 : decode cX5_round 108 = .ok (.imul, 1) := by decide +kernel
theorem dX5_round_109 : decode cX5_round 109 = .ok (.iadd, 1) := by decide +kernel
theorem dX5_round_110 : decode cX5_round 110 = .ok (.sipush 257, 3) := by decide +kernel
theorem dX5_round_113 : decode cX5_round 113 = .ok (.irem, 1) := by decide +kernel
theorem dX5_round_114 : decode cX5_round 114 = .ok (.iastore, 1) := by decide +kernel
theorem dX5_round_115 : decode cX5_round 115 = .ok (.iinc 6 1, 3) := by decide +kernel
theorem dX5_round_118 : decode cX5_round 118 = .ok (.goto (-56), 3) := by decide +kernel
theorem dX5_round_121 : decode cX5_round 121 = .ok (.iinc 5 1, 3) := by decide +kernel
theorem dX5_round_124 : decode cX5_round 124 = .ok (.goto (-75), 3) := by decide +kernel
theorem dX5_round_127 : decode cX5_round 127 = .ok (.aload_n 0, 1) := by decide +kernel
theorem dX5_round_128 : decode cX5_round 128 = .ok (.iload 4, 2) := by decide +kernel
theorem dX5_round_130 : decode cX5_round 130 = .ok (.invokevirtual 79, 3) := by decide +kernel
theorem dX5_round_133 : decode cX5_round 133 = .ok (.aload_n 0, 1) := by decide +kernel
theorem dX5_round_134 : decode cX5_round 134 = .ok (.invokevirtual 82, 3) := by decide +kernel
theorem dX5_round_137 : decode cX5_round 137 = .ok (.ireturn, 1) := by decide +kernel
set_option maxRecDepth 20000 in
theorem ggX5_multiplyOut_X5_lengthOf : GoodIn wsX5_multiplyOut wsX5_lengthOf := goodIn_r _ [8, 9, 18, 19, 20, 21, 22, 23, 24, 25, 26, 27, 28] (by decide +kernel) (by decide +kernel)
set_option maxRecDepth 20000 in
theorem gX5_multiplyOut_X5_lengthOf : GoodIn wsX5_multiplyOut (wsV RX5 40 RX5 yX5_lengthOf wsX5_lengthOf) := goodIn_app (goodIn_of _ (by decide +kernel)) ggX5_multiplyOut_X5_lengthOf
set_option maxRecDepth 20000 in
theorem ggX5_multiplyOut_X5_blank : GoodIn wsX5_multiplyOut wsX5_blank := goodIn_r _ [13, 1, 3, 18, 19, 20, 21, 22, 23, 24, 25, 26, 27, 28] (by decide +kernel) (by decide +kernel)
set_option maxRecDepth 20000 in
theorem gX5_multiplyOut_X5_blank : GoodIn wsX5_multiplyOut (wsV RX5 75 RX5 yX5_blank wsX5_blank) := goodIn_app (goodIn_of _ (by decide +kernel)) ggX5_multiplyOut_X5_blank
set_option maxRecDepth 20000 in
theorem ggX5_multiplyOut_X5_at : GoodIn wsX5_multiplyOut wsX5_at := goodIn_r _ [17, 9, 4, 5, 6, 7, 8, 18, 19, 20, 21, 22, 23, 24, 25, 26, 27, 28] (by decide +kernel) (by decide +kernel)
set_option maxRecDepth 20000 in
theorem gX5_multiplyOut_X5_at : GoodIn wsX5_multiplyOut (wsV RX5 65 RX5 yX5_at wsX5_at) := goodIn_app (goodIn_of _ (by decide +kernel)) ggX5_multiplyOut_X5_at
theorem dX5_multiplyOut_0 : decode cX5_multiplyOut 0 = .ok (.aload_n 0, 1) := by decide +kernel
theorem dX5_multiplyOut_1 : decode cX5_multiplyOut 1 = .ok (.getfield 62, 3) := by decide +kernel
theorem dX5_multiplyOut_4 : decode cX5_multiplyOut 4 = .ok (.istore_n 2, 1) := by decide +kernel
theorem dX5_multiplyOut_5 : decode cX5_multiplyOut 5 = .ok (.iconst 0, 1) := by decide +kernel
theorem dX5_multiplyOut_6 : decode cX5_multiplyOut 6 = .ok (.istore_n 3, 1) := by decide +kernel
theorem dX5_multiplyOut_7 : decode cX5_multiplyOut 7 = .ok (.iload_n 3, 1) := by decide +kernel
theorem dX5_multiplyOut_8 : decode cX5_multiplyOut 8 = .ok (.iload_n 2, 1) := by decide +kernel
theorem dX5_multiplyOut_9 : decode cX5_multiplyOut 9 = .ok (.if_icmp .ge 21, 3) := by decide +kernel
theorem dX5_multiplyOut_12 : decode cX5_multiplyOut 12 = .ok (.aload_n 0, 1) := by decide +kernel
theorem dX5_multiplyOut_13 : decode cX5_multiplyOut 13 = .ok (.getfield 30, 3) := by decide +kernel
theorem dX5_multiplyOut_16 : decode cX5_multiplyOut 16 = .ok (.iload_n 3, 1) := by decide +kernel
theorem dX5_multiplyOut_17 : decode cX5_multiplyOut 17 = .ok (.aload_n 0, 1) := by decide +kernel
theorem dX5_multiplyOut_18 : decode cX5_multiplyOut 18 = .ok (.getfield 27, 3) := by decide +kernel
theorem dX5_multiplyOut_21 : decode cX5_multiplyOut 21 = .ok (.iload_n 3, 1) := by decide +kernel
theorem dX5_multiplyOut_22 : decode cX5_multiplyOut 22 = .ok (.iaload, 1) := by decide +kernel
theorem dX5_multiplyOut_23 : decode cX5_multiplyOut 23 = .ok (.iastore, 1) := by decide +kernel
theorem dX5_multiplyOut_24 : decode cX5_multiplyOut 24 = .ok (.iinc 3 1, 3) := by decide +kernel
theorem dX5_multiplyOut_27 : decode cX5_multiplyOut 27 = .ok (.goto (-20), 3) := by decide +kernel
theorem dX5_multiplyOut_30 : decode cX5_multiplyOut 30 = .ok (.aload_n 0, 1) := by decide +kernel
theorem dX5_multiplyOut_31 : decode cX5_multiplyOut 31 = .ok (.iload_n 2, 1) := by decide +kernel
theorem dX5_multiplyOut_32 : decode cX5_multiplyOut 32 = .ok (.aload_n 0, 1) := by decide +kernel
theorem dX5_multiplyOut_33 : decode cX5_multiplyOut 33 = .ok (.iload_n 1, 1) := by decide +kernel
theorem dX5_multiplyOut_34 : decode cX5_multiplyOut 34 = .ok (.invokevirtual 40, 3) := by decide +kernel
theorem dX5_multiplyOut_37 : decode cX5_multiplyOut 37 = .ok (.iadd, 1) := by decide +kernel
theorem dX5_multiplyOut_38 : decode cX5_multiplyOut 38 = .ok (.iconst 1, 1) := by decide +kernel
theorem dX5_multiplyOut_39 : decode cX5_multiplyOut 39 = .ok (.isub, 1) := by decide +kernel
theorem dX5_multiplyOut_40 : decode cX5_multiplyOut 40 = .ok (.invokevirtual 75, 3) := by decide +kernel
theorem dX5_multiplyOut_43 : decode cX5_multiplyOut 43 = .ok (.iconst 0, 1) := by decide +kernel
theorem dX5_multiplyOut_44 : decode cX5_multiplyOut 44 = .ok (.istore_n 3, 1) := by decide +kernel
theorem dX5_multiplyOut_45 : decode cX5_multiplyOut 45 = .ok (.iload_n 3, 1) := by decide +kernel
theorem dX5_multiplyOut_46 : decode cX5_multiplyOut 46 = .ok (.iload_n 2, 1) := by decide +kernel
theorem dX5_multiplyOut_47 : decode cX5_multiplyOut 47 = .ok (.if_icmp .ge 65, 3) := by decide +kernel
theorem dX5_multiplyOut_50 : decode cX5_multiplyOut 50 = .ok (.iconst 0, 1) := by decide +kernel
theorem dX5_multiplyOut_51 : decode cX5_multiplyOut 51 = .ok (.istore 4, 2) := by decide +kernel
theorem dX5_multiplyOut_53 : decode cX5_multiplyOut 53 = .ok (.iload 4, 2) := by decide +kernel
theorem dX5_multiplyOut_55 : decode cX5_multiplyOut 55 = .ok (.aload_n 0, 1) := by decide +kernel
theorem dX5_multiplyOut_56 : decode cX5_multiplyOut 56 = .ok (.iload_n 1, 1) := by decide +kernel
theorem dX5_multiplyOut_57 : decode cX5_multiplyOut 57 = .ok (.invokevirtual 40, 3) := by decide +kernel
theorem dX5_multiplyOut_60 : decode cX5_multiplyOut 60 = .ok (.if_icmp .ge 46, 3) := by decide +kernel
theorem dX5_multiplyOut_63 : decode cX5_multiplyOut 63 = .ok (.aload_n 0, 1) := by decide +kernel
theorem dX5_multiplyOut_64 : decode cX5_multiplyOut 64 = .ok (.getfield 27, 3) := by decide +kernel
theorem dX5_multiplyOut_67 : decode cX5_multiplyOut 67 = .ok (.iload_n 3, 1) := by decide +kernel
theorem dX5_multiplyOut_68 : decode cX5_multiplyOut 68 = .ok (.iload 4, 2) := by decide +kernel
theorem dX5_multiplyOut_70 : decode cX5_multiplyOut 70 = .ok (.iadd, 1) := by decide +kernel
theorem dX5_multiplyOut_71 : decode cX5_multiplyOut 71 = .ok (.aload_n 0, 1) := by decide +kernel
theorem dX5_multiplyOut_72 : decode cX5_multiplyOut 72 = .ok (.getfield 27, 3) := by decide +kernel
theorem dX5_multiplyOut_75 : decode cX5_multiplyOut 75 = .ok (.iload_n 3, 1) := by decide +kernel
theorem dX5_multiplyOut_76 : decode cX5_multiplyOut 76 = .ok (.iload 4, 2) := by decide +kernel
theorem dX5_multiplyOut_78 : decode cX5_multiplyOut 78 = .ok (.iadd, 1) := by decide +kernel
theorem dX5_multiplyOut_79 : decode cX5_multiplyOut 79 = .ok (.iaload, 1) := by decide +kernel
theorem dX5_multiplyOut_80 : decode cX5_multiplyOut 80 = .ok (.aload_n 0, 1) := by decide +kernel
theorem dX5_multiplyOut_81 : decode cX5_multiplyOut 81 = .ok (.getfield 30, 3) := by decide +kernel
theorem dX5_multiplyOut_84 : decode cX5_multiplyOut 84 = .ok (.iload_n 3, 1) := by decide +kernel
theorem dX5_multiplyOut_85 : decode cX5_multiplyOut 85 = .ok (.iaload, 1) := by decide +kernel
theorem dX5_multiplyOut_86 : decode cX5_multiplyOut 86 = .ok (.aload_n 0, 1) := by decide +kernel
theorem dX5_multiplyOut_87 : decode cX5_multiplyOut 87 = .ok (.iload_n 1, 1) := by decide +kernel
theorem dX5_multiplyOut_88 : decode cX5_multiplyOut 88 = .ok (.iload 4, 2) := by decide +kernel
theorem dX5_multiplyOut_90 : decode cX5_multiplyOut 90 = .ok (.invokevirtual 65, 3) := by decide +kernel
theorem dX5_multiplyOut_93 : decode cX5_multiplyOut 93 = .ok (.imul, 1) := by decide +kernel
theorem dX5_multiplyOut_94 : decode cX5_multiplyOut 94 = .ok (.iadd, 1) := by decide +kernel
theorem dX5_multiplyOut_95 : decode cX5_multiplyOut 95 = .ok (.sipush 257, 3) := by decide +kernel
theorem dX5_multiplyOut_98 : decode cX5_multiplyOut 98 = .ok (.irem, 1) := by decide +kernel
theorem dX5_multiplyOut_99 : decode cX5_multiplyOut 99 = .ok (.iastore, 1) := by decide +kernel
theorem dX5_multiplyOut_100 : decode cX5_multiplyOut 100 = .ok (.iinc 4 1, 3) := by decide +kernel
theorem dX5_multiplyOut_103 : decode cX5_multiplyOut 103 = .ok (.goto (-50), 3) := by decide +kernel
theorem dX5_multiplyOut_106 : decode cX5_multiplyOut 106 = .ok (.iinc 3 1, 3) := by decide +kernel
theorem dX5_multiplyOut_109 : decode cX5_multiplyOut 109 = .ok (.goto (-64), 3) := by decide +kernel
theorem dX5_multiplyOut_112 : decode cX5_multiplyOut 112 = .ok (.return_, 1) := by decide +kernel
set_option maxRecDepth 20000 in
theorem ggX5_power_X5_isRegister : GoodIn wsX5_power wsX5_isRegister := goodIn_r _ [6, 7, 8, 5, 9] (by decide +kernel) (by decide +kernel)
set_option maxRecDepth 20000 in
theorem gX5_power_X5_isRegister : GoodIn wsX5_power (va_wsS RX5 68 yX5_isRegister wsX5_isRegister) := goodIn_app (goodIn_of _ (by decide +kernel)) ggX5_power_X5_isRegister
set_option maxRecDepth 20000 in
theorem ggX5_power_X5_in : GoodIn wsX5_power wsX5_in := goodIn_r _ [9] (by decide +kernel) (by decide +kernel)
set_option maxRecDepth 20000 in
theorem gX5_power_X5_in : GoodIn wsX5_power (va_wsS RX5 36 yX5_in wsX5_in) := goodIn_app (goodIn_of _ (by decide +kernel)) ggX5_power_X5_in
set_option maxRecDepth 20000 in
theorem ggX5_power_X5_lengthOf : GoodIn wsX5_power wsX5_lengthOf := goodIn_r _ [13, 14, 38, 39, 40, 41, 42, 43, 44, 45, 46, 47, 48] (by decide +kernel) (by decide +kernel)
set_option maxRecDepth 20000 in
theorem gX5_power_X5_lengthOf : GoodIn wsX5_power (wsV RX5 40 RX5 yX5_lengthOf wsX5_lengthOf) := goodIn_app (goodIn_of _ (by decide +kernel)) ggX5_power_X5_lengthOf
set_option maxRecDepth 20000 in
theorem ggX5_power_X5_record : GoodIn wsX5_power wsX5_record := goodIn_r _ [18, 19, 20, 14, 38, 39, 40, 41, 42, 43, 44, 45, 46, 47, 48] (by decide +kernel) (by decide +kernel)
set_option maxRecDepth 20000 in
theorem gX5_power_X5_record : GoodIn wsX5_power (wsV RX5 52 RX5 yX5_record wsX5_record) := goodIn_app (goodIn_of _ (by decide +kernel)) ggX5_power_X5_record
set_option maxRecDepth 20000 in
theorem ggX5_power_X5_blank : GoodIn wsX5_power wsX5_blank := goodIn_r _ [24, 2, 1, 38, 39, 40, 41, 42, 43, 44, 45, 46, 47, 48] (by decide +kernel) (by decide +kernel)
set_option maxRecDepth 20000 in
theorem gX5_power_X5_blank : GoodIn wsX5_power (wsV RX5 75 RX5 yX5_blank wsX5_blank) := goodIn_app (goodIn_of _ (by decide +kernel)) ggX5_power_X5_blank
set_option maxRecDepth 20000 in
theorem ggX5_power_X5_multiplyOut : GoodIn wsX5_power wsX5_multiplyOut := goodIn_r _ [28, 2, 29, 1, 10, 11, 12, 5, 13, 14, 21, 22, 23, 24, 30, 31, 32, 33, 38, 39, 40, 41, 42, 43, 44, 45, 46, 47, 48] (by decide +kernel) (by decide +kernel)
set_option maxRecDepth 20000 in
theorem gX5_power_X5_multiplyOut : GoodIn wsX5_power (wsV RX5 85 RX5 yX5_multiplyOut wsX5_multiplyOut) := goodIn_app (goodIn_of _ (by decide +kernel)) ggX5_power_X5_multiplyOut
set_option maxRecDepth 20000 in
theorem ggX5_power_X5_store : GoodIn wsX5_power wsX5_store := goodIn_r _ [37, 14, 2, 1, 38, 39, 40, 41, 42, 43, 44, 45, 46, 47, 48] (by decide +kernel) (by decide +kernel)
set_option maxRecDepth 20000 in
theorem gX5_power_X5_store : GoodIn wsX5_power (wsV RX5 79 RX5 yX5_store wsX5_store) := goodIn_app (goodIn_of _ (by decide +kernel)) ggX5_power_X5_store
theorem dX5_power_0 : decode cX5_power 0 = .ok (.iload_n 1, 1) := by decide +kernel
theorem dX5_power_1 : decode cX5_power 1 = .ok (.invokestatic 68, 3) := by decide +kernel
theorem dX5_power_4 : decode cX5_power 4 = .ok (.ifCond .eq 10, 3) := by decide +kernel
theorem dX5_power_7 : decode cX5_power 7 = .ok (.iload_n 3, 1) := by decide +kernel
theorem dX5_power_8 : decode cX5_power 8 = .ok (.invokestatic 68, 3) := by decide +kernel
theorem dX5_power_11 : decode cX5_power 11 = .ok (.ifCond .ne 5, 3) := by decide +kernel
theorem dX5_power_14 : decode cX5_power 14 = .ok (.iconst (-1), 1) := by decide +kernel
theorem dX5_power_15 : decode cX5_power 15 = .ok (.ireturn, 1) := by decide +kernel
theorem dX5_power_16 : decode cX5_power 16 = .ok (.iload_n 2, 1) := by decide +kernel
theorem dX5_power_17 : decode cX5_power 17 = .ok (.iconst 0, 1) := by decide +kernel
theorem dX5_power_18 : decode cX5_power 18 = .ok (.bipush 9, 2) := by decide +kernel
theorem dX5_power_20 : decode cX5_power 20 = .ok (.invokestatic 36, 3) := by decide +kernel
theorem dX5_power_23 : decode cX5_power 23 = .ok (.ifCond .ne 6, 3) := by decide +kernel
theorem dX5_power_26 : decode cX5_power 26 = .ok (.bipush (-2), 2) := by decide +kernel
theorem dX5_power_28 : decode cX5_power 28 = .ok (.ireturn, 1) := by decide +kernel
theorem dX5_power_29 : decode cX5_power 29 = .ok (.iload_n 2, 1) := by decide +kernel
theorem dX5_power_30 : decode cX5_power 30 = .ok (.aload_n 0, 1) := by decide +kernel
theorem dX5_power_31 : decode cX5_power 31 = .ok (.iload_n 1, 1) := by decide +kernel
theorem dX5_power_32 : decode cX5_power 32 = .ok (.invokevirtual 40, 3) := by decide +kernel
theorem dX5_power_35 : decode cX5_power 35 = .ok (.iconst 1, 1) := by decide +kernel
theorem dX5_power_36 : decode cX5_power 36 = .ok (.isub, 1) := by decide +kernel
theorem dX5_power_37 : decode cX5_power 37 = .ok (.imul, 1) := by decide +kernel
theorem dX5_power_38 : decode cX5_power 38 = .ok (.iconst 1, 1) := by decide +kernel
theorem dX5_power_39 : decode cX5_power 39 = .ok (.iadd, 1) := by decide +kernel
theorem dX5_power_40 : decode cX5_power 40 = .ok (.bipush 64, 2) := by decide +kernel
theorem dX5_power_42 : decode cX5_power 42 = .ok (.if_icmp .le 6, 3) := by decide +kernel
theorem dX5_power_45 : decode cX5_power 45 = .ok (.bipush (-4), 2) := by decide +kernel
theorem dX5_power_47 : decode cX5_power 47 = .ok (.ireturn, 1) := by decide +kernel
theorem dX5_power_48 : decode cX5_power 48 = .ok (.aload_n 0, 1) := by decide +kernel
theorem dX5_power_49 : decode cX5_power 49 = .ok (.invokevirtual 52, 3) := by decide +kernel
theorem dX5_power_52 : decode cX5_power 52 = .ok (.aload_n 0, 1) := by decide +kernel
theorem dX5_power_53 : decode cX5_power 53 = .ok (.iconst 1, 1) := by decide +kernel
theorem dX5_power_54 : decode cX5_power 54 = .ok (.invokevirtual 75, 3) := by decide +kernel
theorem dX5_power_57 : decode cX5_power 57 = .ok (.aload_n 0, 1) := by decide +kernel
theorem dX5_power_58 : decode cX5_power 58 = .ok (.getfield 27, 3) := by decide +kernel
theorem dX5_power_61 : decode cX5_power 61 = .ok (.iconst 0, 1) := by decide +kernel
theorem dX5_power_62 : decode cX5_power 62 = .ok (.iconst 1, 1) := by decide +kernel
theorem dX5_power_63 : decode cX5_power 63 = .ok (.iastore, 1) := by decide +kernel
theorem dX5_power_64 : decode cX5_power 64 = .ok (.iconst 0, 1) := by decide +kernel
theorem dX5_power_65 : decode cX5_power 65 = .ok (.istore 4, 2) := by decide +kernel
theorem dX5_power_67 : decode cX5_power 67 = .ok (.iload 4, 2) := by decide +kernel
theorem dX5_power_69 : decode cX5_power 69 = .ok (.iload_n 2, 1) := by decide +kernel
theorem dX5_power_70 : decode cX5_power 70 = .ok (.if_icmp .ge 14, 3) := by decide +kernel
theorem dX5_power_73 : decode cX5_power 73 = .ok (.aload_n 0, 1) := by decide +kernel
theorem dX5_power_74 : decode cX5_power 74 = .ok (.iload_n 1, 1) := by decide +kernel
theorem dX5_power_75 : decode cX5_power 75 = .ok (.invokevirtual 85, 3) := by decide +kernel
theorem dX5_power_78 : decode cX5_power 78 = .ok (.iinc 4 1, 3) := by decide +kernel
theorem dX5_power_81 : decode cX5_power 81 = .ok (.goto (-14), 3) := by decide +kernel
theorem dX5_power_84 : decode cX5_power 84 = .ok (.aload_n 0, 1) := by decide +kernel
theorem dX5_power_85 : decode cX5_power 85 = .ok (.iload_n 3, 1) := by decide +kernel
theorem dX5_power_86 : decode cX5_power 86 = .ok (.invokevirtual 79, 3) := by decide +kernel
theorem dX5_power_89 : decode cX5_power 89 = .ok (.aload_n 0, 1) := by decide +kernel
theorem dX5_power_90 : decode cX5_power 90 = .ok (.getfield 62, 3) := by decide +kernel
theorem dX5_power_93 : decode cX5_power 93 = .ok (.ireturn, 1) := by decide +kernel
set_option maxRecDepth 20000 in
theorem ggX5_inverse_X5_isRegister : GoodIn wsX5_inverse wsX5_isRegister := goodIn_r _ [5, 6, 7, 4, 8] (by decide +kernel) (by decide +kernel)
set_option maxRecDepth 20000 in
theorem gX5_inverse_X5_isRegister : GoodIn wsX5_inverse (va_wsS RX5 68 yX5_isRegister wsX5_isRegister) := goodIn_app (goodIn_of _ (by decide +kernel)) ggX5_inverse_X5_isRegister
set_option maxRecDepth 20000 in
theorem ggX5_inverse_X5_in : GoodIn wsX5_inverse wsX5_in := goodIn_r _ [8] (by decide +kernel) (by decide +kernel)
set_option maxRecDepth 20000 in
theorem gX5_inverse_X5_in : GoodIn wsX5_inverse (va_wsS RX5 36 yX5_in wsX5_in) := goodIn_app (goodIn_of _ (by decide +kernel)) ggX5_inverse_X5_in
set_option maxRecDepth 20000 in
theorem ggX5_inverse_X5_at : GoodIn wsX5_inverse wsX5_at := goodIn_r _ [12, 13, 14, 15, 16, 4, 17, 49, 50, 51, 52, 53, 54, 55, 56, 57, 58, 59] (by decide +kernel) (by decide +kernel)
set_option maxRecDepth 20000 in
theorem gX5_inverse_X5_at : GoodIn wsX5_inverse (wsV RX5 65 RX5 yX5_at wsX5_at) := goodIn_app (goodIn_of _ (by decide +kernel)) ggX5_inverse_X5_at
set_option maxRecDepth 20000 in
theorem ggX5_inverse_X5_record : GoodIn wsX5_inverse wsX5_record := goodIn_r _ [21, 22, 23, 13, 49, 50, 51, 52, 53, 54, 55, 56, 57, 58, 59] (by decide +kernel) (by decide +kernel)
set_option maxRecDepth 20000 in
theorem gX5_inverse_X5_record : GoodIn wsX5_inverse (wsV RX5 52 RX5 yX5_record wsX5_record) := goodIn_app (goodIn_of _ (by decide +kernel)) ggX5_inverse_X5_record
set_option maxRecDepth 20000 in
theorem ggX5_inverse_X5_blank : GoodIn wsX5_inverse wsX5_blank := goodIn_r _ [27, 28, 1, 49, 50, 51, 52, 53, 54, 55, 56, 57, 58, 59] (by decide +kernel) (by decide +kernel)
set_option maxRecDepth 20000 in
theorem gX5_inverse_X5_blank : GoodIn wsX5_inverse (wsV RX5 75 RX5 yX5_blank wsX5_blank) := goodIn_app (goodIn_of _ (by decide +kernel)) ggX5_inverse_X5_blank
set_option maxRecDepth 20000 in
theorem ggX5_inverse_X5_over : GoodIn wsX5_inverse wsX5_over := goodIn_r _ [31, 32, 33, 4, 34, 35, 36, 37] (by decide +kernel) (by decide +kernel)
set_option maxRecDepth 20000 in
theorem gX5_inverse_X5_over : GoodIn wsX5_inverse (va_wsS RX5 88 yX5_over wsX5_over) := goodIn_app (goodIn_of _ (by decide +kernel)) ggX5_inverse_X5_over
set_option maxRecDepth 20000 in
theorem ggX5_inverse_X5_less : GoodIn wsX5_inverse wsX5_less := goodIn_r _ [40] (by decide +kernel) (by decide +kernel)
set_option maxRecDepth 20000 in
theorem gX5_inverse_X5_less : GoodIn wsX5_inverse (va_wsS RX5 91 yX5_less wsX5_less) := goodIn_app (goodIn_of _ (by decide +kernel)) ggX5_inverse_X5_less
set_option maxRecDepth 20000 in
theorem ggX5_inverse_X5_times : GoodIn wsX5_inverse wsX5_times := goodIn_r _ [37] (by decide +kernel) (by decide +kernel)
set_option maxRecDepth 20000 in
theorem gX5_inverse_X5_times : GoodIn wsX5_inverse (va_wsS RX5 55 yX5_times wsX5_times) := goodIn_app (goodIn_of _ (by decide +kernel)) ggX5_inverse_X5_times
set_option maxRecDepth 20000 in
theorem ggX5_inverse_X5_store : GoodIn wsX5_inverse wsX5_store := goodIn_r _ [44, 13, 28, 1, 49, 50, 51, 52, 53, 54, 55, 56, 57, 58, 59] (by decide +kernel) (by decide +kernel)
set_option maxRecDepth 20000 in
theorem gX5_inverse_X5_store : GoodIn wsX5_inverse (wsV RX5 79 RX5 yX5_store wsX5_store) := goodIn_app (goodIn_of _ (by decide +kernel)) ggX5_inverse_X5_store
set_option maxRecDepth 20000 in
theorem ggX5_inverse_X5_degreeOut : GoodIn wsX5_inverse wsX5_degreeOut := goodIn_r _ [48, 28, 1, 49, 50, 51, 52, 53, 54, 55, 56, 57, 58, 59] (by decide +kernel) (by decide +kernel)
set_option maxRecDepth 20000 in
theorem gX5_inverse_X5_degreeOut : GoodIn wsX5_inverse (wsV RX5 82 RX5 yX5_degreeOut wsX5_degreeOut) := goodIn_app (goodIn_of _ (by decide +kernel)) ggX5_inverse_X5_degreeOut
theorem dX5_inverse_0 : decode cX5_inverse 0 = .ok (.iload_n 1, 1) := by decide +kernel
theorem dX5_inverse_1 : decode cX5_inverse 1 = .ok (.invokestatic 68, 3) := by decide +kernel
theorem dX5_inverse_4 : decode cX5_inverse 4 = .ok (.ifCond .eq 10, 3) := by decide +kernel
theorem dX5_inverse_7 : decode cX5_inverse 7 = .ok (.iload_n 3, 1) := by decide +kernel
theorem dX5_inverse_8 : decode cX5_inverse 8 = .ok (.invokestatic 68, 3) := by decide +kernel
theorem dX5_inverse_11 : decode cX5_inverse 11 = .ok (.ifCond .ne 5, 3) := by decide +kernel
theorem dX5_inverse_14 : decode cX5_inverse 14 = .ok (.iconst (-1), 1) := by decide +kernel
theorem dX5_inverse_15 : decode cX5_inverse 15 = .ok (.ireturn, 1) := by decide +kernel
theorem dX5_inverse_16 : decode cX5_inverse 16 = .ok (.iload_n 2, 1) := by decide +kernel
theorem dX5_inverse_17 : decode cX5_inverse 17 = .ok (.iconst 1, 1) := by decide +kernel
theorem dX5_inverse_18 : decode cX5_inverse 18 = .ok (.bipush 64, 2) := by decide +kernel
theorem dX5_inverse_20 : decode cX5_inverse 20 = .ok (.invokestatic 36, 3) := by decide +kernel
theorem dX5_inverse_23 : decode cX5_inverse 23 = .ok (.ifCond .ne 6, 3) := by decide +kernel
theorem dX5_inverse_26 : decode cX5_inverse 26 = .ok (.bipush (-2), 2) := by decide +kernel
theorem dX5_inverse_28 : decode cX5_inverse 28 = .ok (.ireturn, 1) := by decide +kernel
theorem dX5_inverse_29 : decode cX5_inverse 29 = .ok (.aload_n 0, 1) := by decide +kernel
theorem dX5_inverse_30 : decode cX5_inverse 30 = .ok (.iload_n 1, 1) := by decide +kernel
theorem dX5_inverse_31 : decode cX5_inverse 31 = .ok (.iconst 0, 1) := by decide +kernel
theorem dX5_inverse_32 : decode cX5_inverse 32 = .ok (.invokevirtual 65, 3) := by decide +kernel
theorem dX5_inverse_35 : decode cX5_inverse 35 = .ok (.ifCond .ne 6, 3) := by decide +kernel
theorem dX5_inverse_38 : decode cX5_inverse 38 = .ok (.bipush (-5), 2) := by decide +kernel
theorem dX5_inverse_40 : decode cX5_inverse 40 = .ok (.ireturn, 1) := by decide +kernel
theorem dX5_inverse_41 : decode cX5_inverse 41 = .ok (.aload_n 0, 1) := by decide +kernel
theorem dX5_inverse_42 : decode cX5_inverse 42 = .ok (.invokevirtual 52, 3) := by decide +kernel
theorem dX5_inverse_45 : decode cX5_inverse 45 = .ok (.aload_n 0, 1) := by decide +kernel
theorem dX5_inverse_46 : decode cX5_inverse 46 = .ok (.iload_n 2, 1) := by decide +kernel
theorem dX5_inverse_47 : decode cX5_inverse 47 = .ok (.invokevirtual 75, 3) := by decide +kernel
theorem dX5_inverse_50 : decode cX5_inverse 50 = .ok (.aload_n 0, 1) := by decide +kernel
theorem dX5_inverse_51 : decode cX5_inverse 51 = .ok (.iload_n 1, 1) := by decide +kernel
theorem dX5_inverse_52 : decode cX5_inverse 52 = .ok (.iconst 0, 1) := by decide +kernel
theorem dX5_inverse_53 : decode cX5_inverse 53 = .ok (.invokevirtual 65, 3) := by decide +kernel
theorem dX5_inverse_56 : decode cX5_inverse 56 = .ok (.invokestatic 88, 3) := by decide +kernel
theorem dX5_inverse_59 : decode cX5_inverse 59 = .ok (.istore 4, 2) := by decide +kernel
theorem dX5_inverse_61 : decode cX5_inverse 61 = .ok (.iconst 0, 1) := by decide +kernel
theorem dX5_inverse_62 : decode cX5_inverse 62 = .ok (.istore 5, 2) := by decide +kernel
theorem dX5_inverse_64 : decode cX5_inverse 64 = .ok (.iload 5, 2) := by decide +kernel
theorem dX5_inverse_66 : decode cX5_inverse 66 = .ok (.iload_n 2, 1) := by decide +kernel
theorem dX5_inverse_67 : decode cX5_inverse 67 = .ok (.if_icmp .ge 82, 3) := by decide +kernel
theorem dX5_inverse_70 : decode cX5_inverse 70 = .ok (.iconst 0, 1) := by decide +kernel
theorem dX5_inverse_71 : decode cX5_inverse 71 = .ok (.istore 6, 2) := by decide +kernel
theorem dX5_inverse_73 : decode cX5_inverse 73 = .ok (.iconst 1, 1) := by decide +kernel
theorem dX5_inverse_74 : decode cX5_inverse 74 = .ok (.istore 7, 2) := by decide +kernel
theorem dX5_inverse_76 : decode cX5_inverse 76 = .ok (.iload 7, 2) := by decide +kernel
theorem dX5_inverse_78 : decode cX5_inverse 78 = .ok (.iload 5, 2) := by decide +kernel
theorem dX5_inverse_80 : decode cX5_inverse 80 = .ok (.if_icmp .gt 32, 3) := by decide +kernel
theorem dX5_inverse_83 : decode cX5_inverse 83 = .ok (.iload 6, 2) := by decide +kernel
theorem dX5_inverse_85 : decode cX5_inverse 85 = .ok (.aload_n 0, 1) := by decide +kernel
theorem dX5_inverse_86 : decode cX5_inverse 86 = .ok (.iload_n 1, 1) := by decide +kernel
theorem dX5_inverse_87 : decode cX5_inverse 87 = .ok (.iload 7, 2) := by decide +kernel
theorem dX5_inverse_89 : decode cX5_inverse 89 = .ok (.invokevirtual 65, 3) := by decide +kernel
theorem dX5_inverse_92 : decode cX5_inverse 92 = .ok (.aload_n 0, 1) := by decide +kernel
theorem dX5_inverse_93 : decode cX5_inverse 93 = .ok (.getfield 27, 3) := by decide +kernel
theorem dX5_inverse_96 : decode cX5_inverse 96 = .ok (.iload 5, 2) := by decide +kernel
theorem dX5_inverse_98 : decode cX5_inverse 98 = .ok (.iload 7, 2) := by decide +kernel
theorem dX5_inverse_100 : decode cX5_inverse 100 = .ok (.isub, 1) := by decide +kernel
theorem dX5_inverse_101 : decode cX5_inverse 101 = .ok (.iaload, 1) := by decide +kernel
theorem dX5_inverse_102 : decode cX5_inverse 102 = .ok (.imul, 1) := by decide +kernel
theorem dX5_inverse_103 : decode cX5_inverse 103 = .ok (.iadd, 1) := by decide +kernel
theorem dX5_inverse_104 : decode cX5_inverse 104 = .ok (.istore 6, 2) := by decide +kernel
theorem dX5_inverse_106 : decode cX5_inverse 106 = .ok (.iinc 7 1, 3) := by decide +kernel
theorem dX5_inverse_109 : decode cX5_inverse 109 = .ok (.goto (-33), 3) := by decide +kernel
theorem dX5_inverse_112 : decode cX5_inverse 112 = .ok (.aload_n 0, 1) := by decide +kernel
theorem dX5_inverse_113 : decode cX5_inverse 113 = .ok (.getfield 27, 3) := by decide +kernel
theorem dX5_inverse_116 : decode cX5_inverse 116 = .ok (.iload 5, 2) := by decide +kernel
theorem dX5_inverse_118 : decode cX5_inverse 118 = .ok (.iload 5, 2) := by decide +kernel
theorem dX5_inverse_120 : decode cX5_inverse 120 = .ok (.ifCond .ne 7, 3) := by decide +kernel
theorem dX5_inverse_123 : decode cX5_inverse 123 = .ok (.iconst 1, 1) := by decide +kernel
theorem dX5_inverse_124 : decode cX5_inverse 124 = .ok (.goto 4, 3) := by decide +kernel
theorem dX5_inverse_127 : decode cX5_inverse 127 = .ok (.iconst 0, 1) := by decide +kernel
theorem dX5_inverse_128 : decode cX5_inverse 128 = .ok (.iload 6, 2) := by decide +kernel
theorem dX5_inverse_130 : decode cX5_inverse 130 = .ok (.sipush 257, 3) := by decide +kernel
theorem dX5_inverse_133 : decode cX5_inverse 133 = .ok (.irem, 1) := by decide +kernel
theorem dX5_inverse_134 : decode cX5_inverse 134 = .ok (.invokestatic 91, 3) := by decide +kernel
theorem dX5_inverse_137 : decode cX5_inverse 137 = .ok (.iload 4, 2) := by decide +kernel
theorem dX5_inverse_139 : decode cX5_inverse 139 = .ok (.invokestatic 55, 3) := by decide +kernel
theorem dX5_inverse_142 : decode cX5_inverse 142 = .ok (.iastore, 1) := by decide +kernel
theorem dX5_inverse_143 : decode cX5_inverse 143 = .ok (.iinc 5 1, 3) := by decide +kernel
theorem dX5_inverse_146 : decode cX5_inverse 146 = .ok (.goto (-82), 3) := by decide +kernel
theorem dX5_inverse_149 : decode cX5_inverse 149 = .ok (.aload_n 0, 1) := by decide +kernel
theorem dX5_inverse_150 : decode cX5_inverse 150 = .ok (.iload_n 3, 1) := by decide +kernel
theorem dX5_inverse_151 : decode cX5_inverse 151 = .ok (.invokevirtual 79, 3) := by decide +kernel
theorem dX5_inverse_154 : decode cX5_inverse 154 = .ok (.aload_n 0, 1) := by decide +kernel
theorem dX5_inverse_155 : decode cX5_inverse 155 = .ok (.invokevirtual 82, 3) := by decide +kernel
theorem dX5_inverse_158 : decode cX5_inverse 158 = .ok (.ireturn, 1) := by decide +kernel
set_option maxRecDepth 20000 in
theorem ggX5_divideRows_X5_over : GoodIn wsX5_divideRows wsX5_over := goodIn_r _ [7, 8, 9, 6, 10, 11, 12, 13] (by decide +kernel) (by decide +kernel)
set_option maxRecDepth 20000 in
theorem gX5_divideRows_X5_over : GoodIn wsX5_divideRows (va_wsS RX5 88 yX5_over wsX5_over) := goodIn_app (goodIn_of _ (by decide +kernel)) ggX5_divideRows_X5_over
set_option maxRecDepth 20000 in
theorem ggX5_divideRows_X5_times : GoodIn wsX5_divideRows wsX5_times := goodIn_r _ [13] (by decide +kernel) (by decide +kernel)
set_option maxRecDepth 20000 in
theorem gX5_divideRows_X5_times : GoodIn wsX5_divideRows (va_wsS RX5 55 yX5_times wsX5_times) := goodIn_app (goodIn_of _ (by decide +kernel)) ggX5_divideRows_X5_times
set_option maxRecDepth 20000 in
theorem ggX5_divideRows_X5_less : GoodIn wsX5_divideRows wsX5_less := goodIn_r _ [16] (by decide +kernel) (by decide +kernel)
set_option maxRecDepth 20000 in
theorem gX5_divideRows_X5_less : GoodIn wsX5_divideRows (va_wsS RX5 91 yX5_less wsX5_less) := goodIn_app (goodIn_of _ (by decide +kernel)) ggX5_divideRows_X5_less
theorem dX5_divideRows_0 : decode cX5_divideRows 0 = .ok (.aload_n 0, 1) := by decide +kernel
theorem dX5_divideRows_1 : decode cX5_divideRows 1 = .ok (.getfield 33, 3) := by decide +kernel
theorem dX5_divideRows_4 : decode cX5_divideRows 4 = .ok (.iload_n 2, 1) := by decide +kernel
theorem dX5_divideRows_5 : decode cX5_divideRows 5 = .ok (.iaload, 1) := by decide +kernel
theorem dX5_divideRows_6 : decode cX5_divideRows 6 = .ok (.invokestatic 88, 3) := by decide +kernel
theorem dX5_divideRows_9 : decode cX5_divideRows 9 = .ok (.istore_n 3, 1) := by decide +kernel
theorem dX5_divideRows_10 : decode cX5_divideRows 10 = .ok (.iload_n 1, 1) := by decide +kernel
theorem dX5_divideRows_11 : decode cX5_divideRows 11 = .ok (.iload_n 2, 1) := by decide +kernel
theorem dX5_divideRows_12 : decode cX5_divideRows 12 = .ok (.isub, 1) := by decide +kernel
theorem dX5_divideRows_13 : decode cX5_divideRows 13 = .ok (.istore 4, 2) := by decide +kernel
theorem dX5_divideRows_15 : decode cX5_divideRows 15 = .ok (.iload 4, 2) := by decide +kernel
theorem dX5_divideRows_17 : decode cX5_divideRows 17 = .ok (.ifCond .lt 83, 3) := by decide +kernel
theorem dX5_divideRows_20 : decode cX5_divideRows 20 = .ok (.aload_n 0, 1) := by decide +kernel
theorem dX5_divideRows_21 : decode cX5_divideRows 21 = .ok (.getfield 30, 3) := by decide +kernel
theorem dX5_divideRows_24 : decode cX5_divideRows 24 = .ok (.iload 4, 2) := by decide +kernel
theorem dX5_divideRows_26 : decode cX5_divideRows 26 = .ok (.iload_n 2, 1) := by decide +kernel
theorem dX5_divideRows_27 : decode cX5_divideRows 27 = .ok (.iadd, 1) := by decide +kernel
theorem dX5_divideRows_28 : decode cX5_divideRows 28 = .ok (.iaload, 1) := by decide +kernel
theorem dX5_divideRows_29 : decode cX5_divideRows 29 = .ok (.iload_n 3, 1) := by decide +kernel
theorem dX5_divideRows_30 : decode cX5_divideRows 30 = .ok (.invokestatic 55, 3) := by decide +kernel
theorem dX5_divideRows_33 : decode cX5_divideRows 33 = .ok (.istore 5, 2) := by decide +kernel
theorem dX5_divideRows_35 : decode cX5_divideRows 35 = .ok (.aload_n 0, 1) := by decide +kernel
theorem dX5_divideRows_36 : decode cX5_divideRows 36 = .ok (.getfield 27, 3) := by decide +kernel
theorem dX5_divideRows_39 : decode cX5_divideRows 39 = .ok (.iload 4, 2) := by decide +kernel
theorem dX5_divideRows_41 : decode cX5_divideRows 41 = .ok (.iload 5, 2) := by decide +kernel
theorem dX5_divideRows_43 : decode cX5_divideRows 43 = .ok (.iastore, 1) := by decide +kernel
theorem dX5_divideRows_44 : decode cX5_divideRows 44 = .ok (.iconst 0, 1) := by decide +kernel
theorem dX5_divideRows_45 : decode cX5_divideRows 45 = .ok (.istore 6, 2) := by decide +kernel
theorem dX5_divideRows_47 : decode cX5_divideRows 47 = .ok (.iload 6, 2) := by decide +kernel
theorem dX5_divideRows_49 : decode cX5_divideRows 49 = .ok (.iload_n 2, 1) := by decide +kernel
theorem dX5_divideRows_50 : decode cX5_divideRows 50 = .ok (.if_icmp .gt 44, 3) := by decide +kernel
theorem dX5_divideRows_53 : decode cX5_divideRows 53 = .ok (.aload_n 0, 1) := by decide +kernel
theorem dX5_divideRows_54 : decode cX5_divideRows 54 = .ok (.getfield 30, 3) := by decide +kernel
theorem dX5_divideRows_57 : decode cX5_divideRows 57 = .ok (.iload 4, 2) := by decide +kernel
theorem dX5_divideRows_59 : decode cX5_divideRows 59 = .ok (.iload 6, 2) := by decide +kernel
theorem dX5_divideRows_61 : decode cX5_divideRows 61 = .ok (.iadd, 1) := by decide +kernel
theorem dX5_divideRows_62 : decode cX5_divideRows 62 = .ok (.aload_n 0, 1) := by decide +kernel
theorem dX5_divideRows_63 : decode cX5_divideRows 63 = .ok (.getfield 30, 3) := by decide +kernel
theorem dX5_divideRows_66 : decode cX5_divideRows 66 = .ok (.iload 4, 2) := by decide +kernel
theorem dX5_divideRows_68 : decode cX5_divideRows 68 = .ok (.iload 6, 2) := by decide +kernel
theorem dX5_divideRows_70 : decode cX5_divideRows 70 = .ok (.iadd, 1) := by decide +kernel
theorem dX5_divideRows_71 : decode cX5_divideRows 71 = .ok (.iaload, 1) := by decide +kernel
theorem dX5_divideRows_72 : decode cX5_divideRows 72 = .ok (.iload 5, 2) := by decide +kernel
theorem dX5_divideRows_74 : decode cX5_divideRows 74 = .ok (.aload_n 0, 1) := by decide +kernel
theorem dX5_divideRows_75 : decode cX5_divideRows 75 = .ok (.getfield 33, 3) := by decide +kernel
theorem dX5_divideRows_78 : decode cX5_divideRows 78 = .ok (.iload 6, 2) := by decide +kernel
theorem dX5_divideRows_80 : decode cX5_divideRows 80 = .ok (.iaload, 1) := by decide +kernel
theorem dX5_divideRows_81 : decode cX5_divideRows 81 = .ok (.invokestatic 55, 3) := by decide +kernel
theorem dX5_divideRows_84 : decode cX5_divideRows 84 = .ok (.invokestatic 91, 3) := by decide +kernel
theorem dX5_divideRows_87 : decode cX5_divideRows 87 = .ok (.iastore, 1) := by decide +kernel
theorem dX5_divideRows_88 : decode cX5_divideRows 88 = .ok (.iinc 6 1, 3) := by decide +kernel
theorem dX5_divideRows_91 : decode cX5_divideRows 91 = .ok (.goto (-44), 3) := by decide +kernel
theorem dX5_divideRows_94 : decode cX5_divideRows 94 = .ok (.iinc 4 (-1), 3) := by decide +kernel
theorem dX5_divideRows_97 : decode cX5_divideRows 97 = .ok (.goto (-82), 3) := by decide +kernel
theorem dX5_divideRows_100 : decode cX5_divideRows 100 = .ok (.return_, 1) := by decide +kernel
set_option maxRecDepth 20000 in
theorem ggX5_divide_X5_isRegister : GoodIn wsX5_divide wsX5_isRegister := goodIn_r _ [7, 8, 9, 6, 10] (by decide +kernel) (by decide +kernel)
set_option maxRecDepth 20000 in
theorem gX5_divide_X5_isRegister : GoodIn wsX5_divide (va_wsS RX5 68 yX5_isRegister wsX5_isRegister) := goodIn_app (goodIn_of _ (by decide +kernel)) ggX5_divide_X5_isRegister
set_option maxRecDepth 20000 in
theorem ggX5_divide_X5_degreeOf : GoodIn wsX5_divide wsX5_degreeOf := goodIn_r _ [14, 15, 16, 17, 6, 18, 19, 20, 21, 22, 23, 59, 60, 61, 62, 63, 64, 65, 66, 67, 68, 69] (by decide +kernel) (by decide +kernel)
set_option maxRecDepth 20000 in
theorem gX5_divide_X5_degreeOf : GoodIn wsX5_divide (wsV RX5 94 RX5 yX5_degreeOf wsX5_degreeOf) := goodIn_app (goodIn_of _ (by decide +kernel)) ggX5_divide_X5_degreeOf
set_option maxRecDepth 20000 in
theorem ggX5_divide_X5_record : GoodIn wsX5_divide wsX5_record := goodIn_r _ [27, 28, 29, 19, 59, 60, 61, 62, 63, 64, 65, 66, 67, 68, 69] (by decide +kernel) (by decide +kernel)
set_option maxRecDepth 20000 in
theorem gX5_divide_X5_record : GoodIn wsX5_divide (wsV RX5 52 RX5 yX5_record wsX5_record) := goodIn_app (goodIn_of _ (by decide +kernel)) ggX5_divide_X5_record
set_option maxRecDepth 20000 in
theorem ggX5_divide_X5_at : GoodIn wsX5_divide wsX5_at := goodIn_r _ [23, 19, 15, 16, 17, 6, 18, 59, 60, 61, 62, 63, 64, 65, 66, 67, 68, 69] (by decide +kernel) (by decide +kernel)
set_option maxRecDepth 20000 in
theorem gX5_divide_X5_at : GoodIn wsX5_divide (wsV RX5 65 RX5 yX5_at wsX5_at) := goodIn_app (goodIn_of _ (by decide +kernel)) ggX5_divide_X5_at
set_option maxRecDepth 20000 in
theorem ggX5_divide_X5_blank : GoodIn wsX5_divide wsX5_blank := goodIn_r _ [33, 34, 3, 59, 60, 61, 62, 63, 64, 65, 66, 67, 68, 69] (by decide +kernel) (by decide +kernel)
set_option maxRecDepth 20000 in
theorem gX5_divide_X5_blank : GoodIn wsX5_divide (wsV RX5 75 RX5 yX5_blank wsX5_blank) := goodIn_app (goodIn_of _ (by decide +kernel)) ggX5_divide_X5_blank
set_option maxRecDepth 20000 in
theorem ggX5_divide_X5_divideRows : GoodIn wsX5_divide wsX5_divideRows := goodIn_r _ [38, 2, 1, 3, 39, 40, 6, 41, 42, 43, 44, 45, 46, 47, 48, 49, 50, 59, 60, 61, 62, 63, 64, 65, 66, 67, 68, 69] (by decide +kernel) (by decide +kernel)
set_option maxRecDepth 20000 in
theorem gX5_divide_X5_divideRows : GoodIn wsX5_divide (wsV RX5 97 RX5 yX5_divideRows wsX5_divideRows) := goodIn_app (goodIn_of _ (by decide +kernel)) ggX5_divide_X5_divideRows
set_option maxRecDepth 20000 in
theorem ggX5_divide_X5_store : GoodIn wsX5_divide wsX5_store := goodIn_r _ [54, 19, 34, 3, 59, 60, 61, 62, 63, 64, 65, 66, 67, 68, 69] (by decide +kernel) (by decide +kernel)
set_option maxRecDepth 20000 in
theorem gX5_divide_X5_store : GoodIn wsX5_divide (wsV RX5 79 RX5 yX5_store wsX5_store) := goodIn_app (goodIn_of _ (by decide +kernel)) ggX5_divide_X5_store
set_option maxRecDepth 20000 in
theorem ggX5_divide_X5_degreeOut : GoodIn wsX5_divide wsX5_degreeOut := goodIn_r _ [58, 34, 3, 59, 60, 61, 62, 63, 64, 65, 66, 67, 68, 69] (by decide +kernel) (by decide +kernel)
set_option maxRecDepth 20000 in
theorem gX5_divide_X5_degreeOut : GoodIn wsX5_divide (wsV RX5 82 RX5 yX5_degreeOut wsX5_degreeOut) := goodIn_app (goodIn_of _ (by decide +kernel)) ggX5_divide_X5_degreeOut
theorem dX5_divide_0 : decode cX5_divide 0 = .ok (.iload_n 1, 1) := by decide +kernel
theorem dX5_divide_1 : decode cX5_divide 1 = .ok (.invokestatic 68, 3) := by decide +kernel
theorem dX5_divide_4 : decode cX5_divide 4 = .ok (.ifCond .eq 25, 3) := by decide +kernel
theorem dX5_divide_7 : decode cX5_divide 7 = .ok (.iload_n 2, 1) := by decide +kernel
theorem dX5_divide_8 : decode cX5_divide 8 = .ok (.invokestatic 68, 3) := by decide +kernel
theorem dX5_divide_11 : decode cX5_divide 11 = .ok (.ifCond .eq 18, 3) := by decide +kernel
theorem dX5_divide_14 : decode cX5_divide 14 = .ok (.iload_n 3, 1) := by decide +kernel
theorem dX5_divide_15 : decode cX5_divide 15 = .ok (.invokestatic 68, 3) := by decide +kernel
theorem dX5_divide_18 : decode cX5_divide 18 = .ok (.ifCond .eq 11, 3) := by decide +kernel
theorem dX5_divide_21 : decode cX5_divide 21 = .ok (.iload 4, 2) := by decide +kernel
theorem dX5_divide_23 : decode cX5_divide 23 = .ok (.invokestatic 68, 3) := by decide +kernel
theorem dX5_divide_26 : decode cX5_divide 26 = .ok (.ifCond .ne 5, 3) := by decide +kernel
theorem dX5_divide_29 : decode cX5_divide 29 = .ok (.iconst (-1), 1) := by decide +kernel
theorem dX5_divide_30 : decode cX5_divide 30 = .ok (.ireturn, 1) := by decide +kernel
theorem dX5_divide_31 : decode cX5_divide 31 = .ok (.iload_n 3, 1) := by decide +kernel
theorem dX5_divide_32 : decode cX5_divide 32 = .ok (.iload 4, 2) := by decide +kernel
theorem dX5_divide_34 : decode cX5_divide 34 = .ok (.if_icmp .ne 6, 3) := by decide +kernel
theorem dX5_divide_37 : decode cX5_divide 37 = .ok (.bipush (-2), 2) := by decide +kernel
theorem dX5_divide_39 : decode cX5_divide 39 = .ok (.ireturn, 1) := by decide +kernel
theorem dX5_divide_40 : decode cX5_divide 40 = .ok (.aload_n 0, 1) := by decide +kernel
theorem dX5_divide_41 : decode cX5_divide 41 = .ok (.iload_n 1, 1) := by decide +kernel
theorem dX5_divide_42 : decode cX5_divide 42 = .ok (.invokevirtual 94, 3) := by decide +kernel
theorem dX5_divide_45 : decode cX5_divide 45 = .ok (.istore 5, 2) := by decide +kernel
theorem dX5_divide_47 : decode cX5_divide 47 = .ok (.aload_n 0, 1) := by decide +kernel
theorem dX5_divide_48 : decode cX5_divide 48 = .ok (.iload_n 2, 1) := by decide +kernel
theorem dX5_divide_49 : decode cX5_divide 49 = .ok (.invokevirtual 94, 3) := by decide +kernel
theorem dX5_divide_52 : decode cX5_divide 52 = .ok (.istore 6, 2) := by decide +kernel
theorem dX5_divide_54 : decode cX5_divide 54 = .ok (.iload 6, 2) := by decide +kernel
theorem dX5_divide_56 : decode cX5_divide 56 = .ok (.bipush (-6), 2) := by decide +kernel
theorem dX5_divide_58 : decode cX5_divide 58 = .ok (.if_icmp .ne 6, 3) := by decide +kernel
theorem dX5_divide_61 : decode cX5_divide 61 = .ok (.bipush (-5), 2) := by decide +kernel
theorem dX5_divide_63 : decode cX5_divide 63 = .ok (.ireturn, 1) := by decide +kernel
theorem dX5_divide_64 : decode cX5_divide 64 = .ok (.aload_n 0, 1) := by decide +kernel
theorem dX5_divide_65 : decode cX5_divide 65 = .ok (.invokevirtual 52, 3) := by decide +kernel
theorem dX5_divide_68 : decode cX5_divide 68 = .ok (.iconst 0, 1) := by decide +kernel
theorem dX5_divide_69 : decode cX5_divide 69 = .ok (.istore 7, 2) := by decide +kernel
theorem dX5_divide_71 : decode cX5_divide 71 = .ok (.iload 7, 2) := by decide +kernel
theorem dX5_divide_73 : decode cX5_divide 73 = .ok (.bipush 64, 2) := by decide +kernel
theorem dX5_divide_75 : decode cX5_divide 75 = .ok (.if_icmp .ge 37, 3) := by decide +kernel
theorem dX5_divide_78 : decode cX5_divide 78 = .ok (.aload_n 0, 1) := by decide +kernel
theorem dX5_divide_79 : decode cX5_divide 79 = .ok (.getfield 30, 3) := by decide +kernel
theorem dX5_divide_82 : decode cX5_divide 82 = .ok (.iload 7, 2) := by decide +kernel
theorem dX5_divide_84 : decode cX5_divide 84 = .ok (.aload_n 0, 1) := by decide +kernel
theorem dX5_divide_85 : decode cX5_divide 85 = .ok (.iload_n 1, 1) := by decide +kernel
theorem dX5_divide_86 : decode cX5_divide 86 = .ok (.iload 7, 2) := by decide +kernel
theorem dX5_divide_88 : decode cX5_divide 88 = .ok (.invokevirtual 65, 3) := by decide +kernel
theorem dX5_divide_91 : decode cX5_divide 91 = .ok (.iastore, 1) := by decide +kernel
theorem dX5_divide_92 : decode cX5_divide 92 = .ok (.aload_n 0, 1) := by decide +kernel
theorem dX5_divide_93 : decode cX5_divide 93 = .ok (.getfield 33, 3) := by decide +kernel
theorem dX5_divide_96 : decode cX5_divide 96 = .ok (.iload 7, 2) := by decide +kernel
theorem dX5_divide_98 : decode cX5_divide 98 = .ok (.aload_n 0, 1) := by decide +kernel
theorem dX5_divide_99 : decode cX5_divide 99 = .ok (.iload_n 2, 1) := by decide +kernel
theorem dX5_divide_100 : decode cX5_divide 100 = .ok (.iload 7, 2) := by decide +kernel
theorem dX5_divide_102 : decode cX5_divide 102 = .ok (.invokevirtual 65, 3) := by decide +kernel
theorem dX5_divide_105 : decode cX5_divide 105 = .ok (.iastore, 1) := by decide +kernel
theorem dX5_divide_106 : decode cX5_divide 106 = .ok (.iinc 7 1, 3) := by decide +kernel
theorem dX5_divide_109 : decode cX5_divide 109 = .ok (.goto (-38), 3) := by decide +kernel
theorem dX5_divide_112 : decode cX5_divide 112 = .ok (.aload_n 0, 1) := by decide +kernel
end
section
theorem dX5_divide_113 : decode cX5_divide 113 = .ok (.iload 5, 2) := by decide +kernel
theorem dX5_divide_115 : decode cX5_divide 115 = .ok (.iload 6, 2) := by decide +kernel
theorem dX5_divide_117 : decode cX5_divide 117 = .ok (.if_icmp .ge 7, 3) := by decide +kernel
theorem dX5_divide_120 : decode cX5_divide 120 = .ok (.iconst 1, 1) := by decide +kernel
theorem dX5_divide_121 : decode cX5_divide 121 = .ok (.goto 10, 3) := by decide +kernel
theorem dX5_divide_124 : decode cX5_divide 124 = .ok (.iload 5, 2) := by decide +kernel
theorem dX5_divide_126 : decode cX5_divide 126 = .ok (.iload 6, 2) := by decide +kernel
theorem dX5_divide_128 : decode cX5_divide 128 = .ok (.isub, 1) := by decide +kernel
theorem dX5_divide_129 : decode cX5_divide 129 = .ok (.iconst 1, 1) := by decide +kernel
theorem dX5_divide_130 : decode cX5_divide 130 = .ok (.iadd, 1) := by decide +kernel
theorem dX5_divide_131 : decode cX5_divide 131 = .ok (.invokevirtual 75, 3) := by decide +kernel
theorem dX5_divide_134 : decode cX5_divide 134 = .ok (.aload_n 0, 1) := by decide +kernel
theorem dX5_divide_135 : decode cX5_divide 135 = .ok (.iload 5, 2) := by decide +kernel
theorem dX5_divide_137 : decode cX5_divide 137 = .ok (.iload 6, 2) := by decide +kernel
theorem dX5_divide_139 : decode cX5_divide 139 = .ok (.invokevirtual 97, 3) := by decide +kernel
theorem dX5_divide_142 : decode cX5_divide 142 = .ok (.aload_n 0, 1) := by decide +kernel
theorem dX5_divide_143 : decode cX5_divide 143 = .ok (.iload_n 3, 1) := by decide +kernel
theorem dX5_divide_144 : decode cX5_divide 144 = .ok (.invokevirtual 79, 3) := by decide +kernel
theorem dX5_divide_147 : decode cX5_divide 147 = .ok (.aload_n 0, 1) := by decide +kernel
theorem dX5_divide_148 : decode cX5_divide 148 = .ok (.iload 6, 2) := by decide +kernel
theorem dX5_divide_150 : decode cX5_divide 150 = .ok (.ifCond .ne 7, 3) := by decide +kernel
theorem dX5_divide_153 : decode cX5_divide 153 = .ok (.iconst 1, 1) := by decide +kernel
theorem dX5_divide_154 : decode cX5_divide 154 = .ok (.goto 5, 3) := by decide +kernel
theorem dX5_divide_157 : decode cX5_divide 157 = .ok (.iload 6, 2) := by decide +kernel
theorem dX5_divide_159 : decode cX5_divide 159 = .ok (.invokevirtual 75, 3) := by decide +kernel
theorem dX5_divide_162 : decode cX5_divide 162 = .ok (.iconst 0, 1) := by decide +kernel
theorem dX5_divide_163 : decode cX5_divide 163 = .ok (.istore 7, 2) := by decide +kernel
theorem dX5_divide_165 : decode cX5_divide 165 = .ok (.iload 7, 2) := by decide +kernel
theorem dX5_divide_167 : decode cX5_divide 167 = .ok (.iload 6, 2) := by decide +kernel
theorem dX5_divide_169 : decode cX5_divide 169 = .ok (.if_icmp .ge 23, 3) := by decide +kernel
theorem dX5_divide_172 : decode cX5_divide 172 = .ok (.aload_n 0, 1) := by decide +kernel
theorem dX5_divide_173 : decode cX5_divide 173 = .ok (.getfield 27, 3) := by decide +kernel
theorem dX5_divide_176 : decode cX5_divide 176 = .ok (.iload 7, 2) := by decide +kernel
theorem dX5_divide_178 : decode cX5_divide 178 = .ok (.aload_n 0, 1) := by decide +kernel
theorem dX5_divide_179 : decode cX5_divide 179 = .ok (.getfield 30, 3) := by decide +kernel
theorem dX5_divide_182 : decode cX5_divide 182 = .ok (.iload 7, 2) := by decide +kernel
theorem dX5_divide_184 : decode cX5_divide 184 = .ok (.iaload, 1) := by decide +kernel
theorem dX5_divide_185 : decode cX5_divide 185 = .ok (.iastore, 1) := by decide +kernel
theorem dX5_divide_186 : decode cX5_divide 186 = .ok (.iinc 7 1, 3) := by decide +kernel
theorem dX5_divide_189 : decode cX5_divide 189 = .ok (.goto (-24), 3) := by decide +kernel
theorem dX5_divide_192 : decode cX5_divide 192 = .ok (.aload_n 0, 1) := by decide +kernel
theorem dX5_divide_193 : decode cX5_divide 193 = .ok (.iload 4, 2) := by decide +kernel
theorem dX5_divide_195 : decode cX5_divide 195 = .ok (.invokevirtual 79, 3) := by decide +kernel
theorem dX5_divide_198 : decode cX5_divide 198 = .ok (.aload_n 0, 1) := by decide +kernel
theorem dX5_divide_199 : decode cX5_divide 199 = .ok (.invokevirtual 82, 3) := by decide +kernel
theorem dX5_divide_202 : decode cX5_divide 202 = .ok (.ireturn, 1) := by decide +kernel
theorem dX5_degreeIn_0 : decode cX5_degreeIn 0 = .ok (.bipush (-6), 2) := by decide +kernel
theorem dX5_degreeIn_2 : decode cX5_degreeIn 2 = .ok (.istore_n 1, 1) := by decide +kernel
theorem dX5_degreeIn_3 : decode cX5_degreeIn 3 = .ok (.iconst 0, 1) := by decide +kernel
theorem dX5_degreeIn_4 : decode cX5_degreeIn 4 = .ok (.istore_n 2, 1) := by decide +kernel
theorem dX5_degreeIn_5 : decode cX5_degreeIn 5 = .ok (.iload_n 2, 1) := by decide +kernel
theorem dX5_degreeIn_6 : decode cX5_degreeIn 6 = .ok (.bipush 64, 2) := by decide +kernel
theorem dX5_degreeIn_8 : decode cX5_degreeIn 8 = .ok (.if_icmp .ge 21, 3) := by decide +kernel
theorem dX5_degreeIn_11 : decode cX5_degreeIn 11 = .ok (.aload_n 0, 1) := by decide +kernel
theorem dX5_degreeIn_12 : decode cX5_degreeIn 12 = .ok (.iload_n 2, 1) := by decide +kernel
theorem dX5_degreeIn_13 : decode cX5_degreeIn 13 = .ok (.iaload, 1) := by decide +kernel
theorem dX5_degreeIn_14 : decode cX5_degreeIn 14 = .ok (.ifCond .ne 7, 3) := by decide +kernel
theorem dX5_degreeIn_17 : decode cX5_degreeIn 17 = .ok (.iload_n 1, 1) := by decide +kernel
theorem dX5_degreeIn_18 : decode cX5_degreeIn 18 = .ok (.goto 4, 3) := by decide +kernel
theorem dX5_degreeIn_21 : decode cX5_degreeIn 21 = .ok (.iload_n 2, 1) := by decide +kernel
theorem dX5_degreeIn_22 : decode cX5_degreeIn 22 = .ok (.istore_n 1, 1) := by decide +kernel
theorem dX5_degreeIn_23 : decode cX5_degreeIn 23 = .ok (.iinc 2 1, 3) := by decide +kernel
theorem dX5_degreeIn_26 : decode cX5_degreeIn 26 = .ok (.goto (-21), 3) := by decide +kernel
theorem dX5_degreeIn_29 : decode cX5_degreeIn 29 = .ok (.iload_n 1, 1) := by decide +kernel
theorem dX5_degreeIn_30 : decode cX5_degreeIn 30 = .ok (.ireturn, 1) := by decide +kernel
set_option maxRecDepth 20000 in
theorem ggX5_divisor_X5_isRegister : GoodIn wsX5_divisor wsX5_isRegister := goodIn_r _ [7, 8, 9, 6, 10] (by decide +kernel) (by decide +kernel)
set_option maxRecDepth 20000 in
theorem gX5_divisor_X5_isRegister : GoodIn wsX5_divisor (va_wsS RX5 68 yX5_isRegister wsX5_isRegister) := goodIn_app (goodIn_of _ (by decide +kernel)) ggX5_divisor_X5_isRegister
set_option maxRecDepth 20000 in
theorem ggX5_divisor_X5_degreeOf : GoodIn wsX5_divisor wsX5_degreeOf := goodIn_r _ [14, 15, 16, 17, 6, 18, 19, 20, 21, 22, 23, 58, 59, 60, 61, 62, 63, 64, 65, 66, 67, 68] (by decide +kernel) (by decide +kernel)
set_option maxRecDepth 20000 in
theorem gX5_divisor_X5_degreeOf : GoodIn wsX5_divisor (wsV RX5 94 RX5 yX5_degreeOf wsX5_degreeOf) := goodIn_app (goodIn_of _ (by decide +kernel)) ggX5_divisor_X5_degreeOf
set_option maxRecDepth 20000 in
theorem ggX5_divisor_X5_record : GoodIn wsX5_divisor wsX5_record := goodIn_r _ [27, 28, 29, 19, 58, 59, 60, 61, 62, 63, 64, 65, 66, 67, 68] (by decide +kernel) (by decide +kernel)
set_option maxRecDepth 20000 in
theorem gX5_divisor_X5_record : GoodIn wsX5_divisor (wsV RX5 52 RX5 yX5_record wsX5_record) := goodIn_app (goodIn_of _ (by decide +kernel)) ggX5_divisor_X5_record
set_option maxRecDepth 20000 in
theorem ggX5_divisor_X5_at : GoodIn wsX5_divisor wsX5_at := goodIn_r _ [23, 19, 15, 16, 17, 6, 18, 58, 59, 60, 61, 62, 63, 64, 65, 66, 67, 68] (by decide +kernel) (by decide +kernel)
set_option maxRecDepth 20000 in
theorem gX5_divisor_X5_at : GoodIn wsX5_divisor (wsV RX5 65 RX5 yX5_at wsX5_at) := goodIn_app (goodIn_of _ (by decide +kernel)) ggX5_divisor_X5_at
set_option maxRecDepth 20000 in
theorem ggX5_divisor_X5_degreeIn : GoodIn wsX5_divisor wsX5_degreeIn := goodIn_r _ [32] (by decide +kernel) (by decide +kernel)
set_option maxRecDepth 20000 in
theorem gX5_divisor_X5_degreeIn : GoodIn wsX5_divisor (va_wsS RX5 101 yX5_degreeIn wsX5_degreeIn) := goodIn_app (goodIn_of _ (by decide +kernel)) ggX5_divisor_X5_degreeIn
set_option maxRecDepth 20000 in
theorem ggX5_divisor_X5_blank : GoodIn wsX5_divisor wsX5_blank := goodIn_r _ [36, 37, 3, 58, 59, 60, 61, 62, 63, 64, 65, 66, 67, 68] (by decide +kernel) (by decide +kernel)
set_option maxRecDepth 20000 in
theorem gX5_divisor_X5_blank : GoodIn wsX5_divisor (wsV RX5 75 RX5 yX5_blank wsX5_blank) := goodIn_app (goodIn_of _ (by decide +kernel)) ggX5_divisor_X5_blank
set_option maxRecDepth 20000 in
theorem ggX5_divisor_X5_divideRows : GoodIn wsX5_divisor wsX5_divideRows := goodIn_r _ [41, 2, 1, 3, 42, 43, 6, 44, 45, 46, 47, 48, 49, 50, 51, 52, 53, 58, 59, 60, 61, 62, 63, 64, 65, 66, 67, 68] (by decide +kernel) (by decide +kernel)
set_option maxRecDepth 20000 in
theorem gX5_divisor_X5_divideRows : GoodIn wsX5_divisor (wsV RX5 97 RX5 yX5_divideRows wsX5_divideRows) := goodIn_app (goodIn_of _ (by decide +kernel)) ggX5_divisor_X5_divideRows
set_option maxRecDepth 20000 in
theorem ggX5_divisor_X5_over : GoodIn wsX5_divisor wsX5_over := goodIn_r _ [44, 45, 46, 6, 47, 48, 49, 50] (by decide +kernel) (by decide +kernel)
set_option maxRecDepth 20000 in
theorem gX5_divisor_X5_over : GoodIn wsX5_divisor (va_wsS RX5 88 yX5_over wsX5_over) := goodIn_app (goodIn_of _ (by decide +kernel)) ggX5_divisor_X5_over
set_option maxRecDepth 20000 in
theorem ggX5_divisor_X5_times : GoodIn wsX5_divisor wsX5_times := goodIn_r _ [50] (by decide +kernel) (by decide +kernel)
set_option maxRecDepth 20000 in
theorem gX5_divisor_X5_times : GoodIn wsX5_divisor (va_wsS RX5 55 yX5_times wsX5_times) := goodIn_app (goodIn_of _ (by decide +kernel)) ggX5_divisor_X5_times
set_option maxRecDepth 20000 in
theorem ggX5_divisor_X5_store : GoodIn wsX5_divisor wsX5_store := goodIn_r _ [57, 19, 37, 3, 58, 59, 60, 61, 62, 63, 64, 65, 66, 67, 68] (by decide +kernel) (by decide +kernel)
set_option maxRecDepth 20000 in
theorem gX5_divisor_X5_store : GoodIn wsX5_divisor (wsV RX5 79 RX5 yX5_store wsX5_store) := goodIn_app (goodIn_of _ (by decide +kernel)) ggX5_divisor_X5_store
theorem dX5_divisor_0 : decode cX5_divisor 0 = .ok (.iload_n 1, 1) := by decide +kernel
theorem dX5_divisor_1 : decode cX5_divisor 1 = .ok (.invokestatic 68, 3) := by decide +kernel
theorem dX5_divisor_4 : decode cX5_divisor 4 = .ok (.ifCond .eq 17, 3) := by decide +kernel
theorem dX5_divisor_7 : decode cX5_divisor 7 = .ok (.iload_n 2, 1) := by decide +kernel
theorem dX5_divisor_8 : decode cX5_divisor 8 = .ok (.invokestatic 68, 3) := by decide +kernel
theorem dX5_divisor_11 : decode cX5_divisor 11 = .ok (.ifCond .eq 10, 3) := by decide +kernel
theorem dX5_divisor_14 : decode cX5_divisor 14 = .ok (.iload_n 3, 1) := by decide +kernel
theorem dX5_divisor_15 : decode cX5_divisor 15 = .ok (.invokestatic 68, 3) := by decide +kernel
theorem dX5_divisor_18 : decode cX5_divisor 18 = .ok (.ifCond .ne 5, 3) := by decide +kernel
theorem dX5_divisor_21 : decode cX5_divisor 21 = .ok (.iconst (-1), 1) := by decide +kernel
theorem dX5_divisor_22 : decode cX5_divisor 22 = .ok (.ireturn, 1) := by decide +kernel
theorem dX5_divisor_23 : decode cX5_divisor 23 = .ok (.aload_n 0, 1) := by decide +kernel
theorem dX5_divisor_24 : decode cX5_divisor 24 = .ok (.iload_n 1, 1) := by decide +kernel
theorem dX5_divisor_25 : decode cX5_divisor 25 = .ok (.invokevirtual 94, 3) := by decide +kernel
theorem dX5_divisor_28 : decode cX5_divisor 28 = .ok (.bipush (-6), 2) := by decide +kernel
theorem dX5_divisor_30 : decode cX5_divisor 30 = .ok (.if_icmp .ne 16, 3) := by decide +kernel
theorem dX5_divisor_33 : decode cX5_divisor 33 = .ok (.aload_n 0, 1) := by decide +kernel
theorem dX5_divisor_34 : decode cX5_divisor 34 = .ok (.iload_n 2, 1) := by decide +kernel
theorem dX5_divisor_35 : decode cX5_divisor 35 = .ok (.invokevirtual 94, 3) := by decide +kernel
theorem dX5_divisor_38 : decode cX5_divisor 38 = .ok (.bipush (-6), 2) := by decide +kernel
theorem dX5_divisor_40 : decode cX5_divisor 40 = .ok (.if_icmp .ne 6, 3) := by decide +kernel
theorem dX5_divisor_43 : decode cX5_divisor 43 = .ok (.bipush (-5), 2) := by decide +kernel
theorem dX5_divisor_45 : decode cX5_divisor 45 = .ok (.ireturn, 1) := by decide +kernel
theorem dX5_divisor_46 : decode cX5_divisor 46 = .ok (.aload_n 0, 1) := by decide +kernel
theorem dX5_divisor_47 : decode cX5_divisor 47 = .ok (.invokevirtual 52, 3) := by decide +kernel
theorem dX5_divisor_50 : decode cX5_divisor 50 = .ok (.iconst 0, 1) := by decide +kernel
theorem dX5_divisor_51 : decode cX5_divisor 51 = .ok (.istore 4, 2) := by decide +kernel
theorem dX5_divisor_53 : decode cX5_divisor 53 = .ok (.iload 4, 2) := by decide +kernel
theorem dX5_divisor_55 : decode cX5_divisor 55 = .ok (.bipush 64, 2) := by decide +kernel
theorem dX5_divisor_57 : decode cX5_divisor 57 = .ok (.if_icmp .ge 37, 3) := by decide +kernel
theorem dX5_divisor_60 : decode cX5_divisor 60 = .ok (.aload_n 0, 1) := by decide +kernel
theorem dX5_divisor_61 : decode cX5_divisor 61 = .ok (.getfield 30, 3) := by decide +kernel
theorem dX5_divisor_64 : decode cX5_divisor 64 = .ok (.iload 4, 2) := by decide +kernel
theorem dX5_divisor_66 : decode cX5_divisor 66 = .ok (.aload_n 0, 1) := by decide +kernel
theorem dX5_divisor_67 : decode cX5_divisor 67 = .ok (.iload_n 1, 1) := by decide +kernel
theorem dX5_divisor_68 : decode cX5_divisor 68 = .ok (.iload 4, 2) := by decide +kernel
theorem dX5_divisor_70 : decode cX5_divisor 70 = .ok (.invokevirtual 65, 3) := by decide +kernel
theorem dX5_divisor_73 : decode cX5_divisor 73 = .ok (.iastore, 1) := by decide +kernel
theorem dX5_divisor_74 : decode cX5_divisor 74 = .ok (.aload_n 0, 1) := by decide +kernel
theorem dX5_divisor_75 : decode cX5_divisor 75 = .ok (.getfield 33, 3) := by decide +kernel
theorem dX5_divisor_78 : decode cX5_divisor 78 = .ok (.iload 4, 2) := by decide +kernel
theorem dX5_divisor_80 : decode cX5_divisor 80 = .ok (.aload_n 0, 1) := by decide +kernel
theorem dX5_divisor_81 : decode cX5_divisor 81 = .ok (.iload_n 2, 1) := by decide +kernel
theorem dX5_divisor_82 : decode cX5_divisor 82 = .ok (.iload 4, 2) := by decide +kernel
theorem dX5_divisor_84 : decode cX5_divisor 84 = .ok (.invokevirtual 65, 3) := by decide +kernel
theorem dX5_divisor_87 : decode cX5_divisor 87 = .ok (.iastore, 1) := by decide +kernel
theorem dX5_divisor_88 : decode cX5_divisor 88 = .ok (.iinc 4 1, 3) := by decide +kernel
theorem dX5_divisor_91 : decode cX5_divisor 91 = .ok (.goto (-38), 3) := by decide +kernel
theorem dX5_divisor_94 : decode cX5_divisor 94 = .ok (.aload_n 0, 1) := by decide +kernel
theorem dX5_divisor_95 : decode cX5_divisor 95 = .ok (.getfield 33, 3) := by decide +kernel
theorem dX5_divisor_98 : decode cX5_divisor 98 = .ok (.invokestatic 101, 3) := by decide +kernel
theorem dX5_divisor_101 : decode cX5_divisor 101 = .ok (.bipush (-6), 2) := by decide +kernel
theorem dX5_divisor_103 : decode cX5_divisor 103 = .ok (.if_icmp .eq 78, 3) := by decide +kernel
theorem dX5_divisor_106 : decode cX5_divisor 106 = .ok (.aload_n 0, 1) := by decide +kernel
theorem dX5_divisor_107 : decode cX5_divisor 107 = .ok (.bipush 64, 2) := by decide +kernel
theorem dX5_divisor_109 : decode cX5_divisor 109 = .ok (.invokevirtual 75, 3) := by decide +kernel
theorem dX5_divisor_112 : decode cX5_divisor 112 = .ok (.aload_n 0, 1) := by decide +kernel
theorem dX5_divisor_113 : decode cX5_divisor 113 = .ok (.aload_n 0, 1) := by decide +kernel
theorem dX5_divisor_114 : decode cX5_divisor 114 = .ok (.getfield 30, 3) := by decide +kernel
theorem dX5_divisor_117 : decode cX5_divisor 117 = .ok (.invokestatic 101, 3) := by decide +kernel
theorem dX5_divisor_120 : decode cX5_divisor 120 = .ok (.aload_n 0, 1) := by decide +kernel
theorem dX5_divisor_121 : decode cX5_divisor 121 = .ok (.getfield 33, 3) := by decide +kernel
theorem dX5_divisor_124 : decode cX5_divisor 124 = .ok (.invokestatic 101, 3) := by decide +kernel
theorem dX5_divisor_127 : decode cX5_divisor 127 = .ok (.invokevirtual 97, 3) := by decide +kernel
theorem dX5_divisor_130 : decode cX5_divisor 130 = .ok (.iconst 0, 1) := by decide +kernel
theorem dX5_divisor_131 : decode cX5_divisor 131 = .ok (.istore 4, 2) := by decide +kernel
theorem dX5_divisor_133 : decode cX5_divisor 133 = .ok (.iload 4, 2) := by decide +kernel
theorem dX5_divisor_135 : decode cX5_divisor 135 = .ok (.bipush 64, 2) := by decide +kernel
theorem dX5_divisor_137 : decode cX5_divisor 137 = .ok (.if_icmp .ge 41, 3) := by decide +kernel
theorem dX5_divisor_140 : decode cX5_divisor 140 = .ok (.aload_n 0, 1) := by decide +kernel
theorem dX5_divisor_141 : decode cX5_divisor 141 = .ok (.getfield 30, 3) := by decide +kernel
theorem dX5_divisor_144 : decode cX5_divisor 144 = .ok (.iload 4, 2) := by decide +kernel
theorem dX5_divisor_146 : decode cX5_divisor 146 = .ok (.iaload, 1) := by decide +kernel
theorem dX5_divisor_147 : decode cX5_divisor 147 = .ok (.istore 5, 2) := by decide +kernel
theorem dX5_divisor_149 : decode cX5_divisor 149 = .ok (.aload_n 0, 1) := by decide +kernel
theorem dX5_divisor_150 : decode cX5_divisor 150 = .ok (.getfield 30, 3) := by decide +kernel
theorem dX5_divisor_153 : decode cX5_divisor 153 = .ok (.iload 4, 2) := by decide +kernel
theorem dX5_divisor_155 : decode cX5_divisor 155 = .ok (.aload_n 0, 1) := by decide +kernel
theorem dX5_divisor_156 : decode cX5_divisor 156 = .ok (.getfield 33, 3) := by decide +kernel
theorem dX5_divisor_159 : decode cX5_divisor 159 = .ok (.iload 4, 2) := by decide +kernel
theorem dX5_divisor_161 : decode cX5_divisor 161 = .ok (.iaload, 1) := by decide +kernel
theorem dX5_divisor_162 : decode cX5_divisor 162 = .ok (.iastore, 1) := by decide +kernel
theorem dX5_divisor_163 : decode cX5_divisor 163 = .ok (.aload_n 0, 1) := by decide +kernel
theorem dX5_divisor_164 : decode cX5_divisor 164 = .ok (.getfield 33, 3) := by decide +kernel
theorem dX5_divisor_167 : decode cX5_divisor 167 = .ok (.iload 4, 2) := by decide +kernel
theorem dX5_divisor_169 : decode cX5_divisor 169 = .ok (.iload 5, 2) := by decide +kernel
theorem dX5_divisor_171 : decode cX5_divisor 171 = .ok (.iastore, 1) := by decide +kernel
theorem dX5_divisor_172 : decode cX5_divisor 172 = .ok (.iinc 4 1, 3) := by decide +kernel
theorem dX5_divisor_175 : decode cX5_divisor 175 = .ok (.goto (-42), 3) := by decide +kernel
theorem dX5_divisor_178 : decode cX5_divisor 178 = .ok (.goto (-84), 3) := by decide +kernel
theorem dX5_divisor_181 : decode cX5_divisor 181 = .ok (.aload_n 0, 1) := by decide +kernel
theorem dX5_divisor_182 : decode cX5_divisor 182 = .ok (.getfield 30, 3) := by decide +kernel
theorem dX5_divisor_185 : decode cX5_divisor 185 = .ok (.invokestatic 101, 3) := by decide +kernel
theorem dX5_divisor_188 : decode cX5_divisor 188 = .ok (.istore 4, 2) := by decide +kernel
theorem dX5_divisor_190 : decode cX5_divisor 190 = .ok (.aload_n 0, 1) := by decide +kernel
theorem dX5_divisor_191 : decode cX5_divisor 191 = .ok (.iload 4, 2) := by decide +kernel
theorem dX5_divisor_193 : decode cX5_divisor 193 = .ok (.iconst 1, 1) := by decide +kernel
theorem dX5_divisor_194 : decode cX5_divisor 194 = .ok (.iadd, 1) := by decide +kernel
theorem dX5_divisor_195 : decode cX5_divisor 195 = .ok (.invokevirtual 75, 3) := by decide +kernel
theorem dX5_divisor_198 : decode cX5_divisor 198 = .ok (.iconst 0, 1) := by decide +kernel
theorem dX5_divisor_199 : decode cX5_divisor 199 = .ok (.istore 5, 2) := by decide +kernel
theorem dX5_divisor_201 : decode cX5_divisor 201 = .ok (.iload 5, 2) := by decide +kernel
theorem dX5_divisor_203 : decode cX5_divisor 203 = .ok (.iload 4, 2) := by decide +kernel
theorem dX5_divisor_205 : decode cX5_divisor 205 = .ok (.if_icmp .gt 36, 3) := by decide +kernel
theorem dX5_divisor_208 : decode cX5_divisor 208 = .ok (.aload_n 0, 1) := by decide +kernel
theorem dX5_divisor_209 : decode cX5_divisor 209 = .ok (.getfield 27, 3) := by decide +kernel
theorem dX5_divisor_212 : decode cX5_divisor 212 = .ok (.iload 5, 2) := by decide +kernel
theorem dX5_divisor_214 : decode cX5_divisor 214 = .ok (.aload_n 0, 1) := by decide +kernel
theorem dX5_divisor_215 : decode cX5_divisor 215 = .ok (.getfield 30, 3) := by decide +kernel
theorem dX5_divisor_218 : decode cX5_divisor 218 = .ok (.iload 5, 2) := by decide +kernel
theorem dX5_divisor_220 : decode cX5_divisor 220 = .ok (.iaload, 1) := by decide +kernel
theorem dX5_divisor_221 : decode cX5_divisor 221 = .ok (.aload_n 0, 1) := by decide +kernel
theorem dX5_divisor_222 : decode cX5_divisor 222 = .ok (.getfield 30, 3) := by decide +kernel
theorem dX5_divisor_225 : decode cX5_divisor 225 = .ok (.iload 4, 2) := by decide +kernel
theorem dX5_divisor_227 : decode cX5_divisor 227 = .ok (.iaload, 1) := by decide +kernel
theorem dX5_divisor_228 : decode cX5_divisor 228 = .ok (.invokestatic 88, 3) := by decide +kernel
theorem dX5_divisor_231 : decode cX5_divisor 231 = .ok (.invokestatic 55, 3) := by decide +kernel
theorem dX5_divisor_234 : decode cX5_divisor 234 = .ok (.iastore, 1) := by decide +kernel
theorem dX5_divisor_235 : decode cX5_divisor 235 = .ok (.iinc 5 1, 3) := by decide +kernel
theorem dX5_divisor_238 : decode cX5_divisor 238 = .ok (.goto (-37), 3) := by decide +kernel
theorem dX5_divisor_241 : decode cX5_divisor 241 = .ok (.aload_n 0, 1) := by decide +kernel
theorem dX5_divisor_242 : decode cX5_divisor 242 = .ok (.iload_n 3, 1) := by decide +kernel
theorem dX5_divisor_243 : decode cX5_divisor 243 = .ok (.invokevirtual 79, 3) := by decide +kernel
theorem dX5_divisor_246 : decode cX5_divisor 246 = .ok (.iload 4, 2) := by decide +kernel
theorem dX5_divisor_248 : decode cX5_divisor 248 = .ok (.ireturn, 1) := by decide +kernel
theorem dX5_isSize_0 : decode cX5_isSize 0 = .ok (.iload_n 0, 1) := by decide +kernel
theorem dX5_isSize_1 : decode cX5_isSize 1 = .ok (.iconst 1, 1) := by decide +kernel
theorem dX5_isSize_2 : decode cX5_isSize 2 = .ok (.if_icmp .eq 37, 3) := by decide +kernel
theorem dX5_isSize_5 : decode cX5_isSize 5 = .ok (.iload_n 0, 1) := by decide +kernel
theorem dX5_isSize_6 : decode cX5_isSize 6 = .ok (.iconst 2, 1) := by decide +kernel
theorem dX5_isSize_7 : decode cX5_isSize 7 = .ok (.if_icmp .eq 32, 3) := by decide +kernel
theorem dX5_isSize_10 : decode cX5_isSize 10 = .ok (.iload_n 0, 1) := by decide +kernel
theorem dX5_isSize_11 : decode cX5_isSize 11 = .ok (.iconst 4, 1) := by decide +kernel
theorem dX5_isSize_12 : decode cX5_isSize 12 = .ok (.if_icmp .eq 27, 3) := by decide +kernel
theorem dX5_isSize_15 : decode cX5_isSize 15 = .ok (.iload_n 0, 1) := by decide +kernel
theorem dX5_isSize_16 : decode cX5_isSize 16 = .ok (.bipush 8, 2) := by decide +kernel
theorem dX5_isSize_18 : decode cX5_isSize 18 = .ok (.if_icmp .eq 21, 3) := by decide +kernel
theorem dX5_isSize_21 : decode cX5_isSize 21 = .ok (.iload_n 0, 1) := by decide +kernel
theorem dX5_isSize_22 : decode cX5_isSize 22 = .ok (.bipush 16, 2) := by decide +kernel
theorem dX5_isSize_24 : decode cX5_isSize 24 = .ok (.if_icmp .eq 15, 3) := by decide +kernel
theorem dX5_isSize_27 : decode cX5_isSize 27 = .ok (.iload_n 0, 1) := by decide +kernel
theorem dX5_isSize_28 : decode cX5_isSize 28 = .ok (.bipush 32, 2) := by decide +kernel
theorem dX5_isSize_30 : decode cX5_isSize 30 = .ok (.if_icmp .eq 9, 3) := by decide +kernel
theorem dX5_isSize_33 : decode cX5_isSize 33 = .ok (.iload_n 0, 1) := by decide +kernel
theorem dX5_isSize_34 : decode cX5_isSize 34 = .ok (.bipush 64, 2) := by decide +kernel
theorem dX5_isSize_36 : decode cX5_isSize 36 = .ok (.if_icmp .ne 7, 3) := by decide +kernel
theorem dX5_isSize_39 : decode cX5_isSize 39 = .ok (.iconst 1, 1) := by decide +kernel
theorem dX5_isSize_40 : decode cX5_isSize 40 = .ok (.goto 4, 3) := by decide +kernel
theorem dX5_isSize_43 : decode cX5_isSize 43 = .ok (.iconst 0, 1) := by decide +kernel
theorem dX5_isSize_44 : decode cX5_isSize 44 = .ok (.ireturn, 1) := by decide +kernel
set_option maxRecDepth 20000 in
theorem ggX5_pointOf_X5_raised : GoodIn wsX5_pointOf wsX5_raised := goodIn_r _ [4, 5, 6, 3, 7] (by decide +kernel) (by decide +kernel)
set_option maxRecDepth 20000 in
theorem gX5_pointOf_X5_raised : GoodIn wsX5_pointOf (va_wsS RX5 59 yX5_raised wsX5_raised) := goodIn_app (goodIn_of _ (by decide +kernel)) ggX5_pointOf_X5_raised
theorem dX5_pointOf_0 : decode cX5_pointOf 0 = .ok (.iconst 3, 1) := by decide +kernel
theorem dX5_pointOf_1 : decode cX5_pointOf 1 = .ok (.sipush 256, 3) := by decide +kernel
theorem dX5_pointOf_4 : decode cX5_pointOf 4 = .ok (.iload_n 0, 1) := by decide +kernel
theorem dX5_pointOf_5 : decode cX5_pointOf 5 = .ok (.idiv, 1) := by decide +kernel
theorem dX5_pointOf_6 : decode cX5_pointOf 6 = .ok (.invokestatic 59, 3) := by decide +kernel
theorem dX5_pointOf_9 : decode cX5_pointOf 9 = .ok (.ireturn, 1) := by decide +kernel
set_option maxRecDepth 20000 in
theorem ggX5_valueAt_X5_lengthOf : GoodIn wsX5_valueAt wsX5_lengthOf := goodIn_r _ [5, 6, 11, 12, 13, 14, 15, 16, 17, 18, 19, 20, 21] (by decide +kernel) (by decide +kernel)
set_option maxRecDepth 20000 in
theorem gX5_valueAt_X5_lengthOf : GoodIn wsX5_valueAt (wsV RX5 40 RX5 yX5_lengthOf wsX5_lengthOf) := goodIn_app (goodIn_of _ (by decide +kernel)) ggX5_valueAt_X5_lengthOf
set_option maxRecDepth 20000 in
theorem ggX5_valueAt_X5_at : GoodIn wsX5_valueAt wsX5_at := goodIn_r _ [10, 6, 1, 2, 3, 4, 5, 11, 12, 13, 14, 15, 16, 17, 18, 19, 20, 21] (by decide +kernel) (by decide +kernel)
set_option maxRecDepth 20000 in
theorem gX5_valueAt_X5_at : GoodIn wsX5_valueAt (wsV RX5 65 RX5 yX5_at wsX5_at) := goodIn_app (goodIn_of _ (by decide +kernel)) ggX5_valueAt_X5_at
theorem dX5_valueAt_0 : decode cX5_valueAt 0 = .ok (.iconst 0, 1) := by decide +kernel
theorem dX5_valueAt_1 : decode cX5_valueAt 1 = .ok (.istore_n 3, 1) := by decide +kernel
theorem dX5_valueAt_2 : decode cX5_valueAt 2 = .ok (.aload_n 0, 1) := by decide +kernel
theorem dX5_valueAt_3 : decode cX5_valueAt 3 = .ok (.iload_n 1, 1) := by decide +kernel
theorem dX5_valueAt_4 : decode cX5_valueAt 4 = .ok (.invokevirtual 40, 3) := by decide +kernel
theorem dX5_valueAt_7 : decode cX5_valueAt 7 = .ok (.iconst 1, 1) := by decide +kernel
theorem dX5_valueAt_8 : decode cX5_valueAt 8 = .ok (.isub, 1) := by decide +kernel
theorem dX5_valueAt_9 : decode cX5_valueAt 9 = .ok (.istore 4, 2) := by decide +kernel
theorem dX5_valueAt_11 : decode cX5_valueAt 11 = .ok (.iload 4, 2) := by decide +kernel
theorem dX5_valueAt_13 : decode cX5_valueAt 13 = .ok (.ifCond .lt 25, 3) := by decide +kernel
theorem dX5_valueAt_16 : decode cX5_valueAt 16 = .ok (.iload_n 3, 1) := by decide +kernel
theorem dX5_valueAt_17 : decode cX5_valueAt 17 = .ok (.iload_n 2, 1) := by decide +kernel
theorem dX5_valueAt_18 : decode cX5_valueAt 18 = .ok (.imul, 1) := by decide +kernel
theorem dX5_valueAt_19 : decode cX5_valueAt 19 = .ok (.aload_n 0, 1) := by decide +kernel
theorem dX5_valueAt_20 : decode cX5_valueAt 20 = .ok (.iload_n 1, 1) := by decide +kernel
theorem dX5_valueAt_21 : decode cX5_valueAt 21 = .ok (.iload 4, 2) := by decide +kernel
theorem dX5_valueAt_23 : decode cX5_valueAt 23 = .ok (.invokevirtual 65, 3) := by decide +kernel
theorem dX5_valueAt_26 : decode cX5_valueAt 26 = .ok (.iadd, 1) := by decide +kernel
theorem dX5_valueAt_27 : decode cX5_valueAt 27 = .ok (.sipush 257, 3) := by decide +kernel
theorem dX5_valueAt_30 : decode cX5_valueAt 30 = .ok (.irem, 1) := by decide +kernel
theorem dX5_valueAt_31 : decode cX5_valueAt 31 = .ok (.istore_n 3, 1) := by decide +kernel
theorem dX5_valueAt_32 : decode cX5_valueAt 32 = .ok (.iinc 4 (-1), 3) := by decide +kernel
theorem dX5_valueAt_35 : decode cX5_valueAt 35 = .ok (.goto (-24), 3) := by decide +kernel
theorem dX5_valueAt_38 : decode cX5_valueAt 38 = .ok (.iload_n 3, 1) := by decide +kernel
theorem dX5_valueAt_39 : decode cX5_valueAt 39 = .ok (.ireturn, 1) := by decide +kernel
set_option maxRecDepth 20000 in
theorem ggX5_turn_X5_isRegister : GoodIn wsX5_turn wsX5_isRegister := goodIn_r _ [5, 6, 7, 4, 8] (by decide +kernel) (by decide +kernel)
set_option maxRecDepth 20000 in
theorem gX5_turn_X5_isRegister : GoodIn wsX5_turn (va_wsS RX5 68 yX5_isRegister wsX5_isRegister) := goodIn_app (goodIn_of _ (by decide +kernel)) ggX5_turn_X5_isRegister
set_option maxRecDepth 20000 in
theorem ggX5_turn_X5_isSize : GoodIn wsX5_turn wsX5_isSize := goodIn_r _ [11] (by decide +kernel) (by decide +kernel)
set_option maxRecDepth 20000 in
theorem gX5_turn_X5_isSize : GoodIn wsX5_turn (va_wsS RX5 105 yX5_isSize wsX5_isSize) := goodIn_app (goodIn_of _ (by decide +kernel)) ggX5_turn_X5_isSize
set_option maxRecDepth 20000 in
theorem ggX5_turn_X5_lengthOf : GoodIn wsX5_turn wsX5_lengthOf := goodIn_r _ [15, 16, 49, 50, 51, 52, 53, 54, 55, 56, 57, 58, 59] (by decide +kernel) (by decide +kernel)
set_option maxRecDepth 20000 in
theorem gX5_turn_X5_lengthOf : GoodIn wsX5_turn (wsV RX5 40 RX5 yX5_lengthOf wsX5_lengthOf) := goodIn_app (goodIn_of _ (by decide +kernel)) ggX5_turn_X5_lengthOf
set_option maxRecDepth 20000 in
theorem ggX5_turn_X5_record : GoodIn wsX5_turn wsX5_record := goodIn_r _ [20, 21, 22, 16, 49, 50, 51, 52, 53, 54, 55, 56, 57, 58, 59] (by decide +kernel) (by decide +kernel)
set_option maxRecDepth 20000 in
theorem gX5_turn_X5_record : GoodIn wsX5_turn (wsV RX5 52 RX5 yX5_record wsX5_record) := goodIn_app (goodIn_of _ (by decide +kernel)) ggX5_turn_X5_record
set_option maxRecDepth 20000 in
theorem ggX5_turn_X5_blank : GoodIn wsX5_turn wsX5_blank := goodIn_r _ [26, 27, 1, 49, 50, 51, 52, 53, 54, 55, 56, 57, 58, 59] (by decide +kernel) (by decide +kernel)
set_option maxRecDepth 20000 in
theorem gX5_turn_X5_blank : GoodIn wsX5_turn (wsV RX5 75 RX5 yX5_blank wsX5_blank) := goodIn_app (goodIn_of _ (by decide +kernel)) ggX5_turn_X5_blank
set_option maxRecDepth 20000 in
theorem ggX5_turn_X5_pointOf : GoodIn wsX5_turn wsX5_pointOf := goodIn_r _ [30, 31, 32, 4, 33, 34, 35, 36] (by decide +kernel) (by decide +kernel)
set_option maxRecDepth 20000 in
theorem gX5_turn_X5_pointOf : GoodIn wsX5_turn (va_wsS RX5 108 yX5_pointOf wsX5_pointOf) := goodIn_app (goodIn_of _ (by decide +kernel)) ggX5_turn_X5_pointOf
set_option maxRecDepth 20000 in
theorem ggX5_turn_X5_raised : GoodIn wsX5_turn wsX5_raised := goodIn_r _ [33, 34, 35, 4, 36] (by decide +kernel) (by decide +kernel)
set_option maxRecDepth 20000 in
theorem gX5_turn_X5_raised : GoodIn wsX5_turn (va_wsS RX5 59 yX5_raised wsX5_raised) := goodIn_app (goodIn_of _ (by decide +kernel)) ggX5_turn_X5_raised
set_option maxRecDepth 20000 in
theorem ggX5_turn_X5_valueAt : GoodIn wsX5_turn wsX5_valueAt := goodIn_r _ [40, 12, 13, 14, 4, 15, 16, 41, 42, 43, 44, 49, 50, 51, 52, 53, 54, 55, 56, 57, 58, 59] (by decide +kernel) (by decide +kernel)
set_option maxRecDepth 20000 in
theorem gX5_turn_X5_valueAt : GoodIn wsX5_turn (wsV RX5 111 RX5 yX5_valueAt wsX5_valueAt) := goodIn_app (goodIn_of _ (by decide +kernel)) ggX5_turn_X5_valueAt
set_option maxRecDepth 20000 in
theorem ggX5_turn_X5_store : GoodIn wsX5_turn wsX5_store := goodIn_r _ [48, 16, 27, 1, 49, 50, 51, 52, 53, 54, 55, 56, 57, 58, 59] (by decide +kernel) (by decide +kernel)
set_option maxRecDepth 20000 in
theorem gX5_turn_X5_store : GoodIn wsX5_turn (wsV RX5 79 RX5 yX5_store wsX5_store) := goodIn_app (goodIn_of _ (by decide +kernel)) ggX5_turn_X5_store
theorem dX5_turn_0 : decode cX5_turn 0 = .ok (.iload_n 1, 1) := by decide +kernel
theorem dX5_turn_1 : decode cX5_turn 1 = .ok (.invokestatic 68, 3) := by decide +kernel
theorem dX5_turn_4 : decode cX5_turn 4 = .ok (.ifCond .eq 10, 3) := by decide +kernel
theorem dX5_turn_7 : decode cX5_turn 7 = .ok (.iload_n 3, 1) := by decide +kernel
theorem dX5_turn_8 : decode cX5_turn 8 = .ok (.invokestatic 68, 3) := by decide +kernel
theorem dX5_turn_11 : decode cX5_turn 11 = .ok (.ifCond .ne 5, 3) := by decide +kernel
theorem dX5_turn_14 : decode cX5_turn 14 = .ok (.iconst (-1), 1) := by decide +kernel
theorem dX5_turn_15 : decode cX5_turn 15 = .ok (.ireturn, 1) := by decide +kernel
theorem dX5_turn_16 : decode cX5_turn 16 = .ok (.iload_n 2, 1) := by decide +kernel
theorem dX5_turn_17 : decode cX5_turn 17 = .ok (.invokestatic 105, 3) := by decide +kernel
theorem dX5_turn_20 : decode cX5_turn 20 = .ok (.ifCond .ne 6, 3) := by decide +kernel
theorem dX5_turn_23 : decode cX5_turn 23 = .ok (.bipush (-2), 2) := by decide +kernel
theorem dX5_turn_25 : decode cX5_turn 25 = .ok (.ireturn, 1) := by decide +kernel
theorem dX5_turn_26 : decode cX5_turn 26 = .ok (.aload_n 0, 1) := by decide +kernel
theorem dX5_turn_27 : decode cX5_turn 27 = .ok (.iload_n 1, 1) := by decide +kernel
theorem dX5_turn_28 : decode cX5_turn 28 = .ok (.invokevirtual 40, 3) := by decide +kernel
theorem dX5_turn_31 : decode cX5_turn 31 = .ok (.iload_n 2, 1) := by decide +kernel
theorem dX5_turn_32 : decode cX5_turn 32 = .ok (.if_icmp .le 6, 3) := by decide +kernel
theorem dX5_turn_35 : decode cX5_turn 35 = .ok (.bipush (-5), 2) := by decide +kernel
theorem dX5_turn_37 : decode cX5_turn 37 = .ok (.ireturn, 1) := by decide +kernel
theorem dX5_turn_38 : decode cX5_turn 38 = .ok (.aload_n 0, 1) := by decide +kernel
theorem dX5_turn_39 : decode cX5_turn 39 = .ok (.invokevirtual 52, 3) := by decide +kernel
theorem dX5_turn_42 : decode cX5_turn 42 = .ok (.aload_n 0, 1) := by decide +kernel
theorem dX5_turn_43 : decode cX5_turn 43 = .ok (.iload_n 2, 1) := by decide +kernel
theorem dX5_turn_44 : decode cX5_turn 44 = .ok (.invokevirtual 75, 3) := by decide +kernel
theorem dX5_turn_47 : decode cX5_turn 47 = .ok (.iconst 0, 1) := by decide +kernel
theorem dX5_turn_48 : decode cX5_turn 48 = .ok (.istore 4, 2) := by decide +kernel
theorem dX5_turn_50 : decode cX5_turn 50 = .ok (.iconst 0, 1) := by decide +kernel
theorem dX5_turn_51 : decode cX5_turn 51 = .ok (.istore 5, 2) := by decide +kernel
theorem dX5_turn_53 : decode cX5_turn 53 = .ok (.iload 5, 2) := by decide +kernel
theorem dX5_turn_55 : decode cX5_turn 55 = .ok (.iload_n 2, 1) := by decide +kernel
theorem dX5_turn_56 : decode cX5_turn 56 = .ok (.if_icmp .ge 50, 3) := by decide +kernel
theorem dX5_turn_59 : decode cX5_turn 59 = .ok (.aload_n 0, 1) := by decide +kernel
theorem dX5_turn_60 : decode cX5_turn 60 = .ok (.getfield 27, 3) := by decide +kernel
theorem dX5_turn_63 : decode cX5_turn 63 = .ok (.iload 5, 2) := by decide +kernel
theorem dX5_turn_65 : decode cX5_turn 65 = .ok (.aload_n 0, 1) := by decide +kernel
theorem dX5_turn_66 : decode cX5_turn 66 = .ok (.iload_n 1, 1) := by decide +kernel
theorem dX5_turn_67 : decode cX5_turn 67 = .ok (.iload_n 2, 1) := by decide +kernel
theorem dX5_turn_68 : decode cX5_turn 68 = .ok (.invokestatic 108, 3) := by decide +kernel
theorem dX5_turn_71 : decode cX5_turn 71 = .ok (.iload 5, 2) := by decide +kernel
theorem dX5_turn_73 : decode cX5_turn 73 = .ok (.invokestatic 59, 3) := by decide +kernel
theorem dX5_turn_76 : decode cX5_turn 76 = .ok (.invokevirtual 111, 3) := by decide +kernel
theorem dX5_turn_79 : decode cX5_turn 79 = .ok (.iastore, 1) := by decide +kernel
theorem dX5_turn_80 : decode cX5_turn 80 = .ok (.iload 4, 2) := by decide +kernel
theorem dX5_turn_82 : decode cX5_turn 82 = .ok (.aload_n 0, 1) := by decide +kernel
theorem dX5_turn_83 : decode cX5_turn 83 = .ok (.getfield 27, 3) := by decide +kernel
theorem dX5_turn_86 : decode cX5_turn 86 = .ok (.iload 5, 2) := by decide +kernel
theorem dX5_turn_88 : decode cX5_turn 88 = .ok (.iaload, 1) := by decide +kernel
theorem dX5_turn_89 : decode cX5_turn 89 = .ok (.ifCond .ne 7, 3) := by decide +kernel
theorem dX5_turn_92 : decode cX5_turn 92 = .ok (.iconst 1, 1) := by decide +kernel
theorem dX5_turn_93 : decode cX5_turn 93 = .ok (.goto 4, 3) := by decide +kernel
theorem dX5_turn_96 : decode cX5_turn 96 = .ok (.iconst 0, 1) := by decide +kernel
theorem dX5_turn_97 : decode cX5_turn 97 = .ok (.iadd, 1) := by decide +kernel
theorem dX5_turn_98 : decode cX5_turn 98 = .ok (.istore 4, 2) := by decide +kernel
theorem dX5_turn_100 : decode cX5_turn 100 = .ok (.iinc 5 1, 3) := by decide +kernel
theorem dX5_turn_103 : decode cX5_turn 103 = .ok (.goto (-50), 3) := by decide +kernel
theorem dX5_turn_106 : decode cX5_turn 106 = .ok (.aload_n 0, 1) := by decide +kernel
theorem dX5_turn_107 : decode cX5_turn 107 = .ok (.iload_n 3, 1) := by decide +kernel
theorem dX5_turn_108 : decode cX5_turn 108 = .ok (.invokevirtual 79, 3) := by decide +kernel
theorem dX5_turn_111 : decode cX5_turn 111 = .ok (.iload 4, 2) := by decide +kernel
theorem dX5_turn_113 : decode cX5_turn 113 = .ok (.ireturn, 1) := by decide +kernel
set_option maxRecDepth 20000 in
theorem ggX5_turnBack_X5_isRegister : GoodIn wsX5_turnBack wsX5_isRegister := goodIn_r _ [5, 6, 7, 4, 8] (by decide +kernel) (by decide +kernel)
set_option maxRecDepth 20000 in
theorem gX5_turnBack_X5_isRegister : GoodIn wsX5_turnBack (va_wsS RX5 68 yX5_isRegister wsX5_isRegister) := goodIn_app (goodIn_of _ (by decide +kernel)) ggX5_turnBack_X5_isRegister
set_option maxRecDepth 20000 in
theorem ggX5_turnBack_X5_lengthOf : GoodIn wsX5_turnBack wsX5_lengthOf := goodIn_r _ [12, 13, 56, 57, 58, 59, 60, 61, 62, 63, 64, 65, 66] (by decide +kernel) (by decide +kernel)
set_option maxRecDepth 20000 in
theorem gX5_turnBack_X5_lengthOf : GoodIn wsX5_turnBack (wsV RX5 40 RX5 yX5_lengthOf wsX5_lengthOf) := goodIn_app (goodIn_of _ (by decide +kernel)) ggX5_turnBack_X5_lengthOf
set_option maxRecDepth 20000 in
theorem ggX5_turnBack_X5_isSize : GoodIn wsX5_turnBack wsX5_isSize := goodIn_r _ [16] (by decide +kernel) (by decide +kernel)
set_option maxRecDepth 20000 in
theorem gX5_turnBack_X5_isSize : GoodIn wsX5_turnBack (va_wsS RX5 105 yX5_isSize wsX5_isSize) := goodIn_app (goodIn_of _ (by decide +kernel)) ggX5_turnBack_X5_isSize
set_option maxRecDepth 20000 in
theorem ggX5_turnBack_X5_record : GoodIn wsX5_turnBack wsX5_record := goodIn_r _ [20, 21, 22, 13, 56, 57, 58, 59, 60, 61, 62, 63, 64, 65, 66] (by decide +kernel) (by decide +kernel)
set_option maxRecDepth 20000 in
theorem gX5_turnBack_X5_record : GoodIn wsX5_turnBack (wsV RX5 52 RX5 yX5_record wsX5_record) := goodIn_app (goodIn_of _ (by decide +kernel)) ggX5_turnBack_X5_record
set_option maxRecDepth 20000 in
theorem ggX5_turnBack_X5_blank : GoodIn wsX5_turnBack wsX5_blank := goodIn_r _ [26, 27, 1, 56, 57, 58, 59, 60, 61, 62, 63, 64, 65, 66] (by decide +kernel) (by decide +kernel)
set_option maxRecDepth 20000 in
theorem gX5_turnBack_X5_blank : GoodIn wsX5_turnBack (wsV RX5 75 RX5 yX5_blank wsX5_blank) := goodIn_app (goodIn_of _ (by decide +kernel)) ggX5_turnBack_X5_blank
set_option maxRecDepth 20000 in
theorem ggX5_turnBack_X5_pointOf : GoodIn wsX5_turnBack wsX5_pointOf := goodIn_r _ [30, 31, 32, 4, 33, 34, 35, 36] (by decide +kernel) (by decide +kernel)
set_option maxRecDepth 20000 in
theorem gX5_turnBack_X5_pointOf : GoodIn wsX5_turnBack (va_wsS RX5 108 yX5_pointOf wsX5_pointOf) := goodIn_app (goodIn_of _ (by decide +kernel)) ggX5_turnBack_X5_pointOf
set_option maxRecDepth 20000 in
theorem ggX5_turnBack_X5_over : GoodIn wsX5_turnBack wsX5_over := goodIn_r _ [39, 31, 32, 4, 33, 34, 35, 36] (by decide +kernel) (by decide +kernel)
set_option maxRecDepth 20000 in
theorem gX5_turnBack_X5_over : GoodIn wsX5_turnBack (va_wsS RX5 88 yX5_over wsX5_over) := goodIn_app (goodIn_of _ (by decide +kernel)) ggX5_turnBack_X5_over
set_option maxRecDepth 20000 in
theorem ggX5_turnBack_X5_raised : GoodIn wsX5_turnBack wsX5_raised := goodIn_r _ [33, 34, 35, 4, 36] (by decide +kernel) (by decide +kernel)
set_option maxRecDepth 20000 in
theorem gX5_turnBack_X5_raised : GoodIn wsX5_turnBack (va_wsS RX5 59 yX5_raised wsX5_raised) := goodIn_app (goodIn_of _ (by decide +kernel)) ggX5_turnBack_X5_raised
set_option maxRecDepth 20000 in
theorem ggX5_turnBack_X5_valueAt : GoodIn wsX5_turnBack wsX5_valueAt := goodIn_r _ [43, 9, 10, 11, 4, 12, 13, 44, 45, 46, 47, 56, 57, 58, 59, 60, 61, 62, 63, 64, 65, 66] (by decide +kernel) (by decide +kernel)
set_option maxRecDepth 20000 in
theorem gX5_turnBack_X5_valueAt : GoodIn wsX5_turnBack (wsV RX5 111 RX5 yX5_valueAt wsX5_valueAt) := goodIn_app (goodIn_of _ (by decide +kernel)) ggX5_turnBack_X5_valueAt
set_option maxRecDepth 20000 in
theorem ggX5_turnBack_X5_times : GoodIn wsX5_turnBack wsX5_times := goodIn_r _ [36] (by decide +kernel) (by decide +kernel)
set_option maxRecDepth 20000 in
theorem gX5_turnBack_X5_times : GoodIn wsX5_turnBack (va_wsS RX5 55 yX5_times wsX5_times) := goodIn_app (goodIn_of _ (by decide +kernel)) ggX5_turnBack_X5_times
set_option maxRecDepth 20000 in
theorem ggX5_turnBack_X5_store : GoodIn wsX5_turnBack wsX5_store := goodIn_r _ [51, 13, 27, 1, 56, 57, 58, 59, 60, 61, 62, 63, 64, 65, 66] (by decide +kernel) (by decide +kernel)
set_option maxRecDepth 20000 in
theorem gX5_turnBack_X5_store : GoodIn wsX5_turnBack (wsV RX5 79 RX5 yX5_store wsX5_store) := goodIn_app (goodIn_of _ (by decide +kernel)) ggX5_turnBack_X5_store
set_option maxRecDepth 20000 in
theorem ggX5_turnBack_X5_degreeOut : GoodIn wsX5_turnBack wsX5_degreeOut := goodIn_r _ [55, 27, 1, 56, 57, 58, 59, 60, 61, 62, 63, 64, 65, 66] (by decide +kernel) (by decide +kernel)
set_option maxRecDepth 20000 in
theorem gX5_turnBack_X5_degreeOut : GoodIn wsX5_turnBack (wsV RX5 82 RX5 yX5_degreeOut wsX5_degreeOut) := goodIn_app (goodIn_of _ (by decide +kernel)) ggX5_turnBack_X5_degreeOut
theorem dX5_turnBack_0 : decode cX5_turnBack 0 = .ok (.iload_n 1, 1) := by decide +kernel
theorem dX5_turnBack_1 : decode cX5_turnBack 1 = .ok (.invokestatic 68, 3) := by decide +kernel
theorem dX5_turnBack_4 : decode cX5_turnBack 4 = .ok (.ifCond .eq 10, 3) := by decide +kernel
theorem dX5_turnBack_7 : decode cX5_turnBack 7 = .ok (.iload_n 2, 1) := by decide +kernel
theorem dX5_turnBack_8 : decode cX5_turnBack 8 = .ok (.invokestatic 68, 3) := by decide +kernel
theorem dX5_turnBack_11 : decode cX5_turnBack 11 = .ok (.ifCond .ne 5, 3) := by decide +kernel
theorem dX5_turnBack_14 : decode cX5_turnBack 14 = .ok (.iconst (-1), 1) := by decide +kernel
theorem dX5_turnBack_15 : decode cX5_turnBack 15 = .ok (.ireturn, 1) := by decide +kernel
theorem dX5_turnBack_16 : decode cX5_turnBack 16 = .ok (.aload_n 0, 1) := by decide +kernel
theorem dX5_turnBack_17 : decode cX5_turnBack 17 = .ok (.iload_n 1, 1) := by decide +kernel
theorem dX5_turnBack_18 : decode cX5_turnBack 18 = .ok (.invokevirtual 40, 3) := by decide +kernel
theorem dX5_turnBack_21 : decode cX5_turnBack 21 = .ok (.istore_n 3, 1) := by decide +kernel
theorem dX5_turnBack_22 : decode cX5_turnBack 22 = .ok (.iload_n 3, 1) := by decide +kernel
theorem dX5_turnBack_23 : decode cX5_turnBack 23 = .ok (.invokestatic 105, 3) := by decide +kernel
theorem dX5_turnBack_26 : decode cX5_turnBack 26 = .ok (.ifCond .ne 6, 3) := by decide +kernel
theorem dX5_turnBack_29 : decode cX5_turnBack 29 = .ok (.bipush (-5), 2) := by decide +kernel
theorem dX5_turnBack_31 : decode cX5_turnBack 31 = .ok (.ireturn, 1) := by decide +kernel
theorem dX5_turnBack_32 : decode cX5_turnBack 32 = .ok (.aload_n 0, 1) := by decide +kernel
theorem dX5_turnBack_33 : decode cX5_turnBack 33 = .ok (.invokevirtual 52, 3) := by decide +kernel
theorem dX5_turnBack_36 : decode cX5_turnBack 36 = .ok (.aload_n 0, 1) := by decide +kernel
theorem dX5_turnBack_37 : decode cX5_turnBack 37 = .ok (.iload_n 3, 1) := by decide +kernel
theorem dX5_turnBack_38 : decode cX5_turnBack 38 = .ok (.invokevirtual 75, 3) := by decide +kernel
theorem dX5_turnBack_41 : decode cX5_turnBack 41 = .ok (.iload_n 3, 1) := by decide +kernel
theorem dX5_turnBack_42 : decode cX5_turnBack 42 = .ok (.invokestatic 108, 3) := by decide +kernel
theorem dX5_turnBack_45 : decode cX5_turnBack 45 = .ok (.invokestatic 88, 3) := by decide +kernel
theorem dX5_turnBack_48 : decode cX5_turnBack 48 = .ok (.istore 4, 2) := by decide +kernel
theorem dX5_turnBack_50 : decode cX5_turnBack 50 = .ok (.iconst 0, 1) := by decide +kernel
theorem dX5_turnBack_51 : decode cX5_turnBack 51 = .ok (.istore 5, 2) := by decide +kernel
theorem dX5_turnBack_53 : decode cX5_turnBack 53 = .ok (.iload 5, 2) := by decide +kernel
theorem dX5_turnBack_55 : decode cX5_turnBack 55 = .ok (.iload_n 3, 1) := by decide +kernel
theorem dX5_turnBack_56 : decode cX5_turnBack 56 = .ok (.if_icmp .ge 35, 3) := by decide +kernel
theorem dX5_turnBack_59 : decode cX5_turnBack 59 = .ok (.aload_n 0, 1) := by decide +kernel
theorem dX5_turnBack_60 : decode cX5_turnBack 60 = .ok (.getfield 27, 3) := by decide +kernel
theorem dX5_turnBack_63 : decode cX5_turnBack 63 = .ok (.iload 5, 2) := by decide +kernel
theorem dX5_turnBack_65 : decode cX5_turnBack 65 = .ok (.aload_n 0, 1) := by decide +kernel
theorem dX5_turnBack_66 : decode cX5_turnBack 66 = .ok (.iload_n 1, 1) := by decide +kernel
theorem dX5_turnBack_67 : decode cX5_turnBack 67 = .ok (.iload 4, 2) := by decide +kernel
theorem dX5_turnBack_69 : decode cX5_turnBack 69 = .ok (.iload 5, 2) := by decide +kernel
theorem dX5_turnBack_71 : decode cX5_turnBack 71 = .ok (.invokestatic 59, 3) := by decide +kernel
theorem dX5_turnBack_74 : decode cX5_turnBack 74 = .ok (.invokevirtual 111, 3) := by decide +kernel
theorem dX5_turnBack_77 : decode cX5_turnBack 77 = .ok (.iload_n 3, 1) := by decide +kernel
theorem dX5_turnBack_78 : decode cX5_turnBack 78 = .ok (.invokestatic 88, 3) := by decide +kernel
theorem dX5_turnBack_81 : decode cX5_turnBack 81 = .ok (.invokestatic 55, 3) := by decide +kernel
theorem dX5_turnBack_84 : decode cX5_turnBack 84 = .ok (.iastore, 1) := by decide +kernel
theorem dX5_turnBack_85 : decode cX5_turnBack 85 = .ok (.iinc 5 1, 3) := by decide +kernel
theorem dX5_turnBack_88 : decode cX5_turnBack 88 = .ok (.goto (-35), 3) := by decide +kernel
theorem dX5_turnBack_91 : decode cX5_turnBack 91 = .ok (.aload_n 0, 1) := by decide +kernel
theorem dX5_turnBack_92 : decode cX5_turnBack 92 = .ok (.iload_n 2, 1) := by decide +kernel
theorem dX5_turnBack_93 : decode cX5_turnBack 93 = .ok (.invokevirtual 79, 3) := by decide +kernel
theorem dX5_turnBack_96 : decode cX5_turnBack 96 = .ok (.aload_n 0, 1) := by decide +kernel
theorem dX5_turnBack_97 : decode cX5_turnBack 97 = .ok (.invokevirtual 82, 3) := by decide +kernel
theorem dX5_turnBack_100 : decode cX5_turnBack 100 = .ok (.ireturn, 1) := by decide +kernel
set_option maxRecDepth 20000 in
theorem ggX5_number_X5_isRegister : GoodIn wsX5_number wsX5_isRegister := goodIn_r _ [4, 5, 6, 3, 7] (by decide +kernel) (by decide +kernel)
set_option maxRecDepth 20000 in
theorem gX5_number_X5_isRegister : GoodIn wsX5_number (va_wsS RX5 68 yX5_isRegister wsX5_isRegister) := goodIn_app (goodIn_of _ (by decide +kernel)) ggX5_number_X5_isRegister
set_option maxRecDepth 20000 in
theorem ggX5_number_X5_lengthOf : GoodIn wsX5_number wsX5_lengthOf := goodIn_r _ [11, 12, 17, 18, 19, 20, 21, 22, 23, 24, 25, 26, 27] (by decide +kernel) (by decide +kernel)
set_option maxRecDepth 20000 in
theorem gX5_number_X5_lengthOf : GoodIn wsX5_number (wsV RX5 40 RX5 yX5_lengthOf wsX5_lengthOf) := goodIn_app (goodIn_of _ (by decide +kernel)) ggX5_number_X5_lengthOf
set_option maxRecDepth 20000 in
theorem ggX5_number_X5_in : GoodIn wsX5_number wsX5_in := goodIn_r _ [7] (by decide +kernel) (by decide +kernel)
set_option maxRecDepth 20000 in
theorem gX5_number_X5_in : GoodIn wsX5_number (va_wsS RX5 36 yX5_in wsX5_in) := goodIn_app (goodIn_of _ (by decide +kernel)) ggX5_number_X5_in
set_option maxRecDepth 20000 in
theorem ggX5_number_X5_at : GoodIn wsX5_number wsX5_at := goodIn_r _ [16, 12, 8, 9, 10, 3, 11, 17, 18, 19, 20, 21, 22, 23, 24, 25, 26, 27] (by decide +kernel) (by decide +kernel)
set_option maxRecDepth 20000 in
theorem gX5_number_X5_at : GoodIn wsX5_number (wsV RX5 65 RX5 yX5_at wsX5_at) := goodIn_app (goodIn_of _ (by decide +kernel)) ggX5_number_X5_at
theorem dX5_number_0 : decode cX5_number 0 = .ok (.iload_n 1, 1) := by decide +kernel
theorem dX5_number_1 : decode cX5_number 1 = .ok (.invokestatic 68, 3) := by decide +kernel
theorem dX5_number_4 : decode cX5_number 4 = .ok (.ifCond .eq 18, 3) := by decide +kernel
theorem dX5_number_7 : decode cX5_number 7 = .ok (.iload_n 2, 1) := by decide +kernel
theorem dX5_number_8 : decode cX5_number 8 = .ok (.iconst 0, 1) := by decide +kernel
theorem dX5_number_9 : decode cX5_number 9 = .ok (.aload_n 0, 1) := by decide +kernel
theorem dX5_number_10 : decode cX5_number 10 = .ok (.iload_n 1, 1) := by decide +kernel
theorem dX5_number_11 : decode cX5_number 11 = .ok (.invokevirtual 40, 3) := by decide +kernel
theorem dX5_number_14 : decode cX5_number 14 = .ok (.iconst 1, 1) := by decide +kernel
theorem dX5_number_15 : decode cX5_number 15 = .ok (.isub, 1) := by decide +kernel
theorem dX5_number_16 : decode cX5_number 16 = .ok (.invokestatic 36, 3) := by decide +kernel
theorem dX5_number_19 : decode cX5_number 19 = .ok (.ifCond .ne 5, 3) := by decide +kernel
theorem dX5_number_22 : decode cX5_number 22 = .ok (.iconst (-1), 1) := by decide +kernel
theorem dX5_number_23 : decode cX5_number 23 = .ok (.ireturn, 1) := by decide +kernel
theorem dX5_number_24 : decode cX5_number 24 = .ok (.aload_n 0, 1) := by decide +kernel
theorem dX5_number_25 : decode cX5_number 25 = .ok (.iload_n 1, 1) := by decide +kernel
theorem dX5_number_26 : decode cX5_number 26 = .ok (.iload_n 2, 1) := by decide +kernel
theorem dX5_number_27 : decode cX5_number 27 = .ok (.invokevirtual 65, 3) := by decide +kernel
theorem dX5_number_30 : decode cX5_number 30 = .ok (.ireturn, 1) := by decide +kernel
set_option maxRecDepth 20000 in
theorem ggX5_notNought_X5_lengthOf : GoodIn wsX5_notNought wsX5_lengthOf := goodIn_r _ [5, 6, 11, 12, 13, 14, 15, 16, 17, 18, 19, 20, 21] (by decide +kernel) (by decide +kernel)
set_option maxRecDepth 20000 in
theorem gX5_notNought_X5_lengthOf : GoodIn wsX5_notNought (wsV RX5 40 RX5 yX5_lengthOf wsX5_lengthOf) := goodIn_app (goodIn_of _ (by decide +kernel)) ggX5_notNought_X5_lengthOf
set_option maxRecDepth 20000 in
theorem ggX5_notNought_X5_at : GoodIn wsX5_notNought wsX5_at := goodIn_r _ [10, 6, 1, 2, 3, 4, 5, 11, 12, 13, 14, 15, 16, 17, 18, 19, 20, 21] (by decide +kernel) (by decide +kernel)
set_option maxRecDepth 20000 in
theorem gX5_notNought_X5_at : GoodIn wsX5_notNought (wsV RX5 65 RX5 yX5_at wsX5_at) := goodIn_app (goodIn_of _ (by decide +kernel)) ggX5_notNought_X5_at
theorem dX5_notNought_0 : decode cX5_notNought 0 = .ok (.iconst 0, 1) := by decide +kernel
theorem dX5_notNought_1 : decode cX5_notNought 1 = .ok (.istore_n 2, 1) := by decide +kernel
theorem dX5_notNought_2 : decode cX5_notNought 2 = .ok (.iconst 0, 1) := by decide +kernel
theorem dX5_notNought_3 : decode cX5_notNought 3 = .ok (.istore_n 3, 1) := by decide +kernel
theorem dX5_notNought_4 : decode cX5_notNought 4 = .ok (.iload_n 3, 1) := by decide +kernel
theorem dX5_notNought_5 : decode cX5_notNought 5 = .ok (.aload_n 0, 1) := by decide +kernel
theorem dX5_notNought_6 : decode cX5_notNought 6 = .ok (.iload_n 1, 1) := by decide +kernel
theorem dX5_notNought_7 : decode cX5_notNought 7 = .ok (.invokevirtual 40, 3) := by decide +kernel
theorem dX5_notNought_10 : decode cX5_notNought 10 = .ok (.if_icmp .ge 26, 3) := by decide +kernel
theorem dX5_notNought_13 : decode cX5_notNought 13 = .ok (.iload_n 2, 1) := by decide +kernel
theorem dX5_notNought_14 : decode cX5_notNought 14 = .ok (.aload_n 0, 1) := by decide +kernel
theorem dX5_notNought_15 : decode cX5_notNought 15 = .ok (.iload_n 1, 1) := by decide +kernel
theorem dX5_notNought_16 : decode cX5_notNought 16 = .ok (.iload_n 3, 1) := by decide +kernel
theorem dX5_notNought_17 : decode cX5_notNought 17 = .ok (.invokevirtual 65, 3) := by decide +kernel
theorem dX5_notNought_20 : decode cX5_notNought 20 = .ok (.ifCond .ne 7, 3) := by decide +kernel
theorem dX5_notNought_23 : decode cX5_notNought 23 = .ok (.iconst 0, 1) := by decide +kernel
theorem dX5_notNought_24 : decode cX5_notNought 24 = .ok (.goto 4, 3) := by decide +kernel
theorem dX5_notNought_27 : decode cX5_notNought 27 = .ok (.iconst 1, 1) := by decide +kernel
theorem dX5_notNought_28 : decode cX5_notNought 28 = .ok (.iadd, 1) := by decide +kernel
theorem dX5_notNought_29 : decode cX5_notNought 29 = .ok (.istore_n 2, 1) := by decide +kernel
theorem dX5_notNought_30 : decode cX5_notNought 30 = .ok (.iinc 3 1, 3) := by decide +kernel
theorem dX5_notNought_33 : decode cX5_notNought 33 = .ok (.goto (-29), 3) := by decide +kernel
theorem dX5_notNought_36 : decode cX5_notNought 36 = .ok (.iload_n 2, 1) := by decide +kernel
theorem dX5_notNought_37 : decode cX5_notNought 37 = .ok (.ireturn, 1) := by decide +kernel
set_option maxRecDepth 20000 in
theorem ggX5_sumOf_X5_lengthOf : GoodIn wsX5_sumOf wsX5_lengthOf := goodIn_r _ [5, 6, 11, 12, 13, 14, 15, 16, 17, 18, 19, 20, 21] (by decide +kernel) (by decide +kernel)
set_option maxRecDepth 20000 in
theorem gX5_sumOf_X5_lengthOf : GoodIn wsX5_sumOf (wsV RX5 40 RX5 yX5_lengthOf wsX5_lengthOf) := goodIn_app (goodIn_of _ (by decide +kernel)) ggX5_sumOf_X5_lengthOf
set_option maxRecDepth 20000 in
theorem ggX5_sumOf_X5_at : GoodIn wsX5_sumOf wsX5_at := goodIn_r _ [10, 6, 1, 2, 3, 4, 5, 11, 12, 13, 14, 15, 16, 17, 18, 19, 20, 21] (by decide +kernel) (by decide +kernel)
set_option maxRecDepth 20000 in
theorem gX5_sumOf_X5_at : GoodIn wsX5_sumOf (wsV RX5 65 RX5 yX5_at wsX5_at) := goodIn_app (goodIn_of _ (by decide +kernel)) ggX5_sumOf_X5_at
theorem dX5_sumOf_0 : decode cX5_sumOf 0 = .ok (.iconst 0, 1) := by decide +kernel
theorem dX5_sumOf_1 : decode cX5_sumOf 1 = .ok (.istore_n 2, 1) := by decide +kernel
theorem dX5_sumOf_2 : decode cX5_sumOf 2 = .ok (.iconst 0, 1) := by decide +kernel
theorem dX5_sumOf_3 : decode cX5_sumOf 3 = .ok (.istore_n 3, 1) := by decide +kernel
theorem dX5_sumOf_4 : decode cX5_sumOf 4 = .ok (.iload_n 3, 1) := by decide +kernel
theorem dX5_sumOf_5 : decode cX5_sumOf 5 = .ok (.aload_n 0, 1) := by decide +kernel
theorem dX5_sumOf_6 : decode cX5_sumOf 6 = .ok (.iload_n 1, 1) := by decide +kernel
theorem dX5_sumOf_7 : decode cX5_sumOf 7 = .ok (.invokevirtual 40, 3) := by decide +kernel
theorem dX5_sumOf_10 : decode cX5_sumOf 10 = .ok (.if_icmp .ge 18, 3) := by decide +kernel
theorem dX5_sumOf_13 : decode cX5_sumOf 13 = .ok (.iload_n 2, 1) := by decide +kernel
theorem dX5_sumOf_14 : decode cX5_sumOf 14 = .ok (.aload_n 0, 1) := by decide +kernel
theorem dX5_sumOf_15 : decode cX5_sumOf 15 = .ok (.iload_n 1, 1) := by decide +kernel
theorem dX5_sumOf_16 : decode cX5_sumOf 16 = .ok (.iload_n 3, 1) := by decide +kernel
theorem dX5_sumOf_17 : decode cX5_sumOf 17 = .ok (.invokevirtual 65, 3) := by decide +kernel
theorem dX5_sumOf_20 : decode cX5_sumOf 20 = .ok (.iadd, 1) := by decide +kernel
theorem dX5_sumOf_21 : decode cX5_sumOf 21 = .ok (.istore_n 2, 1) := by decide +kernel
theorem dX5_sumOf_22 : decode cX5_sumOf 22 = .ok (.iinc 3 1, 3) := by decide +kernel
theorem dX5_sumOf_25 : decode cX5_sumOf 25 = .ok (.goto (-21), 3) := by decide +kernel
theorem dX5_sumOf_28 : decode cX5_sumOf 28 = .ok (.iload_n 2, 1) := by decide +kernel
theorem dX5_sumOf_29 : decode cX5_sumOf 29 = .ok (.ireturn, 1) := by decide +kernel
set_option maxRecDepth 20000 in
theorem ggX5_noughts_X5_valueAt : GoodIn wsX5_noughts wsX5_valueAt := goodIn_r _ [5, 6, 7, 8, 4, 9, 10, 11, 12, 13, 14, 15, 16, 17, 18, 19, 20, 21, 22, 23, 24, 25] (by decide +kernel) (by decide +kernel)
set_option maxRecDepth 20000 in
theorem gX5_noughts_X5_valueAt : GoodIn wsX5_noughts (wsV RX5 111 RX5 yX5_valueAt wsX5_valueAt) := goodIn_app (goodIn_of _ (by decide +kernel)) ggX5_noughts_X5_valueAt
theorem dX5_noughts_0 : decode cX5_noughts 0 = .ok (.iconst 0, 1) := by decide +kernel
theorem dX5_noughts_1 : decode cX5_noughts 1 = .ok (.istore_n 3, 1) := by decide +kernel
theorem dX5_noughts_2 : decode cX5_noughts 2 = .ok (.bipush (-6), 2) := by decide +kernel
theorem dX5_noughts_4 : decode cX5_noughts 4 = .ok (.istore 4, 2) := by decide +kernel
theorem dX5_noughts_6 : decode cX5_noughts 6 = .ok (.sipush 256, 3) := by decide +kernel
theorem dX5_noughts_9 : decode cX5_noughts 9 = .ok (.istore 5, 2) := by decide +kernel
theorem dX5_noughts_11 : decode cX5_noughts 11 = .ok (.iload 5, 2) := by decide +kernel
theorem dX5_noughts_13 : decode cX5_noughts 13 = .ok (.ifCond .lt 53, 3) := by decide +kernel
theorem dX5_noughts_16 : decode cX5_noughts 16 = .ok (.aload_n 0, 1) := by decide +kernel
theorem dX5_noughts_17 : decode cX5_noughts 17 = .ok (.iload_n 1, 1) := by decide +kernel
theorem dX5_noughts_18 : decode cX5_noughts 18 = .ok (.iload 5, 2) := by decide +kernel
theorem dX5_noughts_20 : decode cX5_noughts 20 = .ok (.invokevirtual 111, 3) := by decide +kernel
theorem dX5_noughts_23 : decode cX5_noughts 23 = .ok (.ifCond .ne 7, 3) := by decide +kernel
theorem dX5_noughts_26 : decode cX5_noughts 26 = .ok (.iconst 1, 1) := by decide +kernel
theorem dX5_noughts_27 : decode cX5_noughts 27 = .ok (.goto 4, 3) := by decide +kernel
theorem dX5_noughts_30 : decode cX5_noughts 30 = .ok (.iconst 0, 1) := by decide +kernel
theorem dX5_noughts_31 : decode cX5_noughts 31 = .ok (.istore 6, 2) := by decide +kernel
theorem dX5_noughts_33 : decode cX5_noughts 33 = .ok (.iload_n 3, 1) := by decide +kernel
theorem dX5_noughts_34 : decode cX5_noughts 34 = .ok (.iload 6, 2) := by decide +kernel
theorem dX5_noughts_36 : decode cX5_noughts 36 = .ok (.ifCond .eq 7, 3) := by decide +kernel
theorem dX5_noughts_39 : decode cX5_noughts 39 = .ok (.iconst 1, 1) := by decide +kernel
theorem dX5_noughts_40 : decode cX5_noughts 40 = .ok (.goto 4, 3) := by decide +kernel
theorem dX5_noughts_43 : decode cX5_noughts 43 = .ok (.iconst 0, 1) := by decide +kernel
theorem dX5_noughts_44 : decode cX5_noughts 44 = .ok (.iadd, 1) := by decide +kernel
theorem dX5_noughts_45 : decode cX5_noughts 45 = .ok (.istore_n 3, 1) := by decide +kernel
theorem dX5_noughts_46 : decode cX5_noughts 46 = .ok (.iload 6, 2) := by decide +kernel
theorem dX5_noughts_48 : decode cX5_noughts 48 = .ok (.ifCond .eq 8, 3) := by decide +kernel
theorem dX5_noughts_51 : decode cX5_noughts 51 = .ok (.iload 5, 2) := by decide +kernel
theorem dX5_noughts_53 : decode cX5_noughts 53 = .ok (.goto 5, 3) := by decide +kernel
theorem dX5_noughts_56 : decode cX5_noughts 56 = .ok (.iload 4, 2) := by decide +kernel
theorem dX5_noughts_58 : decode cX5_noughts 58 = .ok (.istore 4, 2) := by decide +kernel
theorem dX5_noughts_60 : decode cX5_noughts 60 = .ok (.iinc 5 (-1), 3) := by decide +kernel
theorem dX5_noughts_63 : decode cX5_noughts 63 = .ok (.goto (-52), 3) := by decide +kernel
theorem dX5_noughts_66 : decode cX5_noughts 66 = .ok (.iload_n 2, 1) := by decide +kernel
theorem dX5_noughts_67 : decode cX5_noughts 67 = .ok (.ifCond .eq 8, 3) := by decide +kernel
theorem dX5_noughts_70 : decode cX5_noughts 70 = .ok (.iload 4, 2) := by decide +kernel
theorem dX5_noughts_72 : decode cX5_noughts 72 = .ok (.goto 4, 3) := by decide +kernel
theorem dX5_noughts_75 : decode cX5_noughts 75 = .ok (.iload_n 3, 1) := by decide +kernel
theorem dX5_noughts_76 : decode cX5_noughts 76 = .ok (.ireturn, 1) := by decide +kernel
set_option maxRecDepth 20000 in
theorem ggX5_of_X5_isRegister : GoodIn wsX5_of wsX5_isRegister := goodIn_r _ [4, 5, 6, 3, 7] (by decide +kernel) (by decide +kernel)
set_option maxRecDepth 20000 in
theorem gX5_of_X5_isRegister : GoodIn wsX5_of (va_wsS RX5 68 yX5_isRegister wsX5_isRegister) := goodIn_app (goodIn_of _ (by decide +kernel)) ggX5_of_X5_isRegister
set_option maxRecDepth 20000 in
theorem ggX5_of_X5_lengthOf : GoodIn wsX5_of wsX5_lengthOf := goodIn_r _ [11, 12, 37, 38, 39, 40, 41, 42, 43, 44, 45, 46, 47] (by decide +kernel) (by decide +kernel)
set_option maxRecDepth 20000 in
theorem gX5_of_X5_lengthOf : GoodIn wsX5_of (wsV RX5 40 RX5 yX5_lengthOf wsX5_lengthOf) := goodIn_app (goodIn_of _ (by decide +kernel)) ggX5_of_X5_lengthOf
set_option maxRecDepth 20000 in
theorem ggX5_of_X5_degreeOf : GoodIn wsX5_of wsX5_degreeOf := goodIn_r _ [16, 8, 9, 10, 3, 11, 12, 17, 18, 19, 20, 37, 38, 39, 40, 41, 42, 43, 44, 45, 46, 47] (by decide +kernel) (by decide +kernel)
set_option maxRecDepth 20000 in
theorem gX5_of_X5_degreeOf : GoodIn wsX5_of (wsV RX5 94 RX5 yX5_degreeOf wsX5_degreeOf) := goodIn_app (goodIn_of _ (by decide +kernel)) ggX5_of_X5_degreeOf
set_option maxRecDepth 20000 in
theorem ggX5_of_X5_notNought : GoodIn wsX5_of wsX5_notNought := goodIn_r _ [24, 8, 9, 10, 3, 11, 12, 17, 18, 19, 20, 37, 38, 39, 40, 41, 42, 43, 44, 45, 46, 47] (by decide +kernel) (by decide +kernel)
set_option maxRecDepth 20000 in
theorem gX5_of_X5_notNought : GoodIn wsX5_of (wsV RX5 114 RX5 yX5_notNought wsX5_notNought) := goodIn_app (goodIn_of _ (by decide +kernel)) ggX5_of_X5_notNought
set_option maxRecDepth 20000 in
theorem ggX5_of_X5_sumOf : GoodIn wsX5_of wsX5_sumOf := goodIn_r _ [28, 8, 9, 10, 3, 11, 12, 17, 18, 19, 20, 37, 38, 39, 40, 41, 42, 43, 44, 45, 46, 47] (by decide +kernel) (by decide +kernel)
set_option maxRecDepth 20000 in
theorem gX5_of_X5_sumOf : GoodIn wsX5_of (wsV RX5 117 RX5 yX5_sumOf wsX5_sumOf) := goodIn_app (goodIn_of _ (by decide +kernel)) ggX5_of_X5_sumOf
set_option maxRecDepth 20000 in
theorem ggX5_of_X5_noughts : GoodIn wsX5_of wsX5_noughts := goodIn_r _ [32, 33, 34, 35, 3, 36, 8, 9, 10, 11, 12, 17, 18, 19, 20, 37, 38, 39, 40, 41, 42, 43, 44, 45, 46, 47] (by decide +kernel) (by decide +kernel)
set_option maxRecDepth 20000 in
theorem gX5_of_X5_noughts : GoodIn wsX5_of (wsV RX5 120 RX5 yX5_noughts wsX5_noughts) := goodIn_app (goodIn_of _ (by decide +kernel)) ggX5_of_X5_noughts
theorem dX5_of_0 : decode cX5_of 0 = .ok (.iload_n 1, 1) := by decide +kernel
theorem dX5_of_1 : decode cX5_of 1 = .ok (.invokestatic 68, 3) := by decide +kernel
theorem dX5_of_4 : decode cX5_of 4 = .ok (.ifCond .ne 5, 3) := by decide +kernel
theorem dX5_of_7 : decode cX5_of 7 = .ok (.iconst (-1), 1) := by decide +kernel
theorem dX5_of_8 : decode cX5_of 8 = .ok (.ireturn, 1) := by decide +kernel
theorem dX5_of_9 : decode cX5_of 9 = .ok (.iload_n 2, 1) := by decide +kernel
theorem dX5_of_10 : decode cX5_of 10 = .ok (.tableswitch 76 0 5 #[38, 44, 50, 56, 62, 69], 38) := by decide +kernel
theorem dX5_of_48 : decode cX5_of 48 = .ok (.aload_n 0, 1) := by decide +kernel
theorem dX5_of_49 : decode cX5_of 49 = .ok (.iload_n 1, 1) := by decide +kernel
theorem dX5_of_50 : decode cX5_of 50 = .ok (.invokevirtual 40, 3) := by decide +kernel
theorem dX5_of_53 : decode cX5_of 53 = .ok (.ireturn, 1) := by decide +kernel
theorem dX5_of_54 : decode cX5_of 54 = .ok (.aload_n 0, 1) := by decide +kernel
theorem dX5_of_55 : decode cX5_of 55 = .ok (.iload_n 1, 1) := by decide +kernel
theorem dX5_of_56 : decode cX5_of 56 = .ok (.invokevirtual 94, 3) := by decide +kernel
theorem dX5_of_59 : decode cX5_of 59 = .ok (.ireturn, 1) := by decide +kernel
theorem dX5_of_60 : decode cX5_of 60 = .ok (.aload_n 0, 1) := by decide +kernel
theorem dX5_of_61 : decode cX5_of 61 = .ok (.iload_n 1, 1) := by decide +kernel
theorem dX5_of_62 : decode cX5_of 62 = .ok (.invokevirtual 114, 3) := by decide +kernel
theorem dX5_of_65 : decode cX5_of 65 = .ok (.ireturn, 1) := by decide +kernel
theorem dX5_of_66 : decode cX5_of 66 = .ok (.aload_n 0, 1) := by decide +kernel
theorem dX5_of_67 : decode cX5_of 67 = .ok (.iload_n 1, 1) := by decide +kernel
theorem dX5_of_68 : decode cX5_of 68 = .ok (.invokevirtual 117, 3) := by decide +kernel
theorem dX5_of_71 : decode cX5_of 71 = .ok (.ireturn, 1) := by decide +kernel
theorem dX5_of_72 : decode cX5_of 72 = .ok (.aload_n 0, 1) := by decide +kernel
theorem dX5_of_73 : decode cX5_of 73 = .ok (.iload_n 1, 1) := by decide +kernel
theorem dX5_of_74 : decode cX5_of 74 = .ok (.iconst 0, 1) := by decide +kernel
theorem dX5_of_75 : decode cX5_of 75 = .ok (.invokevirtual 120, 3) := by decide +kernel
theorem dX5_of_78 : decode cX5_of 78 = .ok (.ireturn, 1) := by decide +kernel
theorem dX5_of_79 : decode cX5_of 79 = .ok (.aload_n 0, 1) := by decide +kernel
theorem dX5_of_80 : decode cX5_of 80 = .ok (.iload_n 1, 1) := by decide +kernel
theorem dX5_of_81 : decode cX5_of 81 = .ok (.iconst 1, 1) := by decide +kernel
theorem dX5_of_82 : decode cX5_of 82 = .ok (.invokevirtual 120, 3) := by decide +kernel
theorem dX5_of_85 : decode cX5_of 85 = .ok (.ireturn, 1) := by decide +kernel
theorem dX5_of_86 : decode cX5_of 86 = .ok (.bipush (-2), 2) := by decide +kernel
theorem dX5_of_88 : decode cX5_of 88 = .ok (.ireturn, 1) := by decide +kernel
set_option maxRecDepth 20000 in
theorem ggX5_value_X5_isRegister : GoodIn wsX5_value wsX5_isRegister := goodIn_r _ [4, 5, 6, 3, 7] (by decide +kernel) (by decide +kernel)
set_option maxRecDepth 20000 in
theorem gX5_value_X5_isRegister : GoodIn wsX5_value (va_wsS RX5 68 yX5_isRegister wsX5_isRegister) := goodIn_app (goodIn_of _ (by decide +kernel)) ggX5_value_X5_isRegister
set_option maxRecDepth 20000 in
theorem ggX5_value_X5_isNumber : GoodIn wsX5_value wsX5_isNumber := goodIn_r _ [10, 5, 6, 3, 7] (by decide +kernel) (by decide +kernel)
set_option maxRecDepth 20000 in
theorem gX5_value_X5_isNumber : GoodIn wsX5_value (va_wsS RX5 72 yX5_isNumber wsX5_isNumber) := goodIn_app (goodIn_of _ (by decide +kernel)) ggX5_value_X5_isNumber
set_option maxRecDepth 20000 in
theorem ggX5_value_X5_valueAt : GoodIn wsX5_value wsX5_valueAt := goodIn_r _ [14, 15, 16, 17, 3, 18, 19, 20, 21, 22, 23, 24, 25, 26, 27, 28, 29, 30, 31, 32, 33, 34] (by decide +kernel) (by decide +kernel)
set_option maxRecDepth 20000 in
theorem gX5_value_X5_valueAt : GoodIn wsX5_value (wsV RX5 111 RX5 yX5_valueAt wsX5_valueAt) := goodIn_app (goodIn_of _ (by decide +kernel)) ggX5_value_X5_valueAt
theorem dX5_value_0 : decode cX5_value 0 = .ok (.iload_n 1, 1) := by decide +kernel
theorem dX5_value_1 : decode cX5_value 1 = .ok (.invokestatic 68, 3) := by decide +kernel
theorem dX5_value_4 : decode cX5_value 4 = .ok (.ifCond .ne 5, 3) := by decide +kernel
theorem dX5_value_7 : decode cX5_value 7 = .ok (.iconst (-1), 1) := by decide +kernel
theorem dX5_value_8 : decode cX5_value 8 = .ok (.ireturn, 1) := by decide +kernel
theorem dX5_value_9 : decode cX5_value 9 = .ok (.iload_n 2, 1) := by decide +kernel
theorem dX5_value_10 : decode cX5_value 10 = .ok (.invokestatic 72, 3) := by decide +kernel
theorem dX5_value_13 : decode cX5_value 13 = .ok (.ifCond .eq 12, 3) := by decide +kernel
theorem dX5_value_16 : decode cX5_value 16 = .ok (.aload_n 0, 1) := by decide +kernel
theorem dX5_value_17 : decode cX5_value 17 = .ok (.iload_n 1, 1) := by decide +kernel
theorem dX5_value_18 : decode cX5_value 18 = .ok (.iload_n 2, 1) := by decide +kernel
theorem dX5_value_19 : decode cX5_value 19 = .ok (.invokevirtual 111, 3) := by decide +kernel
theorem dX5_value_22 : decode cX5_value 22 = .ok (.goto 5, 3) := by decide +kernel
theorem dX5_value_25 : decode cX5_value 25 = .ok (.bipush (-2), 2) := by decide +kernel
theorem dX5_value_27 : decode cX5_value 27 = .ok (.ireturn, 1) := by decide +kernel
set_option maxRecDepth 20000 in
theorem ggX5_turningPoint_X5_isSize : GoodIn wsX5_turningPoint wsX5_isSize := goodIn_r _ [4] (by decide +kernel) (by decide +kernel)
set_option maxRecDepth 20000 in
theorem gX5_turningPoint_X5_isSize : GoodIn wsX5_turningPoint (va_wsS RX5 105 yX5_isSize wsX5_isSize) := goodIn_app (goodIn_of _ (by decide +kernel)) ggX5_turningPoint_X5_isSize
set_option maxRecDepth 20000 in
theorem ggX5_turningPoint_X5_in : GoodIn wsX5_turningPoint wsX5_in := goodIn_r _ [7] (by decide +kernel) (by decide +kernel)
set_option maxRecDepth 20000 in
theorem gX5_turningPoint_X5_in : GoodIn wsX5_turningPoint (va_wsS RX5 36 yX5_in wsX5_in) := goodIn_app (goodIn_of _ (by decide +kernel)) ggX5_turningPoint_X5_in
set_option maxRecDepth 20000 in
theorem ggX5_turningPoint_X5_pointOf : GoodIn wsX5_turningPoint wsX5_pointOf := goodIn_r _ [10, 11, 12, 3, 13, 14, 15, 16] (by decide +kernel) (by decide +kernel)
set_option maxRecDepth 20000 in
theorem gX5_turningPoint_X5_pointOf : GoodIn wsX5_turningPoint (va_wsS RX5 108 yX5_pointOf wsX5_pointOf) := goodIn_app (goodIn_of _ (by decide +kernel)) ggX5_turningPoint_X5_pointOf
set_option maxRecDepth 20000 in
theorem ggX5_turningPoint_X5_raised : GoodIn wsX5_turningPoint wsX5_raised := goodIn_r _ [13, 14, 15, 3, 16] (by decide +kernel) (by decide +kernel)
set_option maxRecDepth 20000 in
theorem gX5_turningPoint_X5_raised : GoodIn wsX5_turningPoint (va_wsS RX5 59 yX5_raised wsX5_raised) := goodIn_app (goodIn_of _ (by decide +kernel)) ggX5_turningPoint_X5_raised
theorem dX5_turningPoint_0 : decode cX5_turningPoint 0 = .ok (.iload_n 1, 1) := by decide +kernel
theorem dX5_turningPoint_1 : decode cX5_turningPoint 1 = .ok (.invokestatic 105, 3) := by decide +kernel
theorem dX5_turningPoint_4 : decode cX5_turningPoint 4 = .ok (.ifCond .eq 25, 3) := by decide +kernel
theorem dX5_turningPoint_7 : decode cX5_turningPoint 7 = .ok (.iload_n 2, 1) := by decide +kernel
theorem dX5_turningPoint_8 : decode cX5_turningPoint 8 = .ok (.iconst 0, 1) := by decide +kernel
theorem dX5_turningPoint_9 : decode cX5_turningPoint 9 = .ok (.sipush 1000, 3) := by decide +kernel
theorem dX5_turningPoint_12 : decode cX5_turningPoint 12 = .ok (.invokestatic 36, 3) := by decide +kernel
theorem dX5_turningPoint_15 : decode cX5_turningPoint 15 = .ok (.ifCond .eq 14, 3) := by decide +kernel
theorem dX5_turningPoint_18 : decode cX5_turningPoint 18 = .ok (.iload_n 1, 1) := by decide +kernel
theorem dX5_turningPoint_19 : decode cX5_turningPoint 19 = .ok (.invokestatic 108, 3) := by decide +kernel
theorem dX5_turningPoint_22 : decode cX5_turningPoint 22 = .ok (.iload_n 2, 1) := by decide +kernel
theorem dX5_turningPoint_23 : decode cX5_turningPoint 23 = .ok (.invokestatic 59, 3) := by decide +kernel
theorem dX5_turningPoint_26 : decode cX5_turningPoint 26 = .ok (.goto 5, 3) := by decide +kernel
theorem dX5_turningPoint_29 : decode cX5_turningPoint 29 = .ok (.bipush (-2), 2) := by decide +kernel
theorem dX5_turningPoint_31 : decode cX5_turningPoint 31 = .ok (.ireturn, 1) := by decide +kernel
set_option maxRecDepth 20000 in
theorem ggX5_count_X5_lengths : GoodIn wsX5_count wsX5_lengths := goodIn_r _ [7, 8, 9, 10, 6, 11, 12, 13, 14, 15, 16, 17, 18, 19, 20, 21, 22, 23] (by decide +kernel) (by decide +kernel)
set_option maxRecDepth 20000 in
theorem gX5_count_X5_lengths : GoodIn wsX5_count (wsV RX5 48 RX5 yX5_lengths wsX5_lengths) := goodIn_app (goodIn_of _ (by decide +kernel)) ggX5_count_X5_lengths
theorem dX5_count_0 : decode cX5_count 0 = .ok (.iload_n 1, 1) := by decide +kernel
theorem dX5_count_1 : decode cX5_count 1 = .ok (.tableswitch 42 0 2 #[27, 32, 37], 27) := by decide +kernel
theorem dX5_count_28 : decode cX5_count 28 = .ok (.aload_n 0, 1) := by decide +kernel
theorem dX5_count_29 : decode cX5_count 29 = .ok (.invokevirtual 48, 3) := by decide +kernel
theorem dX5_count_32 : decode cX5_count 32 = .ok (.ireturn, 1) := by decide +kernel
theorem dX5_count_33 : decode cX5_count 33 = .ok (.aload_n 0, 1) := by decide +kernel
theorem dX5_count_34 : decode cX5_count 34 = .ok (.getfield 124, 3) := by decide +kernel
theorem dX5_count_37 : decode cX5_count 37 = .ok (.ireturn, 1) := by decide +kernel
theorem dX5_count_38 : decode cX5_count 38 = .ok (.aload_n 0, 1) := by decide +kernel
theorem dX5_count_39 : decode cX5_count 39 = .ok (.getfield 44, 3) := by decide +kernel
theorem dX5_count_42 : decode cX5_count 42 = .ok (.ireturn, 1) := by decide +kernel
theorem dX5_count_43 : decode cX5_count 43 = .ok (.bipush (-2), 2) := by decide +kernel
theorem dX5_count_45 : decode cX5_count 45 = .ok (.ireturn, 1) := by decide +kernel
set_option maxRecDepth 20000 in
theorem ggX5_places_X5_lengthOf : GoodIn wsX5_places wsX5_lengthOf := goodIn_r _ [5, 6, 7, 8, 9, 10, 11, 12, 13, 14, 15, 16, 17] (by decide +kernel) (by decide +kernel)
set_option maxRecDepth 20000 in
theorem gX5_places_X5_lengthOf : GoodIn wsX5_places (wsV RX5 40 RX5 yX5_lengthOf wsX5_lengthOf) := goodIn_app (goodIn_of _ (by decide +kernel)) ggX5_places_X5_lengthOf
theorem dX5_places_0 : decode cX5_places 0 = .ok (.aload_n 0, 1) := by decide +kernel
theorem dX5_places_1 : decode cX5_places 1 = .ok (.iload_n 1, 1) := by decide +kernel
theorem dX5_places_2 : decode cX5_places 2 = .ok (.invokevirtual 40, 3) := by decide +kernel
theorem dX5_places_5 : decode cX5_places 5 = .ok (.aload_n 0, 1) := by decide +kernel
theorem dX5_places_6 : decode cX5_places 6 = .ok (.iload_n 2, 1) := by decide +kernel
theorem dX5_places_7 : decode cX5_places 7 = .ok (.invokevirtual 40, 3) := by decide +kernel
theorem dX5_places_10 : decode cX5_places 10 = .ok (.isub, 1) := by decide +kernel
theorem dX5_places_11 : decode cX5_places 11 = .ok (.iconst 1, 1) := by decide +kernel
theorem dX5_places_12 : decode cX5_places 12 = .ok (.iadd, 1) := by decide +kernel
theorem dX5_places_13 : decode cX5_places 13 = .ok (.istore_n 3, 1) := by decide +kernel
theorem dX5_places_14 : decode cX5_places 14 = .ok (.iload_n 3, 1) := by decide +kernel
theorem dX5_places_15 : decode cX5_places 15 = .ok (.ifCond .ge 7, 3) := by decide +kernel
theorem dX5_places_18 : decode cX5_places 18 = .ok (.iconst 0, 1) := by decide +kernel
theorem dX5_places_19 : decode cX5_places 19 = .ok (.goto 4, 3) := by decide +kernel
theorem dX5_places_22 : decode cX5_places 22 = .ok (.iload_n 3, 1) := by decide +kernel
theorem dX5_places_23 : decode cX5_places 23 = .ok (.ireturn, 1) := by decide +kernel
set_option maxRecDepth 20000 in
theorem ggX5_fitsAt_X5_lengthOf : GoodIn wsX5_fitsAt wsX5_lengthOf := goodIn_r _ [5, 6, 11, 12, 13, 14, 15, 16, 17, 18, 19, 20, 21] (by decide +kernel) (by decide +kernel)
set_option maxRecDepth 20000 in
theorem gX5_fitsAt_X5_lengthOf : GoodIn wsX5_fitsAt (wsV RX5 40 RX5 yX5_lengthOf wsX5_lengthOf) := goodIn_app (goodIn_of _ (by decide +kernel)) ggX5_fitsAt_X5_lengthOf
set_option maxRecDepth 20000 in
theorem ggX5_fitsAt_X5_at : GoodIn wsX5_fitsAt wsX5_at := goodIn_r _ [10, 6, 1, 2, 3, 4, 5, 11, 12, 13, 14, 15, 16, 17, 18, 19, 20, 21] (by decide +kernel) (by decide +kernel)
set_option maxRecDepth 20000 in
theorem gX5_fitsAt_X5_at : GoodIn wsX5_fitsAt (wsV RX5 65 RX5 yX5_at wsX5_at) := goodIn_app (goodIn_of _ (by decide +kernel)) ggX5_fitsAt_X5_at
theorem dX5_fitsAt_0 : decode cX5_fitsAt 0 = .ok (.iconst 1, 1) := by decide +kernel
theorem dX5_fitsAt_1 : decode cX5_fitsAt 1 = .ok (.istore 4, 2) := by decide +kernel
theorem dX5_fitsAt_3 : decode cX5_fitsAt 3 = .ok (.iconst 0, 1) := by decide +kernel
theorem dX5_fitsAt_4 : decode cX5_fitsAt 4 = .ok (.istore 5, 2) := by decide +kernel
theorem dX5_fitsAt_6 : decode cX5_fitsAt 6 = .ok (.iload 5, 2) := by decide +kernel
end
section
theorem dX5_fitsAt_8 : decode cX5_fitsAt 8 = .ok (.aload_n 0, 1) := by decide +kernel
theorem dX5_fitsAt_9 : decode cX5_fitsAt 9 = .ok (.iload_n 2, 1) := by decide +kernel
theorem dX5_fitsAt_10 : decode cX5_fitsAt 10 = .ok (.invokevirtual 40, 3) := by decide +kernel
theorem dX5_fitsAt_13 : decode cX5_fitsAt 13 = .ok (.if_icmp .ge 58, 3) := by decide +kernel
theorem dX5_fitsAt_16 : decode cX5_fitsAt 16 = .ok (.aload_n 0, 1) := by decide +kernel
theorem dX5_fitsAt_17 : decode cX5_fitsAt 17 = .ok (.iload_n 2, 1) := by decide +kernel
theorem dX5_fitsAt_18 : decode cX5_fitsAt 18 = .ok (.iload 5, 2) := by decide +kernel
theorem dX5_fitsAt_20 : decode cX5_fitsAt 20 = .ok (.invokevirtual 65, 3) := by decide +kernel
theorem dX5_fitsAt_23 : decode cX5_fitsAt 23 = .ok (.istore 6, 2) := by decide +kernel
theorem dX5_fitsAt_25 : decode cX5_fitsAt 25 = .ok (.aload_n 0, 1) := by decide +kernel
theorem dX5_fitsAt_26 : decode cX5_fitsAt 26 = .ok (.iload_n 1, 1) := by decide +kernel
theorem dX5_fitsAt_27 : decode cX5_fitsAt 27 = .ok (.iload_n 3, 1) := by decide +kernel
theorem dX5_fitsAt_28 : decode cX5_fitsAt 28 = .ok (.iload 5, 2) := by decide +kernel
theorem dX5_fitsAt_30 : decode cX5_fitsAt 30 = .ok (.iadd, 1) := by decide +kernel
theorem dX5_fitsAt_31 : decode cX5_fitsAt 31 = .ok (.invokevirtual 65, 3) := by decide +kernel
theorem dX5_fitsAt_34 : decode cX5_fitsAt 34 = .ok (.istore 7, 2) := by decide +kernel
theorem dX5_fitsAt_36 : decode cX5_fitsAt 36 = .ok (.iload 4, 2) := by decide +kernel
theorem dX5_fitsAt_38 : decode cX5_fitsAt 38 = .ok (.ifCond .eq 24, 3) := by decide +kernel
theorem dX5_fitsAt_41 : decode cX5_fitsAt 41 = .ok (.iload 6, 2) := by decide +kernel
theorem dX5_fitsAt_43 : decode cX5_fitsAt 43 = .ok (.ifCond .eq 15, 3) := by decide +kernel
theorem dX5_fitsAt_46 : decode cX5_fitsAt 46 = .ok (.iload 7, 2) := by decide +kernel
theorem dX5_fitsAt_48 : decode cX5_fitsAt 48 = .ok (.ifCond .eq 10, 3) := by decide +kernel
theorem dX5_fitsAt_51 : decode cX5_fitsAt 51 = .ok (.iload 6, 2) := by decide +kernel
theorem dX5_fitsAt_53 : decode cX5_fitsAt 53 = .ok (.iload 7, 2) := by decide +kernel
theorem dX5_fitsAt_55 : decode cX5_fitsAt 55 = .ok (.if_icmp .ne 7, 3) := by decide +kernel
theorem dX5_fitsAt_58 : decode cX5_fitsAt 58 = .ok (.iconst 1, 1) := by decide +kernel
theorem dX5_fitsAt_59 : decode cX5_fitsAt 59 = .ok (.goto 4, 3) := by decide +kernel
theorem dX5_fitsAt_62 : decode cX5_fitsAt 62 = .ok (.iconst 0, 1) := by decide +kernel
theorem dX5_fitsAt_63 : decode cX5_fitsAt 63 = .ok (.istore 4, 2) := by decide +kernel
theorem dX5_fitsAt_65 : decode cX5_fitsAt 65 = .ok (.iinc 5 1, 3) := by decide +kernel
theorem dX5_fitsAt_68 : decode cX5_fitsAt 68 = .ok (.goto (-62), 3) := by decide +kernel
theorem dX5_fitsAt_71 : decode cX5_fitsAt 71 = .ok (.iload 4, 2) := by decide +kernel
theorem dX5_fitsAt_73 : decode cX5_fitsAt 73 = .ok (.ireturn, 1) := by decide +kernel
set_option maxRecDepth 20000 in
theorem ggX5_sumAt_X5_lengthOf : GoodIn wsX5_sumAt wsX5_lengthOf := goodIn_r _ [5, 6, 17, 18, 19, 20, 21, 22, 23, 24, 25, 26, 27] (by decide +kernel) (by decide +kernel)
set_option maxRecDepth 20000 in
theorem gX5_sumAt_X5_lengthOf : GoodIn wsX5_sumAt (wsV RX5 40 RX5 yX5_lengthOf wsX5_lengthOf) := goodIn_app (goodIn_of _ (by decide +kernel)) ggX5_sumAt_X5_lengthOf
set_option maxRecDepth 20000 in
theorem ggX5_sumAt_X5_at : GoodIn wsX5_sumAt wsX5_at := goodIn_r _ [10, 6, 1, 2, 3, 4, 5, 17, 18, 19, 20, 21, 22, 23, 24, 25, 26, 27] (by decide +kernel) (by decide +kernel)
set_option maxRecDepth 20000 in
theorem gX5_sumAt_X5_at : GoodIn wsX5_sumAt (wsV RX5 65 RX5 yX5_at wsX5_at) := goodIn_app (goodIn_of _ (by decide +kernel)) ggX5_sumAt_X5_at
set_option maxRecDepth 20000 in
theorem ggX5_sumAt_X5_less : GoodIn wsX5_sumAt wsX5_less := goodIn_r _ [13] (by decide +kernel) (by decide +kernel)
set_option maxRecDepth 20000 in
theorem gX5_sumAt_X5_less : GoodIn wsX5_sumAt (va_wsS RX5 91 yX5_less wsX5_less) := goodIn_app (goodIn_of _ (by decide +kernel)) ggX5_sumAt_X5_less
set_option maxRecDepth 20000 in
theorem ggX5_sumAt_X5_times : GoodIn wsX5_sumAt wsX5_times := goodIn_r _ [16] (by decide +kernel) (by decide +kernel)
set_option maxRecDepth 20000 in
theorem gX5_sumAt_X5_times : GoodIn wsX5_sumAt (va_wsS RX5 55 yX5_times wsX5_times) := goodIn_app (goodIn_of _ (by decide +kernel)) ggX5_sumAt_X5_times
theorem dX5_sumAt_0 : decode cX5_sumAt 0 = .ok (.iconst 0, 1) := by decide +kernel
theorem dX5_sumAt_1 : decode cX5_sumAt 1 = .ok (.istore 4, 2) := by decide +kernel
theorem dX5_sumAt_3 : decode cX5_sumAt 3 = .ok (.iconst 0, 1) := by decide +kernel
theorem dX5_sumAt_4 : decode cX5_sumAt 4 = .ok (.istore 5, 2) := by decide +kernel
theorem dX5_sumAt_6 : decode cX5_sumAt 6 = .ok (.iload 5, 2) := by decide +kernel
theorem dX5_sumAt_8 : decode cX5_sumAt 8 = .ok (.aload_n 0, 1) := by decide +kernel
theorem dX5_sumAt_9 : decode cX5_sumAt 9 = .ok (.iload_n 2, 1) := by decide +kernel
theorem dX5_sumAt_10 : decode cX5_sumAt 10 = .ok (.invokevirtual 40, 3) := by decide +kernel
theorem dX5_sumAt_13 : decode cX5_sumAt 13 = .ok (.if_icmp .ge 60, 3) := by decide +kernel
theorem dX5_sumAt_16 : decode cX5_sumAt 16 = .ok (.aload_n 0, 1) := by decide +kernel
theorem dX5_sumAt_17 : decode cX5_sumAt 17 = .ok (.iload_n 2, 1) := by decide +kernel
theorem dX5_sumAt_18 : decode cX5_sumAt 18 = .ok (.iload 5, 2) := by decide +kernel
theorem dX5_sumAt_20 : decode cX5_sumAt 20 = .ok (.invokevirtual 65, 3) := by decide +kernel
theorem dX5_sumAt_23 : decode cX5_sumAt 23 = .ok (.istore 6, 2) := by decide +kernel
theorem dX5_sumAt_25 : decode cX5_sumAt 25 = .ok (.aload_n 0, 1) := by decide +kernel
theorem dX5_sumAt_26 : decode cX5_sumAt 26 = .ok (.iload_n 1, 1) := by decide +kernel
theorem dX5_sumAt_27 : decode cX5_sumAt 27 = .ok (.iload_n 3, 1) := by decide +kernel
theorem dX5_sumAt_28 : decode cX5_sumAt 28 = .ok (.iload 5, 2) := by decide +kernel
theorem dX5_sumAt_30 : decode cX5_sumAt 30 = .ok (.iadd, 1) := by decide +kernel
theorem dX5_sumAt_31 : decode cX5_sumAt 31 = .ok (.invokevirtual 65, 3) := by decide +kernel
theorem dX5_sumAt_34 : decode cX5_sumAt 34 = .ok (.istore 7, 2) := by decide +kernel
theorem dX5_sumAt_36 : decode cX5_sumAt 36 = .ok (.iload 6, 2) := by decide +kernel
theorem dX5_sumAt_38 : decode cX5_sumAt 38 = .ok (.iload 7, 2) := by decide +kernel
theorem dX5_sumAt_40 : decode cX5_sumAt 40 = .ok (.invokestatic 91, 3) := by decide +kernel
theorem dX5_sumAt_43 : decode cX5_sumAt 43 = .ok (.istore 8, 2) := by decide +kernel
theorem dX5_sumAt_45 : decode cX5_sumAt 45 = .ok (.iload 4, 2) := by decide +kernel
theorem dX5_sumAt_47 : decode cX5_sumAt 47 = .ok (.iload 6, 2) := by decide +kernel
theorem dX5_sumAt_49 : decode cX5_sumAt 49 = .ok (.iload 7, 2) := by decide +kernel
theorem dX5_sumAt_51 : decode cX5_sumAt 51 = .ok (.invokestatic 55, 3) := by decide +kernel
theorem dX5_sumAt_54 : decode cX5_sumAt 54 = .ok (.iload 8, 2) := by decide +kernel
theorem dX5_sumAt_56 : decode cX5_sumAt 56 = .ok (.iload 8, 2) := by decide +kernel
theorem dX5_sumAt_58 : decode cX5_sumAt 58 = .ok (.invokestatic 55, 3) := by decide +kernel
theorem dX5_sumAt_61 : decode cX5_sumAt 61 = .ok (.invokestatic 55, 3) := by decide +kernel
theorem dX5_sumAt_64 : decode cX5_sumAt 64 = .ok (.iadd, 1) := by decide +kernel
theorem dX5_sumAt_65 : decode cX5_sumAt 65 = .ok (.istore 4, 2) := by decide +kernel
theorem dX5_sumAt_67 : decode cX5_sumAt 67 = .ok (.iinc 5 1, 3) := by decide +kernel
theorem dX5_sumAt_70 : decode cX5_sumAt 70 = .ok (.goto (-64), 3) := by decide +kernel
theorem dX5_sumAt_73 : decode cX5_sumAt 73 = .ok (.iload 4, 2) := by decide +kernel
theorem dX5_sumAt_75 : decode cX5_sumAt 75 = .ok (.sipush 257, 3) := by decide +kernel
theorem dX5_sumAt_78 : decode cX5_sumAt 78 = .ok (.irem, 1) := by decide +kernel
theorem dX5_sumAt_79 : decode cX5_sumAt 79 = .ok (.ireturn, 1) := by decide +kernel
set_option maxRecDepth 20000 in
theorem ggX5_fits_X5_isRegister : GoodIn wsX5_fits wsX5_isRegister := goodIn_r _ [6, 7, 8, 5, 9] (by decide +kernel) (by decide +kernel)
set_option maxRecDepth 20000 in
theorem gX5_fits_X5_isRegister : GoodIn wsX5_fits (va_wsS RX5 68 yX5_isRegister wsX5_isRegister) := goodIn_app (goodIn_of _ (by decide +kernel)) ggX5_fits_X5_isRegister
set_option maxRecDepth 20000 in
theorem ggX5_fits_X5_places : GoodIn wsX5_fits wsX5_places := goodIn_r _ [13, 14, 15, 16, 5, 17, 18, 27, 28, 29, 30, 31, 32, 33, 34, 35, 36, 37] (by decide +kernel) (by decide +kernel)
set_option maxRecDepth 20000 in
theorem gX5_fits_X5_places : GoodIn wsX5_fits (wsV RX5 129 RX5 yX5_places wsX5_places) := goodIn_app (goodIn_of _ (by decide +kernel)) ggX5_fits_X5_places
set_option maxRecDepth 20000 in
theorem ggX5_fits_X5_fitsAt : GoodIn wsX5_fits wsX5_fitsAt := goodIn_r _ [22, 14, 15, 16, 5, 17, 18, 23, 24, 25, 26, 27, 28, 29, 30, 31, 32, 33, 34, 35, 36, 37] (by decide +kernel) (by decide +kernel)
set_option maxRecDepth 20000 in
theorem gX5_fits_X5_fitsAt : GoodIn wsX5_fits (wsV RX5 134 RX5 yX5_fitsAt wsX5_fitsAt) := goodIn_app (goodIn_of _ (by decide +kernel)) ggX5_fits_X5_fitsAt
theorem dX5_fits_0 : decode cX5_fits 0 = .ok (.iload_n 1, 1) := by decide +kernel
theorem dX5_fits_1 : decode cX5_fits 1 = .ok (.invokestatic 68, 3) := by decide +kernel
theorem dX5_fits_4 : decode cX5_fits 4 = .ok (.ifCond .eq 10, 3) := by decide +kernel
theorem dX5_fits_7 : decode cX5_fits 7 = .ok (.iload_n 2, 1) := by decide +kernel
theorem dX5_fits_8 : decode cX5_fits 8 = .ok (.invokestatic 68, 3) := by decide +kernel
theorem dX5_fits_11 : decode cX5_fits 11 = .ok (.ifCond .ne 7, 3) := by decide +kernel
theorem dX5_fits_14 : decode cX5_fits 14 = .ok (.ldc2_w 127, 3) := by decide +kernel
theorem dX5_fits_17 : decode cX5_fits 17 = .ok (.lreturn, 1) := by decide +kernel
theorem dX5_fits_18 : decode cX5_fits 18 = .ok (.aload_n 0, 1) := by decide +kernel
theorem dX5_fits_19 : decode cX5_fits 19 = .ok (.iload_n 1, 1) := by decide +kernel
theorem dX5_fits_20 : decode cX5_fits 20 = .ok (.iload_n 2, 1) := by decide +kernel
theorem dX5_fits_21 : decode cX5_fits 21 = .ok (.invokevirtual 129, 3) := by decide +kernel
theorem dX5_fits_24 : decode cX5_fits 24 = .ok (.ifCond .ne 7, 3) := by decide +kernel
theorem dX5_fits_27 : decode cX5_fits 27 = .ok (.ldc2_w 132, 3) := by decide +kernel
theorem dX5_fits_30 : decode cX5_fits 30 = .ok (.lreturn, 1) := by decide +kernel
theorem dX5_fits_31 : decode cX5_fits 31 = .ok (.lconst 0, 1) := by decide +kernel
theorem dX5_fits_32 : decode cX5_fits 32 = .ok (.lstore_n 3, 1) := by decide +kernel
theorem dX5_fits_33 : decode cX5_fits 33 = .ok (.iconst 0, 1) := by decide +kernel
theorem dX5_fits_34 : decode cX5_fits 34 = .ok (.istore 5, 2) := by decide +kernel
theorem dX5_fits_36 : decode cX5_fits 36 = .ok (.iload 5, 2) := by decide +kernel
theorem dX5_fits_38 : decode cX5_fits 38 = .ok (.aload_n 0, 1) := by decide +kernel
theorem dX5_fits_39 : decode cX5_fits 39 = .ok (.iload_n 1, 1) := by decide +kernel
theorem dX5_fits_40 : decode cX5_fits 40 = .ok (.iload_n 2, 1) := by decide +kernel
theorem dX5_fits_41 : decode cX5_fits 41 = .ok (.invokevirtual 129, 3) := by decide +kernel
theorem dX5_fits_44 : decode cX5_fits 44 = .ok (.if_icmp .ge 38, 3) := by decide +kernel
theorem dX5_fits_47 : decode cX5_fits 47 = .ok (.iload 5, 2) := by decide +kernel
theorem dX5_fits_49 : decode cX5_fits 49 = .ok (.bipush 60, 2) := by decide +kernel
theorem dX5_fits_51 : decode cX5_fits 51 = .ok (.if_icmp .ge 31, 3) := by decide +kernel
theorem dX5_fits_54 : decode cX5_fits 54 = .ok (.lload_n 3, 1) := by decide +kernel
theorem dX5_fits_55 : decode cX5_fits 55 = .ok (.aload_n 0, 1) := by decide +kernel
theorem dX5_fits_56 : decode cX5_fits 56 = .ok (.iload_n 1, 1) := by decide +kernel
theorem dX5_fits_57 : decode cX5_fits 57 = .ok (.iload_n 2, 1) := by decide +kernel
theorem dX5_fits_58 : decode cX5_fits 58 = .ok (.iload 5, 2) := by decide +kernel
theorem dX5_fits_60 : decode cX5_fits 60 = .ok (.invokevirtual 134, 3) := by decide +kernel
theorem dX5_fits_63 : decode cX5_fits 63 = .ok (.ifCond .eq 10, 3) := by decide +kernel
theorem dX5_fits_66 : decode cX5_fits 66 = .ok (.lconst 1, 1) := by decide +kernel
theorem dX5_fits_67 : decode cX5_fits 67 = .ok (.iload 5, 2) := by decide +kernel
theorem dX5_fits_69 : decode cX5_fits 69 = .ok (.lshl, 1) := by decide +kernel
theorem dX5_fits_70 : decode cX5_fits 70 = .ok (.goto 4, 3) := by decide +kernel
theorem dX5_fits_73 : decode cX5_fits 73 = .ok (.lconst 0, 1) := by decide +kernel
theorem dX5_fits_74 : decode cX5_fits 74 = .ok (.lor, 1) := by decide +kernel
theorem dX5_fits_75 : decode cX5_fits 75 = .ok (.lstore_n 3, 1) := by decide +kernel
theorem dX5_fits_76 : decode cX5_fits 76 = .ok (.iinc 5 1, 3) := by decide +kernel
theorem dX5_fits_79 : decode cX5_fits 79 = .ok (.goto (-43), 3) := by decide +kernel
theorem dX5_fits_82 : decode cX5_fits 82 = .ok (.lload_n 3, 1) := by decide +kernel
theorem dX5_fits_83 : decode cX5_fits 83 = .ok (.lreturn, 1) := by decide +kernel
set_option maxRecDepth 20000 in
theorem ggX5_sum_X5_isRegister : GoodIn wsX5_sum wsX5_isRegister := goodIn_r _ [4, 5, 6, 3, 7] (by decide +kernel) (by decide +kernel)
set_option maxRecDepth 20000 in
theorem gX5_sum_X5_isRegister : GoodIn wsX5_sum (va_wsS RX5 68 yX5_isRegister wsX5_isRegister) := goodIn_app (goodIn_of _ (by decide +kernel)) ggX5_sum_X5_isRegister
set_option maxRecDepth 20000 in
theorem ggX5_sum_X5_places : GoodIn wsX5_sum wsX5_places := goodIn_r _ [11, 12, 13, 14, 3, 15, 16, 31, 32, 33, 34, 35, 36, 37, 38, 39, 40, 41] (by decide +kernel) (by decide +kernel)
set_option maxRecDepth 20000 in
theorem gX5_sum_X5_places : GoodIn wsX5_sum (wsV RX5 129 RX5 yX5_places wsX5_places) := goodIn_app (goodIn_of _ (by decide +kernel)) ggX5_sum_X5_places
set_option maxRecDepth 20000 in
theorem ggX5_sum_X5_in : GoodIn wsX5_sum wsX5_in := goodIn_r _ [7] (by decide +kernel) (by decide +kernel)
set_option maxRecDepth 20000 in
theorem gX5_sum_X5_in : GoodIn wsX5_sum (va_wsS RX5 36 yX5_in wsX5_in) := goodIn_app (goodIn_of _ (by decide +kernel)) ggX5_sum_X5_in
set_option maxRecDepth 20000 in
theorem ggX5_sum_X5_sumAt : GoodIn wsX5_sum wsX5_sumAt := goodIn_r _ [20, 12, 13, 14, 3, 15, 16, 21, 22, 23, 24, 25, 26, 27, 28, 29, 30, 31, 32, 33, 34, 35, 36, 37, 38, 39, 40, 41] (by decide +kernel) (by decide +kernel)
set_option maxRecDepth 20000 in
theorem gX5_sum_X5_sumAt : GoodIn wsX5_sum (wsV RX5 137 RX5 yX5_sumAt wsX5_sumAt) := goodIn_app (goodIn_of _ (by decide +kernel)) ggX5_sum_X5_sumAt
theorem dX5_sum_0 : decode cX5_sum 0 = .ok (.iload_n 1, 1) := by decide +kernel
theorem dX5_sum_1 : decode cX5_sum 1 = .ok (.invokestatic 68, 3) := by decide +kernel
theorem dX5_sum_4 : decode cX5_sum 4 = .ok (.ifCond .eq 10, 3) := by decide +kernel
theorem dX5_sum_7 : decode cX5_sum 7 = .ok (.iload_n 2, 1) := by decide +kernel
theorem dX5_sum_8 : decode cX5_sum 8 = .ok (.invokestatic 68, 3) := by decide +kernel
theorem dX5_sum_11 : decode cX5_sum 11 = .ok (.ifCond .ne 5, 3) := by decide +kernel
theorem dX5_sum_14 : decode cX5_sum 14 = .ok (.iconst (-1), 1) := by decide +kernel
theorem dX5_sum_15 : decode cX5_sum 15 = .ok (.ireturn, 1) := by decide +kernel
theorem dX5_sum_16 : decode cX5_sum 16 = .ok (.aload_n 0, 1) := by decide +kernel
theorem dX5_sum_17 : decode cX5_sum 17 = .ok (.iload_n 1, 1) := by decide +kernel
theorem dX5_sum_18 : decode cX5_sum 18 = .ok (.iload_n 2, 1) := by decide +kernel
theorem dX5_sum_19 : decode cX5_sum 19 = .ok (.invokevirtual 129, 3) := by decide +kernel
theorem dX5_sum_22 : decode cX5_sum 22 = .ok (.istore 4, 2) := by decide +kernel
theorem dX5_sum_24 : decode cX5_sum 24 = .ok (.iload 4, 2) := by decide +kernel
theorem dX5_sum_26 : decode cX5_sum 26 = .ok (.ifCond .ne 6, 3) := by decide +kernel
theorem dX5_sum_29 : decode cX5_sum 29 = .ok (.bipush (-5), 2) := by decide +kernel
theorem dX5_sum_31 : decode cX5_sum 31 = .ok (.ireturn, 1) := by decide +kernel
theorem dX5_sum_32 : decode cX5_sum 32 = .ok (.iload_n 3, 1) := by decide +kernel
theorem dX5_sum_33 : decode cX5_sum 33 = .ok (.iconst 0, 1) := by decide +kernel
theorem dX5_sum_34 : decode cX5_sum 34 = .ok (.iload 4, 2) := by decide +kernel
theorem dX5_sum_36 : decode cX5_sum 36 = .ok (.iconst 1, 1) := by decide +kernel
theorem dX5_sum_37 : decode cX5_sum 37 = .ok (.isub, 1) := by decide +kernel
theorem dX5_sum_38 : decode cX5_sum 38 = .ok (.invokestatic 36, 3) := by decide +kernel
theorem dX5_sum_41 : decode cX5_sum 41 = .ok (.ifCond .eq 13, 3) := by decide +kernel
theorem dX5_sum_44 : decode cX5_sum 44 = .ok (.aload_n 0, 1) := by decide +kernel
theorem dX5_sum_45 : decode cX5_sum 45 = .ok (.iload_n 1, 1) := by decide +kernel
theorem dX5_sum_46 : decode cX5_sum 46 = .ok (.iload_n 2, 1) := by decide +kernel
theorem dX5_sum_47 : decode cX5_sum 47 = .ok (.iload_n 3, 1) := by decide +kernel
theorem dX5_sum_48 : decode cX5_sum 48 = .ok (.invokevirtual 137, 3) := by decide +kernel
theorem dX5_sum_51 : decode cX5_sum 51 = .ok (.goto 5, 3) := by decide +kernel
theorem dX5_sum_54 : decode cX5_sum 54 = .ok (.bipush (-2), 2) := by decide +kernel
theorem dX5_sum_56 : decode cX5_sum 56 = .ok (.ireturn, 1) := by decide +kernel
set_option maxRecDepth 20000 in
theorem ggX5_found_X5_isRegister : GoodIn wsX5_found wsX5_isRegister := goodIn_r _ [4, 5, 6, 3, 7] (by decide +kernel) (by decide +kernel)
set_option maxRecDepth 20000 in
theorem gX5_found_X5_isRegister : GoodIn wsX5_found (va_wsS RX5 68 yX5_isRegister wsX5_isRegister) := goodIn_app (goodIn_of _ (by decide +kernel)) ggX5_found_X5_isRegister
set_option maxRecDepth 20000 in
theorem ggX5_found_X5_places : GoodIn wsX5_found wsX5_places := goodIn_r _ [11, 12, 13, 14, 3, 15, 16, 35, 36, 37, 38, 39, 40, 41, 42, 43, 44, 45] (by decide +kernel) (by decide +kernel)
set_option maxRecDepth 20000 in
theorem gX5_found_X5_places : GoodIn wsX5_found (wsV RX5 129 RX5 yX5_places wsX5_places) := goodIn_app (goodIn_of _ (by decide +kernel)) ggX5_found_X5_places
set_option maxRecDepth 20000 in
theorem ggX5_found_X5_in : GoodIn wsX5_found wsX5_in := goodIn_r _ [7] (by decide +kernel) (by decide +kernel)
set_option maxRecDepth 20000 in
theorem gX5_found_X5_in : GoodIn wsX5_found (va_wsS RX5 36 yX5_in wsX5_in) := goodIn_app (goodIn_of _ (by decide +kernel)) ggX5_found_X5_in
set_option maxRecDepth 20000 in
theorem ggX5_found_X5_fitsAt : GoodIn wsX5_found wsX5_fitsAt := goodIn_r _ [20, 12, 13, 14, 3, 15, 16, 21, 22, 23, 24, 35, 36, 37, 38, 39, 40, 41, 42, 43, 44, 45] (by decide +kernel) (by decide +kernel)
set_option maxRecDepth 20000 in
theorem gX5_found_X5_fitsAt : GoodIn wsX5_found (wsV RX5 134 RX5 yX5_fitsAt wsX5_fitsAt) := goodIn_app (goodIn_of _ (by decide +kernel)) ggX5_found_X5_fitsAt
set_option maxRecDepth 20000 in
theorem ggX5_found_X5_sumAt : GoodIn wsX5_found wsX5_sumAt := goodIn_r _ [28, 12, 13, 14, 3, 15, 16, 21, 22, 23, 24, 29, 30, 31, 32, 33, 34, 35, 36, 37, 38, 39, 40, 41, 42, 43, 44, 45] (by decide +kernel) (by decide +kernel)
set_option maxRecDepth 20000 in
theorem gX5_found_X5_sumAt : GoodIn wsX5_found (wsV RX5 137 RX5 yX5_sumAt wsX5_sumAt) := goodIn_app (goodIn_of _ (by decide +kernel)) ggX5_found_X5_sumAt
theorem dX5_found_0 : decode cX5_found 0 = .ok (.iload_n 1, 1) := by decide +kernel
theorem dX5_found_1 : decode cX5_found 1 = .ok (.invokestatic 68, 3) := by decide +kernel
theorem dX5_found_4 : decode cX5_found 4 = .ok (.ifCond .eq 10, 3) := by decide +kernel
theorem dX5_found_7 : decode cX5_found 7 = .ok (.iload_n 2, 1) := by decide +kernel
theorem dX5_found_8 : decode cX5_found 8 = .ok (.invokestatic 68, 3) := by decide +kernel
theorem dX5_found_11 : decode cX5_found 11 = .ok (.ifCond .ne 5, 3) := by decide +kernel
theorem dX5_found_14 : decode cX5_found 14 = .ok (.iconst (-1), 1) := by decide +kernel
theorem dX5_found_15 : decode cX5_found 15 = .ok (.ireturn, 1) := by decide +kernel
theorem dX5_found_16 : decode cX5_found 16 = .ok (.aload_n 0, 1) := by decide +kernel
theorem dX5_found_17 : decode cX5_found 17 = .ok (.iload_n 1, 1) := by decide +kernel
theorem dX5_found_18 : decode cX5_found 18 = .ok (.iload_n 2, 1) := by decide +kernel
theorem dX5_found_19 : decode cX5_found 19 = .ok (.invokevirtual 129, 3) := by decide +kernel
theorem dX5_found_22 : decode cX5_found 22 = .ok (.istore 4, 2) := by decide +kernel
theorem dX5_found_24 : decode cX5_found 24 = .ok (.iload 4, 2) := by decide +kernel
theorem dX5_found_26 : decode cX5_found 26 = .ok (.ifCond .ne 6, 3) := by decide +kernel
theorem dX5_found_29 : decode cX5_found 29 = .ok (.bipush (-5), 2) := by decide +kernel
theorem dX5_found_31 : decode cX5_found 31 = .ok (.ireturn, 1) := by decide +kernel
theorem dX5_found_32 : decode cX5_found 32 = .ok (.iload_n 3, 1) := by decide +kernel
theorem dX5_found_33 : decode cX5_found 33 = .ok (.iconst 0, 1) := by decide +kernel
theorem dX5_found_34 : decode cX5_found 34 = .ok (.iconst 3, 1) := by decide +kernel
theorem dX5_found_35 : decode cX5_found 35 = .ok (.invokestatic 36, 3) := by decide +kernel
theorem dX5_found_38 : decode cX5_found 38 = .ok (.ifCond .ne 6, 3) := by decide +kernel
theorem dX5_found_41 : decode cX5_found 41 = .ok (.bipush (-2), 2) := by decide +kernel
theorem dX5_found_43 : decode cX5_found 43 = .ok (.ireturn, 1) := by decide +kernel
theorem dX5_found_44 : decode cX5_found 44 = .ok (.iconst 0, 1) := by decide +kernel
theorem dX5_found_45 : decode cX5_found 45 = .ok (.istore 5, 2) := by decide +kernel
theorem dX5_found_47 : decode cX5_found 47 = .ok (.iconst 0, 1) := by decide +kernel
theorem dX5_found_48 : decode cX5_found 48 = .ok (.istore 6, 2) := by decide +kernel
theorem dX5_found_50 : decode cX5_found 50 = .ok (.bipush (-6), 2) := by decide +kernel
theorem dX5_found_52 : decode cX5_found 52 = .ok (.istore 7, 2) := by decide +kernel
theorem dX5_found_54 : decode cX5_found 54 = .ok (.iconst 0, 1) := by decide +kernel
theorem dX5_found_55 : decode cX5_found 55 = .ok (.istore 8, 2) := by decide +kernel
theorem dX5_found_57 : decode cX5_found 57 = .ok (.iload 4, 2) := by decide +kernel
theorem dX5_found_59 : decode cX5_found 59 = .ok (.iconst 1, 1) := by decide +kernel
theorem dX5_found_60 : decode cX5_found 60 = .ok (.isub, 1) := by decide +kernel
theorem dX5_found_61 : decode cX5_found 61 = .ok (.istore 9, 2) := by decide +kernel
theorem dX5_found_63 : decode cX5_found 63 = .ok (.iload 9, 2) := by decide +kernel
theorem dX5_found_65 : decode cX5_found 65 = .ok (.ifCond .lt 106, 3) := by decide +kernel
theorem dX5_found_68 : decode cX5_found 68 = .ok (.aload_n 0, 1) := by decide +kernel
theorem dX5_found_69 : decode cX5_found 69 = .ok (.iload_n 1, 1) := by decide +kernel
theorem dX5_found_70 : decode cX5_found 70 = .ok (.iload_n 2, 1) := by decide +kernel
theorem dX5_found_71 : decode cX5_found 71 = .ok (.iload 9, 2) := by decide +kernel
theorem dX5_found_73 : decode cX5_found 73 = .ok (.invokevirtual 134, 3) := by decide +kernel
theorem dX5_found_76 : decode cX5_found 76 = .ok (.istore 10, 2) := by decide +kernel
theorem dX5_found_78 : decode cX5_found 78 = .ok (.aload_n 0, 1) := by decide +kernel
theorem dX5_found_79 : decode cX5_found 79 = .ok (.iload_n 1, 1) := by decide +kernel
theorem dX5_found_80 : decode cX5_found 80 = .ok (.iload_n 2, 1) := by decide +kernel
theorem dX5_found_81 : decode cX5_found 81 = .ok (.iload 9, 2) := by decide +kernel
theorem dX5_found_83 : decode cX5_found 83 = .ok (.invokevirtual 137, 3) := by decide +kernel
theorem dX5_found_86 : decode cX5_found 86 = .ok (.istore 11, 2) := by decide +kernel
theorem dX5_found_88 : decode cX5_found 88 = .ok (.iload 11, 2) := by decide +kernel
theorem dX5_found_90 : decode cX5_found 90 = .ok (.ifCond .ne 12, 3) := by decide +kernel
theorem dX5_found_93 : decode cX5_found 93 = .ok (.iload 10, 2) := by decide +kernel
theorem dX5_found_95 : decode cX5_found 95 = .ok (.ifCond .ne 7, 3) := by decide +kernel
theorem dX5_found_98 : decode cX5_found 98 = .ok (.iconst 1, 1) := by decide +kernel
theorem dX5_found_99 : decode cX5_found 99 = .ok (.goto 4, 3) := by decide +kernel
theorem dX5_found_102 : decode cX5_found 102 = .ok (.iconst 0, 1) := by decide +kernel
theorem dX5_found_103 : decode cX5_found 103 = .ok (.istore 12, 2) := by decide +kernel
theorem dX5_found_105 : decode cX5_found 105 = .ok (.iload 5, 2) := by decide +kernel
theorem dX5_found_107 : decode cX5_found 107 = .ok (.iload 10, 2) := by decide +kernel
theorem dX5_found_109 : decode cX5_found 109 = .ok (.ifCond .eq 7, 3) := by decide +kernel
theorem dX5_found_112 : decode cX5_found 112 = .ok (.iconst 1, 1) := by decide +kernel
theorem dX5_found_113 : decode cX5_found 113 = .ok (.goto 4, 3) := by decide +kernel
theorem dX5_found_116 : decode cX5_found 116 = .ok (.iconst 0, 1) := by decide +kernel
theorem dX5_found_117 : decode cX5_found 117 = .ok (.iadd, 1) := by decide +kernel
theorem dX5_found_118 : decode cX5_found 118 = .ok (.istore 5, 2) := by decide +kernel
theorem dX5_found_120 : decode cX5_found 120 = .ok (.iload 6, 2) := by decide +kernel
theorem dX5_found_122 : decode cX5_found 122 = .ok (.iload 12, 2) := by decide +kernel
theorem dX5_found_124 : decode cX5_found 124 = .ok (.ifCond .eq 7, 3) := by decide +kernel
theorem dX5_found_127 : decode cX5_found 127 = .ok (.iconst 1, 1) := by decide +kernel
theorem dX5_found_128 : decode cX5_found 128 = .ok (.goto 4, 3) := by decide +kernel
theorem dX5_found_131 : decode cX5_found 131 = .ok (.iconst 0, 1) := by decide +kernel
theorem dX5_found_132 : decode cX5_found 132 = .ok (.iadd, 1) := by decide +kernel
theorem dX5_found_133 : decode cX5_found 133 = .ok (.istore 6, 2) := by decide +kernel
theorem dX5_found_135 : decode cX5_found 135 = .ok (.iload 12, 2) := by decide +kernel
theorem dX5_found_137 : decode cX5_found 137 = .ok (.ifCond .eq 8, 3) := by decide +kernel
theorem dX5_found_140 : decode cX5_found 140 = .ok (.iload 9, 2) := by decide +kernel
theorem dX5_found_142 : decode cX5_found 142 = .ok (.goto 5, 3) := by decide +kernel
theorem dX5_found_145 : decode cX5_found 145 = .ok (.iload 7, 2) := by decide +kernel
theorem dX5_found_147 : decode cX5_found 147 = .ok (.istore 7, 2) := by decide +kernel
theorem dX5_found_149 : decode cX5_found 149 = .ok (.iload 11, 2) := by decide +kernel
theorem dX5_found_151 : decode cX5_found 151 = .ok (.iload 8, 2) := by decide +kernel
theorem dX5_found_153 : decode cX5_found 153 = .ok (.if_icmp .le 8, 3) := by decide +kernel
theorem dX5_found_156 : decode cX5_found 156 = .ok (.iload 11, 2) := by decide +kernel
theorem dX5_found_158 : decode cX5_found 158 = .ok (.goto 5, 3) := by decide +kernel
theorem dX5_found_161 : decode cX5_found 161 = .ok (.iload 8, 2) := by decide +kernel
theorem dX5_found_163 : decode cX5_found 163 = .ok (.istore 8, 2) := by decide +kernel
theorem dX5_found_165 : decode cX5_found 165 = .ok (.iinc 9 (-1), 3) := by decide +kernel
theorem dX5_found_168 : decode cX5_found 168 = .ok (.goto (-105), 3) := by decide +kernel
theorem dX5_found_171 : decode cX5_found 171 = .ok (.iload_n 3, 1) := by decide +kernel
theorem dX5_found_172 : decode cX5_found 172 = .ok (.ifCond .ne 8, 3) := by decide +kernel
theorem dX5_found_175 : decode cX5_found 175 = .ok (.iload 5, 2) := by decide +kernel
theorem dX5_found_177 : decode cX5_found 177 = .ok (.goto 25, 3) := by decide +kernel
theorem dX5_found_180 : decode cX5_found 180 = .ok (.iload_n 3, 1) := by decide +kernel
theorem dX5_found_181 : decode cX5_found 181 = .ok (.iconst 1, 1) := by decide +kernel
theorem dX5_found_182 : decode cX5_found 182 = .ok (.if_icmp .ne 8, 3) := by decide +kernel
theorem dX5_found_185 : decode cX5_found 185 = .ok (.iload 6, 2) := by decide +kernel
theorem dX5_found_187 : decode cX5_found 187 = .ok (.goto 15, 3) := by decide +kernel
theorem dX5_found_190 : decode cX5_found 190 = .ok (.iload_n 3, 1) := by decide +kernel
theorem dX5_found_191 : decode cX5_found 191 = .ok (.iconst 2, 1) := by decide +kernel
theorem dX5_found_192 : decode cX5_found 192 = .ok (.if_icmp .ne 8, 3) := by decide +kernel
theorem dX5_found_195 : decode cX5_found 195 = .ok (.iload 7, 2) := by decide +kernel
theorem dX5_found_197 : decode cX5_found 197 = .ok (.goto 5, 3) := by decide +kernel
theorem dX5_found_200 : decode cX5_found 200 = .ok (.iload 8, 2) := by decide +kernel
theorem dX5_found_202 : decode cX5_found 202 = .ok (.ireturn, 1) := by decide +kernel
set_option maxRecDepth 20000 in
theorem ggX5_put_X5_in : GoodIn wsX5_put wsX5_in := goodIn_r _ [7] (by decide +kernel) (by decide +kernel)
set_option maxRecDepth 20000 in
theorem gX5_put_X5_in : GoodIn wsX5_put (va_wsS RX5 36 yX5_in wsX5_in) := goodIn_app (goodIn_of _ (by decide +kernel)) ggX5_put_X5_in
theorem dX5_put_0 : decode cX5_put 0 = .ok (.iconst 0, 1) := by decide +kernel
theorem dX5_put_1 : decode cX5_put 1 = .ok (.istore_n 3, 1) := by decide +kernel
theorem dX5_put_2 : decode cX5_put 2 = .ok (.lload_n 1, 1) := by decide +kernel
theorem dX5_put_3 : decode cX5_put 3 = .ok (.lstore 4, 2) := by decide +kernel
theorem dX5_put_5 : decode cX5_put 5 = .ok (.iconst 1, 1) := by decide +kernel
theorem dX5_put_6 : decode cX5_put 6 = .ok (.istore 6, 2) := by decide +kernel
theorem dX5_put_8 : decode cX5_put 8 = .ok (.lload 4, 2) := by decide +kernel
theorem dX5_put_10 : decode cX5_put 10 = .ok (.lconst 0, 1) := by decide +kernel
theorem dX5_put_11 : decode cX5_put 11 = .ok (.lcmp, 1) := by decide +kernel
theorem dX5_put_12 : decode cX5_put 12 = .ok (.ifCond .eq 37, 3) := by decide +kernel
theorem dX5_put_15 : decode cX5_put 15 = .ok (.iload 6, 2) := by decide +kernel
theorem dX5_put_17 : decode cX5_put 17 = .ok (.ifCond .eq 32, 3) := by decide +kernel
theorem dX5_put_20 : decode cX5_put 20 = .ok (.lload 4, 2) := by decide +kernel
theorem dX5_put_22 : decode cX5_put 22 = .ok (.ldc2_w 141, 3) := by decide +kernel
theorem dX5_put_25 : decode cX5_put 25 = .ok (.land, 1) := by decide +kernel
theorem dX5_put_26 : decode cX5_put 26 = .ok (.l2i, 1) := by decide +kernel
theorem dX5_put_27 : decode cX5_put 27 = .ok (.bipush 33, 2) := by decide +kernel
theorem dX5_put_29 : decode cX5_put 29 = .ok (.bipush 126, 2) := by decide +kernel
theorem dX5_put_31 : decode cX5_put 31 = .ok (.invokestatic 36, 3) := by decide +kernel
theorem dX5_put_34 : decode cX5_put 34 = .ok (.istore 6, 2) := by decide +kernel
theorem dX5_put_36 : decode cX5_put 36 = .ok (.lload 4, 2) := by decide +kernel
theorem dX5_put_38 : decode cX5_put 38 = .ok (.bipush 8, 2) := by decide +kernel
theorem dX5_put_40 : decode cX5_put 40 = .ok (.lushr, 1) := by decide +kernel
theorem dX5_put_41 : decode cX5_put 41 = .ok (.lstore 4, 2) := by decide +kernel
theorem dX5_put_43 : decode cX5_put 43 = .ok (.iinc 3 1, 3) := by decide +kernel
theorem dX5_put_46 : decode cX5_put 46 = .ok (.goto (-38), 3) := by decide +kernel
theorem dX5_put_49 : decode cX5_put 49 = .ok (.iload_n 3, 1) := by decide +kernel
theorem dX5_put_50 : decode cX5_put 50 = .ok (.ifCond .eq 8, 3) := by decide +kernel
theorem dX5_put_53 : decode cX5_put 53 = .ok (.iload 6, 2) := by decide +kernel
theorem dX5_put_55 : decode cX5_put 55 = .ok (.ifCond .ne 6, 3) := by decide +kernel
theorem dX5_put_58 : decode cX5_put 58 = .ok (.bipush (-2), 2) := by decide +kernel
theorem dX5_put_60 : decode cX5_put 60 = .ok (.ireturn, 1) := by decide +kernel
theorem dX5_put_61 : decode cX5_put 61 = .ok (.aload_n 0, 1) := by decide +kernel
theorem dX5_put_62 : decode cX5_put 62 = .ok (.getfield 124, 3) := by decide +kernel
theorem dX5_put_65 : decode cX5_put 65 = .ok (.iload_n 3, 1) := by decide +kernel
theorem dX5_put_66 : decode cX5_put 66 = .ok (.iadd, 1) := by decide +kernel
theorem dX5_put_67 : decode cX5_put 67 = .ok (.bipush 80, 2) := by decide +kernel
theorem dX5_put_69 : decode cX5_put 69 = .ok (.if_icmp .le 6, 3) := by decide +kernel
theorem dX5_put_72 : decode cX5_put 72 = .ok (.bipush (-4), 2) := by decide +kernel
theorem dX5_put_74 : decode cX5_put 74 = .ok (.ireturn, 1) := by decide +kernel
theorem dX5_put_75 : decode cX5_put 75 = .ok (.iload_n 3, 1) := by decide +kernel
theorem dX5_put_76 : decode cX5_put 76 = .ok (.iconst 1, 1) := by decide +kernel
theorem dX5_put_77 : decode cX5_put 77 = .ok (.isub, 1) := by decide +kernel
theorem dX5_put_78 : decode cX5_put 78 = .ok (.istore 7, 2) := by decide +kernel
theorem dX5_put_80 : decode cX5_put 80 = .ok (.iload 7, 2) := by decide +kernel
theorem dX5_put_82 : decode cX5_put 82 = .ok (.ifCond .lt 41, 3) := by decide +kernel
theorem dX5_put_85 : decode cX5_put 85 = .ok (.aload_n 0, 1) := by decide +kernel
theorem dX5_put_86 : decode cX5_put 86 = .ok (.getfield 23, 3) := by decide +kernel
theorem dX5_put_89 : decode cX5_put 89 = .ok (.aload_n 0, 1) := by decide +kernel
theorem dX5_put_90 : decode cX5_put 90 = .ok (.getfield 124, 3) := by decide +kernel
theorem dX5_put_93 : decode cX5_put 93 = .ok (.lload_n 1, 1) := by decide +kernel
theorem dX5_put_94 : decode cX5_put 94 = .ok (.bipush 8, 2) := by decide +kernel
theorem dX5_put_96 : decode cX5_put 96 = .ok (.iload 7, 2) := by decide +kernel
theorem dX5_put_98 : decode cX5_put 98 = .ok (.imul, 1) := by decide +kernel
theorem dX5_put_99 : decode cX5_put 99 = .ok (.lushr, 1) := by decide +kernel
theorem dX5_put_100 : decode cX5_put 100 = .ok (.ldc2_w 141, 3) := by decide +kernel
theorem dX5_put_103 : decode cX5_put 103 = .ok (.land, 1) := by decide +kernel
theorem dX5_put_104 : decode cX5_put 104 = .ok (.l2i, 1) := by decide +kernel
theorem dX5_put_105 : decode cX5_put 105 = .ok (.i2c, 1) := by decide +kernel
theorem dX5_put_106 : decode cX5_put 106 = .ok (.castore, 1) := by decide +kernel
theorem dX5_put_107 : decode cX5_put 107 = .ok (.aload_n 0, 1) := by decide +kernel
theorem dX5_put_108 : decode cX5_put 108 = .ok (.dup, 1) := by decide +kernel
theorem dX5_put_109 : decode cX5_put 109 = .ok (.getfield 124, 3) := by decide +kernel
theorem dX5_put_112 : decode cX5_put 112 = .ok (.iconst 1, 1) := by decide +kernel
theorem dX5_put_113 : decode cX5_put 113 = .ok (.iadd, 1) := by decide +kernel
theorem dX5_put_114 : decode cX5_put 114 = .ok (.putfield 124, 3) := by decide +kernel
theorem dX5_put_117 : decode cX5_put 117 = .ok (.iinc 7 (-1), 3) := by decide +kernel
theorem dX5_put_120 : decode cX5_put 120 = .ok (.goto (-40), 3) := by decide +kernel
theorem dX5_put_123 : decode cX5_put 123 = .ok (.aload_n 0, 1) := by decide +kernel
theorem dX5_put_124 : decode cX5_put 124 = .ok (.getfield 124, 3) := by decide +kernel
theorem dX5_put_127 : decode cX5_put 127 = .ok (.ireturn, 1) := by decide +kernel
theorem dX5_wipe_0 : decode cX5_wipe 0 = .ok (.aload_n 0, 1) := by decide +kernel
theorem dX5_wipe_1 : decode cX5_wipe 1 = .ok (.getfield 124, 3) := by decide +kernel
theorem dX5_wipe_4 : decode cX5_wipe 4 = .ok (.istore_n 1, 1) := by decide +kernel
theorem dX5_wipe_5 : decode cX5_wipe 5 = .ok (.aload_n 0, 1) := by decide +kernel
theorem dX5_wipe_6 : decode cX5_wipe 6 = .ok (.iconst 0, 1) := by decide +kernel
theorem dX5_wipe_7 : decode cX5_wipe 7 = .ok (.putfield 124, 3) := by decide +kernel
theorem dX5_wipe_10 : decode cX5_wipe 10 = .ok (.iload_n 1, 1) := by decide +kernel
theorem dX5_wipe_11 : decode cX5_wipe 11 = .ok (.ireturn, 1) := by decide +kernel
set_option maxRecDepth 20000 in
theorem ggX5_readPad_X5_blank : GoodIn wsX5_readPad wsX5_blank := goodIn_r _ [9, 4, 3, 13, 14, 15, 16, 17, 18, 19, 20, 21, 22, 23] (by decide +kernel) (by decide +kernel)
set_option maxRecDepth 20000 in
theorem gX5_readPad_X5_blank : GoodIn wsX5_readPad (wsV RX5 75 RX5 yX5_blank wsX5_blank) := goodIn_app (goodIn_of _ (by decide +kernel)) ggX5_readPad_X5_blank
set_option maxRecDepth 20000 in
theorem ggX5_readPad_X5_in : GoodIn wsX5_readPad wsX5_in := goodIn_r _ [12] (by decide +kernel) (by decide +kernel)
set_option maxRecDepth 20000 in
theorem gX5_readPad_X5_in : GoodIn wsX5_readPad (va_wsS RX5 36 yX5_in wsX5_in) := goodIn_app (goodIn_of _ (by decide +kernel)) ggX5_readPad_X5_in
theorem dX5_readPad_0 : decode cX5_readPad 0 = .ok (.aload_n 0, 1) := by decide +kernel
theorem dX5_readPad_1 : decode cX5_readPad 1 = .ok (.iconst 0, 1) := by decide +kernel
theorem dX5_readPad_2 : decode cX5_readPad 2 = .ok (.invokevirtual 75, 3) := by decide +kernel
theorem dX5_readPad_5 : decode cX5_readPad 5 = .ok (.iconst 1, 1) := by decide +kernel
theorem dX5_readPad_6 : decode cX5_readPad 6 = .ok (.istore_n 1, 1) := by decide +kernel
theorem dX5_readPad_7 : decode cX5_readPad 7 = .ok (.iconst 0, 1) := by decide +kernel
theorem dX5_readPad_8 : decode cX5_readPad 8 = .ok (.istore_n 2, 1) := by decide +kernel
theorem dX5_readPad_9 : decode cX5_readPad 9 = .ok (.iload_n 2, 1) := by decide +kernel
theorem dX5_readPad_10 : decode cX5_readPad 10 = .ok (.aload_n 0, 1) := by decide +kernel
theorem dX5_readPad_11 : decode cX5_readPad 11 = .ok (.getfield 124, 3) := by decide +kernel
theorem dX5_readPad_14 : decode cX5_readPad 14 = .ok (.if_icmp .ge 138, 3) := by decide +kernel
theorem dX5_readPad_17 : decode cX5_readPad 17 = .ok (.aload_n 0, 1) := by decide +kernel
theorem dX5_readPad_18 : decode cX5_readPad 18 = .ok (.getfield 23, 3) := by decide +kernel
theorem dX5_readPad_21 : decode cX5_readPad 21 = .ok (.iload_n 2, 1) := by decide +kernel
theorem dX5_readPad_22 : decode cX5_readPad 22 = .ok (.caload, 1) := by decide +kernel
theorem dX5_readPad_23 : decode cX5_readPad 23 = .ok (.istore_n 3, 1) := by decide +kernel
theorem dX5_readPad_24 : decode cX5_readPad 24 = .ok (.iload_n 3, 1) := by decide +kernel
theorem dX5_readPad_25 : decode cX5_readPad 25 = .ok (.bipush 48, 2) := by decide +kernel
theorem dX5_readPad_27 : decode cX5_readPad 27 = .ok (.bipush 57, 2) := by decide +kernel
theorem dX5_readPad_29 : decode cX5_readPad 29 = .ok (.invokestatic 36, 3) := by decide +kernel
theorem dX5_readPad_32 : decode cX5_readPad 32 = .ok (.istore 4, 2) := by decide +kernel
theorem dX5_readPad_34 : decode cX5_readPad 34 = .ok (.iload_n 1, 1) := by decide +kernel
theorem dX5_readPad_35 : decode cX5_readPad 35 = .ok (.ifCond .eq 38, 3) := by decide +kernel
theorem dX5_readPad_38 : decode cX5_readPad 38 = .ok (.iload 4, 2) := by decide +kernel
theorem dX5_readPad_40 : decode cX5_readPad 40 = .ok (.ifCond .ne 5, 3) := by decide +kernel
theorem dX5_readPad_43 : decode cX5_readPad 43 = .ok (.iload_n 2, 1) := by decide +kernel
theorem dX5_readPad_44 : decode cX5_readPad 44 = .ok (.ireturn, 1) := by decide +kernel
theorem dX5_readPad_45 : decode cX5_readPad 45 = .ok (.aload_n 0, 1) := by decide +kernel
theorem dX5_readPad_46 : decode cX5_readPad 46 = .ok (.getfield 27, 3) := by decide +kernel
theorem dX5_readPad_49 : decode cX5_readPad 49 = .ok (.aload_n 0, 1) := by decide +kernel
theorem dX5_readPad_50 : decode cX5_readPad 50 = .ok (.getfield 62, 3) := by decide +kernel
theorem dX5_readPad_53 : decode cX5_readPad 53 = .ok (.iload_n 3, 1) := by decide +kernel
theorem dX5_readPad_54 : decode cX5_readPad 54 = .ok (.bipush 48, 2) := by decide +kernel
theorem dX5_readPad_56 : decode cX5_readPad 56 = .ok (.isub, 1) := by decide +kernel
theorem dX5_readPad_57 : decode cX5_readPad 57 = .ok (.iastore, 1) := by decide +kernel
theorem dX5_readPad_58 : decode cX5_readPad 58 = .ok (.aload_n 0, 1) := by decide +kernel
theorem dX5_readPad_59 : decode cX5_readPad 59 = .ok (.dup, 1) := by decide +kernel
theorem dX5_readPad_60 : decode cX5_readPad 60 = .ok (.getfield 62, 3) := by decide +kernel
theorem dX5_readPad_63 : decode cX5_readPad 63 = .ok (.iconst 1, 1) := by decide +kernel
theorem dX5_readPad_64 : decode cX5_readPad 64 = .ok (.iadd, 1) := by decide +kernel
theorem dX5_readPad_65 : decode cX5_readPad 65 = .ok (.putfield 62, 3) := by decide +kernel
theorem dX5_readPad_68 : decode cX5_readPad 68 = .ok (.iconst 0, 1) := by decide +kernel
theorem dX5_readPad_69 : decode cX5_readPad 69 = .ok (.istore_n 1, 1) := by decide +kernel
theorem dX5_readPad_70 : decode cX5_readPad 70 = .ok (.goto 76, 3) := by decide +kernel
theorem dX5_readPad_73 : decode cX5_readPad 73 = .ok (.iload_n 3, 1) := by decide +kernel
theorem dX5_readPad_74 : decode cX5_readPad 74 = .ok (.bipush 44, 2) := by decide +kernel
theorem dX5_readPad_76 : decode cX5_readPad 76 = .ok (.if_icmp .ne 8, 3) := by decide +kernel
theorem dX5_readPad_79 : decode cX5_readPad 79 = .ok (.iconst 1, 1) := by decide +kernel
theorem dX5_readPad_80 : decode cX5_readPad 80 = .ok (.istore_n 1, 1) := by decide +kernel
theorem dX5_readPad_81 : decode cX5_readPad 81 = .ok (.goto 65, 3) := by decide +kernel
theorem dX5_readPad_84 : decode cX5_readPad 84 = .ok (.aload_n 0, 1) := by decide +kernel
theorem dX5_readPad_85 : decode cX5_readPad 85 = .ok (.getfield 27, 3) := by decide +kernel
theorem dX5_readPad_88 : decode cX5_readPad 88 = .ok (.aload_n 0, 1) := by decide +kernel
theorem dX5_readPad_89 : decode cX5_readPad 89 = .ok (.getfield 62, 3) := by decide +kernel
theorem dX5_readPad_92 : decode cX5_readPad 92 = .ok (.iconst 1, 1) := by decide +kernel
theorem dX5_readPad_93 : decode cX5_readPad 93 = .ok (.isub, 1) := by decide +kernel
theorem dX5_readPad_94 : decode cX5_readPad 94 = .ok (.iaload, 1) := by decide +kernel
theorem dX5_readPad_95 : decode cX5_readPad 95 = .ok (.istore 5, 2) := by decide +kernel
theorem dX5_readPad_97 : decode cX5_readPad 97 = .ok (.iload 4, 2) := by decide +kernel
theorem dX5_readPad_99 : decode cX5_readPad 99 = .ok (.ifCond .eq 24, 3) := by decide +kernel
theorem dX5_readPad_102 : decode cX5_readPad 102 = .ok (.iload 5, 2) := by decide +kernel
theorem dX5_readPad_104 : decode cX5_readPad 104 = .ok (.ifCond .eq 19, 3) := by decide +kernel
theorem dX5_readPad_107 : decode cX5_readPad 107 = .ok (.bipush 10, 2) := by decide +kernel
theorem dX5_readPad_109 : decode cX5_readPad 109 = .ok (.iload 5, 2) := by decide +kernel
theorem dX5_readPad_111 : decode cX5_readPad 111 = .ok (.imul, 1) := by decide +kernel
theorem dX5_readPad_112 : decode cX5_readPad 112 = .ok (.iload_n 3, 1) := by decide +kernel
theorem dX5_readPad_113 : decode cX5_readPad 113 = .ok (.iadd, 1) := by decide +kernel
theorem dX5_readPad_114 : decode cX5_readPad 114 = .ok (.bipush 48, 2) := by decide +kernel
theorem dX5_readPad_116 : decode cX5_readPad 116 = .ok (.isub, 1) := by decide +kernel
theorem dX5_readPad_117 : decode cX5_readPad 117 = .ok (.sipush 257, 3) := by decide +kernel
theorem dX5_readPad_120 : decode cX5_readPad 120 = .ok (.if_icmp .lt 5, 3) := by decide +kernel
theorem dX5_readPad_123 : decode cX5_readPad 123 = .ok (.iload_n 2, 1) := by decide +kernel
theorem dX5_readPad_124 : decode cX5_readPad 124 = .ok (.ireturn, 1) := by decide +kernel
theorem dX5_readPad_125 : decode cX5_readPad 125 = .ok (.aload_n 0, 1) := by decide +kernel
theorem dX5_readPad_126 : decode cX5_readPad 126 = .ok (.getfield 27, 3) := by decide +kernel
theorem dX5_readPad_129 : decode cX5_readPad 129 = .ok (.aload_n 0, 1) := by decide +kernel
theorem dX5_readPad_130 : decode cX5_readPad 130 = .ok (.getfield 62, 3) := by decide +kernel
theorem dX5_readPad_133 : decode cX5_readPad 133 = .ok (.iconst 1, 1) := by decide +kernel
theorem dX5_readPad_134 : decode cX5_readPad 134 = .ok (.isub, 1) := by decide +kernel
theorem dX5_readPad_135 : decode cX5_readPad 135 = .ok (.bipush 10, 2) := by decide +kernel
theorem dX5_readPad_137 : decode cX5_readPad 137 = .ok (.iload 5, 2) := by decide +kernel
theorem dX5_readPad_139 : decode cX5_readPad 139 = .ok (.imul, 1) := by decide +kernel
theorem dX5_readPad_140 : decode cX5_readPad 140 = .ok (.iload_n 3, 1) := by decide +kernel
theorem dX5_readPad_141 : decode cX5_readPad 141 = .ok (.iadd, 1) := by decide +kernel
theorem dX5_readPad_142 : decode cX5_readPad 142 = .ok (.bipush 48, 2) := by decide +kernel
theorem dX5_readPad_144 : decode cX5_readPad 144 = .ok (.isub, 1) := by decide +kernel
theorem dX5_readPad_145 : decode cX5_readPad 145 = .ok (.iastore, 1) := by decide +kernel
theorem dX5_readPad_146 : decode cX5_readPad 146 = .ok (.iinc 2 1, 3) := by decide +kernel
theorem dX5_readPad_149 : decode cX5_readPad 149 = .ok (.goto (-140), 3) := by decide +kernel
theorem dX5_readPad_152 : decode cX5_readPad 152 = .ok (.iload_n 1, 1) := by decide +kernel
theorem dX5_readPad_153 : decode cX5_readPad 153 = .ok (.ifCond .eq 10, 3) := by decide +kernel
theorem dX5_readPad_156 : decode cX5_readPad 156 = .ok (.aload_n 0, 1) := by decide +kernel
theorem dX5_readPad_157 : decode cX5_readPad 157 = .ok (.getfield 124, 3) := by decide +kernel
theorem dX5_readPad_160 : decode cX5_readPad 160 = .ok (.goto 5, 3) := by decide +kernel
theorem dX5_readPad_163 : decode cX5_readPad 163 = .ok (.bipush (-6), 2) := by decide +kernel
theorem dX5_readPad_165 : decode cX5_readPad 165 = .ok (.ireturn, 1) := by decide +kernel
set_option maxRecDepth 20000 in
theorem ggX5_fault_X5_readPad : GoodIn wsX5_fault wsX5_readPad := goodIn_r _ [5, 6, 7, 8, 9, 10, 11, 12, 4, 13, 14, 15, 16, 17, 18, 19, 20, 21, 22, 23, 24, 25, 26, 27] (by decide +kernel) (by decide +kernel)
set_option maxRecDepth 20000 in
theorem gX5_fault_X5_readPad : GoodIn wsX5_fault (wsV RX5 143 RX5 yX5_readPad wsX5_readPad) := goodIn_app (goodIn_of _ (by decide +kernel)) ggX5_fault_X5_readPad
theorem dX5_fault_0 : decode cX5_fault 0 = .ok (.aload_n 0, 1) := by decide +kernel
theorem dX5_fault_1 : decode cX5_fault 1 = .ok (.invokevirtual 143, 3) := by decide +kernel
theorem dX5_fault_4 : decode cX5_fault 4 = .ok (.ireturn, 1) := by decide +kernel
set_option maxRecDepth 20000 in
theorem ggX5_read_X5_isRegister : GoodIn wsX5_read wsX5_isRegister := goodIn_r _ [6, 7, 8, 5, 9] (by decide +kernel) (by decide +kernel)
set_option maxRecDepth 20000 in
theorem gX5_read_X5_isRegister : GoodIn wsX5_read (va_wsS RX5 68 yX5_isRegister wsX5_isRegister) := goodIn_app (goodIn_of _ (by decide +kernel)) ggX5_read_X5_isRegister
set_option maxRecDepth 20000 in
theorem ggX5_read_X5_readPad : GoodIn wsX5_read wsX5_readPad := goodIn_r _ [13, 1, 14, 15, 2, 16, 17, 18, 5, 19, 7, 8, 9, 31, 32, 33, 34, 35, 36, 37, 38, 39, 40, 41] (by decide +kernel) (by decide +kernel)
set_option maxRecDepth 20000 in
theorem gX5_read_X5_readPad : GoodIn wsX5_read (wsV RX5 143 RX5 yX5_readPad wsX5_readPad) := goodIn_app (goodIn_of _ (by decide +kernel)) ggX5_read_X5_readPad
set_option maxRecDepth 20000 in
theorem ggX5_read_X5_record : GoodIn wsX5_read wsX5_record := goodIn_r _ [23, 24, 25, 26, 31, 32, 33, 34, 35, 36, 37, 38, 39, 40, 41] (by decide +kernel) (by decide +kernel)
set_option maxRecDepth 20000 in
theorem gX5_read_X5_record : GoodIn wsX5_read (wsV RX5 52 RX5 yX5_record wsX5_record) := goodIn_app (goodIn_of _ (by decide +kernel)) ggX5_read_X5_record
set_option maxRecDepth 20000 in
theorem ggX5_read_X5_store : GoodIn wsX5_read wsX5_store := goodIn_r _ [30, 26, 2, 15, 31, 32, 33, 34, 35, 36, 37, 38, 39, 40, 41] (by decide +kernel) (by decide +kernel)
set_option maxRecDepth 20000 in
theorem gX5_read_X5_store : GoodIn wsX5_read (wsV RX5 79 RX5 yX5_store wsX5_store) := goodIn_app (goodIn_of _ (by decide +kernel)) ggX5_read_X5_store
theorem dX5_read_0 : decode cX5_read 0 = .ok (.iload_n 1, 1) := by decide +kernel
theorem dX5_read_1 : decode cX5_read 1 = .ok (.invokestatic 68, 3) := by decide +kernel
theorem dX5_read_4 : decode cX5_read 4 = .ok (.ifCond .ne 5, 3) := by decide +kernel
theorem dX5_read_7 : decode cX5_read 7 = .ok (.iconst (-1), 1) := by decide +kernel
theorem dX5_read_8 : decode cX5_read 8 = .ok (.ireturn, 1) := by decide +kernel
theorem dX5_read_9 : decode cX5_read 9 = .ok (.aload_n 0, 1) := by decide +kernel
theorem dX5_read_10 : decode cX5_read 10 = .ok (.invokevirtual 143, 3) := by decide +kernel
theorem dX5_read_13 : decode cX5_read 13 = .ok (.bipush (-6), 2) := by decide +kernel
theorem dX5_read_15 : decode cX5_read 15 = .ok (.if_icmp .eq 6, 3) := by decide +kernel
theorem dX5_read_18 : decode cX5_read 18 = .ok (.bipush (-3), 2) := by decide +kernel
theorem dX5_read_20 : decode cX5_read 20 = .ok (.ireturn, 1) := by decide +kernel
theorem dX5_read_21 : decode cX5_read 21 = .ok (.aload_n 0, 1) := by decide +kernel
theorem dX5_read_22 : decode cX5_read 22 = .ok (.invokevirtual 52, 3) := by decide +kernel
theorem dX5_read_25 : decode cX5_read 25 = .ok (.aload_n 0, 1) := by decide +kernel
theorem dX5_read_26 : decode cX5_read 26 = .ok (.iload_n 1, 1) := by decide +kernel
theorem dX5_read_27 : decode cX5_read 27 = .ok (.invokevirtual 79, 3) := by decide +kernel
theorem dX5_read_30 : decode cX5_read 30 = .ok (.aload_n 0, 1) := by decide +kernel
theorem dX5_read_31 : decode cX5_read 31 = .ok (.iconst 0, 1) := by decide +kernel
theorem dX5_read_32 : decode cX5_read 32 = .ok (.putfield 124, 3) := by decide +kernel
theorem dX5_read_35 : decode cX5_read 35 = .ok (.aload_n 0, 1) := by decide +kernel
theorem dX5_read_36 : decode cX5_read 36 = .ok (.getfield 62, 3) := by decide +kernel
theorem dX5_read_39 : decode cX5_read 39 = .ok (.ireturn, 1) := by decide +kernel
theorem dJ9_floorMod_7cf53_0 : decode cJ9_floorMod_7cf53 0 = .ok (.iload_n 0, 1) := by decide +kernel
theorem dJ9_floorMod_7cf53_1 : decode cJ9_floorMod_7cf53 1 = .ok (.iload_n 1, 1) := by decide +kernel
theorem dJ9_floorMod_7cf53_2 : decode cJ9_floorMod_7cf53 2 = .ok (.irem, 1) := by decide +kernel
theorem dJ9_floorMod_7cf53_3 : decode cJ9_floorMod_7cf53 3 = .ok (.istore_n 2, 1) := by decide +kernel
theorem dJ9_floorMod_7cf53_4 : decode cJ9_floorMod_7cf53 4 = .ok (.iload_n 0, 1) := by decide +kernel
theorem dJ9_floorMod_7cf53_5 : decode cJ9_floorMod_7cf53 5 = .ok (.iload_n 1, 1) := by decide +kernel
theorem dJ9_floorMod_7cf53_6 : decode cJ9_floorMod_7cf53 6 = .ok (.ixor, 1) := by decide +kernel
theorem dJ9_floorMod_7cf53_7 : decode cJ9_floorMod_7cf53 7 = .ok (.ifCond .ge 11, 3) := by decide +kernel
theorem dJ9_floorMod_7cf53_10 : decode cJ9_floorMod_7cf53 10 = .ok (.iload_n 2, 1) := by decide +kernel
theorem dJ9_floorMod_7cf53_11 : decode cJ9_floorMod_7cf53 11 = .ok (.ifCond .eq 7, 3) := by decide +kernel
theorem dJ9_floorMod_7cf53_14 : decode cJ9_floorMod_7cf53 14 = .ok (.iload_n 2, 1) := by decide +kernel
theorem dJ9_floorMod_7cf53_15 : decode cJ9_floorMod_7cf53 15 = .ok (.iload_n 1, 1) := by decide +kernel
theorem dJ9_floorMod_7cf53_16 : decode cJ9_floorMod_7cf53 16 = .ok (.iadd, 1) := by decide +kernel
theorem dJ9_floorMod_7cf53_17 : decode cJ9_floorMod_7cf53 17 = .ok (.ireturn, 1) := by decide +kernel
theorem dJ9_floorMod_7cf53_18 : decode cJ9_floorMod_7cf53 18 = .ok (.iload_n 2, 1) := by decide +kernel
theorem dJ9_floorMod_7cf53_19 : decode cJ9_floorMod_7cf53 19 = .ok (.ireturn, 1) := by decide +kernel
theorem dJ9_max_7cf53_0 : decode cJ9_max_7cf53 0 = .ok (.iload_n 0, 1) := by decide +kernel
theorem dJ9_max_7cf53_1 : decode cJ9_max_7cf53 1 = .ok (.iload_n 1, 1) := by decide +kernel
theorem dJ9_max_7cf53_2 : decode cJ9_max_7cf53 2 = .ok (.if_icmp .lt 7, 3) := by decide +kernel
theorem dJ9_max_7cf53_5 : decode cJ9_max_7cf53 5 = .ok (.iload_n 0, 1) := by decide +kernel
theorem dJ9_max_7cf53_6 : decode cJ9_max_7cf53 6 = .ok (.goto 4, 3) := by decide +kernel
theorem dJ9_max_7cf53_9 : decode cJ9_max_7cf53 9 = .ok (.iload_n 1, 1) := by decide +kernel
theorem dJ9_max_7cf53_10 : decode cJ9_max_7cf53 10 = .ok (.ireturn, 1) := by decide +kernel
theorem dJ7_fill_53178_0 : decode cJ7_fill_53178 0 = .ok (.iconst 0, 1) := by decide +kernel
theorem dJ7_fill_53178_1 : decode cJ7_fill_53178 1 = .ok (.istore_n 2, 1) := by decide +kernel
theorem dJ7_fill_53178_2 : decode cJ7_fill_53178 2 = .ok (.aload_n 0, 1) := by decide +kernel
theorem dJ7_fill_53178_3 : decode cJ7_fill_53178 3 = .ok (.arraylength, 1) := by decide +kernel
theorem dJ7_fill_53178_4 : decode cJ7_fill_53178 4 = .ok (.istore_n 3, 1) := by decide +kernel
theorem dJ7_fill_53178_5 : decode cJ7_fill_53178 5 = .ok (.iload_n 2, 1) := by decide +kernel
theorem dJ7_fill_53178_6 : decode cJ7_fill_53178 6 = .ok (.iload_n 3, 1) := by decide +kernel
theorem dJ7_fill_53178_7 : decode cJ7_fill_53178 7 = .ok (.if_icmp .ge 13, 3) := by decide +kernel
theorem dJ7_fill_53178_10 : decode cJ7_fill_53178 10 = .ok (.aload_n 0, 1) := by decide +kernel
theorem dJ7_fill_53178_11 : decode cJ7_fill_53178 11 = .ok (.iload_n 2, 1) := by decide +kernel
theorem dJ7_fill_53178_12 : decode cJ7_fill_53178 12 = .ok (.iload_n 1, 1) := by decide +kernel
theorem dJ7_fill_53178_13 : decode cJ7_fill_53178 13 = .ok (.iastore, 1) := by decide +kernel
theorem dJ7_fill_53178_14 : decode cJ7_fill_53178 14 = .ok (.iinc 2 1, 3) := by decide +kernel
theorem dJ7_fill_53178_17 : decode cJ7_fill_53178 17 = .ok (.goto (-12), 3) := by decide +kernel
theorem dJ7_fill_53178_20 : decode cJ7_fill_53178 20 = .ok (.return_, 1) := by decide +kernel
set_option maxRecDepth 20000 in
theorem ggL_law_X4_init : GoodIn wsL_law wsX4_init := goodIn_r _ [9, 10, 11, 12, 13, 14, 15, 16, 17, 18, 19, 20, 21, 22, 23, 24, 25, 26, 27, 28, 29, 30, 31, 32, 33, 34, 35, 36, 37, 38, 39, 40, 41, 42, 43, 44, 45, 46, 47, 48, 49, 50, 51, 52, 53, 54, 55, 56, 57, 58, 59, 60, 598, 577, 578, 579, 580, 581, 582, 583, 584, 585, 586, 599, 600, 601, 602, 603, 604] (by decide +kernel) (by decide +kernel)
set_option maxRecDepth 20000 in
theorem gL_law_X4_init : GoodIn wsL_law (wsX4_init) := ggL_law_X4_init
set_option maxRecDepth 20000 in
theorem ggL_law_X5_init : GoodIn wsL_law wsX5_init := goodIn_r _ [63, 64, 11, 12, 45, 65, 66, 67, 26, 68, 69, 70, 71, 72, 73, 587, 588, 589, 590, 591, 592, 593, 594, 595, 596, 597] (by decide +kernel) (by decide +kernel)
set_option maxRecDepth 20000 in
theorem gL_law_X5_init : GoodIn wsL_law (wsX5_init) := ggL_law_X5_init
set_option maxRecDepth 20000 in
theorem ggL_law_X4_read : GoodIn wsL_law wsX4_read := goodIn_r _ [77, 16, 24, 31, 78, 79, 80, 15, 81, 41, 82, 83, 84, 23, 85, 59, 60, 86, 87, 88, 89, 90, 91, 92, 93, 94, 95, 30, 96, 46, 97, 98, 99, 100, 101, 102, 103, 104, 47, 105, 106, 107, 108, 2, 109, 20, 110, 111, 112, 19, 113, 54, 53, 114, 115, 116, 117, 118, 119, 120, 121, 122, 123, 124, 125, 126, 127, 128, 129, 130, 131, 132, 133, 134, 135, 136, 137, 138, 577, 578, 579, 580, 581, 582, 583, 584, 585, 586, 598, 601, 602, 603, 604, 599, 600] (by decide +kernel) (by decide +kernel)
set_option maxRecDepth 20000 in
theorem gL_law_X4_read : GoodIn wsL_law (wsV RL 13 RX4 yX4_read wsX4_read) := goodIn_app (goodIn_of _ (by decide +kernel)) ggL_law_X4_read
set_option maxRecDepth 20000 in
theorem ggL_law_X5_read : GoodIn wsL_law wsX5_read := goodIn_r _ [142, 143, 144, 145, 146, 5, 147, 148, 149, 150, 151, 152, 153, 154, 70, 71, 155, 156, 157, 158, 159, 160, 161, 162, 163, 66, 65, 164, 165, 166, 167, 587, 588, 589, 590, 591, 592, 593, 594, 595, 596, 597] (by decide +kernel) (by decide +kernel)
set_option maxRecDepth 20000 in
theorem gL_law_X5_read : GoodIn wsL_law (wsV RL 17 RX5 yX5_read wsX5_read) := goodIn_app (goodIn_of _ (by decide +kernel)) ggL_law_X5_read
set_option maxRecDepth 20000 in
theorem ggL_law_X4_set : GoodIn wsL_law wsX4_set := goodIn_r _ [171, 16, 20, 172, 90, 91, 92, 78, 79, 80, 15, 81, 41, 135, 136, 137, 30, 138, 47, 173, 174, 2, 175, 110, 111, 112, 19, 113, 54, 53, 114, 115, 116, 117, 118, 119, 120, 121, 122, 123, 124, 125, 46, 126, 127, 128, 129, 176, 102, 103, 104, 105, 94, 95, 96, 97, 98, 99, 100, 177, 577, 578, 579, 580, 581, 582, 583, 584, 585, 586, 598, 603, 604, 599, 600] (by decide +kernel) (by decide +kernel)
set_option maxRecDepth 20000 in
theorem gL_law_X4_set : GoodIn wsL_law (wsV RL 18 RX4 yX4_set wsX4_set) := goodIn_app (goodIn_of _ (by decide +kernel)) ggL_law_X4_set
set_option maxRecDepth 20000 in
theorem ggL_law_X5_set : GoodIn wsL_law wsX5_set := goodIn_r _ [181, 65, 145, 146, 5, 147, 148, 149, 150, 182, 183, 184, 185, 186, 187, 188, 159, 160, 161, 162, 163, 66, 587, 588, 589, 590, 591, 592, 593, 594, 595, 596, 597] (by decide +kernel) (by decide +kernel)
set_option maxRecDepth 20000 in
theorem gL_law_X5_set : GoodIn wsL_law (wsV RL 22 RX5 yX5_set wsX5_set) := goodIn_app (goodIn_of _ (by decide +kernel)) ggL_law_X5_set
set_option maxRecDepth 20000 in
theorem ggL_law_X4_add : GoodIn wsL_law wsX4_add := goodIn_r _ [192, 16, 31, 172, 90, 91, 92, 78, 79, 80, 15, 81, 41, 173, 174, 2, 175, 135, 136, 137, 30, 138, 47, 193, 194, 195, 196, 46, 197, 198, 199, 200, 201, 202, 203, 204, 177, 94, 95, 96, 97, 98, 99, 100, 106, 107, 108, 109, 20, 110, 111, 112, 19, 113, 54, 53, 114, 115, 116, 117, 118, 119, 120, 121, 122, 123, 124, 125, 126, 127, 128, 129, 130, 577, 578, 579, 580, 581, 582, 583, 584, 585, 586, 598, 603, 604, 599, 600] (by decide +kernel) (by decide +kernel)
set_option maxRecDepth 20000 in
theorem gL_law_X4_add : GoodIn wsL_law (wsV RL 23 RX4 yX4_add wsX4_add) := goodIn_app (goodIn_of _ (by decide +kernel)) ggL_law_X4_add
set_option maxRecDepth 20000 in
theorem ggL_law_X5_add : GoodIn wsL_law wsX5_add := goodIn_r _ [208, 144, 71, 145, 146, 5, 147, 148, 149, 150, 186, 187, 188, 159, 160, 161, 162, 163, 66, 65, 182, 183, 184, 185, 155, 156, 157, 158, 209, 210, 211, 212, 213, 214, 215, 164, 165, 166, 167, 587, 588, 589, 590, 591, 592, 593, 594, 595, 596, 597] (by decide +kernel) (by decide +kernel)
set_option maxRecDepth 20000 in
theorem gL_law_X5_add : GoodIn wsL_law (wsV RL 27 RX5 yX5_add wsX5_add) := goodIn_app (goodIn_of _ (by decide +kernel)) ggL_law_X5_add
set_option maxRecDepth 20000 in
theorem ggL_law_X4_product : GoodIn wsL_law wsX4_product := goodIn_r _ [219, 16, 31, 78, 79, 80, 15, 81, 41, 220, 221, 2, 222, 135, 136, 137, 30, 138, 47, 223, 224, 225, 193, 194, 195, 196, 46, 197, 198, 199, 200, 201, 202, 203, 204, 177, 94, 95, 96, 97, 98, 99, 100, 226, 227, 228, 106, 107, 108, 109, 20, 110, 111, 112, 19, 113, 54, 53, 114, 115, 116, 117, 118, 119, 120, 121, 122, 123, 124, 125, 126, 127, 128, 129, 130, 577, 578, 579, 580, 581, 582, 583, 584, 585, 586, 598, 603, 604, 599, 600] (by decide +kernel) (by decide +kernel)
set_option maxRecDepth 20000 in
theorem gL_law_X4_product : GoodIn wsL_law (wsV RL 28 RX4 yX4_product wsX4_product) := goodIn_app (goodIn_of _ (by decide +kernel)) ggL_law_X4_product
set_option maxRecDepth 20000 in
theorem ggL_law_X5_product : GoodIn wsL_law wsX5_product := goodIn_r _ [232, 71, 145, 146, 5, 147, 148, 149, 150, 182, 183, 184, 185, 65, 159, 160, 161, 162, 163, 66, 155, 156, 157, 158, 144, 209, 210, 211, 212, 164, 165, 166, 167, 587, 588, 589, 590, 591, 592, 593, 594, 595, 596, 597] (by decide +kernel) (by decide +kernel)
set_option maxRecDepth 20000 in
theorem gL_law_X5_product : GoodIn wsL_law (wsV RL 31 RX5 yX5_product wsX5_product) := goodIn_app (goodIn_of _ (by decide +kernel)) ggL_law_X5_product
set_option maxRecDepth 20000 in
theorem ggL_law_X4_round : GoodIn wsL_law wsX4_round := goodIn_r _ [236, 16, 31, 78, 79, 80, 15, 81, 41, 223, 224, 2, 225, 193, 194, 195, 30, 196, 46, 47, 197, 198, 199, 200, 135, 136, 137, 138, 201, 202, 203, 204, 177, 94, 95, 96, 97, 98, 99, 100, 226, 227, 228, 106, 107, 108, 109, 20, 110, 111, 112, 19, 113, 54, 53, 114, 115, 116, 117, 118, 119, 120, 121, 122, 123, 124, 125, 126, 127, 128, 129, 130, 237, 238, 239, 240, 241, 577, 578, 579, 580, 581, 582, 583, 584, 585, 586, 598, 603, 604, 599, 600] (by decide +kernel) (by decide +kernel)
set_option maxRecDepth 20000 in
theorem gL_law_X4_round : GoodIn wsL_law (wsV RL 32 RX4 yX4_round wsX4_round) := goodIn_app (goodIn_of _ (by decide +kernel)) ggL_law_X4_round
set_option maxRecDepth 20000 in
theorem ggL_law_X5_round : GoodIn wsL_law wsX5_round := goodIn_r _ [245, 71, 145, 146, 5, 147, 148, 149, 150, 159, 160, 161, 162, 163, 66, 65, 155, 156, 157, 158, 144, 182, 183, 184, 185, 209, 210, 211, 212, 164, 165, 166, 167, 246, 247, 248, 249, 587, 588, 589, 590, 591, 592, 593, 594, 595, 596, 597] (by decide +kernel) (by decide +kernel)
set_option maxRecDepth 20000 in
theorem gL_law_X5_round : GoodIn wsL_law (wsV RL 35 RX5 yX5_round wsX5_round) := goodIn_app (goodIn_of _ (by decide +kernel)) ggL_law_X5_round
set_option maxRecDepth 20000 in
theorem ggL_law_X4_power : GoodIn wsL_law wsX4_power := goodIn_r _ [253, 16, 31, 35, 78, 79, 80, 15, 81, 41, 135, 136, 137, 30, 138, 47, 193, 194, 195, 196, 46, 197, 198, 199, 200, 177, 94, 95, 96, 97, 98, 99, 100, 220, 221, 2, 222, 223, 224, 225, 201, 202, 203, 204, 226, 227, 228, 130, 123, 124, 125, 126, 127, 128, 129, 106, 107, 108, 109, 20, 110, 111, 112, 19, 113, 54, 53, 114, 115, 116, 117, 118, 119, 120, 121, 122, 577, 578, 579, 580, 581, 582, 583, 584, 585, 586, 598, 603, 604, 599, 600] (by decide +kernel) (by decide +kernel)
set_option maxRecDepth 20000 in
theorem gL_law_X4_power : GoodIn wsL_law (wsV RL 36 RX4 yX4_power wsX4_power) := goodIn_app (goodIn_of _ (by decide +kernel)) ggL_law_X4_power
set_option maxRecDepth 20000 in
theorem ggL_law_X5_power : GoodIn wsL_law wsX5_power := goodIn_r _ [257, 71, 144, 145, 146, 5, 147, 148, 149, 150, 182, 183, 184, 185, 65, 159, 160, 161, 162, 163, 66, 155, 156, 157, 158, 258, 259, 260, 261, 72, 209, 210, 211, 212, 164, 165, 166, 167, 587, 588, 589, 590, 591, 592, 593, 594, 595, 596, 597] (by decide +kernel) (by decide +kernel)
set_option maxRecDepth 20000 in
theorem gL_law_X5_power : GoodIn wsL_law (wsV RL 39 RX5 yX5_power wsX5_power) := goodIn_app (goodIn_of _ (by decide +kernel)) ggL_law_X5_power
set_option maxRecDepth 20000 in
theorem ggL_law_X4_inverse : GoodIn wsL_law wsX4_inverse := goodIn_r _ [265, 16, 31, 78, 79, 80, 15, 81, 41, 201, 202, 203, 30, 204, 46, 266, 267, 2, 268, 269, 270, 271, 272, 273, 274, 193, 194, 195, 196, 47, 197, 198, 199, 200, 177, 94, 95, 96, 97, 98, 99, 100, 106, 107, 108, 109, 20, 110, 111, 112, 19, 113, 54, 53, 114, 115, 116, 117, 118, 119, 120, 121, 122, 123, 124, 125, 126, 127, 128, 129, 130, 237, 238, 239, 240, 241, 577, 578, 579, 580, 581, 582, 583, 584, 585, 586, 598, 603, 604, 599, 600] (by decide +kernel) (by decide +kernel)
set_option maxRecDepth 20000 in
theorem gL_law_X4_inverse : GoodIn wsL_law (wsV RL 40 RX4 yX4_inverse wsX4_inverse) := goodIn_app (goodIn_of _ (by decide +kernel)) ggL_law_X4_inverse
set_option maxRecDepth 20000 in
theorem ggL_law_X5_inverse : GoodIn wsL_law wsX5_inverse := goodIn_r _ [278, 71, 145, 146, 5, 147, 148, 149, 150, 209, 210, 211, 212, 65, 182, 183, 184, 185, 159, 160, 161, 162, 163, 66, 155, 156, 157, 158, 144, 279, 280, 281, 282, 283, 284, 213, 214, 215, 285, 286, 287, 164, 165, 166, 167, 246, 247, 248, 249, 587, 588, 589, 590, 591, 592, 593, 594, 595, 596, 597] (by decide +kernel) (by decide +kernel)
set_option maxRecDepth 20000 in
theorem gL_law_X5_inverse : GoodIn wsL_law (wsV RL 43 RX5 yX5_inverse wsX5_inverse) := goodIn_app (goodIn_of _ (by decide +kernel)) ggL_law_X5_inverse
set_option maxRecDepth 20000 in
theorem ggL_law_X4_divide : GoodIn wsL_law wsX4_divide := goodIn_r _ [291, 16, 31, 32, 78, 79, 80, 15, 81, 41, 237, 238, 239, 30, 240, 47, 241, 202, 203, 204, 46, 292, 293, 2, 294, 172, 90, 91, 92, 201, 269, 270, 271, 272, 273, 274, 193, 194, 195, 196, 197, 198, 199, 200, 130, 123, 124, 125, 126, 127, 128, 129, 177, 94, 95, 96, 97, 98, 99, 100, 176, 102, 103, 104, 105, 106, 107, 108, 109, 20, 110, 111, 112, 19, 113, 54, 53, 114, 115, 116, 117, 118, 119, 120, 121, 122, 577, 578, 579, 580, 581, 582, 583, 584, 585, 586, 598, 603, 604, 599, 600] (by decide +kernel) (by decide +kernel)
set_option maxRecDepth 20000 in
theorem gL_law_X4_divide : GoodIn wsL_law (wsV RL 44 RX4 yX4_divide wsX4_divide) := goodIn_app (goodIn_of _ (by decide +kernel)) ggL_law_X4_divide
set_option maxRecDepth 20000 in
theorem ggL_law_X5_divide : GoodIn wsL_law wsX5_divide := goodIn_r _ [298, 72, 73, 71, 145, 146, 5, 147, 148, 149, 150, 299, 300, 301, 302, 182, 183, 184, 185, 65, 209, 210, 211, 212, 159, 160, 161, 162, 163, 66, 155, 156, 157, 158, 144, 303, 304, 305, 306, 279, 280, 281, 282, 283, 284, 213, 214, 215, 285, 286, 287, 164, 165, 166, 167, 246, 247, 248, 249, 587, 588, 589, 590, 591, 592, 593, 594, 595, 596, 597] (by decide +kernel) (by decide +kernel)
set_option maxRecDepth 20000 in
theorem gL_law_X5_divide : GoodIn wsL_law (wsV RL 47 RX5 yX5_divide wsX5_divide) := goodIn_app (goodIn_of _ (by decide +kernel)) ggL_law_X5_divide
set_option maxRecDepth 20000 in
theorem ggL_law_X4_divisor : GoodIn wsL_law wsX4_divisor := goodIn_r _ [310, 16, 78, 79, 80, 15, 81, 41, 237, 238, 239, 30, 240, 47, 241, 202, 203, 204, 46, 311, 312, 313, 2, 314, 33, 34, 35, 32, 31, 130, 123, 124, 125, 126, 127, 128, 129, 292, 293, 294, 172, 90, 91, 92, 201, 269, 270, 271, 272, 273, 274, 193, 194, 195, 196, 197, 198, 199, 200, 177, 94, 95, 96, 97, 98, 99, 100, 176, 102, 103, 104, 105, 315, 316, 317, 318, 106, 107, 108, 109, 20, 110, 111, 112, 19, 113, 54, 53, 114, 115, 116, 117, 118, 119, 120, 121, 122, 577, 578, 579, 580, 581, 582, 583, 584, 585, 586, 598, 603, 604, 599, 600] (by decide +kernel) (by decide +kernel)
set_option maxRecDepth 20000 in
theorem gL_law_X4_divisor : GoodIn wsL_law (wsV RL 48 RX4 yX4_divisor wsX4_divisor) := goodIn_app (goodIn_of _ (by decide +kernel)) ggL_law_X4_divisor
set_option maxRecDepth 20000 in
theorem ggL_law_X5_divisor : GoodIn wsL_law wsX5_divisor := goodIn_r _ [322, 72, 73, 71, 145, 146, 5, 147, 148, 149, 150, 299, 300, 301, 302, 182, 183, 184, 185, 65, 209, 210, 211, 212, 159, 160, 161, 162, 163, 66, 323, 324, 325, 155, 156, 157, 158, 144, 303, 304, 305, 306, 279, 280, 281, 282, 283, 284, 213, 214, 215, 285, 286, 287, 164, 165, 166, 167, 587, 588, 589, 590, 591, 592, 593, 594, 595, 596, 597] (by decide +kernel) (by decide +kernel)
set_option maxRecDepth 20000 in
theorem gL_law_X5_divisor : GoodIn wsL_law (wsV RL 51 RX5 yX5_divisor wsX5_divisor) := goodIn_app (goodIn_of _ (by decide +kernel)) ggL_law_X5_divisor
set_option maxRecDepth 20000 in
theorem ggL_law_X4_turn : GoodIn wsL_law wsX4_turn := goodIn_r _ [329, 16, 31, 78, 79, 80, 15, 81, 41, 330, 331, 2, 332, 272, 273, 274, 135, 136, 137, 30, 138, 47, 333, 334, 335, 193, 194, 195, 196, 46, 197, 198, 199, 200, 336, 337, 338, 339, 241, 202, 203, 204, 177, 94, 95, 96, 97, 98, 99, 100, 106, 107, 108, 109, 20, 110, 111, 112, 19, 113, 54, 53, 114, 115, 116, 117, 118, 119, 120, 121, 122, 123, 124, 125, 126, 127, 128, 129, 130, 340, 341, 342, 343, 577, 578, 579, 580, 581, 582, 583, 584, 585, 586, 598, 603, 604, 599, 600] (by decide +kernel) (by decide +kernel)
set_option maxRecDepth 20000 in
theorem gL_law_X4_turn : GoodIn wsL_law (wsV RL 52 RX4 yX4_turn wsX4_turn) := goodIn_app (goodIn_of _ (by decide +kernel)) ggL_law_X4_turn
set_option maxRecDepth 20000 in
theorem ggL_law_X5_turn : GoodIn wsL_law wsX5_turn := goodIn_r _ [347, 71, 145, 146, 5, 147, 148, 149, 150, 348, 349, 350, 182, 183, 184, 185, 65, 159, 160, 161, 162, 163, 66, 155, 156, 157, 158, 144, 351, 352, 353, 282, 283, 284, 213, 214, 215, 354, 355, 356, 357, 209, 210, 211, 212, 164, 165, 166, 167, 587, 588, 589, 590, 591, 592, 593, 594, 595, 596, 597] (by decide +kernel) (by decide +kernel)
set_option maxRecDepth 20000 in
theorem gL_law_X5_turn : GoodIn wsL_law (wsV RL 55 RX5 yX5_turn wsX5_turn) := goodIn_app (goodIn_of _ (by decide +kernel)) ggL_law_X5_turn
set_option maxRecDepth 20000 in
theorem ggL_law_X4_turnBack : GoodIn wsL_law wsX4_turnBack := goodIn_r _ [361, 16, 31, 78, 79, 80, 15, 81, 41, 135, 136, 137, 30, 138, 47, 330, 331, 2, 332, 272, 273, 274, 269, 270, 271, 333, 334, 335, 193, 194, 195, 196, 46, 197, 198, 199, 200, 336, 337, 338, 339, 241, 202, 203, 204, 177, 94, 95, 96, 97, 98, 99, 100, 315, 316, 317, 318, 105, 106, 107, 108, 109, 20, 110, 111, 112, 19, 113, 54, 53, 114, 115, 116, 117, 118, 119, 120, 121, 122, 123, 124, 125, 126, 127, 128, 129, 130, 237, 238, 239, 240, 577, 578, 579, 580, 581, 582, 583, 584, 585, 586, 598, 603, 604, 599, 600] (by decide +kernel) (by decide +kernel)
set_option maxRecDepth 20000 in
theorem gL_law_X4_turnBack : GoodIn wsL_law (wsV RL 56 RX4 yX4_turnBack wsX4_turnBack) := goodIn_app (goodIn_of _ (by decide +kernel)) ggL_law_X4_turnBack
set_option maxRecDepth 20000 in
theorem ggL_law_X5_turnBack : GoodIn wsL_law wsX5_turnBack := goodIn_r _ [365, 71, 145, 146, 5, 147, 148, 149, 150, 182, 183, 184, 185, 65, 348, 349, 350, 159, 160, 161, 162, 163, 66, 155, 156, 157, 158, 144, 351, 352, 353, 282, 283, 284, 213, 214, 215, 279, 280, 281, 354, 355, 356, 357, 209, 210, 211, 212, 164, 165, 166, 167, 246, 247, 248, 249, 587, 588, 589, 590, 591, 592, 593, 594, 595, 596, 597] (by decide +kernel) (by decide +kernel)
set_option maxRecDepth 20000 in
theorem gL_law_X5_turnBack : GoodIn wsL_law (wsV RL 60 RX5 yX5_turnBack wsX5_turnBack) := goodIn_app (goodIn_of _ (by decide +kernel)) ggL_law_X5_turnBack
set_option maxRecDepth 20000 in
theorem ggL_law_X4_number : GoodIn wsL_law wsX4_number := goodIn_r _ [369, 16, 78, 79, 80, 15, 81, 41, 135, 136, 137, 30, 138, 47, 201, 202, 203, 204, 46, 577, 578, 579, 580, 581, 582, 583, 584, 585, 586, 598, 603, 604] (by decide +kernel) (by decide +kernel)
set_option maxRecDepth 20000 in
theorem gL_law_X4_number : GoodIn wsL_law (wsV RL 61 RX4 yX4_number wsX4_number) := goodIn_app (goodIn_of _ (by decide +kernel)) ggL_law_X4_number
set_option maxRecDepth 20000 in
theorem ggL_law_X5_number : GoodIn wsL_law wsX5_number := goodIn_r _ [373, 145, 146, 5, 147, 148, 149, 150, 182, 183, 184, 185, 65, 209, 210, 211, 212, 587, 588, 589, 590, 591, 592, 593, 594, 595, 596, 597] (by decide +kernel) (by decide +kernel)
set_option maxRecDepth 20000 in
theorem gL_law_X5_number : GoodIn wsL_law (wsV RL 64 RX5 yX5_number wsX5_number) := goodIn_app (goodIn_of _ (by decide +kernel)) ggL_law_X5_number
set_option maxRecDepth 20000 in
theorem ggL_law_X4_of : GoodIn wsL_law wsX4_of := goodIn_r _ [377, 16, 78, 79, 80, 15, 81, 41, 135, 136, 137, 30, 138, 47, 237, 238, 239, 240, 241, 202, 203, 204, 46, 340, 341, 342, 343, 378, 379, 380, 381, 382, 383, 384, 385, 386, 337, 338, 339, 387, 388, 389, 390, 577, 578, 579, 580, 581, 582, 583, 584, 585, 586, 598, 603, 604] (by decide +kernel) (by decide +kernel)
set_option maxRecDepth 20000 in
theorem gL_law_X4_of : GoodIn wsL_law (wsV RL 65 RX4 yX4_of wsX4_of) := goodIn_app (goodIn_of _ (by decide +kernel)) ggL_law_X4_of
set_option maxRecDepth 20000 in
theorem ggL_law_X5_of : GoodIn wsL_law wsX5_of := goodIn_r _ [394, 145, 146, 5, 147, 148, 149, 150, 182, 183, 184, 185, 65, 299, 300, 301, 302, 209, 210, 211, 212, 395, 396, 397, 398, 399, 400, 401, 402, 403, 404, 405, 406, 354, 355, 356, 357, 587, 588, 589, 590, 591, 592, 593, 594, 595, 596, 597] (by decide +kernel) (by decide +kernel)
set_option maxRecDepth 20000 in
theorem gL_law_X5_of : GoodIn wsL_law (wsV RL 68 RX5 yX5_of wsX5_of) := goodIn_app (goodIn_of _ (by decide +kernel)) ggL_law_X5_of
set_option maxRecDepth 20000 in
theorem ggL_law_X4_value : GoodIn wsL_law wsX4_value := goodIn_r _ [410, 16, 78, 79, 80, 15, 81, 41, 173, 174, 2, 175, 336, 337, 338, 30, 339, 47, 241, 202, 203, 204, 46, 577, 578, 579, 580, 581, 582, 583, 584, 585, 586, 598, 603, 604] (by decide +kernel) (by decide +kernel)
set_option maxRecDepth 20000 in
theorem gL_law_X4_value : GoodIn wsL_law (wsV RL 69 RX4 yX4_value wsX4_value) := goodIn_app (goodIn_of _ (by decide +kernel)) ggL_law_X4_value
set_option maxRecDepth 20000 in
theorem ggL_law_X5_value : GoodIn wsL_law wsX5_value := goodIn_r _ [414, 145, 146, 5, 147, 148, 149, 150, 186, 187, 188, 354, 355, 356, 357, 182, 183, 184, 185, 65, 209, 210, 211, 212, 587, 588, 589, 590, 591, 592, 593, 594, 595, 596, 597] (by decide +kernel) (by decide +kernel)
set_option maxRecDepth 20000 in
theorem gL_law_X5_value : GoodIn wsL_law (wsV RL 72 RX5 yX5_value wsX5_value) := goodIn_app (goodIn_of _ (by decide +kernel)) ggL_law_X5_value
set_option maxRecDepth 20000 in
theorem ggL_law_X4_turningPoint : GoodIn wsL_law wsX4_turningPoint := goodIn_r _ [418, 330, 331, 2, 332, 272, 273, 274] (by decide +kernel) (by decide +kernel)
set_option maxRecDepth 20000 in
theorem gL_law_X4_turningPoint : GoodIn wsL_law (wsV RL 73 RX4 yX4_turningPoint wsX4_turningPoint) := goodIn_app (goodIn_of _ (by decide +kernel)) ggL_law_X4_turningPoint
set_option maxRecDepth 20000 in
theorem ggL_law_X5_turningPoint : GoodIn wsL_law wsX5_turningPoint := goodIn_r _ [422, 348, 349, 5, 350, 148, 149, 150, 351, 352, 353, 282, 283, 284, 213, 214, 215] (by decide +kernel) (by decide +kernel)
set_option maxRecDepth 20000 in
theorem gL_law_X5_turningPoint : GoodIn wsL_law (wsV RL 76 RX5 yX5_turningPoint wsX5_turningPoint) := goodIn_app (goodIn_of _ (by decide +kernel)) ggL_law_X5_turningPoint
set_option maxRecDepth 20000 in
theorem ggL_law_X4_count : GoodIn wsL_law wsX4_count := goodIn_r _ [426, 16, 24, 20, 427, 428, 429, 15, 430, 41, 431, 136, 137, 30, 138, 47, 432, 433, 434, 23, 435, 60, 436, 437, 438, 19, 439, 54, 577, 578, 579, 580, 581, 582, 583, 584, 585, 586, 598, 603, 604, 601, 602, 599, 600] (by decide +kernel) (by decide +kernel)
set_option maxRecDepth 20000 in
theorem gL_law_X4_count : GoodIn wsL_law (wsV RL 77 RX4 yX4_count wsX4_count) := goodIn_app (goodIn_of _ (by decide +kernel)) ggL_law_X4_count
set_option maxRecDepth 20000 in
theorem ggL_law_X5_count : GoodIn wsL_law wsX5_count := goodIn_r _ [443, 143, 163, 444, 445, 446, 5, 447, 182, 183, 184, 185, 65, 587, 588, 589, 590, 591, 592, 593, 594, 595, 596, 597] (by decide +kernel) (by decide +kernel)
set_option maxRecDepth 20000 in
theorem gL_law_X5_count : GoodIn wsL_law (wsV RL 80 RX5 yX5_count wsX5_count) := goodIn_app (goodIn_of _ (by decide +kernel)) ggL_law_X5_count
set_option maxRecDepth 20000 in
theorem ggL_law_X4_fits : GoodIn wsL_law wsX4_fits := goodIn_r _ [451, 16, 452, 453, 78, 79, 80, 15, 81, 41, 454, 455, 2, 456, 135, 136, 137, 30, 138, 47, 457, 458, 459, 201, 202, 203, 204, 46, 577, 578, 579, 580, 581, 582, 583, 584, 585, 586, 598, 603, 604] (by decide +kernel) (by decide +kernel)
set_option maxRecDepth 20000 in
theorem gL_law_X4_fits : GoodIn wsL_law (wsV RL 81 RX4 yX4_fits wsX4_fits) := goodIn_app (goodIn_of _ (by decide +kernel)) ggL_law_X4_fits
set_option maxRecDepth 20000 in
theorem ggL_law_X5_fits : GoodIn wsL_law wsX5_fits := goodIn_r _ [463, 464, 465, 145, 146, 5, 147, 148, 149, 150, 466, 467, 468, 469, 182, 183, 184, 185, 65, 470, 471, 472, 473, 209, 210, 211, 212, 587, 588, 589, 590, 591, 592, 593, 594, 595, 596, 597] (by decide +kernel) (by decide +kernel)
set_option maxRecDepth 20000 in
theorem gL_law_X5_fits : GoodIn wsL_law (wsV RL 85 RX5 yX5_fits wsX5_fits) := goodIn_app (goodIn_of _ (by decide +kernel)) ggL_law_X5_fits
set_option maxRecDepth 20000 in
theorem ggL_law_X4_sum : GoodIn wsL_law wsX4_sum := goodIn_r _ [477, 16, 78, 79, 80, 15, 81, 41, 454, 455, 2, 456, 135, 136, 137, 30, 138, 47, 478, 479, 480, 201, 202, 203, 204, 46, 577, 578, 579, 580, 581, 582, 583, 584, 585, 586, 598, 603, 604] (by decide +kernel) (by decide +kernel)
set_option maxRecDepth 20000 in
theorem gL_law_X4_sum : GoodIn wsL_law (wsV RL 86 RX4 yX4_sum wsX4_sum) := goodIn_app (goodIn_of _ (by decide +kernel)) ggL_law_X4_sum
set_option maxRecDepth 20000 in
theorem ggL_law_X5_sum : GoodIn wsL_law wsX5_sum := goodIn_r _ [484, 145, 146, 5, 147, 148, 149, 150, 466, 467, 468, 469, 182, 183, 184, 185, 65, 485, 486, 487, 488, 209, 210, 211, 212, 285, 286, 287, 213, 214, 215, 587, 588, 589, 590, 591, 592, 593, 594, 595, 596, 597] (by decide +kernel) (by decide +kernel)
set_option maxRecDepth 20000 in
theorem gL_law_X5_sum : GoodIn wsL_law (wsV RL 89 RX5 yX5_sum wsX5_sum) := goodIn_app (goodIn_of _ (by decide +kernel)) ggL_law_X5_sum
set_option maxRecDepth 20000 in
theorem ggL_law_X4_found : GoodIn wsL_law wsX4_found := goodIn_r _ [492, 16, 78, 79, 80, 15, 81, 41, 454, 455, 2, 456, 135, 136, 137, 30, 138, 47, 493, 494, 495, 457, 458, 459, 201, 202, 203, 204, 46, 496, 497, 498, 499, 500, 501, 478, 479, 480, 502, 503, 504, 505, 506, 507, 172, 90, 91, 92, 577, 578, 579, 580, 581, 582, 583, 584, 585, 586, 598, 603, 604] (by decide +kernel) (by decide +kernel)
set_option maxRecDepth 20000 in
theorem gL_law_X4_found : GoodIn wsL_law (wsV RL 90 RX4 yX4_found wsX4_found) := goodIn_app (goodIn_of _ (by decide +kernel)) ggL_law_X4_found
set_option maxRecDepth 20000 in
theorem ggL_law_X5_found : GoodIn wsL_law wsX5_found := goodIn_r _ [511, 145, 146, 5, 147, 148, 149, 150, 466, 467, 468, 469, 182, 183, 184, 185, 65, 470, 471, 472, 473, 209, 210, 211, 212, 485, 486, 487, 488, 285, 286, 287, 213, 214, 215, 587, 588, 589, 590, 591, 592, 593, 594, 595, 596, 597] (by decide +kernel) (by decide +kernel)
set_option maxRecDepth 20000 in
theorem gL_law_X5_found : GoodIn wsL_law (wsV RL 93 RX5 yX5_found wsX5_found) := goodIn_app (goodIn_of _ (by decide +kernel)) ggL_law_X5_found
set_option maxRecDepth 20000 in
theorem ggL_law_X4_put : GoodIn wsL_law wsX4_put := goodIn_r _ [515, 24, 516, 517, 2, 518, 519, 432, 433, 434, 23, 435, 60, 520, 521, 522, 523, 59, 577, 578, 579, 580, 581, 582, 583, 584, 585, 586, 601, 602] (by decide +kernel) (by decide +kernel)
set_option maxRecDepth 20000 in
theorem gL_law_X4_put : GoodIn wsL_law (wsV RL 96 RX4 yX4_put wsX4_put) := goodIn_app (goodIn_of _ (by decide +kernel)) ggL_law_X4_put
set_option maxRecDepth 20000 in
theorem ggL_law_X5_put : GoodIn wsL_law wsX5_put := goodIn_r _ [527, 528, 143, 70, 148, 149, 5, 150, 587, 588, 589, 590, 591, 592, 593, 594, 595, 596, 597] (by decide +kernel) (by decide +kernel)
set_option maxRecDepth 20000 in
theorem gL_law_X5_put : GoodIn wsL_law (wsV RL 100 RX5 yX5_put wsX5_put) := goodIn_app (goodIn_of _ (by decide +kernel)) ggL_law_X5_put
set_option maxRecDepth 20000 in
theorem ggL_law_X4_wipe : GoodIn wsL_law wsX4_wipe := goodIn_r _ [532, 24, 432, 433, 434, 23, 435, 60, 131, 132, 133, 134, 577, 578, 579, 580, 581, 582, 583, 584, 585, 586, 601, 602] (by decide +kernel) (by decide +kernel)
set_option maxRecDepth 20000 in
theorem gL_law_X4_wipe : GoodIn wsL_law (wsV RL 101 RX4 yX4_wipe wsX4_wipe) := goodIn_app (goodIn_of _ (by decide +kernel)) ggL_law_X4_wipe
set_option maxRecDepth 20000 in
theorem ggL_law_X5_wipe : GoodIn wsL_law wsX5_wipe := goodIn_r _ [536, 143, 587, 588, 589, 590, 591, 592, 593, 594, 595, 596, 597] (by decide +kernel) (by decide +kernel)
set_option maxRecDepth 20000 in
theorem gL_law_X5_wipe : GoodIn wsL_law (wsV RL 105 RX5 yX5_wipe wsX5_wipe) := goodIn_app (goodIn_of _ (by decide +kernel)) ggL_law_X5_wipe
set_option maxRecDepth 20000 in
theorem ggL_law_X4_fault : GoodIn wsL_law wsX4_fault := goodIn_r _ [540, 24, 31, 82, 83, 84, 23, 85, 59, 60, 86, 87, 88, 89, 90, 91, 92, 93, 94, 95, 30, 96, 46, 97, 98, 99, 100, 101, 102, 103, 104, 47, 105, 577, 578, 579, 580, 581, 582, 583, 584, 585, 586, 601, 602, 603, 604] (by decide +kernel) (by decide +kernel)
set_option maxRecDepth 20000 in
theorem gL_law_X4_fault : GoodIn wsL_law (wsV RL 106 RX4 yX4_fault wsX4_fault) := goodIn_app (goodIn_of _ (by decide +kernel)) ggL_law_X4_fault
set_option maxRecDepth 20000 in
theorem ggL_law_X5_fault : GoodIn wsL_law wsX5_fault := goodIn_r _ [544, 151, 152, 153, 5, 154, 143, 70, 71, 144, 155, 156, 157, 158, 148, 149, 150, 587, 588, 589, 590, 591, 592, 593, 594, 595, 596, 597] (by decide +kernel) (by decide +kernel)
set_option maxRecDepth 20000 in
theorem gL_law_X5_fault : GoodIn wsL_law (wsV RL 109 RX5 yX5_fault wsX5_fault) := goodIn_app (goodIn_of _ (by decide +kernel)) ggL_law_X5_fault
set_option maxRecDepth 20000 in
theorem ggL_law_X4_undo : GoodIn wsL_law wsX4_undo := goodIn_r _ [548, 20, 16, 436, 437, 438, 19, 439, 54, 549, 550, 551, 552, 53, 118, 119, 120, 15, 121, 41, 122, 123, 124, 30, 125, 46, 126, 127, 128, 129, 47, 577, 578, 579, 580, 581, 582, 583, 584, 585, 586, 599, 600, 598, 603, 604] (by decide +kernel) (by decide +kernel)
set_option maxRecDepth 20000 in
theorem gL_law_X4_undo : GoodIn wsL_law (wsV RL 110 RX4 yX4_undo wsX4_undo) := goodIn_app (goodIn_of _ (by decide +kernel)) ggL_law_X4_undo
set_option maxRecDepth 20000 in
theorem ggL_law_X5_undo : GoodIn wsL_law wsX5_undo := goodIn_r _ [556, 163, 65, 66, 587, 588, 589, 590, 591, 592, 593, 594, 595, 596, 597] (by decide +kernel) (by decide +kernel)
set_option maxRecDepth 20000 in
theorem gL_law_X5_undo : GoodIn wsL_law (wsV RL 113 RX5 yX5_undo wsX5_undo) := goodIn_app (goodIn_of _ (by decide +kernel)) ggL_law_X5_undo
set_option maxRecDepth 20000 in
theorem ggL_law_X4_save : GoodIn wsL_law wsX4_save := goodIn_r _ [560, 25, 16, 27, 561, 562, 2, 563, 564, 119, 120, 15, 121, 41, 122, 123, 124, 30, 125, 46, 126, 127, 128, 129, 47, 427, 428, 429, 430, 431, 136, 137, 138, 577, 578, 579, 580, 581, 582, 583, 584, 585, 586, 598, 603, 604] (by decide +kernel) (by decide +kernel)
set_option maxRecDepth 20000 in
theorem gL_law_X4_save : GoodIn wsL_law (wsV RL 114 RX4 yX4_save wsX4_save) := goodIn_app (goodIn_of _ (by decide +kernel)) ggL_law_X4_save
set_option maxRecDepth 20000 in
theorem ggL_law_X5_save : GoodIn wsL_law wsX5_save := goodIn_r _ [568, 68, 67, 65, 148, 149, 5, 150, 444, 445, 446, 447, 182, 183, 184, 185, 587, 588, 589, 590, 591, 592, 593, 594, 595, 596, 597] (by decide +kernel) (by decide +kernel)
set_option maxRecDepth 20000 in
theorem gL_law_X5_save : GoodIn wsL_law (wsV RL 117 RX5 yX5_save wsX5_save) := goodIn_app (goodIn_of _ (by decide +kernel)) ggL_law_X5_save
set_option maxRecDepth 20000 in
theorem ggL_law_X4_restore : GoodIn wsL_law wsX4_restore := goodIn_r _ [572, 27, 20, 16, 25, 561, 562, 2, 563, 110, 111, 112, 19, 113, 54, 53, 114, 115, 116, 117, 118, 119, 120, 15, 121, 41, 122, 123, 124, 30, 125, 46, 126, 127, 128, 129, 47, 564, 427, 428, 429, 430, 431, 136, 137, 138, 577, 578, 579, 580, 581, 582, 583, 584, 585, 586, 599, 600, 598, 603, 604] (by decide +kernel) (by decide +kernel)
set_option maxRecDepth 20000 in
theorem gL_law_X4_restore : GoodIn wsL_law (wsV RL 118 RX4 yX4_restore wsX4_restore) := goodIn_app (goodIn_of _ (by decide +kernel)) ggL_law_X4_restore
set_option maxRecDepth 20000 in
theorem ggL_law_X5_restore : GoodIn wsL_law wsX5_restore := goodIn_r _ [576, 68, 65, 67, 148, 149, 5, 150, 159, 160, 161, 162, 163, 66, 444, 445, 446, 447, 182, 183, 184, 185, 587, 588, 589, 590, 591, 592, 593, 594, 595, 596, 597] (by decide +kernel) (by decide +kernel)
set_option maxRecDepth 20000 in
theorem gL_law_X5_restore : GoodIn wsL_law (wsV RL 121 RX5 yX5_restore wsX5_restore) := goodIn_app (goodIn_of _ (by decide +kernel)) ggL_law_X5_restore
theorem dL_law_0 : decode cL_law 0 = .ok (.new 7, 3) := by decide +kernel
end
section
theorem dL_law_3 : decode cL_law 3 = .ok (.dup, 1) := by decide +kernel
theorem dL_law_4 : decode cL_law 4 = .ok (.invokespecial 9, 3) := by decide +kernel
theorem dL_law_7 : decode cL_law 7 = .ok (.astore_n 1, 1) := by decide +kernel
theorem dL_law_8 : decode cL_law 8 = .ok (.new 10, 3) := by decide +kernel
theorem dL_law_11 : decode cL_law 11 = .ok (.dup, 1) := by decide +kernel
theorem dL_law_12 : decode cL_law 12 = .ok (.invokespecial 12, 3) := by decide +kernel
theorem dL_law_15 : decode cL_law 15 = .ok (.astore_n 2, 1) := by decide +kernel
theorem dL_law_16 : decode cL_law 16 = .ok (.iconst 0, 1) := by decide +kernel
theorem dL_law_17 : decode cL_law 17 = .ok (.istore_n 3, 1) := by decide +kernel
theorem dL_law_18 : decode cL_law 18 = .ok (.iload_n 3, 1) := by decide +kernel
theorem dL_law_19 : decode cL_law 19 = .ok (.aload_n 0, 1) := by decide +kernel
theorem dL_law_20 : decode cL_law 20 = .ok (.arraylength, 1) := by decide +kernel
theorem dL_law_21 : decode cL_law 21 = .ok (.iconst 5, 1) := by decide +kernel
theorem dL_law_22 : decode cL_law 22 = .ok (.isub, 1) := by decide +kernel
theorem dL_law_23 : decode cL_law 23 = .ok (.if_icmp .gt 1017, 3) := by decide +kernel
theorem dL_law_26 : decode cL_law 26 = .ok (.aload_n 0, 1) := by decide +kernel
theorem dL_law_27 : decode cL_law 27 = .ok (.iload_n 3, 1) := by decide +kernel
theorem dL_law_28 : decode cL_law 28 = .ok (.iaload, 1) := by decide +kernel
theorem dL_law_29 : decode cL_law 29 = .ok (.bipush 31, 2) := by decide +kernel
theorem dL_law_31 : decode cL_law 31 = .ok (.iand, 1) := by decide +kernel
theorem dL_law_32 : decode cL_law 32 = .ok (.tableswitch 1002 0 24 #[116, 139, 182, 235, 278, 331, 374, 417, 470, 513, 556, 589, 622, 655, 688, 721, 744, 778, 821, 864, 917, 930, 943, 956, 979], 116) := by decide +kernel
theorem dL_law_148 : decode cL_law 148 = .ok (.aload_n 1, 1) := by decide +kernel
theorem dL_law_149 : decode cL_law 149 = .ok (.aload_n 0, 1) := by decide +kernel
theorem dL_law_150 : decode cL_law 150 = .ok (.iload_n 3, 1) := by decide +kernel
theorem dL_law_151 : decode cL_law 151 = .ok (.iconst 1, 1) := by decide +kernel
theorem dL_law_152 : decode cL_law 152 = .ok (.iadd, 1) := by decide +kernel
theorem dL_law_153 : decode cL_law 153 = .ok (.iaload, 1) := by decide +kernel
theorem dL_law_154 : decode cL_law 154 = .ok (.invokevirtual 13, 3) := by decide +kernel
theorem dL_law_157 : decode cL_law 157 = .ok (.aload_n 2, 1) := by decide +kernel
theorem dL_law_158 : decode cL_law 158 = .ok (.aload_n 0, 1) := by decide +kernel
theorem dL_law_159 : decode cL_law 159 = .ok (.iload_n 3, 1) := by decide +kernel
theorem dL_law_160 : decode cL_law 160 = .ok (.iconst 1, 1) := by decide +kernel
theorem dL_law_161 : decode cL_law 161 = .ok (.iadd, 1) := by decide +kernel
theorem dL_law_162 : decode cL_law 162 = .ok (.iaload, 1) := by decide +kernel
theorem dL_law_163 : decode cL_law 163 = .ok (.invokevirtual 17, 3) := by decide +kernel
theorem dL_law_166 : decode cL_law 166 = .ok (.if_icmp .eq 868, 3) := by decide +kernel
theorem dL_law_169 : decode cL_law 169 = .ok (.iconst 0, 1) := by decide +kernel
theorem dL_law_170 : decode cL_law 170 = .ok (.ireturn, 1) := by decide +kernel
theorem dL_law_171 : decode cL_law 171 = .ok (.aload_n 1, 1) := by decide +kernel
theorem dL_law_172 : decode cL_law 172 = .ok (.aload_n 0, 1) := by decide +kernel
theorem dL_law_173 : decode cL_law 173 = .ok (.iload_n 3, 1) := by decide +kernel
theorem dL_law_174 : decode cL_law 174 = .ok (.iconst 1, 1) := by decide +kernel
theorem dL_law_175 : decode cL_law 175 = .ok (.iadd, 1) := by decide +kernel
theorem dL_law_176 : decode cL_law 176 = .ok (.iaload, 1) := by decide +kernel
theorem dL_law_177 : decode cL_law 177 = .ok (.aload_n 0, 1) := by decide +kernel
theorem dL_law_178 : decode cL_law 178 = .ok (.iload_n 3, 1) := by decide +kernel
theorem dL_law_179 : decode cL_law 179 = .ok (.iconst 2, 1) := by decide +kernel
theorem dL_law_180 : decode cL_law 180 = .ok (.iadd, 1) := by decide +kernel
theorem dL_law_181 : decode cL_law 181 = .ok (.iaload, 1) := by decide +kernel
theorem dL_law_182 : decode cL_law 182 = .ok (.aload_n 0, 1) := by decide +kernel
theorem dL_law_183 : decode cL_law 183 = .ok (.iload_n 3, 1) := by decide +kernel
theorem dL_law_184 : decode cL_law 184 = .ok (.iconst 3, 1) := by decide +kernel
theorem dL_law_185 : decode cL_law 185 = .ok (.iadd, 1) := by decide +kernel
theorem dL_law_186 : decode cL_law 186 = .ok (.iaload, 1) := by decide +kernel
theorem dL_law_187 : decode cL_law 187 = .ok (.invokevirtual 18, 3) := by decide +kernel
theorem dL_law_190 : decode cL_law 190 = .ok (.aload_n 2, 1) := by decide +kernel
theorem dL_law_191 : decode cL_law 191 = .ok (.aload_n 0, 1) := by decide +kernel
theorem dL_law_192 : decode cL_law 192 = .ok (.iload_n 3, 1) := by decide +kernel
theorem dL_law_193 : decode cL_law 193 = .ok (.iconst 1, 1) := by decide +kernel
theorem dL_law_194 : decode cL_law 194 = .ok (.iadd, 1) := by decide +kernel
theorem dL_law_195 : decode cL_law 195 = .ok (.iaload, 1) := by decide +kernel
theorem dL_law_196 : decode cL_law 196 = .ok (.aload_n 0, 1) := by decide +kernel
theorem dL_law_197 : decode cL_law 197 = .ok (.iload_n 3, 1) := by decide +kernel
theorem dL_law_198 : decode cL_law 198 = .ok (.iconst 2, 1) := by decide +kernel
theorem dL_law_199 : decode cL_law 199 = .ok (.iadd, 1) := by decide +kernel
theorem dL_law_200 : decode cL_law 200 = .ok (.iaload, 1) := by decide +kernel
theorem dL_law_201 : decode cL_law 201 = .ok (.aload_n 0, 1) := by decide +kernel
theorem dL_law_202 : decode cL_law 202 = .ok (.iload_n 3, 1) := by decide +kernel
theorem dL_law_203 : decode cL_law 203 = .ok (.iconst 3, 1) := by decide +kernel
theorem dL_law_204 : decode cL_law 204 = .ok (.iadd, 1) := by decide +kernel
theorem dL_law_205 : decode cL_law 205 = .ok (.iaload, 1) := by decide +kernel
theorem dL_law_206 : decode cL_law 206 = .ok (.invokevirtual 22, 3) := by decide +kernel
theorem dL_law_209 : decode cL_law 209 = .ok (.if_icmp .eq 825, 3) := by decide +kernel
theorem dL_law_212 : decode cL_law 212 = .ok (.iconst 0, 1) := by decide +kernel
theorem dL_law_213 : decode cL_law 213 = .ok (.ireturn, 1) := by decide +kernel
theorem dL_law_214 : decode cL_law 214 = .ok (.aload_n 1, 1) := by decide +kernel
theorem dL_law_215 : decode cL_law 215 = .ok (.aload_n 0, 1) := by decide +kernel
theorem dL_law_216 : decode cL_law 216 = .ok (.iload_n 3, 1) := by decide +kernel
theorem dL_law_217 : decode cL_law 217 = .ok (.iconst 1, 1) := by decide +kernel
theorem dL_law_218 : decode cL_law 218 = .ok (.iadd, 1) := by decide +kernel
theorem dL_law_219 : decode cL_law 219 = .ok (.iaload, 1) := by decide +kernel
theorem dL_law_220 : decode cL_law 220 = .ok (.aload_n 0, 1) := by decide +kernel
theorem dL_law_221 : decode cL_law 221 = .ok (.iload_n 3, 1) := by decide +kernel
theorem dL_law_222 : decode cL_law 222 = .ok (.iconst 2, 1) := by decide +kernel
theorem dL_law_223 : decode cL_law 223 = .ok (.iadd, 1) := by decide +kernel
theorem dL_law_224 : decode cL_law 224 = .ok (.iaload, 1) := by decide +kernel
theorem dL_law_225 : decode cL_law 225 = .ok (.aload_n 0, 1) := by decide +kernel
theorem dL_law_226 : decode cL_law 226 = .ok (.iload_n 3, 1) := by decide +kernel
theorem dL_law_227 : decode cL_law 227 = .ok (.iconst 3, 1) := by decide +kernel
theorem dL_law_228 : decode cL_law 228 = .ok (.iadd, 1) := by decide +kernel
theorem dL_law_229 : decode cL_law 229 = .ok (.iaload, 1) := by decide +kernel
theorem dL_law_230 : decode cL_law 230 = .ok (.aload_n 0, 1) := by decide +kernel
theorem dL_law_231 : decode cL_law 231 = .ok (.iload_n 3, 1) := by decide +kernel
theorem dL_law_232 : decode cL_law 232 = .ok (.iconst 4, 1) := by decide +kernel
theorem dL_law_233 : decode cL_law 233 = .ok (.iadd, 1) := by decide +kernel
theorem dL_law_234 : decode cL_law 234 = .ok (.iaload, 1) := by decide +kernel
theorem dL_law_235 : decode cL_law 235 = .ok (.invokevirtual 23, 3) := by decide +kernel
theorem dL_law_238 : decode cL_law 238 = .ok (.aload_n 2, 1) := by decide +kernel
theorem dL_law_239 : decode cL_law 239 = .ok (.aload_n 0, 1) := by decide +kernel
theorem dL_law_240 : decode cL_law 240 = .ok (.iload_n 3, 1) := by decide +kernel
theorem dL_law_241 : decode cL_law 241 = .ok (.iconst 1, 1) := by decide +kernel
theorem dL_law_242 : decode cL_law 242 = .ok (.iadd, 1) := by decide +kernel
theorem dL_law_243 : decode cL_law 243 = .ok (.iaload, 1) := by decide +kernel
theorem dL_law_244 : decode cL_law 244 = .ok (.aload_n 0, 1) := by decide +kernel
theorem dL_law_245 : decode cL_law 245 = .ok (.iload_n 3, 1) := by decide +kernel
theorem dL_law_246 : decode cL_law 246 = .ok (.iconst 2, 1) := by decide +kernel
theorem dL_law_247 : decode cL_law 247 = .ok (.iadd, 1) := by decide +kernel
theorem dL_law_248 : decode cL_law 248 = .ok (.iaload, 1) := by decide +kernel
theorem dL_law_249 : decode cL_law 249 = .ok (.aload_n 0, 1) := by decide +kernel
theorem dL_law_250 : decode cL_law 250 = .ok (.iload_n 3, 1) := by decide +kernel
theorem dL_law_251 : decode cL_law 251 = .ok (.iconst 3, 1) := by decide +kernel
theorem dL_law_252 : decode cL_law 252 = .ok (.iadd, 1) := by decide +kernel
theorem dL_law_253 : decode cL_law 253 = .ok (.iaload, 1) := by decide +kernel
theorem dL_law_254 : decode cL_law 254 = .ok (.aload_n 0, 1) := by decide +kernel
theorem dL_law_255 : decode cL_law 255 = .ok (.iload_n 3, 1) := by decide +kernel
theorem dL_law_256 : decode cL_law 256 = .ok (.iconst 4, 1) := by decide +kernel
theorem dL_law_257 : decode cL_law 257 = .ok (.iadd, 1) := by decide +kernel
theorem dL_law_258 : decode cL_law 258 = .ok (.iaload, 1) := by decide +kernel
theorem dL_law_259 : decode cL_law 259 = .ok (.invokevirtual 27, 3) := by decide +kernel
theorem dL_law_262 : decode cL_law 262 = .ok (.if_icmp .eq 772, 3) := by decide +kernel
theorem dL_law_265 : decode cL_law 265 = .ok (.iconst 0, 1) := by decide +kernel
theorem dL_law_266 : decode cL_law 266 = .ok (.ireturn, 1) := by decide +kernel
theorem dL_law_267 : decode cL_law 267 = .ok (.aload_n 1, 1) := by decide +kernel
theorem dL_law_268 : decode cL_law 268 = .ok (.aload_n 0, 1) := by decide +kernel
theorem dL_law_269 : decode cL_law 269 = .ok (.iload_n 3, 1) := by decide +kernel
theorem dL_law_270 : decode cL_law 270 = .ok (.iconst 1, 1) := by decide +kernel
theorem dL_law_271 : decode cL_law 271 = .ok (.iadd, 1) := by decide +kernel
theorem dL_law_272 : decode cL_law 272 = .ok (.iaload, 1) := by decide +kernel
theorem dL_law_273 : decode cL_law 273 = .ok (.aload_n 0, 1) := by decide +kernel
theorem dL_law_274 : decode cL_law 274 = .ok (.iload_n 3, 1) := by decide +kernel
theorem dL_law_275 : decode cL_law 275 = .ok (.iconst 2, 1) := by decide +kernel
theorem dL_law_276 : decode cL_law 276 = .ok (.iadd, 1) := by decide +kernel
theorem dL_law_277 : decode cL_law 277 = .ok (.iaload, 1) := by decide +kernel
theorem dL_law_278 : decode cL_law 278 = .ok (.aload_n 0, 1) := by decide +kernel
theorem dL_law_279 : decode cL_law 279 = .ok (.iload_n 3, 1) := by decide +kernel
theorem dL_law_280 : decode cL_law 280 = .ok (.iconst 3, 1) := by decide +kernel
theorem dL_law_281 : decode cL_law 281 = .ok (.iadd, 1) := by decide +kernel
theorem dL_law_282 : decode cL_law 282 = .ok (.iaload, 1) := by decide +kernel
theorem dL_law_283 : decode cL_law 283 = .ok (.invokevirtual 28, 3) := by decide +kernel
theorem dL_law_286 : decode cL_law 286 = .ok (.aload_n 2, 1) := by decide +kernel
theorem dL_law_287 : decode cL_law 287 = .ok (.aload_n 0, 1) := by decide +kernel
theorem dL_law_288 : decode cL_law 288 = .ok (.iload_n 3, 1) := by decide +kernel
theorem dL_law_289 : decode cL_law 289 = .ok (.iconst 1, 1) := by decide +kernel
theorem dL_law_290 : decode cL_law 290 = .ok (.iadd, 1) := by decide +kernel
theorem dL_law_291 : decode cL_law 291 = .ok (.iaload, 1) := by decide +kernel
theorem dL_law_292 : decode cL_law 292 = .ok (.aload_n 0, 1) := by decide +kernel
theorem dL_law_293 : decode cL_law 293 = .ok (.iload_n 3, 1) := by decide +kernel
theorem dL_law_294 : decode cL_law 294 = .ok (.iconst 2, 1) := by decide +kernel
theorem dL_law_295 : decode cL_law 295 = .ok (.iadd, 1) := by decide +kernel
theorem dL_law_296 : decode cL_law 296 = .ok (.iaload, 1) := by decide +kernel
theorem dL_law_297 : decode cL_law 297 = .ok (.aload_n 0, 1) := by decide +kernel
theorem dL_law_298 : decode cL_law 298 = .ok (.iload_n 3, 1) := by decide +kernel
theorem dL_law_299 : decode cL_law 299 = .ok (.iconst 3, 1) := by decide +kernel
theorem dL_law_300 : decode cL_law 300 = .ok (.iadd, 1) := by decide +kernel
theorem dL_law_301 : decode cL_law 301 = .ok (.iaload, 1) := by decide +kernel
theorem dL_law_302 : decode cL_law 302 = .ok (.invokevirtual 31, 3) := by decide +kernel
theorem dL_law_305 : decode cL_law 305 = .ok (.if_icmp .eq 729, 3) := by decide +kernel
theorem dL_law_308 : decode cL_law 308 = .ok (.iconst 0, 1) := by decide +kernel
theorem dL_law_309 : decode cL_law 309 = .ok (.ireturn, 1) := by decide +kernel
theorem dL_law_310 : decode cL_law 310 = .ok (.aload_n 1, 1) := by decide +kernel
theorem dL_law_311 : decode cL_law 311 = .ok (.aload_n 0, 1) := by decide +kernel
theorem dL_law_312 : decode cL_law 312 = .ok (.iload_n 3, 1) := by decide +kernel
theorem dL_law_313 : decode cL_law 313 = .ok (.iconst 1, 1) := by decide +kernel
theorem dL_law_314 : decode cL_law 314 = .ok (.iadd, 1) := by decide +kernel
theorem dL_law_315 : decode cL_law 315 = .ok (.iaload, 1) := by decide +kernel
theorem dL_law_316 : decode cL_law 316 = .ok (.aload_n 0, 1) := by decide +kernel
theorem dL_law_317 : decode cL_law 317 = .ok (.iload_n 3, 1) := by decide +kernel
theorem dL_law_318 : decode cL_law 318 = .ok (.iconst 2, 1) := by decide +kernel
theorem dL_law_319 : decode cL_law 319 = .ok (.iadd, 1) := by decide +kernel
theorem dL_law_320 : decode cL_law 320 = .ok (.iaload, 1) := by decide +kernel
theorem dL_law_321 : decode cL_law 321 = .ok (.aload_n 0, 1) := by decide +kernel
theorem dL_law_322 : decode cL_law 322 = .ok (.iload_n 3, 1) := by decide +kernel
theorem dL_law_323 : decode cL_law 323 = .ok (.iconst 3, 1) := by decide +kernel
theorem dL_law_324 : decode cL_law 324 = .ok (.iadd, 1) := by decide +kernel
theorem dL_law_325 : decode cL_law 325 = .ok (.iaload, 1) := by decide +kernel
theorem dL_law_326 : decode cL_law 326 = .ok (.aload_n 0, 1) := by decide +kernel
theorem dL_law_327 : decode cL_law 327 = .ok (.iload_n 3, 1) := by decide +kernel
theorem dL_law_328 : decode cL_law 328 = .ok (.iconst 4, 1) := by decide +kernel
theorem dL_law_329 : decode cL_law 329 = .ok (.iadd, 1) := by decide +kernel
theorem dL_law_330 : decode cL_law 330 = .ok (.iaload, 1) := by decide +kernel
theorem dL_law_331 : decode cL_law 331 = .ok (.invokevirtual 32, 3) := by decide +kernel
theorem dL_law_334 : decode cL_law 334 = .ok (.aload_n 2, 1) := by decide +kernel
theorem dL_law_335 : decode cL_law 335 = .ok (.aload_n 0, 1) := by decide +kernel
theorem dL_law_336 : decode cL_law 336 = .ok (.iload_n 3, 1) := by decide +kernel
theorem dL_law_337 : decode cL_law 337 = .ok (.iconst 1, 1) := by decide +kernel
theorem dL_law_338 : decode cL_law 338 = .ok (.iadd, 1) := by decide +kernel
theorem dL_law_339 : decode cL_law 339 = .ok (.iaload, 1) := by decide +kernel
theorem dL_law_340 : decode cL_law 340 = .ok (.aload_n 0, 1) := by decide +kernel
theorem dL_law_341 : decode cL_law 341 = .ok (.iload_n 3, 1) := by decide +kernel
theorem dL_law_342 : decode cL_law 342 = .ok (.iconst 2, 1) := by decide +kernel
theorem dL_law_343 : decode cL_law 343 = .ok (.iadd, 1) := by decide +kernel
theorem dL_law_344 : decode cL_law 344 = .ok (.iaload, 1) := by decide +kernel
theorem dL_law_345 : decode cL_law 345 = .ok (.aload_n 0, 1) := by decide +kernel
theorem dL_law_346 : decode cL_law 346 = .ok (.iload_n 3, 1) := by decide +kernel
theorem dL_law_347 : decode cL_law 347 = .ok (.iconst 3, 1) := by decide +kernel
theorem dL_law_348 : decode cL_law 348 = .ok (.iadd, 1) := by decide +kernel
theorem dL_law_349 : decode cL_law 349 = .ok (.iaload, 1) := by decide +kernel
theorem dL_law_350 : decode cL_law 350 = .ok (.aload_n 0, 1) := by decide +kernel
theorem dL_law_351 : decode cL_law 351 = .ok (.iload_n 3, 1) := by decide +kernel
theorem dL_law_352 : decode cL_law 352 = .ok (.iconst 4, 1) := by decide +kernel
theorem dL_law_353 : decode cL_law 353 = .ok (.iadd, 1) := by decide +kernel
theorem dL_law_354 : decode cL_law 354 = .ok (.iaload, 1) := by decide +kernel
theorem dL_law_355 : decode cL_law 355 = .ok (.invokevirtual 35, 3) := by decide +kernel
theorem dL_law_358 : decode cL_law 358 = .ok (.if_icmp .eq 676, 3) := by decide +kernel
theorem dL_law_361 : decode cL_law 361 = .ok (.iconst 0, 1) := by decide +kernel
theorem dL_law_362 : decode cL_law 362 = .ok (.ireturn, 1) := by decide +kernel
theorem dL_law_363 : decode cL_law 363 = .ok (.aload_n 1, 1) := by decide +kernel
theorem dL_law_364 : decode cL_law 364 = .ok (.aload_n 0, 1) := by decide +kernel
theorem dL_law_365 : decode cL_law 365 = .ok (.iload_n 3, 1) := by decide +kernel
theorem dL_law_366 : decode cL_law 366 = .ok (.iconst 1, 1) := by decide +kernel
theorem dL_law_367 : decode cL_law 367 = .ok (.iadd, 1) := by decide +kernel
theorem dL_law_368 : decode cL_law 368 = .ok (.iaload, 1) := by decide +kernel
theorem dL_law_369 : decode cL_law 369 = .ok (.aload_n 0, 1) := by decide +kernel
theorem dL_law_370 : decode cL_law 370 = .ok (.iload_n 3, 1) := by decide +kernel
theorem dL_law_371 : decode cL_law 371 = .ok (.iconst 2, 1) := by decide +kernel
theorem dL_law_372 : decode cL_law 372 = .ok (.iadd, 1) := by decide +kernel
theorem dL_law_373 : decode cL_law 373 = .ok (.iaload, 1) := by decide +kernel
theorem dL_law_374 : decode cL_law 374 = .ok (.aload_n 0, 1) := by decide +kernel
theorem dL_law_375 : decode cL_law 375 = .ok (.iload_n 3, 1) := by decide +kernel
theorem dL_law_376 : decode cL_law 376 = .ok (.iconst 3, 1) := by decide +kernel
theorem dL_law_377 : decode cL_law 377 = .ok (.iadd, 1) := by decide +kernel
theorem dL_law_378 : decode cL_law 378 = .ok (.iaload, 1) := by decide +kernel
theorem dL_law_379 : decode cL_law 379 = .ok (.invokevirtual 36, 3) := by decide +kernel
theorem dL_law_382 : decode cL_law 382 = .ok (.aload_n 2, 1) := by decide +kernel
theorem dL_law_383 : decode cL_law 383 = .ok (.aload_n 0, 1) := by decide +kernel
theorem dL_law_384 : decode cL_law 384 = .ok (.iload_n 3, 1) := by decide +kernel
theorem dL_law_385 : decode cL_law 385 = .ok (.iconst 1, 1) := by decide +kernel
theorem dL_law_386 : decode cL_law 386 = .ok (.iadd, 1) := by decide +kernel
theorem dL_law_387 : decode cL_law 387 = .ok (.iaload, 1) := by decide +kernel
theorem dL_law_388 : decode cL_law 388 = .ok (.aload_n 0, 1) := by decide +kernel
theorem dL_law_389 : decode cL_law 389 = .ok (.iload_n 3, 1) := by decide +kernel
theorem dL_law_390 : decode cL_law 390 = .ok (.iconst 2, 1) := by decide +kernel
theorem dL_law_391 : decode cL_law 391 = .ok (.iadd, 1) := by decide +kernel
theorem dL_law_392 : decode cL_law 392 = .ok (.iaload, 1) := by decide +kernel
theorem dL_law_393 : decode cL_law 393 = .ok (.aload_n 0, 1) := by decide +kernel
theorem dL_law_394 : decode cL_law 394 = .ok (.iload_n 3, 1) := by decide +kernel
theorem dL_law_395 : decode cL_law 395 = .ok (.iconst 3, 1) := by decide +kernel
theorem dL_law_396 : decode cL_law 396 = .ok (.iadd, 1) := by decide +kernel
theorem dL_law_397 : decode cL_law 397 = .ok (.iaload, 1) := by decide +kernel
theorem dL_law_398 : decode cL_law 398 = .ok (.invokevirtual 39, 3) := by decide +kernel
theorem dL_law_401 : decode cL_law 401 = .ok (.if_icmp .eq 633, 3) := by decide +kernel
theorem dL_law_404 : decode cL_law 404 = .ok (.iconst 0, 1) := by decide +kernel
theorem dL_law_405 : decode cL_law 405 = .ok (.ireturn, 1) := by decide +kernel
theorem dL_law_406 : decode cL_law 406 = .ok (.aload_n 1, 1) := by decide +kernel
theorem dL_law_407 : decode cL_law 407 = .ok (.aload_n 0, 1) := by decide +kernel
theorem dL_law_408 : decode cL_law 408 = .ok (.iload_n 3, 1) := by decide +kernel
theorem dL_law_409 : decode cL_law 409 = .ok (.iconst 1, 1) := by decide +kernel
theorem dL_law_410 : decode cL_law 410 = .ok (.iadd, 1) := by decide +kernel
theorem dL_law_411 : decode cL_law 411 = .ok (.iaload, 1) := by decide +kernel
theorem dL_law_412 : decode cL_law 412 = .ok (.aload_n 0, 1) := by decide +kernel
theorem dL_law_413 : decode cL_law 413 = .ok (.iload_n 3, 1) := by decide +kernel
theorem dL_law_414 : decode cL_law 414 = .ok (.iconst 2, 1) := by decide +kernel
theorem dL_law_415 : decode cL_law 415 = .ok (.iadd, 1) := by decide +kernel
theorem dL_law_416 : decode cL_law 416 = .ok (.iaload, 1) := by decide +kernel
theorem dL_law_417 : decode cL_law 417 = .ok (.aload_n 0, 1) := by decide +kernel
theorem dL_law_418 : decode cL_law 418 = .ok (.iload_n 3, 1) := by decide +kernel
theorem dL_law_419 : decode cL_law 419 = .ok (.iconst 3, 1) := by decide +kernel
theorem dL_law_420 : decode cL_law 420 = .ok (.iadd, 1) := by decide +kernel
theorem dL_law_421 : decode cL_law 421 = .ok (.iaload, 1) := by decide +kernel
theorem dL_law_422 : decode cL_law 422 = .ok (.invokevirtual 40, 3) := by decide +kernel
theorem dL_law_425 : decode cL_law 425 = .ok (.aload_n 2, 1) := by decide +kernel
theorem dL_law_426 : decode cL_law 426 = .ok (.aload_n 0, 1) := by decide +kernel
theorem dL_law_427 : decode cL_law 427 = .ok (.iload_n 3, 1) := by decide +kernel
theorem dL_law_428 : decode cL_law 428 = .ok (.iconst 1, 1) := by decide +kernel
theorem dL_law_429 : decode cL_law 429 = .ok (.iadd, 1) := by decide +kernel
theorem dL_law_430 : decode cL_law 430 = .ok (.iaload, 1) := by decide +kernel
theorem dL_law_431 : decode cL_law 431 = .ok (.aload_n 0, 1) := by decide +kernel
theorem dL_law_432 : decode cL_law 432 = .ok (.iload_n 3, 1) := by decide +kernel
theorem dL_law_433 : decode cL_law 433 = .ok (.iconst 2, 1) := by decide +kernel
theorem dL_law_434 : decode cL_law 434 = .ok (.iadd, 1) := by decide +kernel
theorem dL_law_435 : decode cL_law 435 = .ok (.iaload, 1) := by decide +kernel
theorem dL_law_436 : decode cL_law 436 = .ok (.aload_n 0, 1) := by decide +kernel
theorem dL_law_437 : decode cL_law 437 = .ok (.iload_n 3, 1) := by decide +kernel
theorem dL_law_438 : decode cL_law 438 = .ok (.iconst 3, 1) := by decide +kernel
theorem dL_law_439 : decode cL_law 439 = .ok (.iadd, 1) := by decide +kernel
theorem dL_law_440 : decode cL_law 440 = .ok (.iaload, 1) := by decide +kernel
theorem dL_law_441 : decode cL_law 441 = .ok (.invokevirtual 43, 3) := by decide +kernel
theorem dL_law_444 : decode cL_law 444 = .ok (.if_icmp .eq 590, 3) := by decide +kernel
theorem dL_law_447 : decode cL_law 447 = .ok (.iconst 0, 1) := by decide +kernel
theorem dL_law_448 : decode cL_law 448 = .ok (.ireturn, 1) := by decide +kernel
theorem dL_law_449 : decode cL_law 449 = .ok (.aload_n 1, 1) := by decide +kernel
theorem dL_law_450 : decode cL_law 450 = .ok (.aload_n 0, 1) := by decide +kernel
theorem dL_law_451 : decode cL_law 451 = .ok (.iload_n 3, 1) := by decide +kernel
theorem dL_law_452 : decode cL_law 452 = .ok (.iconst 1, 1) := by decide +kernel
theorem dL_law_453 : decode cL_law 453 = .ok (.iadd, 1) := by decide +kernel
theorem dL_law_454 : decode cL_law 454 = .ok (.iaload, 1) := by decide +kernel
theorem dL_law_455 : decode cL_law 455 = .ok (.aload_n 0, 1) := by decide +kernel
theorem dL_law_456 : decode cL_law 456 = .ok (.iload_n 3, 1) := by decide +kernel
theorem dL_law_457 : decode cL_law 457 = .ok (.iconst 2, 1) := by decide +kernel
theorem dL_law_458 : decode cL_law 458 = .ok (.iadd, 1) := by decide +kernel
theorem dL_law_459 : decode cL_law 459 = .ok (.iaload, 1) := by decide +kernel
theorem dL_law_460 : decode cL_law 460 = .ok (.aload_n 0, 1) := by decide +kernel
theorem dL_law_461 : decode cL_law 461 = .ok (.iload_n 3, 1) := by decide +kernel
theorem dL_law_462 : decode cL_law 462 = .ok (.iconst 3, 1) := by decide +kernel
theorem dL_law_463 : decode cL_law 463 = .ok (.iadd, 1) := by decide +kernel
theorem dL_law_464 : decode cL_law 464 = .ok (.iaload, 1) := by decide +kernel
theorem dL_law_465 : decode cL_law 465 = .ok (.aload_n 0, 1) := by decide +kernel
theorem dL_law_466 : decode cL_law 466 = .ok (.iload_n 3, 1) := by decide +kernel
theorem dL_law_467 : decode cL_law 467 = .ok (.iconst 4, 1) := by decide +kernel
theorem dL_law_468 : decode cL_law 468 = .ok (.iadd, 1) := by decide +kernel
theorem dL_law_469 : decode cL_law 469 = .ok (.iaload, 1) := by decide +kernel
theorem dL_law_470 : decode cL_law 470 = .ok (.invokevirtual 44, 3) := by decide +kernel
theorem dL_law_473 : decode cL_law 473 = .ok (.aload_n 2, 1) := by decide +kernel
theorem dL_law_474 : decode cL_law 474 = .ok (.aload_n 0, 1) := by decide +kernel
theorem dL_law_475 : decode cL_law 475 = .ok (.iload_n 3, 1) := by decide +kernel
theorem dL_law_476 : decode cL_law 476 = .ok (.iconst 1, 1) := by decide +kernel
theorem dL_law_477 : decode cL_law 477 = .ok (.iadd, 1) := by decide +kernel
theorem dL_law_478 : decode cL_law 478 = .ok (.iaload, 1) := by decide +kernel
theorem dL_law_479 : decode cL_law 479 = .ok (.aload_n 0, 1) := by decide +kernel
theorem dL_law_480 : decode cL_law 480 = .ok (.iload_n 3, 1) := by decide +kernel
theorem dL_law_481 : decode cL_law 481 = .ok (.iconst 2, 1) := by decide +kernel
theorem dL_law_482 : decode cL_law 482 = .ok (.iadd, 1) := by decide +kernel
theorem dL_law_483 : decode cL_law 483 = .ok (.iaload, 1) := by decide +kernel
theorem dL_law_484 : decode cL_law 484 = .ok (.aload_n 0, 1) := by decide +kernel
theorem dL_law_485 : decode cL_law 485 = .ok (.iload_n 3, 1) := by decide +kernel
theorem dL_law_486 : decode cL_law 486 = .ok (.iconst 3, 1) := by decide +kernel
theorem dL_law_487 : decode cL_law 487 = .ok (.iadd, 1) := by decide +kernel
theorem dL_law_488 : decode cL_law 488 = .ok (.iaload, 1) := by decide +kernel
theorem dL_law_489 : decode cL_law 489 = .ok (.aload_n 0, 1) := by decide +kernel
theorem dL_law_490 : decode cL_law 490 = .ok (.iload_n 3, 1) := by decide +kernel
theorem dL_law_491 : decode cL_law 491 = .ok (.iconst 4, 1) := by decide +kernel
theorem dL_law_492 : decode cL_law 492 = .ok (.iadd, 1) := by decide +kernel
theorem dL_law_493 : decode cL_law 493 = .ok (.iaload, 1) := by decide +kernel
theorem dL_law_494 : decode cL_law 494 = .ok (.invokevirtual 47, 3) := by decide +kernel
theorem dL_law_497 : decode cL_law 497 = .ok (.if_icmp .eq 537, 3) := by decide +kernel
theorem dL_law_500 : decode cL_law 500 = .ok (.iconst 0, 1) := by decide +kernel
theorem dL_law_501 : decode cL_law 501 = .ok (.ireturn, 1) := by decide +kernel
theorem dL_law_502 : decode cL_law 502 = .ok (.aload_n 1, 1) := by decide +kernel
theorem dL_law_503 : decode cL_law 503 = .ok (.aload_n 0, 1) := by decide +kernel
theorem dL_law_504 : decode cL_law 504 = .ok (.iload_n 3, 1) := by decide +kernel
theorem dL_law_505 : decode cL_law 505 = .ok (.iconst 1, 1) := by decide +kernel
theorem dL_law_506 : decode cL_law 506 = .ok (.iadd, 1) := by decide +kernel
theorem dL_law_507 : decode cL_law 507 = .ok (.iaload, 1) := by decide +kernel
theorem dL_law_508 : decode cL_law 508 = .ok (.aload_n 0, 1) := by decide +kernel
theorem dL_law_509 : decode cL_law 509 = .ok (.iload_n 3, 1) := by decide +kernel
theorem dL_law_510 : decode cL_law 510 = .ok (.iconst 2, 1) := by decide +kernel
theorem dL_law_511 : decode cL_law 511 = .ok (.iadd, 1) := by decide +kernel
theorem dL_law_512 : decode cL_law 512 = .ok (.iaload, 1) := by decide +kernel
theorem dL_law_513 : decode cL_law 513 = .ok (.aload_n 0, 1) := by decide +kernel
theorem dL_law_514 : decode cL_law 514 = .ok (.iload_n 3, 1) := by decide +kernel
theorem dL_law_515 : decode cL_law 515 = .ok (.iconst 3, 1) := by decide +kernel
theorem dL_law_516 : decode cL_law 516 = .ok (.iadd, 1) := by decide +kernel
theorem dL_law_517 : decode cL_law 517 = .ok (.iaload, 1) := by decide +kernel
theorem dL_law_518 : decode cL_law 518 = .ok (.invokevirtual 48, 3) := by decide +kernel
theorem dL_law_521 : decode cL_law 521 = .ok (.aload_n 2, 1) := by decide +kernel
theorem dL_law_522 : decode cL_law 522 = .ok (.aload_n 0, 1) := by decide +kernel
theorem dL_law_523 : decode cL_law 523 = .ok (.iload_n 3, 1) := by decide +kernel
theorem dL_law_524 : decode cL_law 524 = .ok (.iconst 1, 1) := by decide +kernel
theorem dL_law_525 : decode cL_law 525 = .ok (.iadd, 1) := by decide +kernel
theorem dL_law_526 : decode cL_law 526 = .ok (.iaload, 1) := by decide +kernel
theorem dL_law_527 : decode cL_law 527 = .ok (.aload_n 0, 1) := by decide +kernel
theorem dL_law_528 : decode cL_law 528 = .ok (.iload_n 3, 1) := by decide +kernel
theorem dL_law_529 : decode cL_law 529 = .ok (.iconst 2, 1) := by decide +kernel
theorem dL_law_530 : decode cL_law 530 = .ok (.iadd, 1) := by decide +kernel
theorem dL_law_531 : decode cL_law 531 = .ok (.iaload, 1) := by decide +kernel
theorem dL_law_532 : decode cL_law 532 = .ok (.aload_n 0, 1) := by decide +kernel
theorem dL_law_533 : decode cL_law 533 = .ok (.iload_n 3, 1) := by decide +kernel
theorem dL_law_534 : decode cL_law 534 = .ok (.iconst 3, 1) := by decide +kernel
theorem dL_law_535 : decode cL_law 535 = .ok (.iadd, 1) := by decide +kernel
theorem dL_law_536 : decode cL_law 536 = .ok (.iaload, 1) := by decide +kernel
theorem dL_law_537 : decode cL_law 537 = .ok (.invokevirtual 51, 3) := by decide +kernel
theorem dL_law_540 : decode cL_law 540 = .ok (.if_icmp .eq 494, 3) := by decide +kernel
theorem dL_law_543 : decode cL_law 543 = .ok (.iconst 0, 1) := by decide +kernel
theorem dL_law_544 : decode cL_law 544 = .ok (.ireturn, 1) := by decide +kernel
theorem dL_law_545 : decode cL_law 545 = .ok (.aload_n 1, 1) := by decide +kernel
theorem dL_law_546 : decode cL_law 546 = .ok (.aload_n 0, 1) := by decide +kernel
theorem dL_law_547 : decode cL_law 547 = .ok (.iload_n 3, 1) := by decide +kernel
theorem dL_law_548 : decode cL_law 548 = .ok (.iconst 1, 1) := by decide +kernel
theorem dL_law_549 : decode cL_law 549 = .ok (.iadd, 1) := by decide +kernel
theorem dL_law_550 : decode cL_law 550 = .ok (.iaload, 1) := by decide +kernel
theorem dL_law_551 : decode cL_law 551 = .ok (.aload_n 0, 1) := by decide +kernel
theorem dL_law_552 : decode cL_law 552 = .ok (.iload_n 3, 1) := by decide +kernel
theorem dL_law_553 : decode cL_law 553 = .ok (.iconst 2, 1) := by decide +kernel
theorem dL_law_554 : decode cL_law 554 = .ok (.iadd, 1) := by decide +kernel
theorem dL_law_555 : decode cL_law 555 = .ok (.iaload, 1) := by decide +kernel
theorem dL_law_556 : decode cL_law 556 = .ok (.aload_n 0, 1) := by decide +kernel
theorem dL_law_557 : decode cL_law 557 = .ok (.iload_n 3, 1) := by decide +kernel
theorem dL_law_558 : decode cL_law 558 = .ok (.iconst 3, 1) := by decide +kernel
theorem dL_law_559 : decode cL_law 559 = .ok (.iadd, 1) := by decide +kernel
theorem dL_law_560 : decode cL_law 560 = .ok (.iaload, 1) := by decide +kernel
theorem dL_law_561 : decode cL_law 561 = .ok (.invokevirtual 52, 3) := by decide +kernel
theorem dL_law_564 : decode cL_law 564 = .ok (.aload_n 2, 1) := by decide +kernel
theorem dL_law_565 : decode cL_law 565 = .ok (.aload_n 0, 1) := by decide +kernel
theorem dL_law_566 : decode cL_law 566 = .ok (.iload_n 3, 1) := by decide +kernel
theorem dL_law_567 : decode cL_law 567 = .ok (.iconst 1, 1) := by decide +kernel
theorem dL_law_568 : decode cL_law 568 = .ok (.iadd, 1) := by decide +kernel
theorem dL_law_569 : decode cL_law 569 = .ok (.iaload, 1) := by decide +kernel
theorem dL_law_570 : decode cL_law 570 = .ok (.aload_n 0, 1) := by decide +kernel
theorem dL_law_571 : decode cL_law 571 = .ok (.iload_n 3, 1) := by decide +kernel
theorem dL_law_572 : decode cL_law 572 = .ok (.iconst 2, 1) := by decide +kernel
theorem dL_law_573 : decode cL_law 573 = .ok (.iadd, 1) := by decide +kernel
theorem dL_law_574 : decode cL_law 574 = .ok (.iaload, 1) := by decide +kernel
theorem dL_law_575 : decode cL_law 575 = .ok (.aload_n 0, 1) := by decide +kernel
theorem dL_law_576 : decode cL_law 576 = .ok (.iload_n 3, 1) := by decide +kernel
theorem dL_law_577 : decode cL_law 577 = .ok (.iconst 3, 1) := by decide +kernel
theorem dL_law_578 : decode cL_law 578 = .ok (.iadd, 1) := by decide +kernel
theorem dL_law_579 : decode cL_law 579 = .ok (.iaload, 1) := by decide +kernel
theorem dL_law_580 : decode cL_law 580 = .ok (.invokevirtual 55, 3) := by decide +kernel
theorem dL_law_583 : decode cL_law 583 = .ok (.if_icmp .eq 451, 3) := by decide +kernel
theorem dL_law_586 : decode cL_law 586 = .ok (.iconst 0, 1) := by decide +kernel
theorem dL_law_587 : decode cL_law 587 = .ok (.ireturn, 1) := by decide +kernel
theorem dL_law_588 : decode cL_law 588 = .ok (.aload_n 1, 1) := by decide +kernel
theorem dL_law_589 : decode cL_law 589 = .ok (.aload_n 0, 1) := by decide +kernel
theorem dL_law_590 : decode cL_law 590 = .ok (.iload_n 3, 1) := by decide +kernel
theorem dL_law_591 : decode cL_law 591 = .ok (.iconst 1, 1) := by decide +kernel
theorem dL_law_592 : decode cL_law 592 = .ok (.iadd, 1) := by decide +kernel
theorem dL_law_593 : decode cL_law 593 = .ok (.iaload, 1) := by decide +kernel
theorem dL_law_594 : decode cL_law 594 = .ok (.aload_n 0, 1) := by decide +kernel
theorem dL_law_595 : decode cL_law 595 = .ok (.iload_n 3, 1) := by decide +kernel
theorem dL_law_596 : decode cL_law 596 = .ok (.iconst 2, 1) := by decide +kernel
theorem dL_law_597 : decode cL_law 597 = .ok (.iadd, 1) := by decide +kernel
theorem dL_law_598 : decode cL_law 598 = .ok (.iaload, 1) := by decide +kernel
theorem dL_law_599 : decode cL_law 599 = .ok (.invokevirtual 56, 3) := by decide +kernel
theorem dL_law_602 : decode cL_law 602 = .ok (.aload_n 2, 1) := by decide +kernel
theorem dL_law_603 : decode cL_law 603 = .ok (.aload_n 0, 1) := by decide +kernel
theorem dL_law_604 : decode cL_law 604 = .ok (.iload_n 3, 1) := by decide +kernel
theorem dL_law_605 : decode cL_law 605 = .ok (.iconst 1, 1) := by decide +kernel
theorem dL_law_606 : decode cL_law 606 = .ok (.iadd, 1) := by decide +kernel
theorem dL_law_607 : decode cL_law 607 = .ok (.iaload, 1) := by decide +kernel
theorem dL_law_608 : decode cL_law 608 = .ok (.aload_n 0, 1) := by decide +kernel
theorem dL_law_609 : decode cL_law 609 = .ok (.iload_n 3, 1) := by decide +kernel
theorem dL_law_610 : decode cL_law 610 = .ok (.iconst 2, 1) := by decide +kernel
theorem dL_law_611 : decode cL_law 611 = .ok (.iadd, 1) := by decide +kernel
theorem dL_law_612 : decode cL_law 612 = .ok (.iaload, 1) := by decide +kernel
theorem dL_law_613 : decode cL_law 613 = .ok (.invokevirtual 60, 3) := by decide +kernel
theorem dL_law_616 : decode cL_law 616 = .ok (.if_icmp .eq 418, 3) := by decide +kernel
theorem dL_law_619 : decode cL_law 619 = .ok (.iconst 0, 1) := by decide +kernel
theorem dL_law_620 : decode cL_law 620 = .ok (.ireturn, 1) := by decide +kernel
theorem dL_law_621 : decode cL_law 621 = .ok (.aload_n 1, 1) := by decide +kernel
theorem dL_law_622 : decode cL_law 622 = .ok (.aload_n 0, 1) := by decide +kernel
theorem dL_law_623 : decode cL_law 623 = .ok (.iload_n 3, 1) := by decide +kernel
theorem dL_law_624 : decode cL_law 624 = .ok (.iconst 1, 1) := by decide +kernel
theorem dL_law_625 : decode cL_law 625 = .ok (.iadd, 1) := by decide +kernel
theorem dL_law_626 : decode cL_law 626 = .ok (.iaload, 1) := by decide +kernel
theorem dL_law_627 : decode cL_law 627 = .ok (.aload_n 0, 1) := by decide +kernel
theorem dL_law_628 : decode cL_law 628 = .ok (.iload_n 3, 1) := by decide +kernel
theorem dL_law_629 : decode cL_law 629 = .ok (.iconst 2, 1) := by decide +kernel
theorem dL_law_630 : decode cL_law 630 = .ok (.iadd, 1) := by decide +kernel
theorem dL_law_631 : decode cL_law 631 = .ok (.iaload, 1) := by decide +kernel
theorem dL_law_632 : decode cL_law 632 = .ok (.invokevirtual 61, 3) := by decide +kernel
theorem dL_law_635 : decode cL_law 635 = .ok (.aload_n 2, 1) := by decide +kernel
theorem dL_law_636 : decode cL_law 636 = .ok (.aload_n 0, 1) := by decide +kernel
theorem dL_law_637 : decode cL_law 637 = .ok (.iload_n 3, 1) := by decide +kernel
theorem dL_law_638 : decode cL_law 638 = .ok (.iconst 1, 1) := by decide +kernel
theorem dL_law_639 : decode cL_law 639 = .ok (.iadd, 1) := by decide +kernel
theorem dL_law_640 : decode cL_law 640 = .ok (.iaload, 1) := by decide +kernel
theorem dL_law_641 : decode cL_law 641 = .ok (.aload_n 0, 1) := by decide +kernel
theorem dL_law_642 : decode cL_law 642 = .ok (.iload_n 3, 1) := by decide +kernel
theorem dL_law_643 : decode cL_law 643 = .ok (.iconst 2, 1) := by decide +kernel
theorem dL_law_644 : decode cL_law 644 = .ok (.iadd, 1) := by decide +kernel
theorem dL_law_645 : decode cL_law 645 = .ok (.iaload, 1) := by decide +kernel
theorem dL_law_646 : decode cL_law 646 = .ok (.invokevirtual 64, 3) := by decide +kernel
theorem dL_law_649 : decode cL_law 649 = .ok (.if_icmp .eq 385, 3) := by decide +kernel
theorem dL_law_652 : decode cL_law 652 = .ok (.iconst 0, 1) := by decide +kernel
theorem dL_law_653 : decode cL_law 653 = .ok (.ireturn, 1) := by decide +kernel
theorem dL_law_654 : decode cL_law 654 = .ok (.aload_n 1, 1) := by decide +kernel
theorem dL_law_655 : decode cL_law 655 = .ok (.aload_n 0, 1) := by decide +kernel
theorem dL_law_656 : decode cL_law 656 = .ok (.iload_n 3, 1) := by decide +kernel
theorem dL_law_657 : decode cL_law 657 = .ok (.iconst 1, 1) := by decide +kernel
theorem dL_law_658 : decode cL_law 658 = .ok (.iadd, 1) := by decide +kernel
theorem dL_law_659 : decode cL_law 659 = .ok (.iaload, 1) := by decide +kernel
theorem dL_law_660 : decode cL_law 660 = .ok (.aload_n 0, 1) := by decide +kernel
theorem dL_law_661 : decode cL_law 661 = .ok (.iload_n 3, 1) := by decide +kernel
theorem dL_law_662 : decode cL_law 662 = .ok (.iconst 2, 1) := by decide +kernel
theorem dL_law_663 : decode cL_law 663 = .ok (.iadd, 1) := by decide +kernel
theorem dL_law_664 : decode cL_law 664 = .ok (.iaload, 1) := by decide +kernel
theorem dL_law_665 : decode cL_law 665 = .ok (.invokevirtual 65, 3) := by decide +kernel
theorem dL_law_668 : decode cL_law 668 = .ok (.aload_n 2, 1) := by decide +kernel
theorem dL_law_669 : decode cL_law 669 = .ok (.aload_n 0, 1) := by decide +kernel
theorem dL_law_670 : decode cL_law 670 = .ok (.iload_n 3, 1) := by decide +kernel
theorem dL_law_671 : decode cL_law 671 = .ok (.iconst 1, 1) := by decide +kernel
theorem dL_law_672 : decode cL_law 672 = .ok (.iadd, 1) := by decide +kernel
theorem dL_law_673 : decode cL_law 673 = .ok (.iaload, 1) := by decide +kernel
theorem dL_law_674 : decode cL_law 674 = .ok (.aload_n 0, 1) := by decide +kernel
theorem dL_law_675 : decode cL_law 675 = .ok (.iload_n 3, 1) := by decide +kernel
theorem dL_law_676 : decode cL_law 676 = .ok (.iconst 2, 1) := by decide +kernel
theorem dL_law_677 : decode cL_law 677 = .ok (.iadd, 1) := by decide +kernel
theorem dL_law_678 : decode cL_law 678 = .ok (.iaload, 1) := by decide +kernel
theorem dL_law_679 : decode cL_law 679 = .ok (.invokevirtual 68, 3) := by decide +kernel
theorem dL_law_682 : decode cL_law 682 = .ok (.if_icmp .eq 352, 3) := by decide +kernel
theorem dL_law_685 : decode cL_law 685 = .ok (.iconst 0, 1) := by decide +kernel
theorem dL_law_686 : decode cL_law 686 = .ok (.ireturn, 1) := by decide +kernel
theorem dL_law_687 : decode cL_law 687 = .ok (.aload_n 1, 1) := by decide +kernel
theorem dL_law_688 : decode cL_law 688 = .ok (.aload_n 0, 1) := by decide +kernel
theorem dL_law_689 : decode cL_law 689 = .ok (.iload_n 3, 1) := by decide +kernel
theorem dL_law_690 : decode cL_law 690 = .ok (.iconst 1, 1) := by decide +kernel
theorem dL_law_691 : decode cL_law 691 = .ok (.iadd, 1) := by decide +kernel
theorem dL_law_692 : decode cL_law 692 = .ok (.iaload, 1) := by decide +kernel
theorem dL_law_693 : decode cL_law 693 = .ok (.aload_n 0, 1) := by decide +kernel
theorem dL_law_694 : decode cL_law 694 = .ok (.iload_n 3, 1) := by decide +kernel
theorem dL_law_695 : decode cL_law 695 = .ok (.iconst 2, 1) := by decide +kernel
theorem dL_law_696 : decode cL_law 696 = .ok (.iadd, 1) := by decide +kernel
theorem dL_law_697 : decode cL_law 697 = .ok (.iaload, 1) := by decide +kernel
theorem dL_law_698 : decode cL_law 698 = .ok (.invokevirtual 69, 3) := by decide +kernel
theorem dL_law_701 : decode cL_law 701 = .ok (.aload_n 2, 1) := by decide +kernel
theorem dL_law_702 : decode cL_law 702 = .ok (.aload_n 0, 1) := by decide +kernel
theorem dL_law_703 : decode cL_law 703 = .ok (.iload_n 3, 1) := by decide +kernel
theorem dL_law_704 : decode cL_law 704 = .ok (.iconst 1, 1) := by decide +kernel
theorem dL_law_705 : decode cL_law 705 = .ok (.iadd, 1) := by decide +kernel
theorem dL_law_706 : decode cL_law 706 = .ok (.iaload, 1) := by decide +kernel
theorem dL_law_707 : decode cL_law 707 = .ok (.aload_n 0, 1) := by decide +kernel
theorem dL_law_708 : decode cL_law 708 = .ok (.iload_n 3, 1) := by decide +kernel
theorem dL_law_709 : decode cL_law 709 = .ok (.iconst 2, 1) := by decide +kernel
theorem dL_law_710 : decode cL_law 710 = .ok (.iadd, 1) := by decide +kernel
theorem dL_law_711 : decode cL_law 711 = .ok (.iaload, 1) := by decide +kernel
theorem dL_law_712 : decode cL_law 712 = .ok (.invokevirtual 72, 3) := by decide +kernel
theorem dL_law_715 : decode cL_law 715 = .ok (.if_icmp .eq 319, 3) := by decide +kernel
theorem dL_law_718 : decode cL_law 718 = .ok (.iconst 0, 1) := by decide +kernel
theorem dL_law_719 : decode cL_law 719 = .ok (.ireturn, 1) := by decide +kernel
theorem dL_law_720 : decode cL_law 720 = .ok (.aload_n 1, 1) := by decide +kernel
theorem dL_law_721 : decode cL_law 721 = .ok (.aload_n 0, 1) := by decide +kernel
theorem dL_law_722 : decode cL_law 722 = .ok (.iload_n 3, 1) := by decide +kernel
theorem dL_law_723 : decode cL_law 723 = .ok (.iconst 1, 1) := by decide +kernel
theorem dL_law_724 : decode cL_law 724 = .ok (.iadd, 1) := by decide +kernel
theorem dL_law_725 : decode cL_law 725 = .ok (.iaload, 1) := by decide +kernel
theorem dL_law_726 : decode cL_law 726 = .ok (.aload_n 0, 1) := by decide +kernel
theorem dL_law_727 : decode cL_law 727 = .ok (.iload_n 3, 1) := by decide +kernel
theorem dL_law_728 : decode cL_law 728 = .ok (.iconst 2, 1) := by decide +kernel
theorem dL_law_729 : decode cL_law 729 = .ok (.iadd, 1) := by decide +kernel
theorem dL_law_730 : decode cL_law 730 = .ok (.iaload, 1) := by decide +kernel
theorem dL_law_731 : decode cL_law 731 = .ok (.invokevirtual 73, 3) := by decide +kernel
theorem dL_law_734 : decode cL_law 734 = .ok (.aload_n 2, 1) := by decide +kernel
theorem dL_law_735 : decode cL_law 735 = .ok (.aload_n 0, 1) := by decide +kernel
theorem dL_law_736 : decode cL_law 736 = .ok (.iload_n 3, 1) := by decide +kernel
theorem dL_law_737 : decode cL_law 737 = .ok (.iconst 1, 1) := by decide +kernel
theorem dL_law_738 : decode cL_law 738 = .ok (.iadd, 1) := by decide +kernel
theorem dL_law_739 : decode cL_law 739 = .ok (.iaload, 1) := by decide +kernel
theorem dL_law_740 : decode cL_law 740 = .ok (.aload_n 0, 1) := by decide +kernel
theorem dL_law_741 : decode cL_law 741 = .ok (.iload_n 3, 1) := by decide +kernel
theorem dL_law_742 : decode cL_law 742 = .ok (.iconst 2, 1) := by decide +kernel
theorem dL_law_743 : decode cL_law 743 = .ok (.iadd, 1) := by decide +kernel
theorem dL_law_744 : decode cL_law 744 = .ok (.iaload, 1) := by decide +kernel
theorem dL_law_745 : decode cL_law 745 = .ok (.invokevirtual 76, 3) := by decide +kernel
theorem dL_law_748 : decode cL_law 748 = .ok (.if_icmp .eq 286, 3) := by decide +kernel
theorem dL_law_751 : decode cL_law 751 = .ok (.iconst 0, 1) := by decide +kernel
theorem dL_law_752 : decode cL_law 752 = .ok (.ireturn, 1) := by decide +kernel
theorem dL_law_753 : decode cL_law 753 = .ok (.aload_n 1, 1) := by decide +kernel
theorem dL_law_754 : decode cL_law 754 = .ok (.aload_n 0, 1) := by decide +kernel
theorem dL_law_755 : decode cL_law 755 = .ok (.iload_n 3, 1) := by decide +kernel
theorem dL_law_756 : decode cL_law 756 = .ok (.iconst 1, 1) := by decide +kernel
theorem dL_law_757 : decode cL_law 757 = .ok (.iadd, 1) := by decide +kernel
theorem dL_law_758 : decode cL_law 758 = .ok (.iaload, 1) := by decide +kernel
theorem dL_law_759 : decode cL_law 759 = .ok (.invokevirtual 77, 3) := by decide +kernel
theorem dL_law_762 : decode cL_law 762 = .ok (.aload_n 2, 1) := by decide +kernel
theorem dL_law_763 : decode cL_law 763 = .ok (.aload_n 0, 1) := by decide +kernel
theorem dL_law_764 : decode cL_law 764 = .ok (.iload_n 3, 1) := by decide +kernel
theorem dL_law_765 : decode cL_law 765 = .ok (.iconst 1, 1) := by decide +kernel
theorem dL_law_766 : decode cL_law 766 = .ok (.iadd, 1) := by decide +kernel
theorem dL_law_767 : decode cL_law 767 = .ok (.iaload, 1) := by decide +kernel
theorem dL_law_768 : decode cL_law 768 = .ok (.invokevirtual 80, 3) := by decide +kernel
theorem dL_law_771 : decode cL_law 771 = .ok (.if_icmp .eq 263, 3) := by decide +kernel
theorem dL_law_774 : decode cL_law 774 = .ok (.iconst 0, 1) := by decide +kernel
theorem dL_law_775 : decode cL_law 775 = .ok (.ireturn, 1) := by decide +kernel
theorem dL_law_776 : decode cL_law 776 = .ok (.aload_n 1, 1) := by decide +kernel
theorem dL_law_777 : decode cL_law 777 = .ok (.aload_n 0, 1) := by decide +kernel
theorem dL_law_778 : decode cL_law 778 = .ok (.iload_n 3, 1) := by decide +kernel
theorem dL_law_779 : decode cL_law 779 = .ok (.iconst 1, 1) := by decide +kernel
theorem dL_law_780 : decode cL_law 780 = .ok (.iadd, 1) := by decide +kernel
theorem dL_law_781 : decode cL_law 781 = .ok (.iaload, 1) := by decide +kernel
theorem dL_law_782 : decode cL_law 782 = .ok (.aload_n 0, 1) := by decide +kernel
theorem dL_law_783 : decode cL_law 783 = .ok (.iload_n 3, 1) := by decide +kernel
theorem dL_law_784 : decode cL_law 784 = .ok (.iconst 2, 1) := by decide +kernel
theorem dL_law_785 : decode cL_law 785 = .ok (.iadd, 1) := by decide +kernel
theorem dL_law_786 : decode cL_law 786 = .ok (.iaload, 1) := by decide +kernel
theorem dL_law_787 : decode cL_law 787 = .ok (.invokevirtual 81, 3) := by decide +kernel
theorem dL_law_790 : decode cL_law 790 = .ok (.aload_n 2, 1) := by decide +kernel
theorem dL_law_791 : decode cL_law 791 = .ok (.aload_n 0, 1) := by decide +kernel
theorem dL_law_792 : decode cL_law 792 = .ok (.iload_n 3, 1) := by decide +kernel
theorem dL_law_793 : decode cL_law 793 = .ok (.iconst 1, 1) := by decide +kernel
theorem dL_law_794 : decode cL_law 794 = .ok (.iadd, 1) := by decide +kernel
theorem dL_law_795 : decode cL_law 795 = .ok (.iaload, 1) := by decide +kernel
theorem dL_law_796 : decode cL_law 796 = .ok (.aload_n 0, 1) := by decide +kernel
theorem dL_law_797 : decode cL_law 797 = .ok (.iload_n 3, 1) := by decide +kernel
theorem dL_law_798 : decode cL_law 798 = .ok (.iconst 2, 1) := by decide +kernel
theorem dL_law_799 : decode cL_law 799 = .ok (.iadd, 1) := by decide +kernel
theorem dL_law_800 : decode cL_law 800 = .ok (.iaload, 1) := by decide +kernel
theorem dL_law_801 : decode cL_law 801 = .ok (.invokevirtual 85, 3) := by decide +kernel
theorem dL_law_804 : decode cL_law 804 = .ok (.lcmp, 1) := by decide +kernel
theorem dL_law_805 : decode cL_law 805 = .ok (.ifCond .eq 229, 3) := by decide +kernel
theorem dL_law_808 : decode cL_law 808 = .ok (.iconst 0, 1) := by decide +kernel
theorem dL_law_809 : decode cL_law 809 = .ok (.ireturn, 1) := by decide +kernel
theorem dL_law_810 : decode cL_law 810 = .ok (.aload_n 1, 1) := by decide +kernel
theorem dL_law_811 : decode cL_law 811 = .ok (.aload_n 0, 1) := by decide +kernel
theorem dL_law_812 : decode cL_law 812 = .ok (.iload_n 3, 1) := by decide +kernel
theorem dL_law_813 : decode cL_law 813 = .ok (.iconst 1, 1) := by decide +kernel
theorem dL_law_814 : decode cL_law 814 = .ok (.iadd, 1) := by decide +kernel
theorem dL_law_815 : decode cL_law 815 = .ok (.iaload, 1) := by decide +kernel
theorem dL_law_816 : decode cL_law 816 = .ok (.aload_n 0, 1) := by decide +kernel
theorem dL_law_817 : decode cL_law 817 = .ok (.iload_n 3, 1) := by decide +kernel
theorem dL_law_818 : decode cL_law 818 = .ok (.iconst 2, 1) := by decide +kernel
theorem dL_law_819 : decode cL_law 819 = .ok (.iadd, 1) := by decide +kernel
theorem dL_law_820 : decode cL_law 820 = .ok (.iaload, 1) := by decide +kernel
theorem dL_law_821 : decode cL_law 821 = .ok (.aload_n 0, 1) := by decide +kernel
theorem dL_law_822 : decode cL_law 822 = .ok (.iload_n 3, 1) := by decide +kernel
theorem dL_law_823 : decode cL_law 823 = .ok (.iconst 3, 1) := by decide +kernel
theorem dL_law_824 : decode cL_law 824 = .ok (.iadd, 1) := by decide +kernel
theorem dL_law_825 : decode cL_law 825 = .ok (.iaload, 1) := by decide +kernel
theorem dL_law_826 : decode cL_law 826 = .ok (.invokevirtual 86, 3) := by decide +kernel
theorem dL_law_829 : decode cL_law 829 = .ok (.aload_n 2, 1) := by decide +kernel
theorem dL_law_830 : decode cL_law 830 = .ok (.aload_n 0, 1) := by decide +kernel
theorem dL_law_831 : decode cL_law 831 = .ok (.iload_n 3, 1) := by decide +kernel
theorem dL_law_832 : decode cL_law 832 = .ok (.iconst 1, 1) := by decide +kernel
theorem dL_law_833 : decode cL_law 833 = .ok (.iadd, 1) := by decide +kernel
theorem dL_law_834 : decode cL_law 834 = .ok (.iaload, 1) := by decide +kernel
theorem dL_law_835 : decode cL_law 835 = .ok (.aload_n 0, 1) := by decide +kernel
theorem dL_law_836 : decode cL_law 836 = .ok (.iload_n 3, 1) := by decide +kernel
theorem dL_law_837 : decode cL_law 837 = .ok (.iconst 2, 1) := by decide +kernel
theorem dL_law_838 : decode cL_law 838 = .ok (.iadd, 1) := by decide +kernel
theorem dL_law_839 : decode cL_law 839 = .ok (.iaload, 1) := by decide +kernel
theorem dL_law_840 : decode cL_law 840 = .ok (.aload_n 0, 1) := by decide +kernel
theorem dL_law_841 : decode cL_law 841 = .ok (.iload_n 3, 1) := by decide +kernel
theorem dL_law_842 : decode cL_law 842 = .ok (.iconst 3, 1) := by decide +kernel
theorem dL_law_843 : decode cL_law 843 = .ok (.iadd, 1) := by decide +kernel
theorem dL_law_844 : decode cL_law 844 = .ok (.iaload, 1) := by decide +kernel
theorem dL_law_845 : decode cL_law 845 = .ok (.invokevirtual 89, 3) := by decide +kernel
theorem dL_law_848 : decode cL_law 848 = .ok (.if_icmp .eq 186, 3) := by decide +kernel
theorem dL_law_851 : decode cL_law 851 = .ok (.iconst 0, 1) := by decide +kernel
theorem dL_law_852 : decode cL_law 852 = .ok (.ireturn, 1) := by decide +kernel
theorem dL_law_853 : decode cL_law 853 = .ok (.aload_n 1, 1) := by decide +kernel
theorem dL_law_854 : decode cL_law 854 = .ok (.aload_n 0, 1) := by decide +kernel
theorem dL_law_855 : decode cL_law 855 = .ok (.iload_n 3, 1) := by decide +kernel
theorem dL_law_856 : decode cL_law 856 = .ok (.iconst 1, 1) := by decide +kernel
theorem dL_law_857 : decode cL_law 857 = .ok (.iadd, 1) := by decide +kernel
theorem dL_law_858 : decode cL_law 858 = .ok (.iaload, 1) := by decide +kernel
theorem dL_law_859 : decode cL_law 859 = .ok (.aload_n 0, 1) := by decide +kernel
theorem dL_law_860 : decode cL_law 860 = .ok (.iload_n 3, 1) := by decide +kernel
theorem dL_law_861 : decode cL_law 861 = .ok (.iconst 2, 1) := by decide +kernel
theorem dL_law_862 : decode cL_law 862 = .ok (.iadd, 1) := by decide +kernel
theorem dL_law_863 : decode cL_law 863 = .ok (.iaload, 1) := by decide +kernel
theorem dL_law_864 : decode cL_law 864 = .ok (.aload_n 0, 1) := by decide +kernel
theorem dL_law_865 : decode cL_law 865 = .ok (.iload_n 3, 1) := by decide +kernel
theorem dL_law_866 : decode cL_law 866 = .ok (.iconst 3, 1) := by decide +kernel
theorem dL_law_867 : decode cL_law 867 = .ok (.iadd, 1) := by decide +kernel
theorem dL_law_868 : decode cL_law 868 = .ok (.iaload, 1) := by decide +kernel
theorem dL_law_869 : decode cL_law 869 = .ok (.invokevirtual 90, 3) := by decide +kernel
theorem dL_law_872 : decode cL_law 872 = .ok (.aload_n 2, 1) := by decide +kernel
theorem dL_law_873 : decode cL_law 873 = .ok (.aload_n 0, 1) := by decide +kernel
theorem dL_law_874 : decode cL_law 874 = .ok (.iload_n 3, 1) := by decide +kernel
theorem dL_law_875 : decode cL_law 875 = .ok (.iconst 1, 1) := by decide +kernel
theorem dL_law_876 : decode cL_law 876 = .ok (.iadd, 1) := by decide +kernel
theorem dL_law_877 : decode cL_law 877 = .ok (.iaload, 1) := by decide +kernel
theorem dL_law_878 : decode cL_law 878 = .ok (.aload_n 0, 1) := by decide +kernel
theorem dL_law_879 : decode cL_law 879 = .ok (.iload_n 3, 1) := by decide +kernel
theorem dL_law_880 : decode cL_law 880 = .ok (.iconst 2, 1) := by decide +kernel
theorem dL_law_881 : decode cL_law 881 = .ok (.iadd, 1) := by decide +kernel
theorem dL_law_882 : decode cL_law 882 = .ok (.iaload, 1) := by decide +kernel
theorem dL_law_883 : decode cL_law 883 = .ok (.aload_n 0, 1) := by decide +kernel
theorem dL_law_884 : decode cL_law 884 = .ok (.iload_n 3, 1) := by decide +kernel
theorem dL_law_885 : decode cL_law 885 = .ok (.iconst 3, 1) := by decide +kernel
theorem dL_law_886 : decode cL_law 886 = .ok (.iadd, 1) := by decide +kernel
theorem dL_law_887 : decode cL_law 887 = .ok (.iaload, 1) := by decide +kernel
theorem dL_law_888 : decode cL_law 888 = .ok (.invokevirtual 93, 3) := by decide +kernel
theorem dL_law_891 : decode cL_law 891 = .ok (.if_icmp .eq 143, 3) := by decide +kernel
theorem dL_law_894 : decode cL_law 894 = .ok (.iconst 0, 1) := by decide +kernel
theorem dL_law_895 : decode cL_law 895 = .ok (.ireturn, 1) := by decide +kernel
theorem dL_law_896 : decode cL_law 896 = .ok (.aload_n 1, 1) := by decide +kernel
theorem dL_law_897 : decode cL_law 897 = .ok (.aload_n 0, 1) := by decide +kernel
theorem dL_law_898 : decode cL_law 898 = .ok (.iload_n 3, 1) := by decide +kernel
theorem dL_law_899 : decode cL_law 899 = .ok (.iconst 1, 1) := by decide +kernel
theorem dL_law_900 : decode cL_law 900 = .ok (.iadd, 1) := by decide +kernel
theorem dL_law_901 : decode cL_law 901 = .ok (.iaload, 1) := by decide +kernel
theorem dL_law_902 : decode cL_law 902 = .ok (.i2l, 1) := by decide +kernel
theorem dL_law_903 : decode cL_law 903 = .ok (.bipush 32, 2) := by decide +kernel
theorem dL_law_905 : decode cL_law 905 = .ok (.lshl, 1) := by decide +kernel
theorem dL_law_906 : decode cL_law 906 = .ok (.aload_n 0, 1) := by decide +kernel
theorem dL_law_907 : decode cL_law 907 = .ok (.iload_n 3, 1) := by decide +kernel
theorem dL_law_908 : decode cL_law 908 = .ok (.iconst 2, 1) := by decide +kernel
theorem dL_law_909 : decode cL_law 909 = .ok (.iadd, 1) := by decide +kernel
theorem dL_law_910 : decode cL_law 910 = .ok (.iaload, 1) := by decide +kernel
theorem dL_law_911 : decode cL_law 911 = .ok (.i2l, 1) := by decide +kernel
theorem dL_law_912 : decode cL_law 912 = .ok (.ldc2_w 94, 3) := by decide +kernel
theorem dL_law_915 : decode cL_law 915 = .ok (.land, 1) := by decide +kernel
theorem dL_law_916 : decode cL_law 916 = .ok (.lor, 1) := by decide +kernel
theorem dL_law_917 : decode cL_law 917 = .ok (.invokevirtual 96, 3) := by decide +kernel
theorem dL_law_920 : decode cL_law 920 = .ok (.aload_n 2, 1) := by decide +kernel
theorem dL_law_921 : decode cL_law 921 = .ok (.aload_n 0, 1) := by decide +kernel
theorem dL_law_922 : decode cL_law 922 = .ok (.iload_n 3, 1) := by decide +kernel
theorem dL_law_923 : decode cL_law 923 = .ok (.iconst 1, 1) := by decide +kernel
theorem dL_law_924 : decode cL_law 924 = .ok (.iadd, 1) := by decide +kernel
theorem dL_law_925 : decode cL_law 925 = .ok (.iaload, 1) := by decide +kernel
theorem dL_law_926 : decode cL_law 926 = .ok (.i2l, 1) := by decide +kernel
theorem dL_law_927 : decode cL_law 927 = .ok (.bipush 32, 2) := by decide +kernel
theorem dL_law_929 : decode cL_law 929 = .ok (.lshl, 1) := by decide +kernel
theorem dL_law_930 : decode cL_law 930 = .ok (.aload_n 0, 1) := by decide +kernel
theorem dL_law_931 : decode cL_law 931 = .ok (.iload_n 3, 1) := by decide +kernel
theorem dL_law_932 : decode cL_law 932 = .ok (.iconst 2, 1) := by decide +kernel
theorem dL_law_933 : decode cL_law 933 = .ok (.iadd, 1) := by decide +kernel
theorem dL_law_934 : decode cL_law 934 = .ok (.iaload, 1) := by decide +kernel
theorem dL_law_935 : decode cL_law 935 = .ok (.i2l, 1) := by decide +kernel
theorem dL_law_936 : decode cL_law 936 = .ok (.ldc2_w 94, 3) := by decide +kernel
theorem dL_law_939 : decode cL_law 939 = .ok (.land, 1) := by decide +kernel
theorem dL_law_940 : decode cL_law 940 = .ok (.lor, 1) := by decide +kernel
theorem dL_law_941 : decode cL_law 941 = .ok (.invokevirtual 100, 3) := by decide +kernel
theorem dL_law_944 : decode cL_law 944 = .ok (.if_icmp .eq 90, 3) := by decide +kernel
theorem dL_law_947 : decode cL_law 947 = .ok (.iconst 0, 1) := by decide +kernel
theorem dL_law_948 : decode cL_law 948 = .ok (.ireturn, 1) := by decide +kernel
theorem dL_law_949 : decode cL_law 949 = .ok (.aload_n 1, 1) := by decide +kernel
theorem dL_law_950 : decode cL_law 950 = .ok (.invokevirtual 101, 3) := by decide +kernel
theorem dL_law_953 : decode cL_law 953 = .ok (.aload_n 2, 1) := by decide +kernel
theorem dL_law_954 : decode cL_law 954 = .ok (.invokevirtual 105, 3) := by decide +kernel
theorem dL_law_957 : decode cL_law 957 = .ok (.if_icmp .eq 77, 3) := by decide +kernel
theorem dL_law_960 : decode cL_law 960 = .ok (.iconst 0, 1) := by decide +kernel
theorem dL_law_961 : decode cL_law 961 = .ok (.ireturn, 1) := by decide +kernel
theorem dL_law_962 : decode cL_law 962 = .ok (.aload_n 1, 1) := by decide +kernel
theorem dL_law_963 : decode cL_law 963 = .ok (.invokevirtual 106, 3) := by decide +kernel
theorem dL_law_966 : decode cL_law 966 = .ok (.aload_n 2, 1) := by decide +kernel
theorem dL_law_967 : decode cL_law 967 = .ok (.invokevirtual 109, 3) := by decide +kernel
theorem dL_law_970 : decode cL_law 970 = .ok (.if_icmp .eq 64, 3) := by decide +kernel
theorem dL_law_973 : decode cL_law 973 = .ok (.iconst 0, 1) := by decide +kernel
theorem dL_law_974 : decode cL_law 974 = .ok (.ireturn, 1) := by decide +kernel
theorem dL_law_975 : decode cL_law 975 = .ok (.aload_n 1, 1) := by decide +kernel
theorem dL_law_976 : decode cL_law 976 = .ok (.invokevirtual 110, 3) := by decide +kernel
theorem dL_law_979 : decode cL_law 979 = .ok (.aload_n 2, 1) := by decide +kernel
theorem dL_law_980 : decode cL_law 980 = .ok (.invokevirtual 113, 3) := by decide +kernel
theorem dL_law_983 : decode cL_law 983 = .ok (.if_icmp .eq 51, 3) := by decide +kernel
theorem dL_law_986 : decode cL_law 986 = .ok (.iconst 0, 1) := by decide +kernel
theorem dL_law_987 : decode cL_law 987 = .ok (.ireturn, 1) := by decide +kernel
theorem dL_law_988 : decode cL_law 988 = .ok (.aload_n 1, 1) := by decide +kernel
theorem dL_law_989 : decode cL_law 989 = .ok (.aload_n 0, 1) := by decide +kernel
theorem dL_law_990 : decode cL_law 990 = .ok (.iload_n 3, 1) := by decide +kernel
theorem dL_law_991 : decode cL_law 991 = .ok (.iconst 1, 1) := by decide +kernel
theorem dL_law_992 : decode cL_law 992 = .ok (.iadd, 1) := by decide +kernel
theorem dL_law_993 : decode cL_law 993 = .ok (.iaload, 1) := by decide +kernel
theorem dL_law_994 : decode cL_law 994 = .ok (.invokevirtual 114, 3) := by decide +kernel
theorem dL_law_997 : decode cL_law 997 = .ok (.aload_n 2, 1) := by decide +kernel
theorem dL_law_998 : decode cL_law 998 = .ok (.aload_n 0, 1) := by decide +kernel
theorem dL_law_999 : decode cL_law 999 = .ok (.iload_n 3, 1) := by decide +kernel
theorem dL_law_1000 : decode cL_law 1000 = .ok (.iconst 1, 1) := by decide +kernel
theorem dL_law_1001 : decode cL_law 1001 = .ok (.iadd, 1) := by decide +kernel
theorem dL_law_1002 : decode cL_law 1002 = .ok (.iaload, 1) := by decide +kernel
theorem dL_law_1003 : decode cL_law 1003 = .ok (.invokevirtual 117, 3) := by decide +kernel
theorem dL_law_1006 : decode cL_law 1006 = .ok (.if_icmp .eq 28, 3) := by decide +kernel
theorem dL_law_1009 : decode cL_law 1009 = .ok (.iconst 0, 1) := by decide +kernel
theorem dL_law_1010 : decode cL_law 1010 = .ok (.ireturn, 1) := by decide +kernel
theorem dL_law_1011 : decode cL_law 1011 = .ok (.aload_n 1, 1) := by decide +kernel
theorem dL_law_1012 : decode cL_law 1012 = .ok (.aload_n 0, 1) := by decide +kernel
theorem dL_law_1013 : decode cL_law 1013 = .ok (.iload_n 3, 1) := by decide +kernel
theorem dL_law_1014 : decode cL_law 1014 = .ok (.iconst 1, 1) := by decide +kernel
theorem dL_law_1015 : decode cL_law 1015 = .ok (.iadd, 1) := by decide +kernel
theorem dL_law_1016 : decode cL_law 1016 = .ok (.iaload, 1) := by decide +kernel
theorem dL_law_1017 : decode cL_law 1017 = .ok (.invokevirtual 118, 3) := by decide +kernel
theorem dL_law_1020 : decode cL_law 1020 = .ok (.aload_n 2, 1) := by decide +kernel
theorem dL_law_1021 : decode cL_law 1021 = .ok (.aload_n 0, 1) := by decide +kernel
theorem dL_law_1022 : decode cL_law 1022 = .ok (.iload_n 3, 1) := by decide +kernel
theorem dL_law_1023 : decode cL_law 1023 = .ok (.iconst 1, 1) := by decide +kernel
theorem dL_law_1024 : decode cL_law 1024 = .ok (.iadd, 1) := by decide +kernel
theorem dL_law_1025 : decode cL_law 1025 = .ok (.iaload, 1) := by decide +kernel
theorem dL_law_1026 : decode cL_law 1026 = .ok (.invokevirtual 121, 3) := by decide +kernel
theorem dL_law_1029 : decode cL_law 1029 = .ok (.if_icmp .eq 5, 3) := by decide +kernel
theorem dL_law_1032 : decode cL_law 1032 = .ok (.iconst 0, 1) := by decide +kernel
theorem dL_law_1033 : decode cL_law 1033 = .ok (.ireturn, 1) := by decide +kernel
theorem dL_law_1034 : decode cL_law 1034 = .ok (.iinc 3 5, 3) := by decide +kernel
theorem dL_law_1037 : decode cL_law 1037 = .ok (.goto (-1019), 3) := by decide +kernel
theorem dL_law_1040 : decode cL_law 1040 = .ok (.iconst 1, 1) := by decide +kernel
theorem dL_law_1041 : decode cL_law 1041 = .ok (.ireturn, 1) := by decide +kernel
end
section
/-! WORLDS BY CELL NUMBER: a world is a function from cell numbers to what the cells hold; the address of each number is ad's. -/
def wL (N : Nat) (ad : Nat → Nat) (Wd : Nat → va_E) : va_W := (List.range N).map (fun k => (ad k, Wd k))
def wI (N : Nat) (ad : Nat → Nat) : Prop := ∀ i j, i < N → j < N → ad i = ad j → i = j
def wA (N : Nat) (ad : Nat → Nat) : Nat → Prop := fun q => ∃ k, k < N ∧ q = ad k
theorem wL_get {N : Nat} {ad : Nat → Nat} {Wd : Nat → va_E} {k : Nat} {e : va_E} (h : k < N) (he : Wd k = e) : (wL N ad Wd)[k]? = some (ad k, e) := by
  subst he
  simp [wL, h]
theorem wL_some {N : Nat} {ad : Nat → Nat} {Wd : Nat → va_E} {k : Nat} {q : Nat × va_E} (h : (wL N ad Wd)[k]? = some q) : k < N ∧ q = (ad k, Wd k) := by
  by_cases hk : k < N
  · rw [wL_get hk rfl] at h
    exact ⟨hk, (Option.some.inj h).symm⟩
  · simp [wL, hk] at h
theorem wL_set {N : Nat} {ad : Nat → Nat} {Wd : Nat → va_E} {k : Nat} {e : va_E} : (wL N ad Wd).set k (ad k, e) = wL N ad (va_up Wd k e) := by
  apply List.ext_getElem?
  intro j
  by_cases hj : j < N
  · by_cases hk : j = k
    · subst hk
      rw [List.getElem?_set_self (by simpa [wL] using hj), wL_get hj (va_up_self Wd j e)]
    · rw [List.getElem?_set_ne (Ne.symm hk), wL_get hj rfl, wL_get hj (va_up_ne Wd e hk)]
  · have h1 : N ≤ j := by omega
    simp [wL, h1]
theorem wD {N : Nat} {ad : Nat → Nat} {Wd : Nat → va_E} (hI : wI N ad) : va_D (wA N ad) (wL N ad Wd) := by
  refine ⟨fun i j p q hi hj hpq => ?_, fun k q hk => ?_⟩
  · obtain ⟨h1, rfl⟩ := wL_some hi
    obtain ⟨h2, rfl⟩ := wL_some hj
    exact hI i j h1 h2 hpq
  · obtain ⟨h1, rfl⟩ := wL_some hk
    exact ⟨k, h1, rfl⟩
/-- the classes of the arrays: ints, booleans, chars, rows, states -/
abbrev kTy (cy : Nat → ClassId) : List (ClassId × FieldType) := [(cy 0, .int), (cy 1, .boolean), (cy 2, .char), (cy 3, .object "TurnedRows$Row"), (cy 4, .object "TurnedRows$State")]
def kPc (D : va_G) (cy : Nat → ClassId) (N : Nat) (ad : Nat → Nat) (Wd : Nat → va_E) (av : List Value) : Array Value → State → Prop := va_Pc av (fun U => va_P D vwCl (wL N ad Wd) U.heap ∧ va_K D vwCl (kTy cy) U)
def kQ {S : Type} (D : va_G) (N : Nat) (ad : Nat → Nat) (Wf : S → Nat → va_E) (post : Option Value → S → Prop) : Array Value → State → Outcome → State → Prop := fun _ st oc t => (∃ (o : Option Value) (u : S), oc = .returned o ∧ post o u ∧ va_P D vwCl (wL N ad (Wf u)) t.heap) ∧ va_F (wA N ad) st t
/-- a method's contract over such a world: from the world Wd to one of the family Wf -/
abbrev kM {S : Type} (l : Launch) (y : MethodName) (ws : List Cond) (rm : Room) (D : va_G) (cy : Nat → ClassId) (N : Nat) (ad : Nat → Nat) (Wf : S → Nat → va_E) (Wd : Nat → va_E) (av : List Value) (post : Option Value → S → Prop) : Prop := Met l y ws rm (kPc D cy N ad Wd av) (kQ D N ad Wf post) 0 0 (wA N ad)
/-- the end that is just this answer, in just this state -/
def kF {S : Type} (o1 : Option Value) (u1 : S) : Option Value → S → Prop := fun o u => o = o1 ∧ u = u1
theorem kPc_blind (D : va_G) (cy : Nat → ClassId) (N : Nat) (ad : Nat → Nat) (Wd : Nat → va_E) (av : List Value) : FrameBlind (kPc D cy N ad Wd av) := fun a U g mk q => by
  obtain ⟨q0, qP, qK⟩ := q
  exact ⟨q0, qP, va_K.moved (u := U) (U := U.calling g mk a) (Vm.Alike.refl U.vm) qK⟩
theorem k_met {S : Type} {l : Launch} {y : MethodName} {ws ws' : List Cond} {rm : Room} {D : va_G} {cy : Nat → ClassId} {N : Nat} {ad : Nat → Nat} {Wf : S → Nat → va_E} {Wd : Nat → va_E} {av : List Value} {post : Option Value → S → Prop} (cc : ByteArray) (maxL : Nat) (ret : Option FieldType)
    (hy : plainName y.cls = true) (hw : ws = Cond.code y cc maxL ret :: ws') (hn : (lg_sl av).length ≤ maxL)
    (body : ∀ (p : Program) (e : Env) (s : State) (m : MethodId) (below : List Frame) (meth : Method) (c : Code) (ls : Array Slot), p.tables.exec = Jvm.exec → c.code = cc → meth.sig.returnType = ret → (∀ w ∈ ws, w.before av.toArray s = true) → s.vm.findClass y.cls = some m.cls → meth.locks = false → c.maxLocals = maxL → va_K D vwCl (kTy cy) s → va_P D vwCl (wL N ad Wd) s.heap → va_S (wA N ad) s.heap s.heap [] → lv_has ls maxL (lv_args 0 av) →
      W p l e rm s m av.toArray below meth c s.heap [] 0 0 (MQ below (kQ D N ad Wf post) av.toArray s 0 0 (wA N ad)) (F0 m 0 ls [])) :
    kM l y ws rm D cy N ad Wf Wd av post := by
  refine Met.ofW (cc := cc) (maxL := maxL) (ret := ret) hy hw ?_
  intro p e s m args below meth c s₁ B hml hv
  obtain ⟨rfl, hP, hK⟩ := hv
  rw [lg_entry_eq]
  exact body p e s m below meth c _ B.exec B.bytes B.returns (atoms_spec (ws := ws) B.pre) (findClass_of_methodNamed B.named) B.notSynchronized hml hK hP va_S.rf (lv_entry av hn)
section KR
variable {p : Program} {l : Launch} {e : Env} {R : Room} {s : State} {m : MethodId} {args : Array Value} {below : List Frame} {meth : Method} {c : Code} {H : Heap} {locs : List Loc} {cells slots : Nat} {Q : State → Prop}
variable {cc : ByteArray} {pc : Nat} {ls : Array Slot} {rest st0 : List Value} {D : va_G} {cy : Nat → ClassId} {N : Nat} {ad : Nat → Nat} {Wd : Nat → va_E} {A0 : Nat → Prop} {H0 : Heap}
theorem k_iret {S : Type} {Wf : S → Nat → va_E} {post : Option Value → S → Prop} (hx : p.tables.exec = Jvm.exec) (hb : c.code = cc) (hr : meth.sig.returnType = some .int) (hlocks : meth.locks = false) {v : Int32} (u : S) (hP : va_P D vwCl (wL N ad (Wf u)) H) (hS : va_S (wA N ad) s.heap H locs) (hdg : decode cc pc = .ok (.ireturn, 1)) (hpost : post (some (.int v)) u) :
    W p l e R s m args below meth c H locs 0 0 (MQ below (kQ D N ad Wf post) args s 0 0 (wA N ad)) (F0 m pc ls [.int v]) :=
  W.iret (v := v) hx hb hr (fun t ht _ => ⟨⟨_, u, rfl, hpost, by rw [ht]; exact hP⟩, hS.F ht⟩) hS.2.2 hdg hlocks
theorem k_zret {S : Type} {Wf : S → Nat → va_E} {post : Option Value → S → Prop} {ty : FieldType} (hx : p.tables.exec = Jvm.exec) (hb : c.code = cc) (hr : meth.sig.returnType = some ty) (hlocks : meth.locks = false) {v : Int32} (hn : narrow ty (.int v) = .int v) (u : S) (hP : va_P D vwCl (wL N ad (Wf u)) H) (hS : va_S (wA N ad) s.heap H locs) (hdg : decode cc pc = .ok (.ireturn, 1)) (hpost : post (some (.int v)) u) :
    W p l e R s m args below meth c H locs 0 0 (MQ below (kQ D N ad Wf post) args s 0 0 (wA N ad)) (F0 m pc ls [.int v]) :=
  W.zret (v := v) hx hb hr hn (fun t ht _ => ⟨⟨_, u, rfl, hpost, by rw [ht]; exact hP⟩, hS.F ht⟩) hS.2.2 hdg hlocks
theorem k_lret {S : Type} {Wf : S → Nat → va_E} {post : Option Value → S → Prop} (hx : p.tables.exec = Jvm.exec) (hb : c.code = cc) (hr : meth.sig.returnType = some .long) (hlocks : meth.locks = false) {v : Int64} (u : S) (hP : va_P D vwCl (wL N ad (Wf u)) H) (hS : va_S (wA N ad) s.heap H locs) (hdg : decode cc pc = .ok (.lreturn, 1)) (hpost : post (some (.long v)) u) :
    W p l e R s m args below meth c H locs 0 0 (MQ below (kQ D N ad Wf post) args s 0 0 (wA N ad)) (F0 m pc ls [.long v]) :=
  W.lret (v := v) hx hb hr (fun t ht _ => ⟨⟨_, u, rfl, hpost, by rw [ht]; exact hP⟩, hS.F ht⟩) hS.2.2 hdg hlocks
theorem k_vret {S : Type} {Wf : S → Nat → va_E} {post : Option Value → S → Prop} (hx : p.tables.exec = Jvm.exec) (hb : c.code = cc) (hr : meth.sig.returnType = none) (hlocks : meth.locks = false) (u : S) (hP : va_P D vwCl (wL N ad (Wf u)) H) (hS : va_S (wA N ad) s.heap H locs) (hdg : decode cc pc = .ok (.return_, 1)) (hpost : post none u) :
    W p l e R s m args below meth c H locs 0 0 (MQ below (kQ D N ad Wf post) args s 0 0 (wA N ad)) (F0 m pc ls []) :=
  W.vret hx hb hr (fun t ht _ => ⟨⟨_, u, rfl, hpost, by rw [ht]; exact hP⟩, hS.F ht⟩) hS.2.2 hdg hlocks
theorem k_callV {S : Type} {Wf : S → Nat → va_E} {post : Option Value → S → Prop} {y : MethodName} {bytes : ByteArray} {maxL nL n index : Nat} {ret : Option FieldType} {ws Ts : List Cond} {rm : Room} {own C : String} {b : Nat} {As : List Value}
    (F : CallFix p m c cc nL s args Ts own) (hM : kM l y ws rm D cy N ad Wf Wd (.ref b :: As) post) (cw : CallW R s args own C index y bytes maxL ret ws rm 0 0 n)
    (hK : va_K D vwCl (kTy cy) s) (hP : va_P D vwCl (wL N ad Wd) H) (hS : va_S A0 H0 H locs) (hA : ∀ q, wA N ad q → A0 q)
    {q0 ci : Nat} {q : vw_C} {fs : List Value} (hb0 : ad q0 = b) (hq0 : q0 < N) (he : Wd q0 = .inr (ci, fs)) (hc : vwCl[ci]? = some q) (hC : q.1 = C)
    (hn : As.length = n) (hsize : ls.size = nL) (hst : st0 = As.reverse ++ .ref b :: rest) (hW : (rest.map fun v => v.category).sum ≤ 8) (hdg : decode cc pc = .ok (.invokevirtual index, 3)) (hcell : cells ≤ R.cells ∧ slots ≤ R.slots)
    (kk : ∀ (o : Option Value) (u : S) (H1 : Heap) (locs1 : List Loc), post o u → va_P D vwCl (wL N ad (Wf u)) H1 → va_S A0 H0 H1 locs1 → (H.size ≤ H1.size ∧ ∀ q : Nat, q < H.size → ¬ wA N ad q → H1[q]? = H[q]?) → W p l e R s m args below meth c H1 locs1 cells slots Q (F0 m (pc + 3) ls (o.toList ++ rest))) : W p l e R s m args below meth c H locs cells slots Q (F0 m pc ls st0) := by
  subst hb0
  subst hC
  intro T hT X
  obtain ⟨v, st₀, t, T', L, h0, X', hL, e1, e2, ⟨⟨o, u, hv, hp, hb⟩, hz, hk⟩, st⟩ := va_runV (rest := rest) (g := F0 m pc ls st0) F hM cw ⟨kPc_blind D cy N ad Wd _, va_recv hK hP hc (wL_get hq0 he), fun U hU hW => ⟨rfl, by rw [hU]; exact hP, va_K.moved hW.alike hK⟩⟩ rfl hn hsize hst (lv_room hW) hdg hcell T hT X
  cases hv
  rw [h0] at hz hk
  obtain ⟨t2, a1, b1⟩ := kk v u T'.heap (locs ++ L) hp (by rw [e1]; exact hb)
    ⟨Nat.le_trans hS.1 (by rw [e1]; exact hz), fun q h1 h2 => by rw [e1, hk q (Nat.lt_of_lt_of_le h1 hS.1) (fun z => h2 (hA q z))]; exact hS.2.1 q h1 h2, fun q hq => by
      rcases List.mem_append.mp hq with h | h
      · exact hS.2.2 q h
      · exact hA _ (hL q h)⟩ ⟨by rw [e1]; exact hz, fun q h1 h2 => by rw [e1]; exact hk q h1 h2⟩ T' rfl X'
  exact ⟨t2, st t2 a1, b1⟩
theorem k_callS {S : Type} {Wf : S → Nat → va_E} {post : Option Value → S → Prop} {y : MethodName} {bytes : ByteArray} {maxL nL n index : Nat} {ret : Option FieldType} {ws Ts : List Cond} {rm : Room} {own : String} {As : List Value}
    (F : CallFix p m c cc nL s args Ts own) (hM : kM l y ws rm D cy N ad Wf Wd As post) (cw : CallB R s args own index y bytes maxL ret ws rm 0 0 n ∧ (Cond.static y).before args s = true)
    (hK : va_K D vwCl (kTy cy) s) (hP : va_P D vwCl (wL N ad Wd) H) (hS : va_S A0 H0 H locs) (hA : ∀ q, wA N ad q → A0 q)
    (hn : As.length = n) (hsize : ls.size = nL) (hst : st0 = As.reverse ++ rest) (hW : (rest.map fun v => v.category).sum ≤ 8) (hdg : decode cc pc = .ok (.invokestatic index, 3)) (hcell : cells ≤ R.cells ∧ slots ≤ R.slots)
    (kk : ∀ (o : Option Value) (u : S) (H1 : Heap) (locs1 : List Loc), post o u → va_P D vwCl (wL N ad (Wf u)) H1 → va_S A0 H0 H1 locs1 → (H.size ≤ H1.size ∧ ∀ q : Nat, q < H.size → ¬ wA N ad q → H1[q]? = H[q]?) → W p l e R s m args below meth c H1 locs1 cells slots Q (F0 m (pc + 3) ls (o.toList ++ rest))) : W p l e R s m args below meth c H locs cells slots Q (F0 m pc ls st0) := by
  intro T hT X
  obtain ⟨v, st₀, t, T', L, h0, X', hL, e1, e2, ⟨⟨o, u, hv, hp, hb⟩, hz, hk⟩, st⟩ := va_runS (rest := rest) (g := F0 m pc ls st0) F hM cw ⟨kPc_blind D cy N ad Wd _, fun U hU hW => ⟨rfl, by rw [hU]; exact hP, va_K.moved hW.alike hK⟩⟩ rfl hn hsize hst (lv_room hW) hdg hcell T hT X
  cases hv
  rw [h0] at hz hk
  obtain ⟨t2, a1, b1⟩ := kk v u T'.heap (locs ++ L) hp (by rw [e1]; exact hb)
    ⟨Nat.le_trans hS.1 (by rw [e1]; exact hz), fun q h1 h2 => by rw [e1, hk q (Nat.lt_of_lt_of_le h1 hS.1) (fun z => h2 (hA q z))]; exact hS.2.1 q h1 h2, fun q hq => by
      rcases List.mem_append.mp hq with h | h
      · exact hS.2.2 q h
      · exact hA _ (hL q h)⟩ ⟨by rw [e1]; exact hz, fun q h1 h2 => by rw [e1]; exact hk q h1 h2⟩ T' rfl X'
  exact ⟨t2, st t2 a1, b1⟩
end KR
end
section
/-! ROWS OVER WORLDS BY CELL NUMBER -/
section KR2
variable {p : Program} {l : Launch} {e : Env} {R : Room} {s : State} {m : MethodId} {args : Array Value} {below : List Frame} {meth : Method} {c : Code} {H : Heap} {locs : List Loc} {cells slots : Nat} {Q : State → Prop}
variable {cc : ByteArray} {pc : Nat} {ls : Array Slot} {rest st0 : List Value} {D : va_G} {cy : Nat → ClassId} {N : Nat} {ad : Nat → Nat} {Wd Wd' : Nat → va_E} {A0 : Nat → Prop} {H0 : Heap}
theorem k_callVr {S : Type} {Wf : S → Nat → va_E} {v1 : Value} {u1 : S} {y : MethodName} {bytes : ByteArray} {maxL nL n index : Nat} {ret : Option FieldType} {ws Ts : List Cond} {rm : Room} {own C : String} {b : Nat} {As : List Value}
    (F : CallFix p m c cc nL s args Ts own) (hM : kM l y ws rm D cy N ad Wf Wd (.ref b :: As) (kF (some v1) u1)) (cw : CallW R s args own C index y bytes maxL ret ws rm 0 0 n)
    (hK : va_K D vwCl (kTy cy) s) (hP : va_P D vwCl (wL N ad Wd) H) (hS : va_S A0 H0 H locs) (hA : ∀ q, wA N ad q → A0 q)
    {q0 ci : Nat} {q : vw_C} {fs : List Value} (hb0 : ad q0 = b) (hq0 : q0 < N) (he : Wd q0 = .inr (ci, fs)) (hc : vwCl[ci]? = some q) (hC : q.1 = C)
    (hn : As.length = n) (hsize : ls.size = nL) (hst : st0 = As.reverse ++ .ref b :: rest) (hW : (rest.map fun v => v.category).sum ≤ 8) (hdg : decode cc pc = .ok (.invokevirtual index, 3)) (hcell : cells ≤ R.cells ∧ slots ≤ R.slots)
    (kk : ∀ (H1 : Heap) (locs1 : List Loc), va_P D vwCl (wL N ad (Wf u1)) H1 → va_S A0 H0 H1 locs1 → W p l e R s m args below meth c H1 locs1 cells slots Q (F0 m (pc + 3) ls (v1 :: rest))) : W p l e R s m args below meth c H locs cells slots Q (F0 m pc ls st0) :=
  k_callV F hM cw hK hP hS hA hb0 hq0 he hc hC hn hsize hst hW hdg hcell (fun o u H1 locs1 hp hP1 hS1 _ => by obtain ⟨rfl, rfl⟩ := hp; exact kk H1 locs1 hP1 hS1)
theorem k_callVv {S : Type} {Wf : S → Nat → va_E} {u1 : S} {y : MethodName} {bytes : ByteArray} {maxL nL n index : Nat} {ret : Option FieldType} {ws Ts : List Cond} {rm : Room} {own C : String} {b : Nat} {As : List Value}
    (F : CallFix p m c cc nL s args Ts own) (hM : kM l y ws rm D cy N ad Wf Wd (.ref b :: As) (kF none u1)) (cw : CallW R s args own C index y bytes maxL ret ws rm 0 0 n)
    (hK : va_K D vwCl (kTy cy) s) (hP : va_P D vwCl (wL N ad Wd) H) (hS : va_S A0 H0 H locs) (hA : ∀ q, wA N ad q → A0 q)
    {q0 ci : Nat} {q : vw_C} {fs : List Value} (hb0 : ad q0 = b) (hq0 : q0 < N) (he : Wd q0 = .inr (ci, fs)) (hc : vwCl[ci]? = some q) (hC : q.1 = C)
    (hn : As.length = n) (hsize : ls.size = nL) (hst : st0 = As.reverse ++ .ref b :: rest) (hW : (rest.map fun v => v.category).sum ≤ 8) (hdg : decode cc pc = .ok (.invokevirtual index, 3)) (hcell : cells ≤ R.cells ∧ slots ≤ R.slots)
    (kk : ∀ (H1 : Heap) (locs1 : List Loc), va_P D vwCl (wL N ad (Wf u1)) H1 → va_S A0 H0 H1 locs1 → W p l e R s m args below meth c H1 locs1 cells slots Q (F0 m (pc + 3) ls rest)) : W p l e R s m args below meth c H locs cells slots Q (F0 m pc ls st0) :=
  k_callV F hM cw hK hP hS hA hb0 hq0 he hc hC hn hsize hst hW hdg hcell (fun o u H1 locs1 hp hP1 hS1 _ => by obtain ⟨rfl, rfl⟩ := hp; exact kk H1 locs1 hP1 hS1)
theorem k_callSr {S : Type} {Wf : S → Nat → va_E} {v1 : Value} {u1 : S} {y : MethodName} {bytes : ByteArray} {maxL nL n index : Nat} {ret : Option FieldType} {ws Ts : List Cond} {rm : Room} {own : String} {As : List Value}
    (F : CallFix p m c cc nL s args Ts own) (hM : kM l y ws rm D cy N ad Wf Wd As (kF (some v1) u1)) (cw : CallB R s args own index y bytes maxL ret ws rm 0 0 n ∧ (Cond.static y).before args s = true)
    (hK : va_K D vwCl (kTy cy) s) (hP : va_P D vwCl (wL N ad Wd) H) (hS : va_S A0 H0 H locs) (hA : ∀ q, wA N ad q → A0 q)
    (hn : As.length = n) (hsize : ls.size = nL) (hst : st0 = As.reverse ++ rest) (hW : (rest.map fun v => v.category).sum ≤ 8) (hdg : decode cc pc = .ok (.invokestatic index, 3)) (hcell : cells ≤ R.cells ∧ slots ≤ R.slots)
    (kk : ∀ (H1 : Heap) (locs1 : List Loc), va_P D vwCl (wL N ad (Wf u1)) H1 → va_S A0 H0 H1 locs1 → W p l e R s m args below meth c H1 locs1 cells slots Q (F0 m (pc + 3) ls (v1 :: rest))) : W p l e R s m args below meth c H locs cells slots Q (F0 m pc ls st0) :=
  k_callS F hM cw hK hP hS hA hn hsize hst hW hdg hcell (fun o u H1 locs1 hp hP1 hS1 _ => by obtain ⟨rfl, rfl⟩ := hp; exact kk H1 locs1 hP1 hS1)
theorem k_callSv {S : Type} {Wf : S → Nat → va_E} {u1 : S} {y : MethodName} {bytes : ByteArray} {maxL nL n index : Nat} {ret : Option FieldType} {ws Ts : List Cond} {rm : Room} {own : String} {As : List Value}
    (F : CallFix p m c cc nL s args Ts own) (hM : kM l y ws rm D cy N ad Wf Wd As (kF none u1)) (cw : CallB R s args own index y bytes maxL ret ws rm 0 0 n ∧ (Cond.static y).before args s = true)
    (hK : va_K D vwCl (kTy cy) s) (hP : va_P D vwCl (wL N ad Wd) H) (hS : va_S A0 H0 H locs) (hA : ∀ q, wA N ad q → A0 q)
    (hn : As.length = n) (hsize : ls.size = nL) (hst : st0 = As.reverse ++ rest) (hW : (rest.map fun v => v.category).sum ≤ 8) (hdg : decode cc pc = .ok (.invokestatic index, 3)) (hcell : cells ≤ R.cells ∧ slots ≤ R.slots)
    (kk : ∀ (H1 : Heap) (locs1 : List Loc), va_P D vwCl (wL N ad (Wf u1)) H1 → va_S A0 H0 H1 locs1 → W p l e R s m args below meth c H1 locs1 cells slots Q (F0 m (pc + 3) ls rest)) : W p l e R s m args below meth c H locs cells slots Q (F0 m pc ls st0) :=
  k_callS F hM cw hK hP hS hA hn hsize hst hW hdg hcell (fun o u H1 locs1 hp hP1 hS1 _ => by obtain ⟨rfl, rfl⟩ := hp; exact kk H1 locs1 hP1 hS1)
/-- a field is read -/
theorem k_get (hx : p.tables.exec = Jvm.exec) (hb : c.code = cc) {own ref C : String} {T : u_T} {Nf ci index q0 k : Nat} (hts : ∀ w ∈ u_ws C T Nf, w.before args s = true) (hown : s.vm.findClass own = some m.cls) (hK : va_K D vwCl (kTy cy) s) (hP : va_P D vwCl (wL N ad Wd) H) (hq : q0 < N) {fs : List Value} (he : Wd q0 = .inr (ci, fs)) (hc : vwCl[ci]? = some (C, T, Nf)) (hk : k < Nf) (hlink : (Cond.fieldLink own index ref (T k).2.1 (T k).2.2.1).before args s = true) (hr : (T k).1 = ref) {v : Value} (hv : fs[k]? = some v) (hdg : decode cc pc = .ok (.getfield index, 3))
    (kk : W p l e R s m args below meth c H locs cells slots Q (F0 m (pc + 3) ls (v :: rest))) : W p l e R s m args below meth c H locs cells slots Q (F0 m pc ls (.ref (ad q0) :: rest)) := by
  subst hr
  exact va_get hx hb (Ts := u_ws C T Nf) hts (fun _ h => h) hown hK hP q0 (wL_get hq he) hc k hk hlink (fun _ h => h) hv hdg kk
/-- a field that isn't final is written -/
theorem k_put (hx : p.tables.exec = Jvm.exec) (hb : c.code = cc) {own ref C : String} {T : u_T} {Nf ci index q0 k : Nat} (hts : ∀ w ∈ u_ws C T Nf, w.before args s = true) (ty0 : Nat → FieldType) (hty : ∀ k, k < Nf → parseFieldDescriptor (T k).2.2.1 = some (ty0 k)) (hnm : ∀ a, a < Nf → ∀ b, b < Nf → a ≠ b → (T a).2.1 ≠ (T b).2.1) (hown : s.vm.findClass own = some m.cls) (hK : va_K D vwCl (kTy cy) s) (hI : wI N ad) (hP : va_P D vwCl (wL N ad Wd) H) (hS : va_S (wA N ad) H0 H locs) (hq : q0 < N) {fs : List Value} (he : Wd q0 = .inr (ci, fs)) (hc : vwCl[ci]? = some (C, T, Nf)) (hk : k < Nf) (hlink : (Cond.fieldLink own index ref (T k).2.1 (T k).2.2.1).before args s = true) (hr : (T k).1 = ref) (hfin : (T k).2.2.2 = false) {ty : FieldType} {v : Value} (hd : parseFieldDescriptor (T k).2.2.1 = some ty) (hn : narrow ty v = v) (hfit : fits ty v = true) (hl : k < fs.length) (hW : va_up Wd q0 (.inr (ci, fs.set k v)) = Wd') (hdg : decode cc pc = .ok (.putfield index, 3))
    (kk : ∀ (H1 : Heap) (locs1 : List Loc), va_P D vwCl (wL N ad Wd') H1 → va_S (wA N ad) H0 H1 locs1 → W p l e R s m args below meth c H1 locs1 cells slots Q (F0 m (pc + 3) ls rest)) : W p l e R s m args below meth c H locs cells slots Q (F0 m pc ls (v :: .ref (ad q0) :: rest)) := by
  subst hr
  subst hW
  exact va_put hx hb (Ts := u_ws C T Nf) hts (fun _ h => h) ty0 hty hnm hown hK hP (wD hI) hS q0 (wL_get hq he) hc k hk hlink (fun _ h => h) hfin hd hn hfit hl hdg (fun H1 locs1 hP1 _ hS1 => kk H1 locs1 (by rw [wL_set] at hP1; exact hP1) hS1)
/-- an array's length -/
theorem k_alen (hx : p.tables.exec = Jvm.exec) (hb : c.code = cc) (hK : va_K D vwCl (kTy cy) s) (hP : va_P D vwCl (wL N ad Wd) H) {q0 : Nat} (t0 : Nat) (hq : q0 < N) {cA : ClassId} {x : vp_A} (he : Wd q0 = .inl (cA, x)) {ty : FieldType} (ht : (kTy cy)[t0]? = some (cA, ty)) (n : Nat) (hv : x.1 = n) (hdg : decode cc pc = .ok (.arraylength, 1))
    (kk : W p l e R s m args below meth c H locs cells slots Q (F0 m (pc + 1) ls (.int (nI n) :: rest))) : W p l e R s m args below meth c H locs cells slots Q (F0 m pc ls (.ref (ad q0) :: rest)) := by
  subst hv
  exact va_alen hx hb hK hP q0 t0 (wL_get hq he) ht rfl hdg kk
theorem k_iald (hx : p.tables.exec = Jvm.exec) (hb : c.code = cc) (hK : va_K D vwCl (kTy cy) s) (hP : va_P D vwCl (wL N ad Wd) H) {q0 n j : Nat} {f : Nat → Int32} (hq : q0 < N) (he : Wd q0 = .inl (cy 0, n, .inl f)) (hn : n < 2 ^ 31) (hj : j < n) (hdg : decode cc pc = .ok (.iaload, 1))
    (kk : W p l e R s m args below meth c H locs cells slots Q (F0 m (pc + 1) ls (.int (f j) :: rest))) : W p l e R s m args below meth c H locs cells slots Q (F0 m pc ls (.int (nI j) :: .ref (ad q0) :: rest)) :=
  va_iald hx hb hK hP q0 0 (wL_get hq he) rfl (vp_in_nI hj hn) hdg (by rw [nI_clamp (by omega)]; exact kk)
theorem k_zald (hx : p.tables.exec = Jvm.exec) (hb : c.code = cc) (hK : va_K D vwCl (kTy cy) s) (hP : va_P D vwCl (wL N ad Wd) H) {q0 n j : Nat} {f : Nat → Int32} (hq : q0 < N) (he : Wd q0 = .inl (cy 1, n, .inl f)) (hn : n < 2 ^ 31) (hj : j < n) (hdg : decode cc pc = .ok (.baload, 1))
    (kk : W p l e R s m args below meth c H locs cells slots Q (F0 m (pc + 1) ls (.int (f j) :: rest))) : W p l e R s m args below meth c H locs cells slots Q (F0 m pc ls (.int (nI j) :: .ref (ad q0) :: rest)) :=
  va_zald hx hb hK hP q0 1 (wL_get hq he) rfl (vp_in_nI hj hn) hdg (by rw [nI_clamp (by omega)]; exact kk)
theorem k_cald (hx : p.tables.exec = Jvm.exec) (hb : c.code = cc) (hK : va_K D vwCl (kTy cy) s) (hP : va_P D vwCl (wL N ad Wd) H) {q0 n j : Nat} {f : Nat → Int32} (hq : q0 < N) (he : Wd q0 = .inl (cy 2, n, .inl f)) (hn : n < 2 ^ 31) (hj : j < n) (hdg : decode cc pc = .ok (.caload, 1))
    (kk : W p l e R s m args below meth c H locs cells slots Q (F0 m (pc + 1) ls (.int (f j) :: rest))) : W p l e R s m args below meth c H locs cells slots Q (F0 m pc ls (.int (nI j) :: .ref (ad q0) :: rest)) :=
  va_cald hx hb hK hP q0 2 (wL_get hq he) rfl (vp_in_nI hj hn) hdg (by rw [nI_clamp (by omega)]; exact kk)
theorem k_iast (hx : p.tables.exec = Jvm.exec) (hb : c.code = cc) (hK : va_K D vwCl (kTy cy) s) (hI : wI N ad) (hP : va_P D vwCl (wL N ad Wd) H) (hS : va_S (wA N ad) H0 H locs) {q0 n j : Nat} {f : Nat → Int32} {v : Int32} (hq : q0 < N) (he : Wd q0 = .inl (cy 0, n, .inl f)) (hn : n < 2 ^ 31) (hj : j < n) (hW : va_up Wd q0 (.inl (cy 0, n, .inl (va_up f j v))) = Wd') (hdg : decode cc pc = .ok (.iastore, 1))
    (kk : ∀ (H1 : Heap) (locs1 : List Loc), va_P D vwCl (wL N ad Wd') H1 → va_S (wA N ad) H0 H1 locs1 → W p l e R s m args below meth c H1 locs1 cells slots Q (F0 m (pc + 1) ls rest)) : W p l e R s m args below meth c H locs cells slots Q (F0 m pc ls (.int v :: .int (nI j) :: .ref (ad q0) :: rest)) := by
  subst hW
  exact va_iast hx hb hK hP (wD hI) hS q0 0 (wL_get hq he) rfl (vp_in_nI hj hn) hdg (fun H1 locs1 hP1 _ hS1 => kk H1 locs1 (by rw [wL_set, nI_clamp (by omega)] at hP1; exact hP1) hS1)
theorem k_zast (hx : p.tables.exec = Jvm.exec) (hb : c.code = cc) (hK : va_K D vwCl (kTy cy) s) (hI : wI N ad) (hP : va_P D vwCl (wL N ad Wd) H) (hS : va_S (wA N ad) H0 H locs) {q0 n j : Nat} {f : Nat → Int32} {v : Int32} (hq : q0 < N) (he : Wd q0 = .inl (cy 1, n, .inl f)) (hn : n < 2 ^ 31) (hj : j < n) (hv : vp_nar .boolean v = v) (hW : va_up Wd q0 (.inl (cy 1, n, .inl (va_up f j v))) = Wd') (hdg : decode cc pc = .ok (.bastore, 1))
    (kk : ∀ (H1 : Heap) (locs1 : List Loc), va_P D vwCl (wL N ad Wd') H1 → va_S (wA N ad) H0 H1 locs1 → W p l e R s m args below meth c H1 locs1 cells slots Q (F0 m (pc + 1) ls rest)) : W p l e R s m args below meth c H locs cells slots Q (F0 m pc ls (.int v :: .int (nI j) :: .ref (ad q0) :: rest)) := by
  subst hW
  exact va_zast hx hb hK hP (wD hI) hS q0 1 (wL_get hq he) rfl (vp_in_nI hj hn) hdg (fun H1 locs1 hP1 _ hS1 => kk H1 locs1 (by rw [wL_set, nI_clamp (by omega), hv] at hP1; exact hP1) hS1)
theorem k_cast (hx : p.tables.exec = Jvm.exec) (hb : c.code = cc) (hK : va_K D vwCl (kTy cy) s) (hI : wI N ad) (hP : va_P D vwCl (wL N ad Wd) H) (hS : va_S (wA N ad) H0 H locs) {q0 n j : Nat} {f : Nat → Int32} {v : Int32} (hq : q0 < N) (he : Wd q0 = .inl (cy 2, n, .inl f)) (hn : n < 2 ^ 31) (hj : j < n) (hv : vp_nar .char v = v) (hW : va_up Wd q0 (.inl (cy 2, n, .inl (va_up f j v))) = Wd') (hdg : decode cc pc = .ok (.castore, 1))
    (kk : ∀ (H1 : Heap) (locs1 : List Loc), va_P D vwCl (wL N ad Wd') H1 → va_S (wA N ad) H0 H1 locs1 → W p l e R s m args below meth c H1 locs1 cells slots Q (F0 m (pc + 1) ls rest)) : W p l e R s m args below meth c H locs cells slots Q (F0 m pc ls (.int v :: .int (nI j) :: .ref (ad q0) :: rest)) := by
  subst hW
  exact va_cast hx hb hK hP (wD hI) hS q0 2 (wL_get hq he) rfl (vp_in_nI hj hn) hdg (fun H1 locs1 hP1 _ hS1 => kk H1 locs1 (by rw [wL_set, nI_clamp (by omega), hv] at hP1; exact hP1) hS1)
/-- ints that are numbers -/
theorem n_push {v : Int32} {a : Nat} (h : v = nI a) (kk : W p l e R s m args below meth c H locs cells slots Q (F0 m pc ls (.int (nI a) :: rest))) : W p l e R s m args below meth c H locs cells slots Q (F0 m pc ls (.int v :: rest)) := by
  rw [h]; exact kk
theorem n_iadd (hx : p.tables.exec = Jvm.exec) (hb : c.code = cc) {a b : Nat} (hdg : decode cc pc = .ok (.iadd, 1)) (kk : W p l e R s m args below meth c H locs cells slots Q (F0 m (pc + 1) ls (.int (nI (a + b)) :: rest))) : W p l e R s m args below meth c H locs cells slots Q (F0 m pc ls (.int (nI b) :: .int (nI a) :: rest)) :=
  lv_iadd hx hb hdg (by rw [nI_add]; exact kk)
theorem n_isub (hx : p.tables.exec = Jvm.exec) (hb : c.code = cc) {a b : Nat} (h : b ≤ a) (hdg : decode cc pc = .ok (.isub, 1)) (kk : W p l e R s m args below meth c H locs cells slots Q (F0 m (pc + 1) ls (.int (nI (a - b)) :: rest))) : W p l e R s m args below meth c H locs cells slots Q (F0 m pc ls (.int (nI b) :: .int (nI a) :: rest)) :=
  lv_isub hx hb hdg (by rw [pk_sub h]; exact kk)
theorem n_imul (hx : p.tables.exec = Jvm.exec) (hb : c.code = cc) {a b : Nat} (hdg : decode cc pc = .ok (.imul, 1)) (kk : W p l e R s m args below meth c H locs cells slots Q (F0 m (pc + 1) ls (.int (nI (a * b)) :: rest))) : W p l e R s m args below meth c H locs cells slots Q (F0 m pc ls (.int (nI b) :: .int (nI a) :: rest)) :=
  lv_imul hx hb hdg (by rw [pk_mul]; exact kk)
theorem n_irem (hx : p.tables.exec = Jvm.exec) (hb : c.code = cc) {a b : Nat} (ha : a < 2 ^ 31) (h0 : 0 < b) (hd : b < 2 ^ 31) (hdg : decode cc pc = .ok (.irem, 1)) (kk : W p l e R s m args below meth c H locs cells slots Q (F0 m (pc + 1) ls (.int (nI (a % b)) :: rest))) : W p l e R s m args below meth c H locs cells slots Q (F0 m pc ls (.int (nI b) :: .int (nI a) :: rest)) :=
  lv_irem hx hb hdg (nI_ne0 h0 hd) (by rw [pk_rem ha h0 hd]; exact kk)
theorem n_icmp_lt (hx : p.tables.exec = Jvm.exec) (hb : c.code = cc) {a b : Nat} (ha : a < 2 ^ 31) (hd : b < 2 ^ 31) {off : Int} {tgt : Nat} (hdg : decode cc pc = .ok (.if_icmp .lt off, 3)) (ht : (pc : Int) + off = (tgt : Int)) (kt : a < b → W p l e R s m args below meth c H locs cells slots Q (F0 m tgt ls rest)) (kf : b ≤ a → W p l e R s m args below meth c H locs cells slots Q (F0 m (pc + 3) ls rest)) : W p l e R s m args below meth c H locs cells slots Q (F0 m pc ls (.int (nI b) :: .int (nI a) :: rest)) :=
  lv_icmp_lt hx hb hdg ht (fun h => kt ((nI_ltI ha hd).mp h)) (fun h => kf (Nat.not_lt.mp fun q => h ((nI_ltI ha hd).mpr q)))
theorem n_icmp_ge (hx : p.tables.exec = Jvm.exec) (hb : c.code = cc) {a b : Nat} (ha : a < 2 ^ 31) (hd : b < 2 ^ 31) {off : Int} {tgt : Nat} (hdg : decode cc pc = .ok (.if_icmp .ge off, 3)) (ht : (pc : Int) + off = (tgt : Int)) (kt : b ≤ a → W p l e R s m args below meth c H locs cells slots Q (F0 m tgt ls rest)) (kf : a < b → W p l e R s m args below meth c H locs cells slots Q (F0 m (pc + 3) ls rest)) : W p l e R s m args below meth c H locs cells slots Q (F0 m pc ls (.int (nI b) :: .int (nI a) :: rest)) :=
  lv_icmp_ge hx hb hdg ht (fun h => kt ((nI_leI hd ha).mp h)) (fun h => kf (Nat.not_le.mp fun q => h ((nI_leI hd ha).mpr q)))
theorem n_icmp_gt (hx : p.tables.exec = Jvm.exec) (hb : c.code = cc) {a b : Nat} (ha : a < 2 ^ 31) (hd : b < 2 ^ 31) {off : Int} {tgt : Nat} (hdg : decode cc pc = .ok (.if_icmp .gt off, 3)) (ht : (pc : Int) + off = (tgt : Int)) (kt : b < a → W p l e R s m args below meth c H locs cells slots Q (F0 m tgt ls rest)) (kf : a ≤ b → W p l e R s m args below meth c H locs cells slots Q (F0 m (pc + 3) ls rest)) : W p l e R s m args below meth c H locs cells slots Q (F0 m pc ls (.int (nI b) :: .int (nI a) :: rest)) :=
  lv_icmp_gt hx hb hdg ht (fun h => kt ((nI_ltI hd ha).mp h)) (fun h => kf (Nat.not_lt.mp fun q => h ((nI_ltI hd ha).mpr q)))
theorem n_icmp_le (hx : p.tables.exec = Jvm.exec) (hb : c.code = cc) {a b : Nat} (ha : a < 2 ^ 31) (hd : b < 2 ^ 31) {off : Int} {tgt : Nat} (hdg : decode cc pc = .ok (.if_icmp .le off, 3)) (ht : (pc : Int) + off = (tgt : Int)) (kt : a ≤ b → W p l e R s m args below meth c H locs cells slots Q (F0 m tgt ls rest)) (kf : b < a → W p l e R s m args below meth c H locs cells slots Q (F0 m (pc + 3) ls rest)) : W p l e R s m args below meth c H locs cells slots Q (F0 m pc ls (.int (nI b) :: .int (nI a) :: rest)) :=
  lv_icmp_le hx hb hdg ht (fun h => kt ((nI_leI ha hd).mp h)) (fun h => kf (Nat.not_le.mp fun q => h ((nI_leI ha hd).mpr q)))
theorem n_icmp_eq (hx : p.tables.exec = Jvm.exec) (hb : c.code = cc) {a b : Nat} (ha : a < 2 ^ 31) (hd : b < 2 ^ 31) {off : Int} {tgt : Nat} (hdg : decode cc pc = .ok (.if_icmp .eq off, 3)) (ht : (pc : Int) + off = (tgt : Int)) (kt : a = b → W p l e R s m args below meth c H locs cells slots Q (F0 m tgt ls rest)) (kf : a ≠ b → W p l e R s m args below meth c H locs cells slots Q (F0 m (pc + 3) ls rest)) : W p l e R s m args below meth c H locs cells slots Q (F0 m pc ls (.int (nI b) :: .int (nI a) :: rest)) :=
  lv_icmp_eq hx hb hdg ht (fun h => kt ((nI_eq ha hd).mp h)) (fun h => kf (fun q => h ((nI_eq ha hd).mpr q)))
theorem n_icmp_ne (hx : p.tables.exec = Jvm.exec) (hb : c.code = cc) {a b : Nat} (ha : a < 2 ^ 31) (hd : b < 2 ^ 31) {off : Int} {tgt : Nat} (hdg : decode cc pc = .ok (.if_icmp .ne off, 3)) (ht : (pc : Int) + off = (tgt : Int)) (kt : a ≠ b → W p l e R s m args below meth c H locs cells slots Q (F0 m tgt ls rest)) (kf : a = b → W p l e R s m args below meth c H locs cells slots Q (F0 m (pc + 3) ls rest)) : W p l e R s m args below meth c H locs cells slots Q (F0 m pc ls (.int (nI b) :: .int (nI a) :: rest)) :=
  lv_icmp_ne hx hb hdg ht (fun h => kt (fun q => h ((nI_eq ha hd).mpr q))) (fun h => kf ((nI_eq ha hd).mp h))
theorem n_iflt (hx : p.tables.exec = Jvm.exec) (hb : c.code = cc) {a : Nat} (ha : a < 2 ^ 31) {off : Int} {tgt : Nat} (hdg : decode cc pc = .ok (.ifCond .lt off, 3)) (ht : (pc : Int) + off = (tgt : Int)) (kf : W p l e R s m args below meth c H locs cells slots Q (F0 m (pc + 3) ls rest)) : W p l e R s m args below meth c H locs cells slots Q (F0 m pc ls (.int (nI a) :: rest)) :=
  lv_if_lt hx hb hdg ht (fun h => absurd h (nI_pos ha)) (fun _ => kf)
theorem n_ifge (hx : p.tables.exec = Jvm.exec) (hb : c.code = cc) {a : Nat} (ha : a < 2 ^ 31) {off : Int} {tgt : Nat} (hdg : decode cc pc = .ok (.ifCond .ge off, 3)) (ht : (pc : Int) + off = (tgt : Int)) (kt : W p l e R s m args below meth c H locs cells slots Q (F0 m tgt ls rest)) : W p l e R s m args below meth c H locs cells slots Q (F0 m pc ls (.int (nI a) :: rest)) :=
  lv_if_ge hx hb hdg ht (fun _ => kt) (fun h => absurd (nI_pos' ha) h)
theorem n_ifeq (hx : p.tables.exec = Jvm.exec) (hb : c.code = cc) {a : Nat} (ha : a < 2 ^ 31) {off : Int} {tgt : Nat} (hdg : decode cc pc = .ok (.ifCond .eq off, 3)) (ht : (pc : Int) + off = (tgt : Int)) (kt : a = 0 → W p l e R s m args below meth c H locs cells slots Q (F0 m tgt ls rest)) (kf : a ≠ 0 → W p l e R s m args below meth c H locs cells slots Q (F0 m (pc + 3) ls rest)) : W p l e R s m args below meth c H locs cells slots Q (F0 m pc ls (.int (nI a) :: rest)) :=
  lv_if_eq hx hb hdg ht (fun h => kt ((nI_eq ha (by decide)).mp (h.trans nI_0.symm))) (fun h => kf (fun q => h (by rw [q]; exact nI_0)))
theorem n_ifne (hx : p.tables.exec = Jvm.exec) (hb : c.code = cc) {a : Nat} (ha : a < 2 ^ 31) {off : Int} {tgt : Nat} (hdg : decode cc pc = .ok (.ifCond .ne off, 3)) (ht : (pc : Int) + off = (tgt : Int)) (kt : a ≠ 0 → W p l e R s m args below meth c H locs cells slots Q (F0 m tgt ls rest)) (kf : a = 0 → W p l e R s m args below meth c H locs cells slots Q (F0 m (pc + 3) ls rest)) : W p l e R s m args below meth c H locs cells slots Q (F0 m pc ls (.int (nI a) :: rest)) :=
  lv_if_ne hx hb hdg ht (fun h => kt (fun q => h (by rw [q]; exact nI_0))) (fun h => kf ((nI_eq ha (by decide)).mp (h.trans nI_0.symm)))
theorem n_ifgt (hx : p.tables.exec = Jvm.exec) (hb : c.code = cc) {a : Nat} (ha : a < 2 ^ 31) {off : Int} {tgt : Nat} (hdg : decode cc pc = .ok (.ifCond .gt off, 3)) (ht : (pc : Int) + off = (tgt : Int)) (kt : 0 < a → W p l e R s m args below meth c H locs cells slots Q (F0 m tgt ls rest)) (kf : a = 0 → W p l e R s m args below meth c H locs cells slots Q (F0 m (pc + 3) ls rest)) : W p l e R s m args below meth c H locs cells slots Q (F0 m pc ls (.int (nI a) :: rest)) :=
  lv_if_gt hx hb hdg ht (fun h => kt (by rcases Nat.eq_zero_or_pos a with q | q; exact absurd h (by rw [q]; decide); exact q)) (fun h => kf (by rcases Nat.eq_zero_or_pos a with q | q; exact q; exact absurd (by rw [← nI_0]; exact nI_lt q ha) h))
theorem n_ifle (hx : p.tables.exec = Jvm.exec) (hb : c.code = cc) {a : Nat} (ha : a < 2 ^ 31) {off : Int} {tgt : Nat} (hdg : decode cc pc = .ok (.ifCond .le off, 3)) (ht : (pc : Int) + off = (tgt : Int)) (kt : a = 0 → W p l e R s m args below meth c H locs cells slots Q (F0 m tgt ls rest)) (kf : 0 < a → W p l e R s m args below meth c H locs cells slots Q (F0 m (pc + 3) ls rest)) : W p l e R s m args below meth c H locs cells slots Q (F0 m pc ls (.int (nI a) :: rest)) :=
  lv_if_le hx hb hdg ht (fun h => kt (by rcases Nat.eq_zero_or_pos a with q | q; exact q; exact absurd h (nI_nle q ha))) (fun h => kf (by rcases Nat.eq_zero_or_pos a with q | q; exact absurd (by rw [q]; decide) h; exact q))
/-- a counter that goes down: it stands at n - 1, n of the numbers are still to come -/
theorem n_down (hx : p.tables.exec = Jvm.exec) (hb : c.code = cc) {n : Nat} (hn : n < 2 ^ 31) {off : Int} {tgt : Nat} (hdg : decode cc pc = .ok (.ifCond .lt off, 3)) (ht : (pc : Int) + off = (tgt : Int)) (kt : n = 0 → W p l e R s m args below meth c H locs cells slots Q (F0 m tgt ls rest)) (kf : 0 < n → W p l e R s m args below meth c H locs cells slots Q (F0 m (pc + 3) ls rest)) : W p l e R s m args below meth c H locs cells slots Q (F0 m pc ls (.int (nI n - 1) :: rest)) :=
  lv_if_lt hx hb hdg ht (fun h => kt (by
    rcases Nat.eq_zero_or_pos n with q | q
    · exact q
    · obtain ⟨k, rfl⟩ : ∃ k, n = k + 1 := ⟨n - 1, by omega⟩
      rw [nI_pred] at h
      exact absurd h (nI_pos (by omega)))) (fun h => kf (by
    rcases Nat.eq_zero_or_pos n with q | q
    · exact absurd (by rw [q]; decide) h
    · exact q))
end KR2
theorem nI_inc (a : Nat) : nI a + Int32.ofInt 1 = nI (a + 1) := nI_1 a
theorem nI_dec (a : Nat) : nI (a + 1) + Int32.ofInt (-1) = nI a := pk_m1 a
theorem nI_dec' (a : Nat) : nI a + Int32.ofInt (-1) = nI a - 1 := by
  rw [Int32.sub_eq_add_neg]; rfl
theorem nI_sub1 (a : Nat) : nI a - nI 1 = nI a - 1 := rfl
end
section
section KR3
variable {p : Program} {l : Launch} {e : Env} {R : Room} {s : State} {m : MethodId} {args : Array Value} {below : List Frame} {meth : Method} {c : Code} {H : Heap} {locs : List Loc} {cells slots : Nat} {Q : State → Prop}
variable {cc : ByteArray} {pc : Nat} {ls : Array Slot} {rest st0 : List Value} {D : va_G} {cy : Nat → ClassId} {N : Nat} {ad : Nat → Nat} {Wd Wd' : Nat → va_E} {A0 : Nat → Prop} {H0 : Heap}
theorem k_aald (hx : p.tables.exec = Jvm.exec) (hb : c.code = cc) (hK : va_K D vwCl (kTy cy) s) (hP : va_P D vwCl (wL N ad Wd) H) {q0 n j t0 : Nat} {C : String} {f : Nat → Option Nat} (hq : q0 < N) (he : Wd q0 = .inl (cy t0, n, .inr (.inr (.inr (.inr f))))) (ht : (kTy cy)[t0]? = some (cy t0, .object C)) (hn : n < 2 ^ 31) (hj : j < n) (hdg : decode cc pc = .ok (.aaload, 1))
    (kk : W p l e R s m args below meth c H locs cells slots Q (F0 m (pc + 1) ls (va_rf (f j) :: rest))) : W p l e R s m args below meth c H locs cells slots Q (F0 m pc ls (.int (nI j) :: .ref (ad q0) :: rest)) :=
  va_aldq hx hb hK hP q0 t0 (wL_get hq he) ht (vp_in_nI hj hn) hdg (by rw [nI_clamp (by omega)]; exact kk)
theorem k_aast (hx : p.tables.exec = Jvm.exec) (hb : c.code = cc) (hK : va_K D vwCl (kTy cy) s) (hI : wI N ad) (hP : va_P D vwCl (wL N ad Wd) H) (hS : va_S (wA N ad) H0 H locs) {q0 qk n j t0 ci : Nat} {r : vw_C} {vs : List Value} {f : Nat → Option Nat} (hq : q0 < N) (he : Wd q0 = .inl (cy t0, n, .inr (.inr (.inr (.inr f))))) (ht : (kTy cy)[t0]? = some (cy t0, .object r.1)) (hqk : qk < N) (hk : Wd qk = .inr (ci, vs)) (hc : vwCl[ci]? = some r) (hn : n < 2 ^ 31) (hj : j < n) (hW : va_up Wd q0 (.inl (cy t0, n, .inr (.inr (.inr (.inr (va_up f j (some (ad qk)))))))) = Wd') (hdg : decode cc pc = .ok (.aastore, 1))
    (kk : ∀ (H1 : Heap) (locs1 : List Loc), va_P D vwCl (wL N ad Wd') H1 → va_S (wA N ad) H0 H1 locs1 → W p l e R s m args below meth c H1 locs1 cells slots Q (F0 m (pc + 1) ls rest)) : W p l e R s m args below meth c H locs cells slots Q (F0 m pc ls (.ref (ad qk) :: .int (nI j) :: .ref (ad q0) :: rest)) := by
  subst hW
  exact va_astq hx hb hK hP (wD hI) hS q0 t0 qk ci (wL_get hq he) ht (wL_get hqk hk) hc (vp_in_nI hj hn) hdg (fun H1 locs1 hP1 _ hS1 => kk H1 locs1 (by rw [wL_set, nI_clamp (by omega)] at hP1; exact hP1) hS1)
/-- System.arraycopy of whole int rows of n numbers -/
theorem k_copy (hx : p.tables.exec = Jvm.exec) (hb : c.code = cc) (hml : c.maxLocals = ls.size) {own : String} {index : Nat} (hown : s.vm.findClass own = some m.cls) (hlink : (Cond.methodLink own index arraycopyName).before args s = true) (hnat : (Cond.native arraycopyName).before args s = true) (hstat : (Cond.static arraycopyName).before args s = true) (hini : (Cond.initialized "java/lang/System").before args s = true)
    (hK : va_K D vwCl (kTy cy) s) (hI : wI N ad) (hP : va_P D vwCl (wL N ad Wd) H) (hS : va_S (wA N ad) H0 H locs) {q0 q1 n : Nat} {f g : Nat → Int32} (h0 : q0 < N) (h1 : q1 < N) (he0 : Wd q0 = .inl (cy 0, n, .inl f)) (he1 : Wd q1 = .inl (cy 0, n, .inl g)) (hn : n < 2 ^ 31) (hW : va_up Wd q1 (.inl (cy 0, n, .inl (fun k => if k < n then f k else g k))) = Wd')
    (hframes : 1 ≤ R.frames) (hlocals : (rest.map fun v => v.category).sum + (nativeFrameWords "java/lang/System" "arraycopy" 5 + 11) ≤ R.locals) (hdg : decode cc pc = .ok (.invokestatic index, 3))
    (kk : ∀ (H1 : Heap) (locs1 : List Loc), va_P D vwCl (wL N ad Wd') H1 → va_S (wA N ad) H0 H1 locs1 → W p l e R s m args below meth c H1 locs1 cells slots Q (F0 m (pc + 3) ls rest)) : W p l e R s m args below meth c H locs cells slots Q (F0 m pc ls (.int (nI n) :: .int (nI 0) :: .ref (ad q1) :: .int (nI 0) :: .ref (ad q0) :: rest)) := by
  subst hW
  have e0 : (nI 0).toNatClampNeg = 0 := nI_clamp (by omega)
  have en : (nI n).toNatClampNeg = n := nI_clamp hn
  refine va_copyi hx hb hml hown hlink hnat hstat hini hK hP (wD hI) hS q0 q1 0 0 (ty := .int) (wL_get h0 he0) (wL_get h1 he1) rfl rfl rfl (nI_pos (by omega)) (nI_pos (by omega)) (nI_pos hn) (by rw [e0, en]; omega) (by rw [e0, en]; omega) (fun _ _ => rfl) hframes hlocals hdg (fun H1 locs1 hP1 _ hS1 => kk H1 locs1 ?_ hS1)
  rw [wL_set, e0, en] at hP1
  have hc : va_cpy f g 0 0 n = fun k => if k < n then f k else g k := by
    funext k
    simp [va_cpy]
  rw [hc] at hP1
  exact hP1
end KR3
/-! THE CLASS'S WORLD: 59 rows (objects at even numbers, their numbers behind), nine states, and what is one of a kind -/
abbrev kR : Type := Nat × (Nat → Nat)
abbrev kX : Type := Nat × (Nat → Nat) × Nat × (Nat → Nat) × (Nat → Nat)
abbrev va_q (f : Nat → Option Nat) : (Nat → Int32) ⊕ (Nat → Int64) ⊕ (Nat → UInt32) ⊕ (Nat → UInt64) ⊕ (Nat → Option Nat) := .inr (.inr (.inr (.inr f)))
def cH (ad : Nat → Nat) (cy : Nat → ClassId) (x : kX) : Nat → va_E := fun k => match k with
    | 0 => .inr (4, [.ref (ad (118 + 2 * 0)), .ref (ad 137), .ref (ad 139), .ref (ad 141), .ref (ad 142), .ref (ad (2 * 54)), .ref (ad (2 * 55)), .ref (ad (2 * 56)), .ref (ad (2 * 57)), .ref (ad (2 * 58))])
    | 1 => .inr (0, [.ref (ad 138), .int (nI x.1)])
    | 2 => .inl (cy 4, 6, va_q (fun j => some (ad (118 + 2 * x.2.1 j))))
    | 3 => .inr (1, [.ref (ad 140), .int (nI x.2.2.1)])
    | 4 => .inl (cy 0, 80, .inl (fun j => nI (x.2.2.2.1 j)))
    | 5 => .inl (cy 4, 2, va_q (fun j => some (ad (118 + 2 * (7 + j)))))
    | 6 => .inl (cy 1, 2, .inl (fun j => nI (x.2.2.2.2 j)))
    | _ => .inr (0, [])
def cW (ad : Nat → Nat) (cy : Nat → ClassId) (ρ : Nat → kR) (x : kX) : Nat → va_E := fun k =>
  if k < 118 then
    (if k % 2 = 0 then .inr (2, [.ref (ad (k + 1)), .int (nI (ρ (k / 2)).1)]) else .inl (cy 0, 64, .inl (fun j => nI ((ρ (k / 2)).2 j))))
  else if k < 136 then
    (if k % 2 = 0 then .inr (3, [.ref (ad (k + 1))]) else .inl (cy 3, 6, va_q (fun j => some (ad (2 * (6 * ((k - 118) / 2) + j))))))
  else cH ad cy x (k - 136)
abbrev cWf (ad : Nat → Nat) (cy : Nat → ClassId) : (Nat → kR) × kX → Nat → va_E := fun u => cW ad cy u.1 u.2
section CWL
variable {ad : Nat → Nat} {cy : Nat → ClassId} {ρ : Nat → kR} {x : kX}
theorem cW_row {i : Nat} (hi : i < 59) : cW ad cy ρ x (2 * i) = .inr (2, [.ref (ad (2 * i + 1)), .int (nI (ρ i).1)]) := by
  have h1 : 2 * i < 118 := by omega
  have h2 : 2 * i / 2 = i := by omega
  simp [cW, h1, h2]
theorem cW_num {i : Nat} (hi : i < 59) : cW ad cy ρ x (2 * i + 1) = .inl (cy 0, 64, .inl (fun j => nI ((ρ i).2 j))) := by
  have h1 : 2 * i + 1 < 118 := by omega
  have h2 : (2 * i + 1) / 2 = i := by omega
  have h3 : (2 * i + 1) % 2 = 1 := by omega
  simp [cW, h1, h2, h3]
theorem cW_st {t : Nat} (ht : t < 9) : cW ad cy ρ x (118 + 2 * t) = .inr (3, [.ref (ad (118 + 2 * t + 1))]) := by
  have h1 : ¬ 118 + 2 * t < 118 := by omega
  have h2 : 118 + 2 * t < 136 := by omega
  have h3 : (118 + 2 * t) % 2 = 0 := by omega
  simp [cW, h1, h2, h3]
theorem cW_sr {t : Nat} (ht : t < 9) : cW ad cy ρ x (118 + 2 * t + 1) = .inl (cy 3, 6, va_q (fun j => some (ad (2 * (6 * t + j))))) := by
  have h1 : ¬ 118 + 2 * t + 1 < 118 := by omega
  have h2 : 118 + 2 * t + 1 < 136 := by omega
  have h3 : ¬ (118 + 2 * t + 1) % 2 = 0 := by omega
  have h4 : (118 + 2 * t + 1 - 118) / 2 = t := by omega
  unfold cW
  rw [if_neg h1, if_pos h2, if_neg h3, h4]
theorem cW_hi (j : Nat) : cW ad cy ρ x (136 + j) = cH ad cy x j := by
  have h1 : ¬ 136 + j < 118 := by omega
  have h2 : ¬ 136 + j < 136 := by omega
  unfold cW
  rw [if_neg h1, if_neg h2, Nat.add_sub_cancel_left]
theorem cW_top : cW ad cy ρ x 136 = cH ad cy x 0 := cW_hi 0
theorem cW_hist : cW ad cy ρ x 137 = .inr (0, [.ref (ad 138), .int (nI x.1)]) := cW_hi 1
theorem cW_hs : cW ad cy ρ x 138 = .inl (cy 4, 6, va_q (fun j => some (ad (118 + 2 * x.2.1 j)))) := cW_hi 2
theorem cW_pad : cW ad cy ρ x 139 = .inr (1, [.ref (ad 140), .int (nI x.2.2.1)]) := cW_hi 3
theorem cW_pc : cW ad cy ρ x 140 = .inl (cy 0, 80, .inl (fun j => nI (x.2.2.2.1 j))) := cW_hi 4
theorem cW_sl : cW ad cy ρ x 141 = .inl (cy 4, 2, va_q (fun j => some (ad (118 + 2 * (7 + j))))) := cW_hi 5
theorem cW_sv : cW ad cy ρ x 142 = .inl (cy 1, 2, .inl (fun j => nI (x.2.2.2.2 j))) := cW_hi 6
theorem cW_up_num {i : Nat} (hi : i < 59) (f : Nat → Nat) : va_up (cW ad cy ρ x) (2 * i + 1) (.inl (cy 0, 64, .inl (fun j => nI (f j)))) = cW ad cy (va_up ρ i ((ρ i).1, f)) x := by
  funext k
  by_cases hk : k = 2 * i + 1
  · subst hk
    rw [va_up_self, cW_num hi, va_up_self]
  · rw [va_up_ne _ _ hk]
    unfold cW
    by_cases h1 : k < 118
    · by_cases h2 : k / 2 = i
      · have h3 : k % 2 = 0 := by omega
        rw [if_pos h1, if_pos h1, if_pos h3, if_pos h3, h2, va_up_self]
      · rw [if_pos h1, if_pos h1, va_up_ne _ _ h2]
    · rw [if_neg h1, if_neg h1]
theorem va_up_nI (f : Nat → Nat) (j v : Nat) : va_up (fun k => nI (f k)) j (nI v) = fun k => nI (va_up f j v k) := by
  funext k
  by_cases hk : k = j
  · subst hk; rw [va_up_self, va_up_self]
  · rw [va_up_ne _ _ hk, va_up_ne _ _ hk]
theorem cW_up_st {i j v : Nat} (hi : i < 59) : va_up (cW ad cy ρ x) (2 * i + 1) (.inl (cy 0, 64, .inl (va_up (fun k => nI ((ρ i).2 k)) j (nI v)))) = cW ad cy (va_up ρ i ((ρ i).1, va_up (ρ i).2 j v)) x := by
  rw [va_up_nI, cW_up_num hi]
theorem cW_up_len {i n : Nat} (hi : i < 59) : va_up (cW ad cy ρ x) (2 * i) (.inr (2, [.ref (ad (2 * i + 1)), .int (nI n)])) = cW ad cy (va_up ρ i (n, (ρ i).2)) x := by
  funext k
  by_cases hk : k = 2 * i
  · subst hk
    rw [va_up_self, cW_row hi, va_up_self]
  · rw [va_up_ne _ _ hk]
    unfold cW
    by_cases h1 : k < 118
    · by_cases h2 : k / 2 = i
      · have h3 : ¬ k % 2 = 0 := by omega
        rw [if_pos h1, if_pos h1, if_neg h3, if_neg h3, h2, va_up_self]
      · rw [if_pos h1, if_pos h1, va_up_ne _ _ h2]
    · rw [if_neg h1, if_neg h1]
theorem cW_up_one {j0 : Nat} {e : va_E} {x' : kX} (he : e = cH ad cy x' j0) (ho : ∀ k, k ≠ j0 → cH ad cy x k = cH ad cy x' k) : va_up (cW ad cy ρ x) (136 + j0) e = cW ad cy ρ x' := by
  funext k
  by_cases hk : k = 136 + j0
  · subst hk
    rw [va_up_self, he, cW_hi]
  · rw [va_up_ne _ _ hk]
    by_cases h1 : k < 136
    · simp [cW, h1]
    · obtain ⟨j, rfl⟩ : ∃ j, k = 136 + j := ⟨k - 136, by omega⟩
      rw [cW_hi, cW_hi]
      exact ho j (fun h => hk (by rw [h]))
theorem cW_up_hl {n : Nat} : va_up (cW ad cy ρ x) 137 (.inr (0, [.ref (ad 138), .int (nI n)])) = cW ad cy ρ (n, x.2) := by
  refine cW_up_one (j0 := 1) rfl (fun k h2 => ?_)
  match k, h2 with
  | 0, _ => rfl
  | 1, h => exact absurd rfl h
  | 2, _ => rfl
  | 3, _ => rfl
  | 4, _ => rfl
  | 5, _ => rfl
  | 6, _ => rfl
  | k + 7, _ => rfl
theorem cW_up_hs {i t : Nat} : va_up (cW ad cy ρ x) 138 (.inl (cy 4, 6, va_q (va_up (fun j => some (ad (118 + 2 * x.2.1 j))) i (some (ad (118 + 2 * t)))))) = cW ad cy ρ (x.1, va_up x.2.1 i t, x.2.2) := by
  refine cW_up_one (j0 := 2) ?_ (fun k h2 => ?_)
  · show _ = (Sum.inl (cy 4, 6, va_q (fun j => some (ad (118 + 2 * va_up x.2.1 i t j)))) : va_E)
    have hf : va_up (fun j => some (ad (118 + 2 * x.2.1 j))) i (some (ad (118 + 2 * t))) = fun j => some (ad (118 + 2 * va_up x.2.1 i t j)) := by
      funext j
      by_cases hj : j = i
      · subst hj; rw [va_up_self, va_up_self]
      · rw [va_up_ne _ _ hj, va_up_ne _ _ hj]
    rw [hf]
  match k, h2 with
  | 0, _ => rfl
  | 1, _ => rfl
  | 2, h => exact absurd rfl h
  | 3, _ => rfl
  | 4, _ => rfl
  | 5, _ => rfl
  | 6, _ => rfl
  | k + 7, _ => rfl
theorem cW_up_pl {n : Nat} : va_up (cW ad cy ρ x) 139 (.inr (1, [.ref (ad 140), .int (nI n)])) = cW ad cy ρ (x.1, x.2.1, n, x.2.2.2) := by
  refine cW_up_one (j0 := 3) rfl (fun k h2 => ?_)
  match k, h2 with
  | 0, _ => rfl
  | 1, _ => rfl
  | 2, _ => rfl
  | 3, h => exact absurd rfl h
  | 4, _ => rfl
  | 5, _ => rfl
  | 6, _ => rfl
  | k + 7, _ => rfl
theorem cW_up_pd {i v : Nat} : va_up (cW ad cy ρ x) 140 (.inl (cy 0, 80, .inl (va_up (fun j => nI (x.2.2.2.1 j)) i (nI v)))) = cW ad cy ρ (x.1, x.2.1, x.2.2.1, va_up x.2.2.2.1 i v, x.2.2.2.2) := by
  refine cW_up_one (j0 := 4) (by rw [va_up_nI]; rfl) (fun k h2 => ?_)
  match k, h2 with
  | 0, _ => rfl
  | 1, _ => rfl
  | 2, _ => rfl
  | 3, _ => rfl
  | 4, h => exact absurd rfl h
  | 5, _ => rfl
  | 6, _ => rfl
  | k + 7, _ => rfl
theorem cW_up_sv {i v : Nat} : va_up (cW ad cy ρ x) 142 (.inl (cy 1, 2, .inl (va_up (fun j => nI (x.2.2.2.2 j)) i (nI v)))) = cW ad cy ρ (x.1, x.2.1, x.2.2.1, x.2.2.2.1, va_up x.2.2.2.2 i v) := by
  refine cW_up_one (j0 := 6) (by rw [va_up_nI]; rfl) (fun k h2 => ?_)
  match k, h2 with
  | 0, _ => rfl
  | 1, _ => rfl
  | 2, _ => rfl
  | 3, _ => rfl
  | 4, _ => rfl
  | 5, _ => rfl
  | 6, h => exact absurd rfl h
  | k + 7, _ => rfl
end CWL
end
section
theorem bm {z : Int} (h1 : -2147483648 ≤ z) (h2 : z < 2147483648) : z.bmod (2 ^ 32) = z := by
  have e : ((2 ^ 32 : Nat) : Int) = 4294967296 := rfl
  rw [Int.bmod_def, e]
  split <;> omega
/-- what a number becomes modulo 257 -/
def kmod (z : Int) : Nat := (z % 257).toNat
theorem kmod_lt (z : Int) : kmod z < 257 := by unfold kmod; omega
theorem kmod_nI {n : Nat} (h : n < 2 ^ 31) : kmod (nI n).toInt = n % 257 := by
  rw [nI_toInt h]
  unfold kmod
  omega
theorem i_xor257 (x : Int32) : 0 ≤ (x ^^^ 257) ↔ 0 ≤ x := by
  have key : ∀ y : Int32, 0 ≤ y ↔ y.toBitVec.msb = false := by
    intro y
    rw [Int32.le_iff_toInt_le, BitVec.msb_eq_toInt]
    show (0 : Int) ≤ y.toInt ↔ decide (y.toBitVec.toInt < 0) = false
    rw [decide_eq_false_iff_not]
    show (0 : Int) ≤ y.toInt ↔ ¬ y.toInt < 0
    omega
  rw [key, key]
  show (x.toBitVec ^^^ (257 : Int32).toBitVec).msb = false ↔ _
  rw [BitVec.msb_xor]
  have h : (257 : Int32).toBitVec.msb = false := by decide
  rw [h, Bool.xor_false]
theorem i_rem257 (x : Int32) : (x - x / 257 * 257).toInt = x.toInt.tmod 257 := by
  have h1 := x.toInt_lt
  have h2 := x.le_toInt
  have e := Int.mul_tdiv_add_tmod x.toInt 257
  have hd : (x / 257).toInt = x.toInt.tdiv 257 := Int32.toInt_div_of_ne_right x 257 (by decide)
  have hb : -257 < x.toInt.tmod 257 ∧ x.toInt.tmod 257 < 257 := by
    constructor
    · have := Int.lt_tmod_of_pos x.toInt (show (0 : Int) < 257 by decide); omega
    · exact Int.tmod_lt_of_pos x.toInt (by decide)
  have hs : (0 ≤ x.toInt → 0 ≤ x.toInt.tmod 257) ∧ (x.toInt ≤ 0 → x.toInt.tmod 257 ≤ 0) := ⟨fun h => Int.tmod_nonneg 257 h, fun h => by
    have := Int.tmod_nonneg 257 (show (0 : Int) ≤ -x.toInt by omega)
    rw [Int.neg_tmod] at this
    omega⟩
  have e257 : (257 : Int32).toInt = 257 := by decide
  rw [Int32.toInt_sub, Int32.toInt_mul, hd, e257, bm (z := x.toInt.tdiv 257 * 257) (by omega) (by omega), bm (by omega) (by omega)]
  omega
theorem fm_a {x : Int32} (h : 0 ≤ x) : x - x / 257 * 257 = nI (kmod x.toInt) := by
  apply Int32.toInt_inj.mp
  have h0 : 0 ≤ x.toInt := Int32.le_iff_toInt_le.mp h
  rw [i_rem257, nI_toInt (by have := kmod_lt x.toInt; omega), Int.tmod_eq_emod_of_nonneg h0]
  unfold kmod
  omega
theorem fm_b {x : Int32} (h : ¬ 0 ≤ x) (h0 : x - x / 257 * 257 = 0) : x - x / 257 * 257 = nI (kmod x.toInt) := by
  have h1 : x.toInt < 0 := by
    have : ¬ (0 : Int32).toInt ≤ x.toInt := fun q => h (Int32.le_iff_toInt_le.mpr q)
    have e0 : (0 : Int32).toInt = 0 := by decide
    omega
  have h2 := i_rem257 x
  rw [h0] at h2
  have e0 : (0 : Int32).toInt = 0 := by decide
  rw [e0] at h2
  have e := Int.mul_tdiv_add_tmod x.toInt 257
  rw [h0]
  have : kmod x.toInt = 0 := by unfold kmod; omega
  rw [this]; rfl
theorem fm_c {x : Int32} (h : ¬ 0 ≤ x) (h0 : ¬ x - x / 257 * 257 = 0) : x - x / 257 * 257 + 257 = nI (kmod x.toInt) := by
  have e0 : (0 : Int32).toInt = 0 := by decide
  have h1 : x.toInt < 0 := by
    have : ¬ (0 : Int32).toInt ≤ x.toInt := fun q => h (Int32.le_iff_toInt_le.mpr q)
    omega
  have h2 := i_rem257 x
  have e := Int.mul_tdiv_add_tmod x.toInt 257
  have h3 : x.toInt.tmod 257 ≠ 0 := fun q => h0 (Int32.toInt_inj.mp (by rw [h2, q, e0]))
  have hb : -257 < x.toInt.tmod 257 := by
    have := Int.lt_tmod_of_pos x.toInt (show (0 : Int) < 257 by decide); omega
  have hs : x.toInt.tmod 257 ≤ 0 := by
    have := Int.tmod_nonneg 257 (show (0 : Int) ≤ -x.toInt by omega)
    rw [Int.neg_tmod] at this
    omega
  apply Int32.toInt_inj.mp
  have e257 : (257 : Int32).toInt = 257 := by decide
  rw [Int32.toInt_add, h2, e257, bm (by omega) (by omega), nI_toInt (by have := kmod_lt x.toInt; omega)]
  unfold kmod
  omega
section KR4
variable {p : Program} {l : Launch} {e : Env} {R : Room} {s : State} {m : MethodId} {args : Array Value} {below : List Frame} {meth : Method} {c : Code} {H : Heap} {locs : List Loc} {cells slots : Nat} {Q : State → Prop}
variable {cc : ByteArray} {pc : Nat} {ls : Array Slot} {rest st0 : List Value} {D : va_G} {cy : Nat → ClassId} {N : Nat} {ad : Nat → Nat} {Wd Wd' : Nat → va_E} {A0 : Nat → Prop} {H0 : Heap}
theorem n_same {v : Int32} {a : Nat} (h : v = nI a) (kk : W p l e R s m args below meth c H locs cells slots Q (F0 m pc ls (.int (nI a) :: rest))) : W p l e R s m args below meth c H locs cells slots Q (F0 m pc ls (.int v :: rest)) := by
  rw [h]; exact kk
theorem i_push {v b : Int32} (h : v = b) (kk : W p l e R s m args below meth c H locs cells slots Q (F0 m pc ls (.int b :: rest))) : W p l e R s m args below meth c H locs cells slots Q (F0 m pc ls (.int v :: rest)) := by
  rw [h]; exact kk
theorem l_push {v b : Int64} (h : v = b) (kk : W p l e R s m args below meth c H locs cells slots Q (F0 m pc ls (.long b :: rest))) : W p l e R s m args below meth c H locs cells slots Q (F0 m pc ls (.long v :: rest)) := by
  rw [h]; exact kk
theorem n_idiv (hx : p.tables.exec = Jvm.exec) (hb : c.code = cc) {a b : Nat} (ha : a < 2 ^ 31) (h0 : 0 < b) (hd : b < 2 ^ 31) (hdg : decode cc pc = .ok (.idiv, 1)) (kk : W p l e R s m args below meth c H locs cells slots Q (F0 m (pc + 1) ls (.int (nI (a / b)) :: rest))) : W p l e R s m args below meth c H locs cells slots Q (F0 m pc ls (.int (nI b) :: .int (nI a) :: rest)) :=
  lv_idiv hx hb hdg (nI_ne0 h0 hd) (by rw [pk_div ha h0 hd]; exact kk)
theorem n_max {a b : Nat} (hx : p.tables.exec = Jvm.exec) (hb : c.code = cc) (hml : c.maxLocals = ls.size) {own : String} {index : Nat} (hown : s.vm.findClass own = some m.cls) (hlink : (Cond.methodLink own index Lib.Math.max.name).before args s = true) (hstat : (Cond.static Lib.Math.max.name).before args s = true) (hini : (Cond.initialized "java/lang/Math").before args s = true) (hcode : (Cond.code Lib.Math.max.name Lib.Math.max.code 2 (some .int)).before args s = true)
    (hframes : 1 ≤ R.frames) (hlocals : (rest.map fun v => v.category).sum + 13 ≤ R.locals) (hc : cells ≤ R.cells) (hs : slots ≤ R.slots) (ha : a < 2 ^ 31) (hd : b < 2 ^ 31) (hdg : decode cc pc = .ok (.invokestatic index, 3))
    (kk : W p l e R s m args below meth c H locs cells slots Q (F0 m (pc + 3) ls (.int (nI (max a b)) :: rest))) : W p l e R s m args below meth c H locs cells slots Q (F0 m pc ls (.int (nI b) :: .int (nI a) :: rest)) := by
  refine va_mmax hx hb hml hown hlink hstat hini hcode hframes hlocals hc hs hdg ?_
  have h : (if nI a < nI b then nI b else nI a) = nI (max a b) := by
    by_cases q : a < b
    · rw [if_pos ((nI_ltI ha hd).mpr q), Nat.max_eq_right (by omega)]
    · rw [if_neg (fun z => q ((nI_ltI ha hd).mp z)), Nat.max_eq_left (by omega)]
  rw [h]
  exact kk
theorem k_aret {S : Type} {Wf : S → Nat → va_E} {post : Option Value → S → Prop} {C : String} (hx : p.tables.exec = Jvm.exec) (hb : c.code = cc) (hr : meth.sig.returnType = some (.object C)) (hlocks : meth.locks = false) {o : Option Nat} (u : S) (hP : va_P D vwCl (wL N ad (Wf u)) H) (hS : va_S (wA N ad) s.heap H locs) (hdg : decode cc pc = .ok (.areturn, 1)) (hpost : post (some (va_rf o)) u) :
    W p l e R s m args below meth c H locs 0 0 (MQ below (kQ D N ad Wf post) args s 0 0 (wA N ad)) (F0 m pc ls [va_rf o]) :=
  W.aret (v := va_rf o) hx hb hr (Or.inl ⟨_, rfl⟩) (by cases o; exact Or.inl rfl; exact Or.inr ⟨_, rfl⟩) (fun t ht _ => ⟨⟨_, u, rfl, hpost, by rw [ht]; exact hP⟩, hS.F ht⟩) hS.2.2 hdg hlocks
theorem lv_aload_nV (hx : p.tables.exec = Jvm.exec) (hb : c.code = cc) {k : Fin 4} {i : Nat} {o : Option Nat} (hdg : decode cc pc = .ok (.aload_n k, 1)) (hi : (k : Nat) = i) (hl : ls[i]? = some (.val (va_rf o))) (kk : W p l e R s m args below meth c H locs cells slots Q (F0 m (pc + 1) ls (va_rf o :: rest))) : W p l e R s m args below meth c H locs cells slots Q (F0 m pc ls rest) := by
  cases o with
  | none => exact lv_aload_nN hx hb hdg hi hl kk
  | some a => exact lv_aload_n hx hb hdg hi hl kk
theorem lv_aloadV (hx : p.tables.exec = Jvm.exec) (hb : c.code = cc) {i : Nat} {o : Option Nat} (hdg : decode cc pc = .ok (.aload i, 2)) (hl : ls[i]? = some (.val (va_rf o))) (kk : W p l e R s m args below meth c H locs cells slots Q (F0 m (pc + 2) ls (va_rf o :: rest))) : W p l e R s m args below meth c H locs cells slots Q (F0 m pc ls rest) := by
  cases o with
  | none => exact lv_aloadN hx hb hdg hl kk
  | some a => exact lv_aload hx hb hdg hl kk
theorem lv_astore_nV (hx : p.tables.exec = Jvm.exec) (hb : c.code = cc) {k : Fin 4} {i nL : Nat} {o : Option Nat} {lv lv' : List (Nat × Value)} (hdg : decode cc pc = .ok (.astore_n k, 1)) (hi : (k : Nat) = i) (h : lv_has ls nL lv) (hn : i < nL) (hl : (i, va_rf o) :: lv.filter (fun q => !(q.1 == i) && !(q.1 + 1 == i && q.2.category == 2)) = lv') (kk : ∀ ls' : Array Slot, lv_has ls' nL lv' → W p l e R s m args below meth c H locs cells slots Q (F0 m (pc + 1) ls' rest)) : W p l e R s m args below meth c H locs cells slots Q (F0 m pc ls (va_rf o :: rest)) := by
  cases o with
  | none => exact lv_astore_nN hx hb hdg hi h hn hl kk
  | some a => exact lv_astore_n hx hb hdg hi h hn hl kk
theorem lv_astoreV (hx : p.tables.exec = Jvm.exec) (hb : c.code = cc) {i nL : Nat} {o : Option Nat} {lv lv' : List (Nat × Value)} (hdg : decode cc pc = .ok (.astore i, 2)) (h : lv_has ls nL lv) (hn : i < nL) (hl : (i, va_rf o) :: lv.filter (fun q => !(q.1 == i) && !(q.1 + 1 == i && q.2.category == 2)) = lv') (kk : ∀ ls' : Array Slot, lv_has ls' nL lv' → W p l e R s m args below meth c H locs cells slots Q (F0 m (pc + 2) ls' rest)) : W p l e R s m args below meth c H locs cells slots Q (F0 m pc ls (va_rf o :: rest)) := by
  cases o with
  | none => exact lv_astoreN hx hb hdg h hn hl kk
  | some a => exact lv_astore hx hb hdg h hn hl kk
end KR4
/-- the row of a register, or none -/
def rOf (ad : Nat → Nat) (r : Int32) : Option Nat := if 0 ≤ r ∧ r < 6 then some (ad (2 * r.toNatClampNeg)) else none
theorem kin_cases (r : Int32) (n : Nat) (hn : n < 2 ^ 31) : (¬ (0 ≤ r ∧ r < nI n)) ∨ ∃ j : Nat, j < n ∧ r = nI j := by
  by_cases h : 0 ≤ r ∧ r < nI n
  · refine Or.inr ?_
    have h0 : ¬ r < 0 := Int32.not_lt.mpr h.1
    obtain ⟨j, hj, rfl⟩ := nI_of h0
    exact ⟨j, (nI_ltI hj hn).mp h.2, rfl⟩
  · exact Or.inl h
theorem kreg_cases (r : Int32) : (¬ (0 ≤ r ∧ r < 6)) ∨ ∃ j : Nat, j < 6 ∧ r = nI j := kin_cases r 6 (by decide)
theorem kreg_bad {ad : Nat → Nat} {r : Int32} (h : ¬ (0 ≤ r ∧ r < 6)) : va_rf (rOf ad r) = .null := by
  unfold rOf
  rw [if_neg h]; rfl
theorem kin_nI {j n : Nat} (h : j < n) (hn : n < 2 ^ 31) : 0 ≤ nI j ∧ nI j < nI n := ⟨nI_pos' (by omega), nI_lt h hn⟩
theorem kreg_ok {ad : Nat → Nat} {r : Int32} {j : Nat} (h : j < 6) (e : r = nI j) : va_rf (rOf ad r) = .ref (ad (2 * j)) := by
  subst e
  unfold rOf
  have q : 0 ≤ nI j ∧ nI j < 6 := kin_nI h (by decide)
  rw [if_pos q, nI_clamp (by omega)]; rfl
theorem ksw_cases (r : Int32) (n : Nat) (hn : n < 2 ^ 31) : (¬ (0 ≤ r ∧ r < nI n)) ∨ ∃ j : Nat, j < n ∧ r = nI j := kin_cases r n hn
theorem ksw_out {r : Int32} {n : Nat} {hi : Int} (h : ¬ (0 ≤ r ∧ r < nI n)) (hn : n < 2 ^ 31) (e : hi = (n : Int) - 1) : r.toInt < 0 ∨ hi < r.toInt := by
  have e0 : (0 : Int32).toInt = 0 := by decide
  rw [Int32.le_iff_toInt_le, Int32.lt_iff_toInt_lt, nI_toInt hn, e0] at h
  omega
theorem rN {a b : Nat} (h : a = b) : some (Value.int (nI a)) = some (Value.int (nI b)) := by rw [h]
theorem cW_ext {D : va_G} {ad : Nat → Nat} {cy : Nat → ClassId} {ρ ρ' : Nat → kR} {x : kX} {H : Heap} (h : ∀ i, i < 59 → (ρ i).1 = (ρ' i).1 ∧ ∀ k, k < 64 → (ρ i).2 k = (ρ' i).2 k) (hP : va_P D vwCl (wL 143 ad (cW ad cy ρ x)) H) : va_P D vwCl (wL 143 ad (cW ad cy ρ' x)) H := by
  intro k q hk
  obtain ⟨hl, rfl⟩ := wL_some hk
  have h1 := hP k _ (wL_get hl rfl)
  by_cases hk1 : k < 118
  · have hi : k / 2 < 59 := by omega
    by_cases hk2 : k % 2 = 0
    · have e : k = 2 * (k / 2) := by omega
      rw [e] at h1 ⊢
      rw [cW_row hi] at h1 ⊢
      rw [← (h _ hi).1]
      exact h1
    · have e : k = 2 * (k / 2) + 1 := by omega
      rw [e] at h1 ⊢
      rw [cW_num hi] at h1 ⊢
      have e2 : ∀ cA : ClassId, vp_cell cA (64, .inl (fun j => nI ((ρ' (k / 2)).2 j))) = vp_cell cA (64, .inl (fun j => nI ((ρ (k / 2)).2 j))) := by
        intro cA
        rw [vp_cell_i, vp_cell_i]
        unfold arrV
        congr 2
        funext j
        show Value.int (nI ((ρ' (k / 2)).2 j.val)) = Value.int (nI ((ρ (k / 2)).2 j.val))
        rw [(h _ hi).2 j.val j.isLt]
      show H[_]? = some (vp_cell _ _)
      rw [e2]
      exact h1
  · have e : cW ad cy ρ' x k = cW ad cy ρ x k := by
      unfold cW
      rw [if_neg hk1, if_neg hk1]
    rw [e]
    exact h1
theorem cW_up_cpy {ad : Nat → Nat} {cy : Nat → ClassId} {ρ : Nat → kR} {x : kX} {i j : Nat} (hi : i < 59) : va_up (cW ad cy ρ x) (2 * i + 1) (.inl (cy 0, 64, .inl (fun k => if k < 64 then nI ((ρ j).2 k) else nI ((ρ i).2 k)))) = cW ad cy (va_up ρ i ((ρ i).1, fun k => if k < 64 then (ρ j).2 k else (ρ i).2 k)) x := by
  rw [← cW_up_num hi]
  have e : (fun k => if k < 64 then nI ((ρ j).2 k) else nI ((ρ i).2 k)) = fun k => nI (if k < 64 then (ρ j).2 k else (ρ i).2 k) := by
    funext k
    by_cases h : k < 64
    · rw [if_pos h, if_pos h]
    · rw [if_neg h, if_neg h]
  rw [e]
/-- as k_met, for a class some of whose methods the machine runs by entries of its own, but not this one -/
theorem k_metF {S : Type} {l : Launch} {y : MethodName} {ws ws' : List Cond} {rm : Room} {D : va_G} {cy : Nat → ClassId} {N : Nat} {ad : Nat → Nat} {Wf : S → Nat → va_E} {Wd : Nat → va_E} {av : List Value} {post : Option Value → S → Prop} (cc : ByteArray) (maxL : Nat) (ret : Option FieldType)
    (hy : plainFor y = true) (hw : ws = Cond.code y cc maxL ret :: ws') (hn : (lg_sl av).length ≤ maxL)
    (body : ∀ (p : Program) (e : Env) (s : State) (m : MethodId) (below : List Frame) (meth : Method) (c : Code) (ls : Array Slot), p.tables.exec = Jvm.exec → c.code = cc → meth.sig.returnType = ret → (∀ w ∈ ws, w.before av.toArray s = true) → s.vm.findClass y.cls = some m.cls → meth.locks = false → c.maxLocals = maxL → va_K D vwCl (kTy cy) s → va_P D vwCl (wL N ad Wd) s.heap → va_S (wA N ad) s.heap s.heap [] → lv_has ls maxL (lv_args 0 av) →
      W p l e rm s m av.toArray below meth c s.heap [] 0 0 (MQ below (kQ D N ad Wf post) av.toArray s 0 0 (wA N ad)) (F0 m 0 ls [])) :
    kM l y ws rm D cy N ad Wf Wd av post := by
  refine MetFree.of_bodySF (code := cc) (maxLocals := maxL) (ret := ret) hy ?_ ?_
  · intro args s m h hn
    obtain ⟨meth, c, h1, h2, h3, h4, h5, h6, -, -⟩ := Cond.code_spec hn (atoms_spec (ws := ws) h _ (by rw [hw]; exact List.mem_cons_self))
    exact ⟨meth, c, h1, h2, h3, h4, h5, h6⟩
  · intro p e s m args below meth c s₁ B hml hv _
    have hh0 : s₁.heap = s.heap := by rw [B.state]; rfl
    obtain ⟨rfl, hP, hK⟩ := hv
    rw [lg_entry_eq]
    obtain ⟨t, a1, o, b1, b2, b3⟩ := body p e s m below meth c _ B.exec B.bytes B.returns (atoms_spec (ws := ws) B.pre) (findClass_of_methodNamed B.named) B.notSynchronized hml hK hP va_S.rf (lv_entry av hn) s₁ hh0 (Stand.of_body B)
    exact ⟨t, o, a1, b1, b2, ⟨b3.1, b3.2⟩⟩
end
section
/-! WHAT IS COUNTED: numbers of rows, as both sides work them out -/
/-- the degree and 1 of the first n numbers, 0 if all are 0 -/
def dg (f : Nat → Nat) : Nat → Nat
  | 0 => 0
  | n + 1 => if f n = 0 then dg f n else n + 1
/-- a degree as it is told -/
def dV (d : Nat) : Int32 := if d = 0 then -6 else nI (d - 1)
def cn (f : Nat → Nat) : Nat → Nat
  | 0 => 0
  | n + 1 => cn f n + (if f n = 0 then 0 else 1)
def sm (f : Nat → Nat) : Nat → Nat
  | 0 => 0
  | n + 1 => sm f n + f n
/-- the value of the lower n numbers, with v above them -/
def hn (f : Nat → Nat) (x : Nat) : Nat → Nat → Nat
  | 0, v => v
  | n + 1, v => hn f x n ((v * x + f n) % 257)
def vx (r : Nat × (Nat → Nat)) (x : Nat) : Nat := hn r.2 x r.1 0
/-- how many of the first n are 0 -/
def cq (g : Nat → Nat) : Nat → Nat
  | 0 => 0
  | n + 1 => cq g n + (if g n = 0 then 1 else 0)
/-- the least place of 0 from k on, among the next m -/
def fz (g : Nat → Nat) (k : Nat) : Nat → Int32
  | 0 => -6
  | m + 1 => if g k = 0 then nI k else fz g (k + 1) m
theorem dg_le (f : Nat → Nat) (n : Nat) : dg f n ≤ n := by
  induction n with
  | zero => exact Nat.le_refl _
  | succ n ih => unfold dg; split <;> omega
theorem dg_zero (f : Nat → Nat) {n : Nat} (h : f n = 0) : dg f (n + 1) = dg f n := by
  show (if f n = 0 then dg f n else n + 1) = _
  rw [if_pos h]
theorem dg_nz (f : Nat → Nat) {n : Nat} (h : ¬ f n = 0) : dg f (n + 1) = n + 1 := by
  show (if f n = 0 then dg f n else n + 1) = _
  rw [if_neg h]
theorem dg_above (f : Nat → Nat) : ∀ (n k : Nat), dg f n ≤ k → k < n → f k = 0 := by
  intro n
  induction n with
  | zero => intro k _ h; omega
  | succ n ih =>
    intro k h1 h2
    by_cases h : f n = 0
    · rw [dg_zero f h] at h1
      by_cases hk : k = n
      · rw [hk]; exact h
      · exact ih k h1 (by omega)
    · rw [dg_nz f h] at h1; omega
theorem dg_top (f : Nat → Nat) : ∀ (n d : Nat), dg f n = d + 1 → f d ≠ 0 := by
  intro n
  induction n with
  | zero => intro d h; cases h
  | succ n ih =>
    intro d h
    by_cases q : f n = 0
    · rw [dg_zero f q] at h; exact ih d h
    · rw [dg_nz f q] at h
      have : n = d := by omega
      rw [← this]; exact q
theorem cn_le (f : Nat → Nat) (n : Nat) : cn f n ≤ n := by
  induction n with
  | zero => exact Nat.le_refl _
  | succ n ih => unfold cn; split <;> omega
theorem cn_zero (f : Nat → Nat) {n : Nat} (h : f n = 0) : cn f (n + 1) = cn f n := by
  show cn f n + (if f n = 0 then 0 else 1) = _
  rw [if_pos h]; rfl
theorem cn_nz (f : Nat → Nat) {n : Nat} (h : ¬ f n = 0) : cn f (n + 1) = cn f n + 1 := by
  show cn f n + (if f n = 0 then 0 else 1) = _
  rw [if_neg h]
theorem cq_le (f : Nat → Nat) (n : Nat) : cq f n ≤ n := by
  induction n with
  | zero => exact Nat.le_refl _
  | succ n ih => unfold cq; split <;> omega
theorem cq_zero (f : Nat → Nat) {n : Nat} (h : f n = 0) : cq f (n + 1) = cq f n + 1 := by
  show cq f n + (if f n = 0 then 1 else 0) = _
  rw [if_pos h]
theorem cq_nz (f : Nat → Nat) {n : Nat} (h : ¬ f n = 0) : cq f (n + 1) = cq f n := by
  show cq f n + (if f n = 0 then 1 else 0) = _
  rw [if_neg h]; rfl
theorem sm_le (f : Nat → Nat) (n : Nat) (h : ∀ k, f k < 257) : sm f n ≤ 256 * n := by
  induction n with
  | zero => exact Nat.le_refl _
  | succ n ih => unfold sm; have := h n; omega
theorem hn_lt (f : Nat → Nat) (x : Nat) : ∀ (n v : Nat), v < 257 → hn f x n v < 257 := by
  intro n
  induction n with
  | zero => intro v h; exact h
  | succ n ih => intro v _; exact ih _ (Nat.mod_lt _ (by decide))
theorem vx_lt (r : Nat × (Nat → Nat)) (x : Nat) : vx r x < 257 := hn_lt _ _ _ _ (by decide)
theorem fz_hit (g : Nat → Nat) (k m : Nat) (h : g k = 0) : fz g k (m + 1) = nI k := by unfold fz; rw [if_pos h]
theorem fz_miss (g : Nat → Nat) (k m : Nat) (h : ¬ g k = 0) : fz g k (m + 1) = fz g (k + 1) m := by
  show (if g k = 0 then nI k else fz g (k + 1) m) = _
  rw [if_neg h]
theorem mul_lt_257 {a b : Nat} (ha : a < 257) (hb : b < 257) : a * b ≤ 65536 := Nat.mul_le_mul (show a ≤ 256 by omega) (show b ≤ 256 by omega)
theorem kmod_nI' {n : Nat} (h : n < 2 ^ 31) (v : Int32) (e : v = nI n) : kmod v.toInt = n % 257 := by rw [e]; exact kmod_nI h
/-- a row whose first k numbers were made 0 -/
def zto (f : Nat → Nat) (k : Nat) : Nat → Nat := fun j => if j < k then 0 else f j
/-- a row whose numbers from a to k were made 0 -/
def zfr (f : Nat → Nat) (a k : Nat) : Nat → Nat := fun j => if a ≤ j ∧ j < k then 0 else f j
theorem up_same {ρ : Nat → kR} {i : Nat} : va_up ρ i ((ρ i).1, (ρ i).2) = ρ := by
  funext k
  by_cases h : k = i
  · subst h; rw [va_up_self]
  · rw [va_up_ne _ _ h]
theorem up_up {α : Type} {ρ : Nat → α} {i : Nat} {a b : α} : va_up (va_up ρ i a) i b = va_up ρ i b := by
  funext k
  by_cases h : k = i
  · subst h; rw [va_up_self, va_up_self]
  · rw [va_up_ne _ _ h, va_up_ne _ _ h, va_up_ne _ _ h]
theorem zto_0 (f : Nat → Nat) : zto f 0 = f := by funext j; simp [zto]
theorem zto_s (f : Nat → Nat) (k : Nat) : va_up (zto f k) k 0 = zto f (k + 1) := by
  funext j
  by_cases h : j = k
  · subst h; rw [va_up_self]; simp [zto]
  · rw [va_up_ne _ _ h]
    unfold zto
    by_cases q : j < k
    · rw [if_pos q, if_pos (by omega)]
    · rw [if_neg q, if_neg (by omega)]
theorem zfr_0 (f : Nat → Nat) (a : Nat) : zfr f a a = f := by
  funext j
  unfold zfr
  rw [if_neg (by omega)]
theorem zfr_s (f : Nat → Nat) {a k : Nat} (h : a ≤ k) : va_up (zfr f a k) k 0 = zfr f a (k + 1) := by
  funext j
  unfold zfr
  by_cases q : j = k
  · subst q; rw [va_up_self, if_pos (by omega)]
  · rw [va_up_ne _ _ q]
    by_cases r : a ≤ j ∧ j < k
    · rw [if_pos r, if_pos (by omega)]
    · rw [if_neg r, if_neg (by omega)]
theorem fill_0 {D : va_G} {ad : Nat → Nat} {cy : Nat → ClassId} {ρ : Nat → kR} {x : kX} {H : Heap} {i : Nat} (hP : va_P D vwCl (wL 143 ad (cW ad cy ρ x)) H) : va_P D vwCl (wL 143 ad (cW ad cy (va_up ρ i ((ρ i).1, zto (ρ i).2 0)) x)) H := by
  rw [zto_0, up_same]; exact hP
theorem fill_s {ρ : Nat → kR} {i k : Nat} {n : Nat} {f : Nat → Nat} : va_up (va_up ρ i (n, zto f k)) i ((va_up ρ i (n, zto f k) i).1, va_up (va_up ρ i (n, zto f k) i).2 k 0) = va_up ρ i (n, zto f (k + 1)) := by
  rw [up_up, va_up_self, zto_s]
theorem fill_e {D : va_G} {ad : Nat → Nat} {cy : Nat → ClassId} {ρ : Nat → kR} {x : kX} {H : Heap} {i n : Nat} {f : Nat → Nat} (hP : va_P D vwCl (wL 143 ad (cW ad cy (va_up ρ i (n, zto f 64)) x)) H) : va_P D vwCl (wL 143 ad (cW ad cy (va_up ρ i (n, fun _ => 0)) x)) H := by
  refine cW_ext (fun k _ => ?_) hP
  by_cases h : k = i
  · subst h
    rw [va_up_self, va_up_self]
    exact ⟨rfl, fun j hj => by simp [zto, hj]⟩
  · rw [va_up_ne _ _ h, va_up_ne _ _ h]
    exact ⟨rfl, fun _ _ => rfl⟩
/-- a row cut at n -/
def zfrom (f : Nat → Nat) (n : Nat) : Nat → Nat := fun j => if n ≤ j then 0 else f j
theorem rsz_e {D : va_G} {ad : Nat → Nat} {cy : Nat → ClassId} {ρ ρ' : Nat → kR} {x : kX} {H : Heap} {i n m : Nat} (e : ρ' = va_up ρ i (m, zfr (ρ i).2 n 64)) (hP : va_P D vwCl (wL 143 ad (cW ad cy (va_up ρ' i (n, (ρ' i).2)) x)) H) : va_P D vwCl (wL 143 ad (cW ad cy (va_up ρ i (n, zfrom (ρ i).2 n)) x)) H := by
  refine cW_ext (fun k _ => ?_) hP
  rw [e, up_up]
  by_cases h : k = i
  · subst h
    rw [va_up_self, va_up_self, va_up_self]
    exact ⟨rfl, fun j hj => by simp [zfr, zfrom, hj]⟩
  · rw [va_up_ne _ _ h, va_up_ne _ _ h]
    exact ⟨rfl, fun _ _ => rfl⟩
theorem cpy_e {D : va_G} {ad : Nat → Nat} {cy : Nat → ClassId} {ρ : Nat → kR} {x : kX} {H : Heap} {i j m : Nat} (hij : j ≠ i) (hP : va_P D vwCl (wL 143 ad (cW ad cy (va_up (va_up ρ i (m, fun k => if k < 64 then (ρ j).2 k else (ρ i).2 k)) i ((va_up ρ i (m, fun k => if k < 64 then (ρ j).2 k else (ρ i).2 k) j).1, (va_up ρ i (m, fun k => if k < 64 then (ρ j).2 k else (ρ i).2 k) i).2)) x)) H) : va_P D vwCl (wL 143 ad (cW ad cy (va_up ρ i (ρ j)) x)) H := by
  refine cW_ext (fun k _ => ?_) hP
  rw [up_up, va_up_self, va_up_ne _ _ hij]
  by_cases h : k = i
  · subst h
    rw [va_up_self, va_up_self]
    exact ⟨rfl, fun q hq => by simp [hq]⟩
  · rw [va_up_ne _ _ h, va_up_ne _ _ h]
    exact ⟨rfl, fun _ _ => rfl⟩
/-- a row whose first k numbers are multiplied by f -/
def scl (g : Nat → Nat) (f k : Nat) : Nat → Nat := fun j => if j < k then g j * f % 257 else g j
theorem scl_0 (g : Nat → Nat) (f : Nat) : scl g f 0 = g := by funext j; simp [scl]
theorem scl_k (g : Nat → Nat) (f k : Nat) : scl g f k k = g k := by simp [scl]
theorem scl_s (g : Nat → Nat) (f k : Nat) : va_up (scl g f k) k (g k * f % 257) = scl g f (k + 1) := by
  funext j
  unfold scl
  by_cases h : j = k
  · subst h; rw [va_up_self, if_pos (by omega)]
  · rw [va_up_ne _ _ h]
    by_cases q : j < k
    · rw [if_pos q, if_pos (by omega)]
    · rw [if_neg q, if_neg (by omega)]
end
section
set_option maxHeartbeats 4000000 in
set_option maxRecDepth 100000 in
theorem c_J9_floorMod_7cf53 (l : Launch) (D : va_G) (cy : Nat → ClassId) (ad : Nat → Nat) (N : Nat) {S : Type} (Wf : S → Nat → va_E) (u : S) (z : Int32) : kM l yJ9_floorMod_7cf53 wsJ9_floorMod_7cf53 ({ frames := 0, cells := 0, slots := 0, locals := 0 } : Room) D cy N ad Wf (Wf (u)) [.int (z), .int (nI (257))] (kF (some (.int (nI (kmod z.toInt)))) (u)) := by
  refine k_metF cJ9_floorMod_7cf53 3 (some .int) (by decide +kernel) rfl (Nat.le_of_ble_eq_true rfl) ?_
  intro p e s m below meth c ls hx hb hr hts hown hlocks hml hK hP hS hl
  have hl : lv_has ls 3 [(0, .int (z)), (1, .int (nI (257)))] := hl
  have hown : s.vm.findClass RJ9 = some m.cls := hown
  refine lv_iload_n hx hb dJ9_floorMod_7cf53_0 rfl (lv_at hl 0 rfl) ?_
  refine lv_iload_n hx hb dJ9_floorMod_7cf53_1 rfl (lv_at hl 1 rfl) ?_
  refine lv_irem hx hb dJ9_floorMod_7cf53_2 (by decide) ?_
  refine lv_istore_n (lv' := [(2, .int (z - z / (nI (257)) * (nI (257)))), (0, .int (z)), (1, .int (nI (257)))]) hx hb dJ9_floorMod_7cf53_3 rfl hl (by decide) rfl (fun ls hl => ?_)
  refine lv_iload_n hx hb dJ9_floorMod_7cf53_4 rfl (lv_at hl 1 rfl) ?_
  refine lv_iload_n hx hb dJ9_floorMod_7cf53_5 rfl (lv_at hl 2 rfl) ?_
  refine lv_ixor hx hb dJ9_floorMod_7cf53_6 ?_
  refine lv_if_ge (tgt := 18) hx hb dJ9_floorMod_7cf53_7 (by decide) (fun h_1 => ?_) (fun h_1 => ?_)
  · skip
    refine lv_iload_n hx hb dJ9_floorMod_7cf53_18 rfl (lv_at hl 0 rfl) ?_
    refine k_iret hx hb hr hlocks (u) hP hS dJ9_floorMod_7cf53_19 ?_
    exact ⟨congrArg (fun q => some (Value.int q)) (fm_a ((i_xor257 z).mp h_1)), rfl⟩
  · skip
    refine lv_iload_n hx hb dJ9_floorMod_7cf53_10 rfl (lv_at hl 0 rfl) ?_
    refine lv_if_eq (tgt := 18) hx hb dJ9_floorMod_7cf53_11 (by decide) (fun h_2 => ?_) (fun h_2 => ?_)
    · skip
      refine lv_iload_n hx hb dJ9_floorMod_7cf53_18 rfl (lv_at hl 0 rfl) ?_
      refine k_iret hx hb hr hlocks (u) hP hS dJ9_floorMod_7cf53_19 ?_
      exact ⟨congrArg (fun q => some (Value.int q)) (fm_b (fun q => h_1 ((i_xor257 z).mpr q)) h_2), rfl⟩
    · skip
      refine lv_iload_n hx hb dJ9_floorMod_7cf53_14 rfl (lv_at hl 0 rfl) ?_
      refine lv_iload_n hx hb dJ9_floorMod_7cf53_15 rfl (lv_at hl 2 rfl) ?_
      refine lv_iadd hx hb dJ9_floorMod_7cf53_16 ?_
      refine k_iret hx hb hr hlocks (u) hP hS dJ9_floorMod_7cf53_17 ?_
      exact ⟨congrArg (fun q => some (Value.int q)) (fm_c (fun q => h_1 ((i_xor257 z).mpr q)) h_2), rfl⟩
set_option maxHeartbeats 4000000 in
set_option maxRecDepth 100000 in
theorem c_X2_length (l : Launch) (D : va_G) (cy : Nat → ClassId) (ad : Nat → Nat) (hI : wI 143 ad) (ρ : Nat → kR) (x : kX) (i : Nat) (hi : i < 59) : kM l yX2_length wsX2_length ({ frames := 0, cells := 0, slots := 0, locals := 0 } : Room) D cy 143 ad (cWf ad cy) (cW ad cy (ρ) (x)) [.ref (ad (2 * i))] (kF (some (.int (nI ((ρ i).1)))) (ρ, x)) := by
  refine k_met cX2_length 1 (some .int) (by decide) rfl (Nat.le_of_ble_eq_true rfl) ?_
  intro p e s m below meth c ls hx hb hr hts hown hlocks hml hK hP hS hl
  have hl : lv_has ls 1 [(0, .ref (ad (2 * i)))] := hl
  have hown : s.vm.findClass RX2 = some m.cls := hown
  have hf_15 := hts (.fieldLink RX2 15 "TurnedRows$Row" "length" "I") (by decide +kernel)
  have hw_X2 : ∀ qw ∈ wsX20, qw.before ([.ref (ad (2 * i))] : List Value).toArray s = true := fun qw h => hts qw ((by decide +kernel : ∀ qw ∈ wsX20, qw ∈ wsX2_length) qw h)
  refine lv_aload_n hx hb dX2_length_0 rfl (lv_at hl 0 rfl) ?_
  refine k_get (q0 := 2 * i) (k := 1) (T := TX2) (Nf := 2) (ci := 2) (C := RX2) (v := .int (nI ((ρ i).1))) hx hb hw_X2 hown hK hP (by omega) (cW_row (i := i) (by omega)) rfl (by decide) hf_15 rfl rfl dX2_length_1 ?_
  refine k_iret hx hb hr hlocks (ρ, x) hP hS dX2_length_4 ?_
  exact ⟨rfl, rfl⟩
set_option maxHeartbeats 4000000 in
set_option maxRecDepth 100000 in
theorem c_X2_at (l : Launch) (D : va_G) (cy : Nat → ClassId) (ad : Nat → Nat) (hI : wI 143 ad) (ρ : Nat → kR) (x : kX) (i : Nat) (j : Nat) (hi : i < 59) (hj : j < 64) : kM l yX2_at wsX2_at ({ frames := 0, cells := 0, slots := 0, locals := 0 } : Room) D cy 143 ad (cWf ad cy) (cW ad cy (ρ) (x)) [.ref (ad (2 * i)), .int (nI (j))] (kF (some (.int (nI ((ρ i).2 j)))) (ρ, x)) := by
  refine k_met cX2_at 2 (some .int) (by decide) rfl (Nat.le_of_ble_eq_true rfl) ?_
  intro p e s m below meth c ls hx hb hr hts hown hlocks hml hK hP hS hl
  have hl : lv_has ls 2 [(0, .ref (ad (2 * i))), (1, .int (nI (j)))] := hl
  have hown : s.vm.findClass RX2 = some m.cls := hown
  have hf_9 := hts (.fieldLink RX2 9 "TurnedRows$Row" "numbers" "[I") (by decide +kernel)
  have hw_X2 : ∀ qw ∈ wsX20, qw.before ([.ref (ad (2 * i)), .int (nI (j))] : List Value).toArray s = true := fun qw h => hts qw ((by decide +kernel : ∀ qw ∈ wsX20, qw ∈ wsX2_at) qw h)
  refine lv_iload_n hx hb dX2_at_0 rfl (lv_at hl 1 rfl) ?_
  refine n_iflt (tgt := 22) hx hb (by omega) dX2_at_1 (by decide) ?_
  refine lv_iload_n hx hb dX2_at_4 rfl (lv_at hl 1 rfl) ?_
  refine lv_aload_n hx hb dX2_at_5 rfl (lv_at hl 0 rfl) ?_
  refine k_get (q0 := 2 * i) (k := 0) (T := TX2) (Nf := 2) (ci := 2) (C := RX2) (v := .ref (ad (2 * i + 1))) hx hb hw_X2 hown hK hP (by omega) (cW_row (i := i) (by omega)) rfl (by decide) hf_9 rfl rfl dX2_at_6 ?_
  refine k_alen (q0 := 2 * i + 1) hx hb hK hP 0 (by omega) (cW_num (i := i) (by omega)) rfl 64 rfl dX2_at_9 ?_
  refine n_icmp_ge (tgt := 22) hx hb (by omega) (by omega) dX2_at_10 (by decide) (fun h_1 => ?_) (fun h_1 => ?_)
  · skip
    exact absurd h_1 (by omega)
  · skip
    refine lv_aload_n hx hb dX2_at_13 rfl (lv_at hl 0 rfl) ?_
    refine k_get (q0 := 2 * i) (k := 0) (T := TX2) (Nf := 2) (ci := 2) (C := RX2) (v := .ref (ad (2 * i + 1))) hx hb hw_X2 hown hK hP (by omega) (cW_row (i := i) (by omega)) rfl (by decide) hf_9 rfl rfl dX2_at_14 ?_
    refine lv_iload_n hx hb dX2_at_17 rfl (lv_at hl 1 rfl) ?_
    refine k_iald (q0 := 2 * i + 1) (j := j) hx hb hK hP (by omega) (cW_num (i := i) (by omega)) (by decide) (by omega) dX2_at_18 ?_
    refine n_same (a := (ρ i).2 j) rfl ?_
    refine lv_goto (tgt := 23) hx hb dX2_at_19 (by decide) ?_
    refine k_iret hx hb hr hlocks (ρ, x) hP hS dX2_at_23 ?_
    exact ⟨rfl, rfl⟩
set_option maxHeartbeats 4000000 in
set_option maxRecDepth 100000 in
theorem c_X2_write (l : Launch) (D : va_G) (cy : Nat → ClassId) (ad : Nat → Nat) (hI : wI 143 ad) (ρ : Nat → kR) (x : kX) (i : Nat) (j : Nat) (w : Int32) (hi : i < 59) (hj : j < 64) : kM l yX2_write wsX2_write ({ frames := 1, cells := 0, slots := 0, locals := 22 } : Room) D cy 143 ad (cWf ad cy) (cW ad cy (ρ) (x)) [.ref (ad (2 * i)), .int (nI (j)), .int (w)] (kF none (va_up ρ i ((ρ i).1, va_up (ρ i).2 j (kmod w.toInt)), x)) := by
  refine k_met cX2_write 3 none (by decide) rfl (Nat.le_of_ble_eq_true rfl) ?_
  intro p e s m below meth c ls hx hb hr hts hown hlocks hml hK hP hS hl
  have hl : lv_has ls 3 [(0, .ref (ad (2 * i))), (1, .int (nI (j))), (2, .int (w))] := hl
  have hown : s.vm.findClass RX2 = some m.cls := hown
  have hf_9 := hts (.fieldLink RX2 9 "TurnedRows$Row" "numbers" "[I") (by decide +kernel)
  have hw_X2 : ∀ qw ∈ wsX20, qw.before ([.ref (ad (2 * i)), .int (nI (j)), .int (w)] : List Value).toArray s = true := fun qw h => hts qw ((by decide +kernel : ∀ qw ∈ wsX20, qw ∈ wsX2_write) qw h)
  refine lv_iload_n hx hb dX2_write_0 rfl (lv_at hl 1 rfl) ?_
  refine n_iflt (tgt := 26) hx hb (by omega) dX2_write_1 (by decide) ?_
  refine lv_iload_n hx hb dX2_write_4 rfl (lv_at hl 1 rfl) ?_
  refine lv_aload_n hx hb dX2_write_5 rfl (lv_at hl 0 rfl) ?_
  refine k_get (q0 := 2 * i) (k := 0) (T := TX2) (Nf := 2) (ci := 2) (C := RX2) (v := .ref (ad (2 * i + 1))) hx hb hw_X2 hown hK hP (by omega) (cW_row (i := i) (by omega)) rfl (by decide) hf_9 rfl rfl dX2_write_6 ?_
  refine k_alen (q0 := 2 * i + 1) hx hb hK hP 0 (by omega) (cW_num (i := i) (by omega)) rfl 64 rfl dX2_write_9 ?_
  refine n_icmp_ge (tgt := 26) hx hb (by omega) (by omega) dX2_write_10 (by decide) (fun h_1 => ?_) (fun h_1 => ?_)
  · skip
    exact absurd h_1 (by omega)
  · skip
    refine lv_aload_n hx hb dX2_write_13 rfl (lv_at hl 0 rfl) ?_
    refine k_get (q0 := 2 * i) (k := 0) (T := TX2) (Nf := 2) (ci := 2) (C := RX2) (v := .ref (ad (2 * i + 1))) hx hb hw_X2 hown hK hP (by omega) (cW_row (i := i) (by omega)) rfl (by decide) hf_9 rfl rfl dX2_write_14 ?_
    refine lv_iload_n hx hb dX2_write_17 rfl (lv_at hl 1 rfl) ?_
    refine lv_iload_n hx hb dX2_write_18 rfl (lv_at hl 2 rfl) ?_
    refine lv_sipush (v := nI (257)) hx hb dX2_write_19 rfl ?_
    refine k_callSr (rest := [.int (nI (j)), .ref (ad (2 * i + 1))]) (nL := 3) ⟨hx, hb, hml, hown, hts⟩ (c_J9_floorMod_7cf53 l D cy ad 143 (cWf ad cy) (ρ, x) w) (va_cwS 2 hts gX2_write_J9_floorMod_7cf53 rfl rfl rfl (by decide +kernel) ⟨Nat.le_of_ble_eq_true rfl, Nat.le_of_ble_eq_true rfl⟩) hK hP hS (fun _ h => h) rfl hl.1 rfl (Nat.le_of_ble_eq_true rfl) dX2_write_22 ⟨Nat.zero_le _, Nat.zero_le _⟩ (fun H locs hP hS => ?_)
    have hP : va_P D vwCl (wL 143 ad (cW ad cy (ρ) (x))) H := hP
    refine k_iast (q0 := 2 * i + 1) (j := j) (v := nI (kmod w.toInt)) (Wd' := cW ad cy (va_up ρ i ((ρ i).1, va_up (ρ i).2 j (kmod w.toInt))) (x)) hx hb hK hI hP hS (by omega) (cW_num (i := i) (by omega)) (by decide) (by omega) (cW_up_st (by omega)) dX2_write_25 (fun H locs hP hS => ?_)
    refine k_vret hx hb hr hlocks (va_up ρ i ((ρ i).1, va_up (ρ i).2 j (kmod w.toInt)), x) hP hS dX2_write_26 ?_
    exact ⟨rfl, rfl⟩
set_option maxHeartbeats 4000000 in
set_option maxRecDepth 100000 in
theorem c_J7_fill_53178 (l : Launch) (D : va_G) (cy : Nat → ClassId) (ad : Nat → Nat) (hI : wI 143 ad) (ρ : Nat → kR) (x : kX) (i : Nat) (hi : i < 59) : kM l yJ7_fill_53178 wsJ7_fill_53178 ({ frames := 0, cells := 0, slots := 0, locals := 0 } : Room) D cy 143 ad (cWf ad cy) (cW ad cy (ρ) (x)) [.ref (ad (2 * i + 1)), .int (nI (0))] (kF none (va_up ρ i ((ρ i).1, fun _ => 0), x)) := by
  refine k_met cJ7_fill_53178 4 none (by decide) rfl (Nat.le_of_ble_eq_true rfl) ?_
  intro p e s m below meth c ls hx hb hr hts hown hlocks hml hK hP hS hl
  have hl : lv_has ls 4 [(0, .ref (ad (2 * i + 1))), (1, .int (nI (0)))] := hl
  have hown : s.vm.findClass RJ7 = some m.cls := hown
  refine lv_iconst (v := nI (0)) hx hb dJ7_fill_53178_0 rfl ?_
  refine lv_istore_n (lv' := [(2, .int (nI (0))), (0, .ref (ad (2 * i + 1))), (1, .int (nI (0)))]) hx hb dJ7_fill_53178_1 rfl hl (by decide) rfl (fun ls hl => ?_)
  refine lv_aload_n hx hb dJ7_fill_53178_2 rfl (lv_at hl 1 rfl) ?_
  refine k_alen (q0 := 2 * i + 1) hx hb hK hP 0 (by omega) (cW_num (i := i) (by omega)) rfl 64 rfl dJ7_fill_53178_3 ?_
  refine lv_istore_n (lv' := [(3, .int (nI (64))), (2, .int (nI (0))), (0, .ref (ad (2 * i + 1))), (1, .int (nI (0)))]) hx hb dJ7_fill_53178_4 rfl hl (by decide) rfl (fun ls hl => ?_)
  have lp5 : ∀ (fu : Nat) (k : Nat) (ρ' : Nat → kR), k ≤ 64 → ρ' = va_up ρ i ((ρ i).1, zto (ρ i).2 k) → 64 - k < fu → ∀ (H : Heap) (locs : List Loc), va_P D vwCl (wL 143 ad (cW ad cy (ρ') (x))) H → va_S (wA 143 ad) s.heap H locs → ∀ (ls : Array Slot), lv_has ls 4 [(2, .int (nI (k))), (0, .ref (ad (2 * i + 1))), (1, .int (nI (0))), (3, .int (nI (64)))] → W p l e ({ frames := 0, cells := 0, slots := 0, locals := 0 } : Room) s m ([.ref (ad (2 * i + 1)), .int (nI (0))] : List Value).toArray below meth c H locs 0 0 (MQ below (kQ D 143 ad (cWf ad cy) (kF none (va_up ρ i ((ρ i).1, fun _ => 0), x))) ([.ref (ad (2 * i + 1)), .int (nI (0))] : List Value).toArray s 0 0 (wA 143 ad)) (F0 m 5 ls []) := by
    intro fu
    induction fu with
    | zero => intro k ρ' hk hρ hfu; exact absurd hfu (Nat.not_lt_zero _)
    | succ fu ih5 =>
      intro k ρ' hk hρ hfu H locs hP hS ls hl
      refine lv_iload_n hx hb dJ7_fill_53178_5 rfl (lv_at hl 0 rfl) ?_
      refine lv_iload_n hx hb dJ7_fill_53178_6 rfl (lv_at hl 3 rfl) ?_
      refine n_icmp_ge (tgt := 20) hx hb (by omega) (by omega) dJ7_fill_53178_7 (by decide) (fun h_1 => ?_) (fun h_1 => ?_)
      · skip
        have hk2 : k = 64 := by omega
        subst hk2
        rw [hρ] at hP
        have hP := fill_e hP
        refine k_vret hx hb hr hlocks (va_up ρ i ((ρ i).1, fun _ => 0), x) hP hS dJ7_fill_53178_20 ?_
        exact ⟨rfl, rfl⟩
      · skip
        refine lv_aload_n hx hb dJ7_fill_53178_10 rfl (lv_at hl 1 rfl) ?_
        refine lv_iload_n hx hb dJ7_fill_53178_11 rfl (lv_at hl 0 rfl) ?_
        refine lv_iload_n hx hb dJ7_fill_53178_12 rfl (lv_at hl 2 rfl) ?_
        refine k_iast (q0 := 2 * i + 1) (j := k) (v := nI (0)) (Wd' := cW ad cy (va_up ρ' i ((ρ' i).1, va_up (ρ' i).2 k 0)) (x)) hx hb hK hI hP hS (by omega) (cW_num (i := i) (by omega)) (by decide) (by omega) (cW_up_st (by omega)) dJ7_fill_53178_13 (fun H locs hP hS => ?_)
        refine lv_iinc (v := nI (k + 1)) (lv' := [(2, .int (nI (k + 1))), (0, .ref (ad (2 * i + 1))), (1, .int (nI (0))), (3, .int (nI (64)))]) hx hb dJ7_fill_53178_14 hl (k := 0) rfl (nI_inc _) (by decide) rfl (fun ls hl => ?_)
        refine lv_goto (tgt := 5) hx hb dJ7_fill_53178_17 (by decide) ?_
        exact ih5 (k + 1) (va_up ρ' i ((ρ' i).1, va_up (ρ' i).2 k 0)) (by omega) (by rw [hρ, up_up, va_up_self, zto_s]) (by omega) _ _ hP hS _ hl
  exact lp5 (_ + 1) (0) (ρ) (by omega) (by rw [zto_0, up_same]) (Nat.lt_succ_self _) _ _ hP hS _ (lv_sub hl [1, 2, 3, 0] rfl)
end
section
set_option maxHeartbeats 4000000 in
set_option maxRecDepth 100000 in
theorem c_X2_resize (l : Launch) (D : va_G) (cy : Nat → ClassId) (ad : Nat → Nat) (hI : wI 143 ad) (ρ : Nat → kR) (x : kX) (i : Nat) (n : Nat) (hi : i < 59) (hn : n ≤ 64) : kM l yX2_resize wsX2_resize ({ frames := 2, cells := 0, slots := 0, locals := 44 } : Room) D cy 143 ad (cWf ad cy) (cW ad cy (ρ) (x)) [.ref (ad (2 * i)), .int (nI (n))] (kF none (va_up ρ i (n, zfrom (ρ i).2 n), x)) := by
  refine k_met cX2_resize 3 none (by decide) rfl (Nat.le_of_ble_eq_true rfl) ?_
  intro p e s m below meth c ls hx hb hr hts hown hlocks hml hK hP hS hl
  have hl : lv_has ls 3 [(0, .ref (ad (2 * i))), (1, .int (nI (n)))] := hl
  have hown : s.vm.findClass RX2 = some m.cls := hown
  have hf_15 := hts (.fieldLink RX2 15 "TurnedRows$Row" "length" "I") (by decide +kernel)
  have hw_X2 : ∀ qw ∈ wsX20, qw.before ([.ref (ad (2 * i)), .int (nI (n))] : List Value).toArray s = true := fun qw h => hts qw ((by decide +kernel : ∀ qw ∈ wsX20, qw ∈ wsX2_resize) qw h)
  refine lv_iload_n hx hb dX2_resize_0 rfl (lv_at hl 1 rfl) ?_
  refine lv_istore_n (lv' := [(2, .int (nI (n))), (0, .ref (ad (2 * i))), (1, .int (nI (n)))]) hx hb dX2_resize_1 rfl hl (by decide) rfl (fun ls hl => ?_)
  have lp2 : ∀ (fu : Nat) (k : Nat) (ρ' : Nat → kR), n ≤ k ∧ k ≤ 64 → ρ' = va_up ρ i ((ρ i).1, zfr (ρ i).2 n k) → 64 - k < fu → ∀ (H : Heap) (locs : List Loc), va_P D vwCl (wL 143 ad (cW ad cy (ρ') (x))) H → va_S (wA 143 ad) s.heap H locs → ∀ (ls : Array Slot), lv_has ls 3 [(2, .int (nI (k))), (0, .ref (ad (2 * i))), (1, .int (nI (n)))] → W p l e ({ frames := 2, cells := 0, slots := 0, locals := 44 } : Room) s m ([.ref (ad (2 * i)), .int (nI (n))] : List Value).toArray below meth c H locs 0 0 (MQ below (kQ D 143 ad (cWf ad cy) (kF none (va_up ρ i (n, zfrom (ρ i).2 n), x))) ([.ref (ad (2 * i)), .int (nI (n))] : List Value).toArray s 0 0 (wA 143 ad)) (F0 m 2 ls []) := by
    intro fu
    induction fu with
    | zero => intro k ρ' hk hρ hfu; exact absurd hfu (Nat.not_lt_zero _)
    | succ fu ih2 =>
      intro k ρ' hk hρ hfu H locs hP hS ls hl
      refine lv_iload_n hx hb dX2_resize_2 rfl (lv_at hl 0 rfl) ?_
      refine lv_bipush (v := nI (64)) hx hb dX2_resize_3 rfl ?_
      refine n_icmp_ge (tgt := 20) hx hb (by omega) (by omega) dX2_resize_5 (by decide) (fun h_1 => ?_) (fun h_1 => ?_)
      · skip
        refine lv_aload_n hx hb dX2_resize_20 rfl (lv_at hl 1 rfl) ?_
        refine lv_iload_n hx hb dX2_resize_21 rfl (lv_at hl 2 rfl) ?_
        refine k_put (q0 := 2 * i) (k := 1) (T := TX2) (Nf := 2) (ci := 2) (C := RX2) (v := .int (nI (n))) (Wd' := cW ad cy (va_up ρ' i (n, (ρ' i).2)) (x)) hx hb hw_X2 tyX2 tyX2_ok nmX2 hown hK hI hP hS (by omega) (cW_row (i := i) (by omega)) rfl (by decide) hf_15 rfl rfl (ty := .int) (by decide +kernel) rfl rfl (Nat.le_of_ble_eq_true rfl) (cW_up_len (by omega)) dX2_resize_22 (fun H locs hP hS => ?_)
        have hk2 : k = 64 := by omega
        subst hk2
        have hP := rsz_e hρ hP
        refine k_vret hx hb hr hlocks (va_up ρ i (n, zfrom (ρ i).2 n), x) hP hS dX2_resize_25 ?_
        exact ⟨rfl, rfl⟩
      · skip
        refine lv_aload_n hx hb dX2_resize_8 rfl (lv_at hl 1 rfl) ?_
        refine lv_iload_n hx hb dX2_resize_9 rfl (lv_at hl 0 rfl) ?_
        refine lv_iconst (v := nI (0)) hx hb dX2_resize_10 rfl ?_
        refine k_callVv (rest := []) (nL := 3) ⟨hx, hb, hml, hown, hts⟩ (c_X2_write l D cy ad hI ρ' x i k (nI (0)) (by first | assumption | omega) (by first | assumption | omega)) (cwV 2 hts gX2_resize_X2_write rfl rfl rfl (by decide +kernel) ⟨Nat.le_of_ble_eq_true rfl, Nat.le_of_ble_eq_true rfl⟩) hK hP hS (fun _ h => h) (q0 := 2 * i) (ci := 2) rfl (by omega) (cW_row (i := i) (by omega)) rfl rfl rfl hl.1 rfl (Nat.le_of_ble_eq_true rfl) dX2_resize_11 ⟨Nat.zero_le _, Nat.zero_le _⟩ (fun H locs hP hS => ?_)
        have hP : va_P D vwCl (wL 143 ad (cW ad cy (va_up ρ' i ((ρ' i).1, va_up (ρ' i).2 k (kmod (nI (0)).toInt))) (x))) H := hP
        refine lv_iinc (v := nI (k + 1)) (lv' := [(2, .int (nI (k + 1))), (0, .ref (ad (2 * i))), (1, .int (nI (n)))]) hx hb dX2_resize_14 hl (k := 0) rfl (nI_inc _) (by decide) rfl (fun ls hl => ?_)
        refine lv_goto (tgt := 2) hx hb dX2_resize_17 (by decide) ?_
        exact ih2 (k + 1) (va_up ρ' i ((ρ' i).1, va_up (ρ' i).2 k (kmod (nI (0)).toInt))) (by first | assumption | omega) (by rw [hρ, up_up, va_up_self, show kmod (nI 0).toInt = 0 from by decide, zfr_s _ hk.1]) (by omega) _ _ hP hS _ hl
  exact lp2 (_ + 1) (n) (ρ) ⟨Nat.le_refl _, hn⟩ (by rw [zfr_0, up_same]) (Nat.lt_succ_self _) _ _ hP hS _ hl
set_option maxHeartbeats 4000000 in
set_option maxRecDepth 100000 in
theorem c_X2_clear (l : Launch) (D : va_G) (cy : Nat → ClassId) (ad : Nat → Nat) (hI : wI 143 ad) (ρ : Nat → kR) (x : kX) (i : Nat) (n : Nat) (hi : i < 59) : kM l yX2_clear wsX2_clear ({ frames := 1, cells := 0, slots := 0, locals := 23 } : Room) D cy 143 ad (cWf ad cy) (cW ad cy (ρ) (x)) [.ref (ad (2 * i)), .int (nI (n))] (kF none (va_up ρ i (n, fun _ => 0), x)) := by
  refine k_met cX2_clear 2 none (by decide) rfl (Nat.le_of_ble_eq_true rfl) ?_
  intro p e s m below meth c ls hx hb hr hts hown hlocks hml hK hP hS hl
  have hl : lv_has ls 2 [(0, .ref (ad (2 * i))), (1, .int (nI (n)))] := hl
  have hown : s.vm.findClass RX2 = some m.cls := hown
  have hf_9 := hts (.fieldLink RX2 9 "TurnedRows$Row" "numbers" "[I") (by decide +kernel)
  have hf_15 := hts (.fieldLink RX2 15 "TurnedRows$Row" "length" "I") (by decide +kernel)
  have hw_X2 : ∀ qw ∈ wsX20, qw.before ([.ref (ad (2 * i)), .int (nI (n))] : List Value).toArray s = true := fun qw h => hts qw ((by decide +kernel : ∀ qw ∈ wsX20, qw ∈ wsX2_clear) qw h)
  refine lv_aload_n hx hb dX2_clear_0 rfl (lv_at hl 0 rfl) ?_
  refine k_get (q0 := 2 * i) (k := 0) (T := TX2) (Nf := 2) (ci := 2) (C := RX2) (v := .ref (ad (2 * i + 1))) hx hb hw_X2 hown hK hP (by omega) (cW_row (i := i) (by omega)) rfl (by decide) hf_9 rfl rfl dX2_clear_1 ?_
  refine lv_iconst (v := nI (0)) hx hb dX2_clear_4 rfl ?_
  refine k_callSv (rest := []) (nL := 2) ⟨hx, hb, hml, hown, hts⟩ (c_J7_fill_53178 l D cy ad hI ρ x i (by first | assumption | omega)) (va_cwS 2 hts gX2_clear_J7_fill_53178 rfl rfl rfl (by decide +kernel) ⟨Nat.le_of_ble_eq_true rfl, Nat.le_of_ble_eq_true rfl⟩) hK hP hS (fun _ h => h) rfl hl.1 rfl (Nat.le_of_ble_eq_true rfl) dX2_clear_5 ⟨Nat.zero_le _, Nat.zero_le _⟩ (fun H locs hP hS => ?_)
  have hP : va_P D vwCl (wL 143 ad (cW ad cy (va_up ρ i ((ρ i).1, fun _ => 0)) (x))) H := hP
  refine lv_aload_n hx hb dX2_clear_8 rfl (lv_at hl 0 rfl) ?_
  refine lv_iload_n hx hb dX2_clear_9 rfl (lv_at hl 1 rfl) ?_
  refine k_put (q0 := 2 * i) (k := 1) (T := TX2) (Nf := 2) (ci := 2) (C := RX2) (v := .int (nI (n))) (Wd' := cW ad cy (va_up (va_up ρ i ((ρ i).1, fun _ => 0)) i (n, ((va_up ρ i ((ρ i).1, fun _ => 0)) i).2)) (x)) hx hb hw_X2 tyX2 tyX2_ok nmX2 hown hK hI hP hS (by omega) (cW_row (i := i) (by omega)) rfl (by decide) hf_15 rfl rfl (ty := .int) (by decide +kernel) rfl rfl (Nat.le_of_ble_eq_true rfl) (cW_up_len (by omega)) dX2_clear_10 (fun H locs hP hS => ?_)
  rw [up_up, va_up_self] at hP
  refine k_vret hx hb hr hlocks (va_up ρ i (n, fun _ => 0), x) hP hS dX2_clear_13 ?_
  exact ⟨rfl, rfl⟩
set_option maxHeartbeats 4000000 in
set_option maxRecDepth 100000 in
theorem c_X2_copyFrom (l : Launch) (D : va_G) (cy : Nat → ClassId) (ad : Nat → Nat) (hI : wI 143 ad) (ρ : Nat → kR) (x : kX) (i : Nat) (j : Nat) (hi : i < 59) (hj : j < 59) (hij : j ≠ i) : kM l yX2_copyFrom wsX2_copyFrom ({ frames := 1, cells := 0, slots := 0, locals := 18 } : Room) D cy 143 ad (cWf ad cy) (cW ad cy (ρ) (x)) [.ref (ad (2 * i)), .ref (ad (2 * j))] (kF none (va_up ρ i (ρ j), x)) := by
  refine k_met cX2_copyFrom 2 none (by decide) rfl (Nat.le_of_ble_eq_true rfl) ?_
  intro p e s m below meth c ls hx hb hr hts hown hlocks hml hK hP hS hl
  have hl : lv_has ls 2 [(0, .ref (ad (2 * i))), (1, .ref (ad (2 * j)))] := hl
  have hown : s.vm.findClass RX2 = some m.cls := hown
  have hf_9 := hts (.fieldLink RX2 9 "TurnedRows$Row" "numbers" "[I") (by decide +kernel)
  have hf_15 := hts (.fieldLink RX2 15 "TurnedRows$Row" "length" "I") (by decide +kernel)
  have hw_X2 : ∀ qw ∈ wsX20, qw.before ([.ref (ad (2 * i)), .ref (ad (2 * j))] : List Value).toArray s = true := fun qw h => hts qw ((by decide +kernel : ∀ qw ∈ wsX20, qw ∈ wsX2_copyFrom) qw h)
  have hm_35 := hts (.methodLink RX2 35 arraycopyName) (by decide +kernel)
  have hcn := hts (.native arraycopyName) (by decide +kernel)
  have hcs := hts (.static arraycopyName) (by decide +kernel)
  have hci := hts (.initialized "java/lang/System") (by decide +kernel)
  refine lv_aload_n hx hb dX2_copyFrom_0 rfl (lv_at hl 1 rfl) ?_
  refine k_get (q0 := 2 * j) (k := 0) (T := TX2) (Nf := 2) (ci := 2) (C := RX2) (v := .ref (ad (2 * j + 1))) hx hb hw_X2 hown hK hP (by omega) (cW_row (i := j) (by omega)) rfl (by decide) hf_9 rfl rfl dX2_copyFrom_1 ?_
  refine lv_iconst (v := nI (0)) hx hb dX2_copyFrom_4 rfl ?_
  refine lv_aload_n hx hb dX2_copyFrom_5 rfl (lv_at hl 0 rfl) ?_
  refine k_get (q0 := 2 * i) (k := 0) (T := TX2) (Nf := 2) (ci := 2) (C := RX2) (v := .ref (ad (2 * i + 1))) hx hb hw_X2 hown hK hP (by omega) (cW_row (i := i) (by omega)) rfl (by decide) hf_9 rfl rfl dX2_copyFrom_6 ?_
  refine lv_iconst (v := nI (0)) hx hb dX2_copyFrom_9 rfl ?_
  refine lv_bipush (v := nI (64)) hx hb dX2_copyFrom_10 rfl ?_
  refine k_copy (q0 := 2 * j + 1) (q1 := 2 * i + 1) (n := 64) (Wd' := cW ad cy (va_up ρ i ((ρ i).1, fun k => if k < 64 then (ρ j).2 k else (ρ i).2 k)) (x)) hx hb (hml.trans hl.1.symm) hown hm_35 hcn hcs hci hK hI hP hS (by omega) (by omega) (cW_num (i := j) (by omega)) (cW_num (i := i) (by omega)) (by decide) (cW_up_cpy (by omega)) (by decide) (Nat.le_of_ble_eq_true rfl) dX2_copyFrom_12 (fun H locs hP hS => ?_)
  refine lv_aload_n hx hb dX2_copyFrom_15 rfl (lv_at hl 0 rfl) ?_
  refine lv_aload_n hx hb dX2_copyFrom_16 rfl (lv_at hl 1 rfl) ?_
  refine k_get (q0 := 2 * j) (k := 1) (T := TX2) (Nf := 2) (ci := 2) (C := RX2) (v := .int (nI (((va_up ρ i ((ρ i).1, fun k => if k < 64 then (ρ j).2 k else (ρ i).2 k)) j).1))) hx hb hw_X2 hown hK hP (by omega) (cW_row (i := j) (by omega)) rfl (by decide) hf_15 rfl rfl dX2_copyFrom_17 ?_
  refine k_put (q0 := 2 * i) (k := 1) (T := TX2) (Nf := 2) (ci := 2) (C := RX2) (v := .int (nI (((va_up ρ i ((ρ i).1, fun k => if k < 64 then (ρ j).2 k else (ρ i).2 k)) j).1))) (Wd' := cW ad cy (va_up (va_up ρ i ((ρ i).1, fun k => if k < 64 then (ρ j).2 k else (ρ i).2 k)) i (((va_up ρ i ((ρ i).1, fun k => if k < 64 then (ρ j).2 k else (ρ i).2 k)) j).1, ((va_up ρ i ((ρ i).1, fun k => if k < 64 then (ρ j).2 k else (ρ i).2 k)) i).2)) (x)) hx hb hw_X2 tyX2 tyX2_ok nmX2 hown hK hI hP hS (by omega) (cW_row (i := i) (by omega)) rfl (by decide) hf_15 rfl rfl (ty := .int) (by decide +kernel) rfl rfl (Nat.le_of_ble_eq_true rfl) (cW_up_len (by omega)) dX2_copyFrom_20 (fun H locs hP hS => ?_)
  have hP := cpy_e hij hP
  refine k_vret hx hb hr hlocks (va_up ρ i (ρ j), x) hP hS dX2_copyFrom_23 ?_
  exact ⟨rfl, rfl⟩
set_option maxHeartbeats 4000000 in
set_option maxRecDepth 100000 in
theorem c_X2_scale (l : Launch) (D : va_G) (cy : Nat → ClassId) (ad : Nat → Nat) (hI : wI 143 ad) (ρ : Nat → kR) (x : kX) (i : Nat) (f : Nat) (hi : i < 59) (hlen : (ρ i).1 ≤ 64) (hf : f < 257) (hrb : ∀ k, (ρ i).2 k < 257) : kM l yX2_scale wsX2_scale ({ frames := 2, cells := 0, slots := 0, locals := 44 } : Room) D cy 143 ad (cWf ad cy) (cW ad cy (ρ) (x)) [.ref (ad (2 * i)), .int (nI (f))] (kF none (va_up ρ i ((ρ i).1, scl (ρ i).2 f (ρ i).1), x)) := by
  refine k_met cX2_scale 3 none (by decide) rfl (Nat.le_of_ble_eq_true rfl) ?_
  intro p e s m below meth c ls hx hb hr hts hown hlocks hml hK hP hS hl
  have hl : lv_has ls 3 [(0, .ref (ad (2 * i))), (1, .int (nI (f)))] := hl
  have hown : s.vm.findClass RX2 = some m.cls := hown
  have hf_15 := hts (.fieldLink RX2 15 "TurnedRows$Row" "length" "I") (by decide +kernel)
  have hw_X2 : ∀ qw ∈ wsX20, qw.before ([.ref (ad (2 * i)), .int (nI (f))] : List Value).toArray s = true := fun qw h => hts qw ((by decide +kernel : ∀ qw ∈ wsX20, qw ∈ wsX2_scale) qw h)
  refine lv_iconst (v := nI (0)) hx hb dX2_scale_0 rfl ?_
  refine lv_istore_n (lv' := [(2, .int (nI (0))), (0, .ref (ad (2 * i))), (1, .int (nI (f)))]) hx hb dX2_scale_1 rfl hl (by decide) rfl (fun ls hl => ?_)
  have lp2 : ∀ (fu : Nat) (k : Nat) (ρ' : Nat → kR), k ≤ (ρ i).1 → ρ' = va_up ρ i ((ρ i).1, scl (ρ i).2 f k) → (ρ i).1 - k < fu → ∀ (H : Heap) (locs : List Loc), va_P D vwCl (wL 143 ad (cW ad cy (ρ') (x))) H → va_S (wA 143 ad) s.heap H locs → ∀ (ls : Array Slot), lv_has ls 3 [(2, .int (nI (k))), (0, .ref (ad (2 * i))), (1, .int (nI (f)))] → W p l e ({ frames := 2, cells := 0, slots := 0, locals := 44 } : Room) s m ([.ref (ad (2 * i)), .int (nI (f))] : List Value).toArray below meth c H locs 0 0 (MQ below (kQ D 143 ad (cWf ad cy) (kF none (va_up ρ i ((ρ i).1, scl (ρ i).2 f (ρ i).1), x))) ([.ref (ad (2 * i)), .int (nI (f))] : List Value).toArray s 0 0 (wA 143 ad)) (F0 m 2 ls []) := by
    intro fu
    induction fu with
    | zero => intro k ρ' hk hρ hfu; exact absurd hfu (Nat.not_lt_zero _)
    | succ fu ih2 =>
      intro k ρ' hk hρ hfu H locs hP hS ls hl
      have e1 : ρ' i = ((ρ i).1, scl (ρ i).2 f k) := by rw [hρ, va_up_self]
      have hm := mul_lt_257 (hrb k) hf
      refine lv_iload_n hx hb dX2_scale_2 rfl (lv_at hl 0 rfl) ?_
      refine lv_aload_n hx hb dX2_scale_3 rfl (lv_at hl 1 rfl) ?_
      refine k_get (q0 := 2 * i) (k := 1) (T := TX2) (Nf := 2) (ci := 2) (C := RX2) (v := .int (nI ((ρ' i).1))) hx hb hw_X2 hown hK hP (by omega) (cW_row (i := i) (by omega)) rfl (by decide) hf_15 rfl rfl dX2_scale_4 ?_
      refine n_push (a := (ρ i).1) (by rw [e1]) ?_
      refine n_icmp_ge (tgt := 28) hx hb (by omega) (by omega) dX2_scale_7 (by decide) (fun h_1 => ?_) (fun h_1 => ?_)
      · skip
        have hk2 : k = (ρ i).1 := by omega
        rw [hρ, hk2] at hP
        refine k_vret hx hb hr hlocks (va_up ρ i ((ρ i).1, scl (ρ i).2 f (ρ i).1), x) hP hS dX2_scale_28 ?_
        exact ⟨rfl, rfl⟩
      · skip
        refine lv_aload_n hx hb dX2_scale_10 rfl (lv_at hl 1 rfl) ?_
        refine lv_iload_n hx hb dX2_scale_11 rfl (lv_at hl 0 rfl) ?_
        refine lv_aload_n hx hb dX2_scale_12 rfl (lv_at hl 1 rfl) ?_
        refine lv_iload_n hx hb dX2_scale_13 rfl (lv_at hl 0 rfl) ?_
        refine k_callVr (rest := [.int (nI (k)), .ref (ad (2 * i))]) (nL := 3) ⟨hx, hb, hml, hown, hts⟩ (c_X2_at l D cy ad hI ρ' x i k (by first | assumption | omega) (by first | assumption | omega)) (cwV 1 hts gX2_scale_X2_at rfl rfl rfl (by decide +kernel) ⟨Nat.le_of_ble_eq_true rfl, Nat.le_of_ble_eq_true rfl⟩) hK hP hS (fun _ h => h) (q0 := 2 * i) (ci := 2) rfl (by omega) (cW_row (i := i) (by omega)) rfl rfl rfl hl.1 rfl (Nat.le_of_ble_eq_true rfl) dX2_scale_14 ⟨Nat.zero_le _, Nat.zero_le _⟩ (fun H locs hP hS => ?_)
        have hP : va_P D vwCl (wL 143 ad (cW ad cy (ρ') (x))) H := hP
        refine n_push (a := (ρ i).2 k) (by rw [e1]; exact congrArg nI (scl_k _ _ _)) ?_
        refine lv_iload_n hx hb dX2_scale_17 rfl (lv_at hl 2 rfl) ?_
        refine n_imul hx hb dX2_scale_18 ?_
        refine k_callVv (rest := []) (nL := 3) ⟨hx, hb, hml, hown, hts⟩ (c_X2_write l D cy ad hI ρ' x i k (nI (((ρ i).2 k) * f)) (by first | assumption | omega) (by first | assumption | omega)) (cwV 2 hts gX2_scale_X2_write rfl rfl rfl (by decide +kernel) ⟨Nat.le_of_ble_eq_true rfl, Nat.le_of_ble_eq_true rfl⟩) hK hP hS (fun _ h => h) (q0 := 2 * i) (ci := 2) rfl (by omega) (cW_row (i := i) (by omega)) rfl rfl rfl hl.1 rfl (Nat.le_of_ble_eq_true rfl) dX2_scale_19 ⟨Nat.zero_le _, Nat.zero_le _⟩ (fun H locs hP hS => ?_)
        have hP : va_P D vwCl (wL 143 ad (cW ad cy (va_up ρ' i ((ρ' i).1, va_up (ρ' i).2 k (kmod (nI (((ρ i).2 k) * f)).toInt))) (x))) H := hP
        refine lv_iinc (v := nI (k + 1)) (lv' := [(2, .int (nI (k + 1))), (0, .ref (ad (2 * i))), (1, .int (nI (f)))]) hx hb dX2_scale_22 hl (k := 0) rfl (nI_inc _) (by decide) rfl (fun ls hl => ?_)
        refine lv_goto (tgt := 2) hx hb dX2_scale_25 (by decide) ?_
        exact ih2 (k + 1) (va_up ρ' i ((ρ' i).1, va_up (ρ' i).2 k (kmod (nI (((ρ i).2 k) * f)).toInt))) (by first | assumption | omega) (by rw [e1, kmod_nI (by omega), hρ, up_up, scl_s]) (by omega) _ _ hP hS _ hl
  exact lp2 (_ + 1) (0) (ρ) (Nat.zero_le _) (by rw [scl_0, up_same]) (Nat.lt_succ_self _) _ _ hP hS _ hl
set_option maxHeartbeats 4000000 in
set_option maxRecDepth 100000 in
theorem c_X2_degree (l : Launch) (D : va_G) (cy : Nat → ClassId) (ad : Nat → Nat) (hI : wI 143 ad) (ρ : Nat → kR) (x : kX) (i : Nat) (hi : i < 59) (hlen : (ρ i).1 ≤ 64) (hrb : ∀ k, (ρ i).2 k < 257) : kM l yX2_degree wsX2_degree ({ frames := 1, cells := 0, slots := 0, locals := 21 } : Room) D cy 143 ad (cWf ad cy) (cW ad cy (ρ) (x)) [.ref (ad (2 * i))] (kF (some (.int (dV (dg (ρ i).2 (ρ i).1)))) (ρ, x)) := by
  refine k_met cX2_degree 2 (some .int) (by decide) rfl (Nat.le_of_ble_eq_true rfl) ?_
  intro p e s m below meth c ls hx hb hr hts hown hlocks hml hK hP hS hl
  have hl : lv_has ls 2 [(0, .ref (ad (2 * i)))] := hl
  have hown : s.vm.findClass RX2 = some m.cls := hown
  have hf_15 := hts (.fieldLink RX2 15 "TurnedRows$Row" "length" "I") (by decide +kernel)
  have hw_X2 : ∀ qw ∈ wsX20, qw.before ([.ref (ad (2 * i))] : List Value).toArray s = true := fun qw h => hts qw ((by decide +kernel : ∀ qw ∈ wsX20, qw ∈ wsX2_degree) qw h)
  refine lv_aload_n hx hb dX2_degree_0 rfl (lv_at hl 0 rfl) ?_
  refine k_get (q0 := 2 * i) (k := 1) (T := TX2) (Nf := 2) (ci := 2) (C := RX2) (v := .int (nI ((ρ i).1))) hx hb hw_X2 hown hK hP (by omega) (cW_row (i := i) (by omega)) rfl (by decide) hf_15 rfl rfl dX2_degree_1 ?_
  refine lv_iconst (v := nI (1)) hx hb dX2_degree_4 rfl ?_
  refine lv_isub hx hb dX2_degree_5 ?_
  refine lv_istore_n (lv' := [(1, .int (nI ((ρ i).1) - 1)), (0, .ref (ad (2 * i)))]) hx hb dX2_degree_6 rfl hl (by decide) rfl (fun ls hl => ?_)
  have lp7 : ∀ (fu : Nat) (k : Nat), k ≤ (ρ i).1 → dg (ρ i).2 k = dg (ρ i).2 (ρ i).1 → k < fu → ∀ (H : Heap) (locs : List Loc), va_P D vwCl (wL 143 ad (cW ad cy (ρ) (x))) H → va_S (wA 143 ad) s.heap H locs → ∀ (ls : Array Slot), lv_has ls 2 [(1, .int (nI (k) - 1)), (0, .ref (ad (2 * i)))] → W p l e ({ frames := 1, cells := 0, slots := 0, locals := 21 } : Room) s m ([.ref (ad (2 * i))] : List Value).toArray below meth c H locs 0 0 (MQ below (kQ D 143 ad (cWf ad cy) (kF (some (.int (dV (dg (ρ i).2 (ρ i).1)))) (ρ, x))) ([.ref (ad (2 * i))] : List Value).toArray s 0 0 (wA 143 ad)) (F0 m 7 ls []) := by
    intro fu
    induction fu with
    | zero => intro k hk he hfu; exact absurd hfu (Nat.not_lt_zero _)
    | succ fu ih7 =>
      intro k hk he hfu H locs hP hS ls hl
      refine lv_iload_n hx hb dX2_degree_7 rfl (lv_at hl 0 rfl) ?_
      refine n_down (n := k) (tgt := 27) hx hb (by omega) dX2_degree_8 (by decide) (fun h_1 => ?_) (fun h_1 => ?_)
      · skip
        refine lv_bipush (v := (-6 : Int32)) hx hb dX2_degree_27 (by decide) ?_
        refine k_iret hx hb hr hlocks (ρ, x) hP hS dX2_degree_29 ?_
        exact ⟨congrArg (fun q => some (Value.int q)) (by rw [← he, h_1]; rfl), rfl⟩
      · skip
        obtain ⟨j, rfl⟩ : ∃ j, k = j + 1 := ⟨k - 1, by omega⟩
        rw [nI_pred] at hl
        refine lv_aload_n hx hb dX2_degree_11 rfl (lv_at hl 1 rfl) ?_
        refine lv_iload_n hx hb dX2_degree_12 rfl (lv_at hl 0 rfl) ?_
        refine k_callVr (rest := []) (nL := 2) ⟨hx, hb, hml, hown, hts⟩ (c_X2_at l D cy ad hI ρ x i j (by first | assumption | omega) (by first | assumption | omega)) (cwV 1 hts gX2_degree_X2_at rfl rfl rfl (by decide +kernel) ⟨Nat.le_of_ble_eq_true rfl, Nat.le_of_ble_eq_true rfl⟩) hK hP hS (fun _ h => h) (q0 := 2 * i) (ci := 2) rfl (by omega) (cW_row (i := i) (by omega)) rfl rfl rfl hl.1 rfl (Nat.le_of_ble_eq_true rfl) dX2_degree_13 ⟨Nat.zero_le _, Nat.zero_le _⟩ (fun H locs hP hS => ?_)
        have hP : va_P D vwCl (wL 143 ad (cW ad cy (ρ) (x))) H := hP
        have hbj := hrb j
        refine n_ifeq (tgt := 21) hx hb (by omega) dX2_degree_16 (by decide) (fun h_2 => ?_) (fun h_2 => ?_)
        · skip
          refine lv_iinc (v := nI (j) - 1) (lv' := [(1, .int (nI (j) - 1)), (0, .ref (ad (2 * i)))]) hx hb dX2_degree_21 hl (k := 0) rfl (nI_dec' _) (by decide) rfl (fun ls hl => ?_)
          refine lv_goto (tgt := 7) hx hb dX2_degree_24 (by decide) ?_
          exact ih7 (j) (by omega) (by rw [← he, dg_zero _ h_2]) (by omega) _ _ hP hS _ hl
        · skip
          refine lv_iload_n hx hb dX2_degree_19 rfl (lv_at hl 0 rfl) ?_
          refine k_iret hx hb hr hlocks (ρ, x) hP hS dX2_degree_20 ?_
          exact ⟨congrArg (fun q => some (Value.int q)) (by rw [← he, dg_nz _ h_2]; rfl), rfl⟩
  exact lp7 (_ + 1) ((ρ i).1) (Nat.le_refl _) rfl (Nat.lt_succ_self _) _ _ hP hS _ hl
set_option maxHeartbeats 4000000 in
set_option maxRecDepth 100000 in
theorem c_X2_countNotZero (l : Launch) (D : va_G) (cy : Nat → ClassId) (ad : Nat → Nat) (hI : wI 143 ad) (ρ : Nat → kR) (x : kX) (i : Nat) (hi : i < 59) (hlen : (ρ i).1 ≤ 64) (hrb : ∀ k, (ρ i).2 k < 257) : kM l yX2_countNotZero wsX2_countNotZero ({ frames := 1, cells := 0, slots := 0, locals := 21 } : Room) D cy 143 ad (cWf ad cy) (cW ad cy (ρ) (x)) [.ref (ad (2 * i))] (kF (some (.int (nI (cn (ρ i).2 (ρ i).1)))) (ρ, x)) := by
  refine k_met cX2_countNotZero 3 (some .int) (by decide) rfl (Nat.le_of_ble_eq_true rfl) ?_
  intro p e s m below meth c ls hx hb hr hts hown hlocks hml hK hP hS hl
  have hl : lv_has ls 3 [(0, .ref (ad (2 * i)))] := hl
  have hown : s.vm.findClass RX2 = some m.cls := hown
  have hf_15 := hts (.fieldLink RX2 15 "TurnedRows$Row" "length" "I") (by decide +kernel)
  have hw_X2 : ∀ qw ∈ wsX20, qw.before ([.ref (ad (2 * i))] : List Value).toArray s = true := fun qw h => hts qw ((by decide +kernel : ∀ qw ∈ wsX20, qw ∈ wsX2_countNotZero) qw h)
  refine lv_iconst (v := nI (0)) hx hb dX2_countNotZero_0 rfl ?_
  refine lv_istore_n (lv' := [(1, .int (nI (0))), (0, .ref (ad (2 * i)))]) hx hb dX2_countNotZero_1 rfl hl (by decide) rfl (fun ls hl => ?_)
  refine lv_iconst (v := nI (0)) hx hb dX2_countNotZero_2 rfl ?_
  refine lv_istore_n (lv' := [(2, .int (nI (0))), (1, .int (nI (0))), (0, .ref (ad (2 * i)))]) hx hb dX2_countNotZero_3 rfl hl (by decide) rfl (fun ls hl => ?_)
  have lp4 : ∀ (fu : Nat) (k : Nat) (t : Nat), k ≤ (ρ i).1 → t = cn (ρ i).2 k → (ρ i).1 - k < fu → ∀ (H : Heap) (locs : List Loc), va_P D vwCl (wL 143 ad (cW ad cy (ρ) (x))) H → va_S (wA 143 ad) s.heap H locs → ∀ (ls : Array Slot), lv_has ls 3 [(2, .int (nI (k))), (1, .int (nI (t))), (0, .ref (ad (2 * i)))] → W p l e ({ frames := 1, cells := 0, slots := 0, locals := 21 } : Room) s m ([.ref (ad (2 * i))] : List Value).toArray below meth c H locs 0 0 (MQ below (kQ D 143 ad (cWf ad cy) (kF (some (.int (nI (cn (ρ i).2 (ρ i).1)))) (ρ, x))) ([.ref (ad (2 * i))] : List Value).toArray s 0 0 (wA 143 ad)) (F0 m 4 ls []) := by
    intro fu
    induction fu with
    | zero => intro k t hk he hfu; exact absurd hfu (Nat.not_lt_zero _)
    | succ fu ih4 =>
      intro k t hk he hfu H locs hP hS ls hl
      refine lv_iload_n hx hb dX2_countNotZero_4 rfl (lv_at hl 0 rfl) ?_
      refine lv_aload_n hx hb dX2_countNotZero_5 rfl (lv_at hl 2 rfl) ?_
      refine k_get (q0 := 2 * i) (k := 1) (T := TX2) (Nf := 2) (ci := 2) (C := RX2) (v := .int (nI ((ρ i).1))) hx hb hw_X2 hown hK hP (by omega) (cW_row (i := i) (by omega)) rfl (by decide) hf_15 rfl rfl dX2_countNotZero_6 ?_
      refine n_icmp_ge (tgt := 29) hx hb (by omega) (by omega) dX2_countNotZero_9 (by decide) (fun h_1 => ?_) (fun h_1 => ?_)
      · skip
        refine lv_iload_n hx hb dX2_countNotZero_29 rfl (lv_at hl 1 rfl) ?_
        refine k_iret hx hb hr hlocks (ρ, x) hP hS dX2_countNotZero_30 ?_
        exact ⟨rN (by rw [he, show k = (ρ i).1 by omega]), rfl⟩
      · skip
        refine lv_aload_n hx hb dX2_countNotZero_12 rfl (lv_at hl 2 rfl) ?_
        refine lv_iload_n hx hb dX2_countNotZero_13 rfl (lv_at hl 0 rfl) ?_
        refine k_callVr (rest := []) (nL := 3) ⟨hx, hb, hml, hown, hts⟩ (c_X2_at l D cy ad hI ρ x i k (by first | assumption | omega) (by first | assumption | omega)) (cwV 1 hts gX2_countNotZero_X2_at rfl rfl rfl (by decide +kernel) ⟨Nat.le_of_ble_eq_true rfl, Nat.le_of_ble_eq_true rfl⟩) hK hP hS (fun _ h => h) (q0 := 2 * i) (ci := 2) rfl (by omega) (cW_row (i := i) (by omega)) rfl rfl rfl hl.1 rfl (Nat.le_of_ble_eq_true rfl) dX2_countNotZero_14 ⟨Nat.zero_le _, Nat.zero_le _⟩ (fun H locs hP hS => ?_)
        have hP : va_P D vwCl (wL 143 ad (cW ad cy (ρ) (x))) H := hP
        have hbj := hrb k
        refine n_ifeq (tgt := 23) hx hb (by omega) dX2_countNotZero_17 (by decide) (fun h_2 => ?_) (fun h_2 => ?_)
        · skip
          refine lv_iinc (v := nI (k + 1)) (lv' := [(2, .int (nI (k + 1))), (1, .int (nI (t))), (0, .ref (ad (2 * i)))]) hx hb dX2_countNotZero_23 hl (k := 0) rfl (nI_inc _) (by decide) rfl (fun ls hl => ?_)
          refine lv_goto (tgt := 4) hx hb dX2_countNotZero_26 (by decide) ?_
          exact ih4 (k + 1) (t) (by omega) (by rw [cn_zero _ h_2]; exact he) (by omega) _ _ hP hS _ hl
        · skip
          refine lv_iinc (v := nI (t + 1)) (lv' := [(1, .int (nI (t + 1))), (2, .int (nI (k))), (0, .ref (ad (2 * i)))]) hx hb dX2_countNotZero_20 hl (k := 1) rfl (nI_inc _) (by decide) rfl (fun ls hl => ?_)
          refine lv_iinc (v := nI (k + 1)) (lv' := [(2, .int (nI (k + 1))), (1, .int (nI (t + 1))), (0, .ref (ad (2 * i)))]) hx hb dX2_countNotZero_23 hl (k := 1) rfl (nI_inc _) (by decide) rfl (fun ls hl => ?_)
          refine lv_goto (tgt := 4) hx hb dX2_countNotZero_26 (by decide) ?_
          exact ih4 (k + 1) (t + 1) (by omega) (by rw [cn_nz _ h_2, he]) (by omega) _ _ hP hS _ hl
  exact lp4 (_ + 1) (0) (0) (Nat.zero_le _) rfl (Nat.lt_succ_self _) _ _ hP hS _ hl
set_option maxHeartbeats 4000000 in
set_option maxRecDepth 100000 in
theorem c_X2_total (l : Launch) (D : va_G) (cy : Nat → ClassId) (ad : Nat → Nat) (hI : wI 143 ad) (ρ : Nat → kR) (x : kX) (i : Nat) (hi : i < 59) (hlen : (ρ i).1 ≤ 64) (hrb : ∀ k, (ρ i).2 k < 257) : kM l yX2_total wsX2_total ({ frames := 1, cells := 0, slots := 0, locals := 21 } : Room) D cy 143 ad (cWf ad cy) (cW ad cy (ρ) (x)) [.ref (ad (2 * i))] (kF (some (.int (nI (sm (ρ i).2 (ρ i).1)))) (ρ, x)) := by
  refine k_met cX2_total 3 (some .int) (by decide) rfl (Nat.le_of_ble_eq_true rfl) ?_
  intro p e s m below meth c ls hx hb hr hts hown hlocks hml hK hP hS hl
  have hl : lv_has ls 3 [(0, .ref (ad (2 * i)))] := hl
  have hown : s.vm.findClass RX2 = some m.cls := hown
  have hf_15 := hts (.fieldLink RX2 15 "TurnedRows$Row" "length" "I") (by decide +kernel)
  have hw_X2 : ∀ qw ∈ wsX20, qw.before ([.ref (ad (2 * i))] : List Value).toArray s = true := fun qw h => hts qw ((by decide +kernel : ∀ qw ∈ wsX20, qw ∈ wsX2_total) qw h)
  refine lv_iconst (v := nI (0)) hx hb dX2_total_0 rfl ?_
  refine lv_istore_n (lv' := [(1, .int (nI (0))), (0, .ref (ad (2 * i)))]) hx hb dX2_total_1 rfl hl (by decide) rfl (fun ls hl => ?_)
  refine lv_iconst (v := nI (0)) hx hb dX2_total_2 rfl ?_
  refine lv_istore_n (lv' := [(2, .int (nI (0))), (1, .int (nI (0))), (0, .ref (ad (2 * i)))]) hx hb dX2_total_3 rfl hl (by decide) rfl (fun ls hl => ?_)
  have lp4 : ∀ (fu : Nat) (k : Nat) (t : Nat), k ≤ (ρ i).1 → t = sm (ρ i).2 k → (ρ i).1 - k < fu → ∀ (H : Heap) (locs : List Loc), va_P D vwCl (wL 143 ad (cW ad cy (ρ) (x))) H → va_S (wA 143 ad) s.heap H locs → ∀ (ls : Array Slot), lv_has ls 3 [(2, .int (nI (k))), (1, .int (nI (t))), (0, .ref (ad (2 * i)))] → W p l e ({ frames := 1, cells := 0, slots := 0, locals := 21 } : Room) s m ([.ref (ad (2 * i))] : List Value).toArray below meth c H locs 0 0 (MQ below (kQ D 143 ad (cWf ad cy) (kF (some (.int (nI (sm (ρ i).2 (ρ i).1)))) (ρ, x))) ([.ref (ad (2 * i))] : List Value).toArray s 0 0 (wA 143 ad)) (F0 m 4 ls []) := by
    intro fu
    induction fu with
    | zero => intro k t hk he hfu; exact absurd hfu (Nat.not_lt_zero _)
    | succ fu ih4 =>
      intro k t hk he hfu H locs hP hS ls hl
      refine lv_iload_n hx hb dX2_total_4 rfl (lv_at hl 0 rfl) ?_
      refine lv_aload_n hx hb dX2_total_5 rfl (lv_at hl 2 rfl) ?_
      refine k_get (q0 := 2 * i) (k := 1) (T := TX2) (Nf := 2) (ci := 2) (C := RX2) (v := .int (nI ((ρ i).1))) hx hb hw_X2 hown hK hP (by omega) (cW_row (i := i) (by omega)) rfl (by decide) hf_15 rfl rfl dX2_total_6 ?_
      refine n_icmp_ge (tgt := 26) hx hb (by omega) (by omega) dX2_total_9 (by decide) (fun h_1 => ?_) (fun h_1 => ?_)
      · skip
        refine lv_iload_n hx hb dX2_total_26 rfl (lv_at hl 1 rfl) ?_
        refine k_iret hx hb hr hlocks (ρ, x) hP hS dX2_total_27 ?_
        exact ⟨rN (by rw [he, show k = (ρ i).1 by omega]), rfl⟩
      · skip
        refine lv_iload_n hx hb dX2_total_12 rfl (lv_at hl 1 rfl) ?_
        refine lv_aload_n hx hb dX2_total_13 rfl (lv_at hl 2 rfl) ?_
        refine lv_iload_n hx hb dX2_total_14 rfl (lv_at hl 0 rfl) ?_
        refine k_callVr (rest := [.int (nI (t))]) (nL := 3) ⟨hx, hb, hml, hown, hts⟩ (c_X2_at l D cy ad hI ρ x i k (by first | assumption | omega) (by first | assumption | omega)) (cwV 1 hts gX2_total_X2_at rfl rfl rfl (by decide +kernel) ⟨Nat.le_of_ble_eq_true rfl, Nat.le_of_ble_eq_true rfl⟩) hK hP hS (fun _ h => h) (q0 := 2 * i) (ci := 2) rfl (by omega) (cW_row (i := i) (by omega)) rfl rfl rfl hl.1 rfl (Nat.le_of_ble_eq_true rfl) dX2_total_15 ⟨Nat.zero_le _, Nat.zero_le _⟩ (fun H locs hP hS => ?_)
        have hP : va_P D vwCl (wL 143 ad (cW ad cy (ρ) (x))) H := hP
        refine n_iadd hx hb dX2_total_18 ?_
        refine lv_istore_n (lv' := [(1, .int (nI (t + ((ρ i).2 k)))), (2, .int (nI (k))), (0, .ref (ad (2 * i)))]) hx hb dX2_total_19 rfl hl (by decide) rfl (fun ls hl => ?_)
        refine lv_iinc (v := nI (k + 1)) (lv' := [(2, .int (nI (k + 1))), (1, .int (nI (t + ((ρ i).2 k)))), (0, .ref (ad (2 * i)))]) hx hb dX2_total_20 hl (k := 1) rfl (nI_inc _) (by decide) rfl (fun ls hl => ?_)
        refine lv_goto (tgt := 4) hx hb dX2_total_23 (by decide) ?_
        exact ih4 (k + 1) (t + (ρ i).2 k) (by omega) (by rw [he]; rfl) (by omega) _ _ hP hS _ hl
  exact lp4 (_ + 1) (0) (0) (Nat.zero_le _) rfl (Nat.lt_succ_self _) _ _ hP hS _ hl
set_option maxHeartbeats 4000000 in
set_option maxRecDepth 100000 in
theorem c_X2_valueAt (l : Launch) (D : va_G) (cy : Nat → ClassId) (ad : Nat → Nat) (hI : wI 143 ad) (ρ : Nat → kR) (x : kX) (i : Nat) (z : Nat) (hi : i < 59) (hlen : (ρ i).1 ≤ 64) (hrb : ∀ k, (ρ i).2 k < 257) (hz : z < 257) : kM l yX2_valueAt wsX2_valueAt ({ frames := 1, cells := 0, slots := 0, locals := 21 } : Room) D cy 143 ad (cWf ad cy) (cW ad cy (ρ) (x)) [.ref (ad (2 * i)), .int (nI (z))] (kF (some (.int (nI (vx (ρ i) z)))) (ρ, x)) := by
  refine k_met cX2_valueAt 4 (some .int) (by decide) rfl (Nat.le_of_ble_eq_true rfl) ?_
  intro p e s m below meth c ls hx hb hr hts hown hlocks hml hK hP hS hl
  have hl : lv_has ls 4 [(0, .ref (ad (2 * i))), (1, .int (nI (z)))] := hl
  have hown : s.vm.findClass RX2 = some m.cls := hown
  have hf_15 := hts (.fieldLink RX2 15 "TurnedRows$Row" "length" "I") (by decide +kernel)
  have hw_X2 : ∀ qw ∈ wsX20, qw.before ([.ref (ad (2 * i)), .int (nI (z))] : List Value).toArray s = true := fun qw h => hts qw ((by decide +kernel : ∀ qw ∈ wsX20, qw ∈ wsX2_valueAt) qw h)
  refine lv_iconst (v := nI (0)) hx hb dX2_valueAt_0 rfl ?_
  refine lv_istore_n (lv' := [(2, .int (nI (0))), (0, .ref (ad (2 * i))), (1, .int (nI (z)))]) hx hb dX2_valueAt_1 rfl hl (by decide) rfl (fun ls hl => ?_)
  refine lv_aload_n hx hb dX2_valueAt_2 rfl (lv_at hl 1 rfl) ?_
  refine k_get (q0 := 2 * i) (k := 1) (T := TX2) (Nf := 2) (ci := 2) (C := RX2) (v := .int (nI ((ρ i).1))) hx hb hw_X2 hown hK hP (by omega) (cW_row (i := i) (by omega)) rfl (by decide) hf_15 rfl rfl dX2_valueAt_3 ?_
  refine lv_iconst (v := nI (1)) hx hb dX2_valueAt_6 rfl ?_
  refine lv_isub hx hb dX2_valueAt_7 ?_
  refine lv_istore_n (lv' := [(3, .int (nI ((ρ i).1) - 1)), (2, .int (nI (0))), (0, .ref (ad (2 * i))), (1, .int (nI (z)))]) hx hb dX2_valueAt_8 rfl hl (by decide) rfl (fun ls hl => ?_)
  have lp9 : ∀ (fu : Nat) (k : Nat) (t : Nat), k ≤ (ρ i).1 → t < 257 → hn (ρ i).2 z k t = vx (ρ i) z → k < fu → ∀ (H : Heap) (locs : List Loc), va_P D vwCl (wL 143 ad (cW ad cy (ρ) (x))) H → va_S (wA 143 ad) s.heap H locs → ∀ (ls : Array Slot), lv_has ls 4 [(3, .int (nI (k) - 1)), (2, .int (nI (t))), (0, .ref (ad (2 * i))), (1, .int (nI (z)))] → W p l e ({ frames := 1, cells := 0, slots := 0, locals := 21 } : Room) s m ([.ref (ad (2 * i)), .int (nI (z))] : List Value).toArray below meth c H locs 0 0 (MQ below (kQ D 143 ad (cWf ad cy) (kF (some (.int (nI (vx (ρ i) z)))) (ρ, x))) ([.ref (ad (2 * i)), .int (nI (z))] : List Value).toArray s 0 0 (wA 143 ad)) (F0 m 9 ls []) := by
    intro fu
    induction fu with
    | zero => intro k t hk ht he hfu; exact absurd hfu (Nat.not_lt_zero _)
    | succ fu ih9 =>
      intro k t hk ht he hfu H locs hP hS ls hl
      refine lv_iload_n hx hb dX2_valueAt_9 rfl (lv_at hl 0 rfl) ?_
      refine n_down (n := k) (tgt := 33) hx hb (by omega) dX2_valueAt_10 (by decide) (fun h_1 => ?_) (fun h_1 => ?_)
      · skip
        refine lv_iload_n hx hb dX2_valueAt_33 rfl (lv_at hl 1 rfl) ?_
        refine k_iret hx hb hr hlocks (ρ, x) hP hS dX2_valueAt_34 ?_
        exact ⟨rN (by rw [← he, h_1]; rfl), rfl⟩
      · skip
        obtain ⟨j, rfl⟩ : ∃ j, k = j + 1 := ⟨k - 1, by omega⟩
        rw [nI_pred] at hl
        refine lv_iload_n hx hb dX2_valueAt_13 rfl (lv_at hl 1 rfl) ?_
        refine lv_iload_n hx hb dX2_valueAt_14 rfl (lv_at hl 3 rfl) ?_
        refine n_imul hx hb dX2_valueAt_15 ?_
        refine lv_aload_n hx hb dX2_valueAt_16 rfl (lv_at hl 2 rfl) ?_
        refine lv_iload_n hx hb dX2_valueAt_17 rfl (lv_at hl 0 rfl) ?_
        refine k_callVr (rest := [.int (nI (t * z))]) (nL := 4) ⟨hx, hb, hml, hown, hts⟩ (c_X2_at l D cy ad hI ρ x i j (by first | assumption | omega) (by first | assumption | omega)) (cwV 1 hts gX2_valueAt_X2_at rfl rfl rfl (by decide +kernel) ⟨Nat.le_of_ble_eq_true rfl, Nat.le_of_ble_eq_true rfl⟩) hK hP hS (fun _ h => h) (q0 := 2 * i) (ci := 2) rfl (by omega) (cW_row (i := i) (by omega)) rfl rfl rfl hl.1 rfl (Nat.le_of_ble_eq_true rfl) dX2_valueAt_18 ⟨Nat.zero_le _, Nat.zero_le _⟩ (fun H locs hP hS => ?_)
        have hP : va_P D vwCl (wL 143 ad (cW ad cy (ρ) (x))) H := hP
        refine n_iadd hx hb dX2_valueAt_21 ?_
        refine lv_sipush (v := nI (257)) hx hb dX2_valueAt_22 rfl ?_
        have hbj := hrb j
        have hm := mul_lt_257 ht hz
        refine n_irem hx hb (by omega) (by omega) (by omega) dX2_valueAt_25  ?_
        refine lv_istore_n (lv' := [(2, .int (nI (((t * z) + ((ρ i).2 j)) % 257))), (3, .int (nI (j))), (0, .ref (ad (2 * i))), (1, .int (nI (z)))]) hx hb dX2_valueAt_26 rfl hl (by decide) rfl (fun ls hl => ?_)
        refine lv_iinc (v := nI (j) - 1) (lv' := [(3, .int (nI (j) - 1)), (2, .int (nI (((t * z) + ((ρ i).2 j)) % 257))), (0, .ref (ad (2 * i))), (1, .int (nI (z)))]) hx hb dX2_valueAt_27 hl (k := 1) rfl (nI_dec' _) (by decide) rfl (fun ls hl => ?_)
        refine lv_goto (tgt := 9) hx hb dX2_valueAt_30 (by decide) ?_
        exact ih9 (j) ((t * z + (ρ i).2 j) % 257) (by omega) (Nat.mod_lt _ (by decide)) he (by omega) _ _ hP hS _ hl
  exact lp9 (_ + 1) ((ρ i).1) (0) (Nat.le_refl _) (by decide) rfl (Nat.lt_succ_self _) _ _ hP hS _ hl
set_option maxHeartbeats 4000000 in
set_option maxRecDepth 100000 in
theorem c_X2_countRoots (l : Launch) (D : va_G) (cy : Nat → ClassId) (ad : Nat → Nat) (hI : wI 143 ad) (ρ : Nat → kR) (x : kX) (i : Nat) (hi : i < 59) (hlen : (ρ i).1 ≤ 64) (hrb : ∀ k, (ρ i).2 k < 257) : kM l yX2_countRoots wsX2_countRoots ({ frames := 2, cells := 0, slots := 0, locals := 44 } : Room) D cy 143 ad (cWf ad cy) (cW ad cy (ρ) (x)) [.ref (ad (2 * i))] (kF (some (.int (nI (cq (vx (ρ i)) 257)))) (ρ, x)) := by
  refine k_met cX2_countRoots 3 (some .int) (by decide) rfl (Nat.le_of_ble_eq_true rfl) ?_
  intro p e s m below meth c ls hx hb hr hts hown hlocks hml hK hP hS hl
  have hl : lv_has ls 3 [(0, .ref (ad (2 * i)))] := hl
  have hown : s.vm.findClass RX2 = some m.cls := hown
  refine lv_iconst (v := nI (0)) hx hb dX2_countRoots_0 rfl ?_
  refine lv_istore_n (lv' := [(1, .int (nI (0))), (0, .ref (ad (2 * i)))]) hx hb dX2_countRoots_1 rfl hl (by decide) rfl (fun ls hl => ?_)
  refine lv_iconst (v := nI (0)) hx hb dX2_countRoots_2 rfl ?_
  refine lv_istore_n (lv' := [(2, .int (nI (0))), (1, .int (nI (0))), (0, .ref (ad (2 * i)))]) hx hb dX2_countRoots_3 rfl hl (by decide) rfl (fun ls hl => ?_)
  have lp4 : ∀ (fu : Nat) (k : Nat) (t : Nat), k ≤ 257 → t = cq (vx (ρ i)) k → 257 - k < fu → ∀ (H : Heap) (locs : List Loc), va_P D vwCl (wL 143 ad (cW ad cy (ρ) (x))) H → va_S (wA 143 ad) s.heap H locs → ∀ (ls : Array Slot), lv_has ls 3 [(2, .int (nI (k))), (1, .int (nI (t))), (0, .ref (ad (2 * i)))] → W p l e ({ frames := 2, cells := 0, slots := 0, locals := 44 } : Room) s m ([.ref (ad (2 * i))] : List Value).toArray below meth c H locs 0 0 (MQ below (kQ D 143 ad (cWf ad cy) (kF (some (.int (nI (cq (vx (ρ i)) 257)))) (ρ, x))) ([.ref (ad (2 * i))] : List Value).toArray s 0 0 (wA 143 ad)) (F0 m 4 ls []) := by
    intro fu
    induction fu with
    | zero => intro k t hk he hfu; exact absurd hfu (Nat.not_lt_zero _)
    | succ fu ih4 =>
      intro k t hk he hfu H locs hP hS ls hl
      refine lv_iload_n hx hb dX2_countRoots_4 rfl (lv_at hl 0 rfl) ?_
      refine lv_sipush (v := nI (257)) hx hb dX2_countRoots_5 rfl ?_
      refine n_icmp_ge (tgt := 28) hx hb (by omega) (by omega) dX2_countRoots_8 (by decide) (fun h_1 => ?_) (fun h_1 => ?_)
      · skip
        refine lv_iload_n hx hb dX2_countRoots_28 rfl (lv_at hl 1 rfl) ?_
        refine k_iret hx hb hr hlocks (ρ, x) hP hS dX2_countRoots_29 ?_
        exact ⟨rN (by rw [he, show k = 257 by omega]), rfl⟩
      · skip
        refine lv_aload_n hx hb dX2_countRoots_11 rfl (lv_at hl 2 rfl) ?_
        refine lv_iload_n hx hb dX2_countRoots_12 rfl (lv_at hl 0 rfl) ?_
        refine k_callVr (rest := []) (nL := 3) ⟨hx, hb, hml, hown, hts⟩ (c_X2_valueAt l D cy ad hI ρ x i k (by first | assumption | omega) (by first | assumption | omega) (by first | assumption | omega) (by first | assumption | omega)) (cwV 1 hts gX2_countRoots_X2_valueAt rfl rfl rfl (by decide +kernel) ⟨Nat.le_of_ble_eq_true rfl, Nat.le_of_ble_eq_true rfl⟩) hK hP hS (fun _ h => h) (q0 := 2 * i) (ci := 2) rfl (by omega) (cW_row (i := i) (by omega)) rfl rfl rfl hl.1 rfl (Nat.le_of_ble_eq_true rfl) dX2_countRoots_13 ⟨Nat.zero_le _, Nat.zero_le _⟩ (fun H locs hP hS => ?_)
        have hP : va_P D vwCl (wL 143 ad (cW ad cy (ρ) (x))) H := hP
        have hv := vx_lt (ρ i) k
        refine n_ifne (tgt := 22) hx hb (by omega) dX2_countRoots_16 (by decide) (fun h_2 => ?_) (fun h_2 => ?_)
        · skip
          refine lv_iinc (v := nI (k + 1)) (lv' := [(2, .int (nI (k + 1))), (1, .int (nI (t))), (0, .ref (ad (2 * i)))]) hx hb dX2_countRoots_22 hl (k := 0) rfl (nI_inc _) (by decide) rfl (fun ls hl => ?_)
          refine lv_goto (tgt := 4) hx hb dX2_countRoots_25 (by decide) ?_
          exact ih4 (k + 1) (t) (by omega) (by rw [cq_nz _ h_2]; exact he) (by omega) _ _ hP hS _ hl
        · skip
          refine lv_iinc (v := nI (t + 1)) (lv' := [(1, .int (nI (t + 1))), (2, .int (nI (k))), (0, .ref (ad (2 * i)))]) hx hb dX2_countRoots_19 hl (k := 1) rfl (nI_inc _) (by decide) rfl (fun ls hl => ?_)
          refine lv_iinc (v := nI (k + 1)) (lv' := [(2, .int (nI (k + 1))), (1, .int (nI (t + 1))), (0, .ref (ad (2 * i)))]) hx hb dX2_countRoots_22 hl (k := 1) rfl (nI_inc _) (by decide) rfl (fun ls hl => ?_)
          refine lv_goto (tgt := 4) hx hb dX2_countRoots_25 (by decide) ?_
          exact ih4 (k + 1) (t + 1) (by omega) (by rw [cq_zero _ h_2, he]) (by omega) _ _ hP hS _ hl
  exact lp4 (_ + 1) (0) (0) (by omega) rfl (Nat.lt_succ_self _) _ _ hP hS _ hl
set_option maxHeartbeats 4000000 in
set_option maxRecDepth 100000 in
theorem c_X2_leastRoot (l : Launch) (D : va_G) (cy : Nat → ClassId) (ad : Nat → Nat) (hI : wI 143 ad) (ρ : Nat → kR) (x : kX) (i : Nat) (hi : i < 59) (hlen : (ρ i).1 ≤ 64) (hrb : ∀ k, (ρ i).2 k < 257) : kM l yX2_leastRoot wsX2_leastRoot ({ frames := 2, cells := 0, slots := 0, locals := 44 } : Room) D cy 143 ad (cWf ad cy) (cW ad cy (ρ) (x)) [.ref (ad (2 * i))] (kF (some (.int (fz (vx (ρ i)) 0 257))) (ρ, x)) := by
  refine k_met cX2_leastRoot 2 (some .int) (by decide) rfl (Nat.le_of_ble_eq_true rfl) ?_
  intro p e s m below meth c ls hx hb hr hts hown hlocks hml hK hP hS hl
  have hl : lv_has ls 2 [(0, .ref (ad (2 * i)))] := hl
  have hown : s.vm.findClass RX2 = some m.cls := hown
  refine lv_iconst (v := nI (0)) hx hb dX2_leastRoot_0 rfl ?_
  refine lv_istore_n (lv' := [(1, .int (nI (0))), (0, .ref (ad (2 * i)))]) hx hb dX2_leastRoot_1 rfl hl (by decide) rfl (fun ls hl => ?_)
  have lp2 : ∀ (fu : Nat) (k : Nat), k ≤ 257 → fz (vx (ρ i)) k (257 - k) = fz (vx (ρ i)) 0 257 → 257 - k < fu → ∀ (H : Heap) (locs : List Loc), va_P D vwCl (wL 143 ad (cW ad cy (ρ) (x))) H → va_S (wA 143 ad) s.heap H locs → ∀ (ls : Array Slot), lv_has ls 2 [(1, .int (nI (k))), (0, .ref (ad (2 * i)))] → W p l e ({ frames := 2, cells := 0, slots := 0, locals := 44 } : Room) s m ([.ref (ad (2 * i))] : List Value).toArray below meth c H locs 0 0 (MQ below (kQ D 143 ad (cWf ad cy) (kF (some (.int (fz (vx (ρ i)) 0 257))) (ρ, x))) ([.ref (ad (2 * i))] : List Value).toArray s 0 0 (wA 143 ad)) (F0 m 2 ls []) := by
    intro fu
    induction fu with
    | zero => intro k hk he hfu; exact absurd hfu (Nat.not_lt_zero _)
    | succ fu ih2 =>
      intro k hk he hfu H locs hP hS ls hl
      refine lv_iload_n hx hb dX2_leastRoot_2 rfl (lv_at hl 0 rfl) ?_
      refine lv_sipush (v := nI (257)) hx hb dX2_leastRoot_3 rfl ?_
      refine n_icmp_ge (tgt := 25) hx hb (by omega) (by omega) dX2_leastRoot_6 (by decide) (fun h_1 => ?_) (fun h_1 => ?_)
      · skip
        refine lv_bipush (v := (-6 : Int32)) hx hb dX2_leastRoot_25 (by decide) ?_
        refine k_iret hx hb hr hlocks (ρ, x) hP hS dX2_leastRoot_27 ?_
        exact ⟨congrArg (fun q => some (Value.int q)) (by rw [← he, show k = 257 by omega]; rfl), rfl⟩
      · skip
        refine lv_aload_n hx hb dX2_leastRoot_9 rfl (lv_at hl 1 rfl) ?_
        refine lv_iload_n hx hb dX2_leastRoot_10 rfl (lv_at hl 0 rfl) ?_
        refine k_callVr (rest := []) (nL := 2) ⟨hx, hb, hml, hown, hts⟩ (c_X2_valueAt l D cy ad hI ρ x i k (by first | assumption | omega) (by first | assumption | omega) (by first | assumption | omega) (by first | assumption | omega)) (cwV 1 hts gX2_leastRoot_X2_valueAt rfl rfl rfl (by decide +kernel) ⟨Nat.le_of_ble_eq_true rfl, Nat.le_of_ble_eq_true rfl⟩) hK hP hS (fun _ h => h) (q0 := 2 * i) (ci := 2) rfl (by omega) (cW_row (i := i) (by omega)) rfl rfl rfl hl.1 rfl (Nat.le_of_ble_eq_true rfl) dX2_leastRoot_11 ⟨Nat.zero_le _, Nat.zero_le _⟩ (fun H locs hP hS => ?_)
        have hP : va_P D vwCl (wL 143 ad (cW ad cy (ρ) (x))) H := hP
        have hv := vx_lt (ρ i) k
        refine n_ifne (tgt := 19) hx hb (by omega) dX2_leastRoot_14 (by decide) (fun h_2 => ?_) (fun h_2 => ?_)
        · skip
          refine lv_iinc (v := nI (k + 1)) (lv' := [(1, .int (nI (k + 1))), (0, .ref (ad (2 * i)))]) hx hb dX2_leastRoot_19 hl (k := 0) rfl (nI_inc _) (by decide) rfl (fun ls hl => ?_)
          refine lv_goto (tgt := 2) hx hb dX2_leastRoot_22 (by decide) ?_
          exact ih2 (k + 1) (by omega) (by rw [← he, show 257 - k = (257 - (k + 1)) + 1 by omega, fz_miss _ _ _ h_2]) (by omega) _ _ hP hS _ hl
        · skip
          refine lv_iload_n hx hb dX2_leastRoot_17 rfl (lv_at hl 0 rfl) ?_
          refine k_iret hx hb hr hlocks (ρ, x) hP hS dX2_leastRoot_18 ?_
          exact ⟨congrArg (fun q => some (Value.int q)) (by rw [← he, show 257 - k = (257 - (k + 1)) + 1 by omega, fz_hit _ _ _ h_2]), rfl⟩
  exact lp2 (_ + 1) (0) (by omega) rfl (Nat.lt_succ_self _) _ _ hP hS _ hl
end
section
section KR5
variable {p : Program} {l : Launch} {e : Env} {R : Room} {s : State} {m : MethodId} {args : Array Value} {below : List Frame} {meth : Method} {c : Code} {H : Heap} {locs : List Loc} {cells slots : Nat} {Q : State → Prop}
variable {cc : ByteArray} {pc : Nat} {ls : Array Slot} {rest st0 : List Value}
theorem r_same {a : Nat} (kk : W p l e R s m args below meth c H locs cells slots Q (F0 m pc ls (.ref a :: rest))) : W p l e R s m args below meth c H locs cells slots Q (F0 m pc ls (va_rf (some a) :: rest)) := kk
/-- an int that is a boolean -/
def kB (b : Bool) : Int32 := if b = true then 1 else 0
theorem kB_t : kB true = 1 := rfl
theorem kB_f : kB false = 0 := rfl
theorem b_ifeq (hx : p.tables.exec = Jvm.exec) (hb : c.code = cc) {b : Bool} {off : Int} {tgt : Nat} (hdg : decode cc pc = .ok (.ifCond .eq off, 3)) (ht : (pc : Int) + off = (tgt : Int)) (kt : b = false → W p l e R s m args below meth c H locs cells slots Q (F0 m tgt ls rest)) (kf : b = true → W p l e R s m args below meth c H locs cells slots Q (F0 m (pc + 3) ls rest)) : W p l e R s m args below meth c H locs cells slots Q (F0 m pc ls (.int (kB b) :: rest)) :=
  lv_if_eq hx hb hdg ht (fun h => kt (by cases b; rfl; exact absurd h (by decide))) (fun h => kf (by cases b; exact absurd (by decide) h; rfl))
theorem b_ifne (hx : p.tables.exec = Jvm.exec) (hb : c.code = cc) {b : Bool} {off : Int} {tgt : Nat} (hdg : decode cc pc = .ok (.ifCond .ne off, 3)) (ht : (pc : Int) + off = (tgt : Int)) (kt : b = true → W p l e R s m args below meth c H locs cells slots Q (F0 m tgt ls rest)) (kf : b = false → W p l e R s m args below meth c H locs cells slots Q (F0 m (pc + 3) ls rest)) : W p l e R s m args below meth c H locs cells slots Q (F0 m pc ls (.int (kB b) :: rest)) :=
  lv_if_ne hx hb hdg ht (fun h => kt (by cases b; exact absurd (by decide) h; rfl)) (fun h => kf (by cases b; rfl; exact absurd h (by decide)))
end KR5
/-- the places t's first k rows are u's -/
def cpS (ρ : Nat → kR) (t u k : Nat) : Nat → kR := fun i => if 6 * t ≤ i ∧ i < 6 * t + k then ρ (6 * u + (i - 6 * t)) else ρ i
theorem cpS_0 (ρ : Nat → kR) (t u : Nat) : cpS ρ t u 0 = ρ := by
  funext i; unfold cpS; rw [if_neg (by omega)]
theorem cpS_src {ρ : Nat → kR} {t u k j : Nat} (h : u ≠ t) (hk : k ≤ 6) (hj : j < 6) : cpS ρ t u k (6 * u + j) = ρ (6 * u + j) := by
  unfold cpS; rw [if_neg (by omega)]
theorem cpS_s {ρ : Nat → kR} {t u k : Nat} (h : u ≠ t) (hk : k < 6) : va_up (cpS ρ t u k) (6 * t + k) (cpS ρ t u k (6 * u + k)) = cpS ρ t u (k + 1) := by
  rw [cpS_src h (by omega) hk]
  funext i
  by_cases q : i = 6 * t + k
  · subst q
    rw [va_up_self]
    unfold cpS
    rw [if_pos (by omega)]
    congr 1
    omega
  · rw [va_up_ne _ _ q]
    unfold cpS
    by_cases r : 6 * t ≤ i ∧ i < 6 * t + k
    · rw [if_pos r, if_pos (by omega)]
    · rw [if_neg r, if_neg (by omega)]
/-- the history's places, moved down by one below k -/
def rot (f : Nat → Nat) (k : Nat) : Nat → Nat := fun j => if j + 1 < k then f (j + 1) else f j
theorem rot_1 (f : Nat → Nat) : rot f 1 = f := by funext j; unfold rot; rw [if_neg (by omega)]
theorem rot_k (f : Nat → Nat) (k : Nat) : rot f k k = f k := by unfold rot; rw [if_neg (by omega)]
theorem rot_s (f : Nat → Nat) {k : Nat} (h : 1 ≤ k) : va_up (rot f k) (k - 1) (f k) = rot f (k + 1) := by
  funext j
  by_cases q : j = k - 1
  · subst q
    rw [va_up_self]; unfold rot; rw [if_pos (by omega)]; congr 1; omega
  · rw [va_up_ne _ _ q]
    unfold rot
    by_cases r : j + 1 < k
    · rw [if_pos r, if_pos (by omega)]
    · rw [if_neg r, if_neg (by omega)]
def rotF (f : Nat → Nat) : Nat → Nat := va_up (rot f 6) 5 (f 0)
/-- where the next state goes -/
def khl (x : kX) : Nat := if x.1 < 6 then x.1 else 5
def kpm (x : kX) : Nat → Nat := if x.1 < 6 then x.2.1 else rotF x.2.1
/-- the state of the rows, recorded -/
def keepR (ρ : Nat → kR) (x : kX) : Nat → kR := cpS ρ (kpm x (khl x)) 0 6
def keepX (x : kX) : kX := (khl x + 1, kpm x, x.2.2)
def ln6 (ρ : Nat → kR) (t : Nat) : Nat := sm (fun j => (ρ (6 * t + j)).1) 6
theorem sm_le64 (f : Nat → Nat) (n : Nat) (h : ∀ k, k < n → f k ≤ 64) : sm f n ≤ 64 * n := by
  induction n with
  | zero => exact Nat.le_refl _
  | succ n ih => unfold sm; have := h n (by omega); have := ih (fun k hk => h k (by omega)); omega
/-- the powers -/
def pw (a n : Nat) : Nat := a ^ n % 257
theorem pw_0 (a : Nat) : pw a 0 = 1 := by unfold pw; rw [Nat.pow_zero]
theorem pw_s (a n : Nat) : pw a (n + 1) = pw a n * a % 257 := by
  unfold pw
  rw [Nat.pow_succ, Nat.mod_mul_mod]
theorem pw_lt (a n : Nat) : pw a n < 257 := Nat.mod_lt _ (by decide)
theorem pw_1 {a : Nat} (h : a < 257) : pw a 1 = a := by rw [pw_s, pw_0, Nat.one_mul, Nat.mod_eq_of_lt h]
theorem pw_mod (a n : Nat) : pw (a % 257) n = pw a n := by
  unfold pw; rw [← Nat.pow_mod]
theorem rs_odd {r q n : Nat} (h : n % 2 = 1) : r * q % 257 * (q * q % 257) ^ (n / 2) % 257 = r * q ^ n % 257 := by
  have e : n = 2 * (n / 2) + 1 := by omega
  rw [Nat.mul_mod, ← Nat.pow_mod, Nat.mod_mod, ← Nat.mul_mod, ← Nat.pow_two, ← Nat.pow_mul, Nat.mul_assoc, ← Nat.pow_succ', Nat.succ_eq_add_one, ← e]
theorem rs_even {r q n : Nat} (h : ¬ n % 2 = 1) : r * (q * q % 257) ^ (n / 2) % 257 = r * q ^ n % 257 := by
  have e : n = 2 * (n / 2) := by omega
  rw [Nat.mul_mod, ← Nat.pow_mod, ← Nat.mul_mod, ← Nat.pow_two, ← Nat.pow_mul, ← e]
theorem nI_and1 {n : Nat} (h : n < 2 ^ 31) : nI n &&& nI 1 = nI (n % 2) := pk_andN (by omega) 1 (by decide)
theorem nI_shr1 {n : Nat} (h : n < 2 ^ 31) : nI n >>> (nI 1 &&& 31) = nI (n / 2) := pk_shrN h _ 1 (by decide)
/-- the sizes -/
def isZ (r : Int32) : Bool := decide (r = 1) || decide (r = 2) || decide (r = 4) || decide (r = 8) || decide (r = 16) || decide (r = 32) || decide (r = 64)
/-- the turning point of a size -/
def tpt (k : Nat) : Nat := pw 3 (256 / k)
theorem tpt_lt (k : Nat) : tpt k < 257 := pw_lt _ _
theorem isZ_and : ∀ k, k < 65 → 1 ≤ k → (isZ (nI k) = decide (nI k &&& (nI k - 1) = 0)) := by decide +kernel
theorem isZ_lo {r : Int32} (h : r < nI 1) : isZ r = false := by
  have h0 : ∀ q : Int32, nI 1 ≤ q → r ≠ q := fun q hq e => by
    rw [e] at h
    exact absurd h (Int32.not_lt.mpr hq)
  unfold isZ
  simp only [Bool.or_eq_false_iff, decide_eq_false_iff_not]
  exact ⟨⟨⟨⟨⟨⟨h0 1 (by decide), h0 2 (by decide)⟩, h0 4 (by decide)⟩, h0 8 (by decide)⟩, h0 16 (by decide)⟩, h0 32 (by decide)⟩, h0 64 (by decide)⟩
theorem isZ_hi {r : Int32} (h : nI 64 < r) : isZ r = false := by
  have h0 : ∀ q : Int32, q ≤ nI 64 → r ≠ q := fun q hq e => by
    rw [e] at h
    exact absurd h (Int32.not_lt.mpr hq)
  unfold isZ
  simp only [Bool.or_eq_false_iff, decide_eq_false_iff_not]
  exact ⟨⟨⟨⟨⟨⟨h0 1 (by decide), h0 2 (by decide)⟩, h0 4 (by decide)⟩, h0 8 (by decide)⟩, h0 16 (by decide)⟩, h0 32 (by decide)⟩, h0 64 (by decide)⟩
/-- what pointOf answers -/
def ptV (r : Int32) : Int32 := if isZ r = true then nI (tpt r.toNatClampNeg) else -6
end
section
set_option maxHeartbeats 4000000 in
set_option maxRecDepth 100000 in
theorem c_X3_rowOf_ok (l : Launch) (D : va_G) (cy : Nat → ClassId) (ad : Nat → Nat) (hI : wI 143 ad) (ρ : Nat → kR) (x : kX) (j : Nat) (hj : j < 6) : kM l yX3_rowOf wsX3_rowOf ({ frames := 0, cells := 0, slots := 0, locals := 0 } : Room) D cy 143 ad (cWf ad cy) (cW ad cy (ρ) (x)) [.ref (ad (118 + 2 * 0)), .int (nI (j))] (kF (some (.ref (ad (2 * j)))) (ρ, x)) := by
  refine k_met cX3_rowOf 2 (some (.object "TurnedRows$Row")) (by decide) rfl (Nat.le_of_ble_eq_true rfl) ?_
  intro p e s m below meth c ls hx hb hr hts hown hlocks hml hK hP hS hl
  have hl : lv_has ls 2 [(0, .ref (ad (118 + 2 * 0))), (1, .int (nI (j)))] := hl
  have hown : s.vm.findClass RX3 = some m.cls := hown
  have hf_11 := hts (.fieldLink RX3 11 "TurnedRows$State" "rows" "[LTurnedRows$Row;") (by decide +kernel)
  have hw_X3 : ∀ qw ∈ wsX30, qw.before ([.ref (ad (118 + 2 * 0)), .int (nI (j))] : List Value).toArray s = true := fun qw h => hts qw ((by decide +kernel : ∀ qw ∈ wsX30, qw ∈ wsX3_rowOf) qw h)
  refine lv_iload_n hx hb dX3_rowOf_0 rfl (lv_at hl 1 rfl) ?_
  refine n_iflt (tgt := 22) hx hb (by omega) dX3_rowOf_1 (by decide) ?_
  refine lv_iload_n hx hb dX3_rowOf_4 rfl (lv_at hl 1 rfl) ?_
  refine lv_aload_n hx hb dX3_rowOf_5 rfl (lv_at hl 0 rfl) ?_
  refine k_get (q0 := 118 + 2 * 0) (k := 0) (T := TX3) (Nf := 1) (ci := 3) (C := RX3) (v := .ref (ad (118 + 2 * 0 + 1))) hx hb hw_X3 hown hK hP (by omega) (cW_st (t := 0) (by omega)) rfl (by decide) hf_11 rfl rfl dX3_rowOf_6 ?_
  refine k_alen (q0 := 118 + 2 * 0 + 1) hx hb hK hP 3 (by omega) (cW_sr (t := 0) (by omega)) rfl 6 rfl dX3_rowOf_9 ?_
  refine n_icmp_ge (tgt := 22) hx hb (by omega) (by omega) dX3_rowOf_10 (by decide) (fun h_1 => ?_) (fun h_1 => ?_)
  · skip
    exact absurd h_1 (by omega)
  · skip
    refine lv_aload_n hx hb dX3_rowOf_13 rfl (lv_at hl 0 rfl) ?_
    refine k_get (q0 := 118 + 2 * 0) (k := 0) (T := TX3) (Nf := 1) (ci := 3) (C := RX3) (v := .ref (ad (118 + 2 * 0 + 1))) hx hb hw_X3 hown hK hP (by omega) (cW_st (t := 0) (by omega)) rfl (by decide) hf_11 rfl rfl dX3_rowOf_14 ?_
    refine lv_iload_n hx hb dX3_rowOf_17 rfl (lv_at hl 1 rfl) ?_
    refine k_aald (q0 := 118 + 2 * 0 + 1) (j := j) hx hb hK hP (by omega) (cW_sr (t := 0) (by omega)) rfl (by decide) (by omega) dX3_rowOf_18 ?_
    refine r_same ?_
    refine lv_goto (tgt := 23) hx hb dX3_rowOf_19 (by decide) ?_
    refine k_aret hx hb hr hlocks (o := some (ad (2 * (6 * 0 + j)))) (ρ, x) hP hS dX3_rowOf_23 ?_
    exact ⟨by rw [show 6 * 0 + j = j by omega]; rfl, rfl⟩
set_option maxHeartbeats 4000000 in
set_option maxRecDepth 100000 in
theorem c_X3_rowOf_bad (l : Launch) (D : va_G) (cy : Nat → ClassId) (ad : Nat → Nat) (hI : wI 143 ad) (ρ : Nat → kR) (x : kX) (r : Int32) (hr0 : ¬ (0 ≤ r ∧ r < 6)) : kM l yX3_rowOf wsX3_rowOf ({ frames := 0, cells := 0, slots := 0, locals := 0 } : Room) D cy 143 ad (cWf ad cy) (cW ad cy (ρ) (x)) [.ref (ad (118 + 2 * 0)), .int (r)] (kF (some (.null)) (ρ, x)) := by
  refine k_met cX3_rowOf 2 (some (.object "TurnedRows$Row")) (by decide) rfl (Nat.le_of_ble_eq_true rfl) ?_
  intro p e s m below meth c ls hx hb hr hts hown hlocks hml hK hP hS hl
  have hl : lv_has ls 2 [(0, .ref (ad (118 + 2 * 0))), (1, .int (r))] := hl
  have hown : s.vm.findClass RX3 = some m.cls := hown
  have hf_11 := hts (.fieldLink RX3 11 "TurnedRows$State" "rows" "[LTurnedRows$Row;") (by decide +kernel)
  have hw_X3 : ∀ qw ∈ wsX30, qw.before ([.ref (ad (118 + 2 * 0)), .int (r)] : List Value).toArray s = true := fun qw h => hts qw ((by decide +kernel : ∀ qw ∈ wsX30, qw ∈ wsX3_rowOf) qw h)
  refine lv_iload_n hx hb dX3_rowOf_0 rfl (lv_at hl 1 rfl) ?_
  refine lv_if_lt (tgt := 22) hx hb dX3_rowOf_1 (by decide) (fun h_1 => ?_) (fun h_1 => ?_)
  · skip
    refine lv_null hx hb dX3_rowOf_22 ?_
    refine k_aret hx hb hr hlocks (o := none) (ρ, x) hP hS dX3_rowOf_23 ?_
    exact ⟨rfl, rfl⟩
  · skip
    refine lv_iload_n hx hb dX3_rowOf_4 rfl (lv_at hl 1 rfl) ?_
    refine lv_aload_n hx hb dX3_rowOf_5 rfl (lv_at hl 0 rfl) ?_
    refine k_get (q0 := 118 + 2 * 0) (k := 0) (T := TX3) (Nf := 1) (ci := 3) (C := RX3) (v := .ref (ad (118 + 2 * 0 + 1))) hx hb hw_X3 hown hK hP (by omega) (cW_st (t := 0) (by omega)) rfl (by decide) hf_11 rfl rfl dX3_rowOf_6 ?_
    refine k_alen (q0 := 118 + 2 * 0 + 1) hx hb hK hP 3 (by omega) (cW_sr (t := 0) (by omega)) rfl 6 rfl dX3_rowOf_9 ?_
    refine lv_icmp_ge (tgt := 22) hx hb dX3_rowOf_10 (by decide) (fun h_2 => ?_) (fun h_2 => ?_)
    · skip
      refine lv_null hx hb dX3_rowOf_22 ?_
      refine k_aret hx hb hr hlocks (o := none) (ρ, x) hP hS dX3_rowOf_23 ?_
      exact ⟨rfl, rfl⟩
    · skip
      exact absurd ⟨Int32.not_lt.mp h_1, Int32.not_le.mp h_2⟩ hr0
set_option maxHeartbeats 4000000 in
set_option maxRecDepth 100000 in
theorem c_X3_rowOf (l : Launch) (D : va_G) (cy : Nat → ClassId) (ad : Nat → Nat) (hI : wI 143 ad) (ρ : Nat → kR) (x : kX) (r : Int32) : kM l yX3_rowOf wsX3_rowOf ({ frames := 0, cells := 0, slots := 0, locals := 0 } : Room) D cy 143 ad (cWf ad cy) (cW ad cy (ρ) (x)) [.ref (ad (118 + 2 * 0)), .int (r)] (kF (some (va_rf (rOf ad r))) (ρ, x)) := by
  rcases kreg_cases r with h | ⟨j, hj, rfl⟩
  · rw [kreg_bad h]; exact c_X3_rowOf_bad l D cy ad hI ρ x r h
  · rw [kreg_ok hj rfl]; exact c_X3_rowOf_ok l D cy ad hI ρ x j hj
set_option maxHeartbeats 4000000 in
set_option maxRecDepth 100000 in
theorem c_X3_lengths (l : Launch) (D : va_G) (cy : Nat → ClassId) (ad : Nat → Nat) (hI : wI 143 ad) (ρ : Nat → kR) (x : kX) (t : Nat) (ht : t < 9) (hlen : ∀ j, j < 6 → (ρ (6 * t + j)).1 ≤ 64) : kM l yX3_lengths wsX3_lengths ({ frames := 1, cells := 0, slots := 0, locals := 20 } : Room) D cy 143 ad (cWf ad cy) (cW ad cy (ρ) (x)) [.ref (ad (118 + 2 * t))] (kF (some (.int (nI (ln6 ρ t)))) (ρ, x)) := by
  refine k_met cX3_lengths 3 (some .int) (by decide) rfl (Nat.le_of_ble_eq_true rfl) ?_
  intro p e s m below meth c ls hx hb hr hts hown hlocks hml hK hP hS hl
  have hl : lv_has ls 3 [(0, .ref (ad (118 + 2 * t)))] := hl
  have hown : s.vm.findClass RX3 = some m.cls := hown
  have hf_11 := hts (.fieldLink RX3 11 "TurnedRows$State" "rows" "[LTurnedRows$Row;") (by decide +kernel)
  have hw_X3 : ∀ qw ∈ wsX30, qw.before ([.ref (ad (118 + 2 * t))] : List Value).toArray s = true := fun qw h => hts qw ((by decide +kernel : ∀ qw ∈ wsX30, qw ∈ wsX3_lengths) qw h)
  refine lv_iconst (v := nI (0)) hx hb dX3_lengths_0 rfl ?_
  refine lv_istore_n (lv' := [(1, .int (nI (0))), (0, .ref (ad (118 + 2 * t)))]) hx hb dX3_lengths_1 rfl hl (by decide) rfl (fun ls hl => ?_)
  refine lv_iconst (v := nI (0)) hx hb dX3_lengths_2 rfl ?_
  refine lv_istore_n (lv' := [(2, .int (nI (0))), (1, .int (nI (0))), (0, .ref (ad (118 + 2 * t)))]) hx hb dX3_lengths_3 rfl hl (by decide) rfl (fun ls hl => ?_)
  have lp4 : ∀ (fu : Nat) (k : Nat) (a : Nat), k ≤ 6 → a ≤ 64 * k → a = sm (fun j => (ρ (6 * t + j)).1) k → 6 - k < fu → ∀ (H : Heap) (locs : List Loc), va_P D vwCl (wL 143 ad (cW ad cy (ρ) (x))) H → va_S (wA 143 ad) s.heap H locs → ∀ (ls : Array Slot), lv_has ls 3 [(2, .int (nI (k))), (1, .int (nI (a))), (0, .ref (ad (118 + 2 * t)))] → W p l e ({ frames := 1, cells := 0, slots := 0, locals := 20 } : Room) s m ([.ref (ad (118 + 2 * t))] : List Value).toArray below meth c H locs 0 0 (MQ below (kQ D 143 ad (cWf ad cy) (kF (some (.int (nI (ln6 ρ t)))) (ρ, x))) ([.ref (ad (118 + 2 * t))] : List Value).toArray s 0 0 (wA 143 ad)) (F0 m 4 ls []) := by
    intro fu
    induction fu with
    | zero => intro k a hk ha he hfu; exact absurd hfu (Nat.not_lt_zero _)
    | succ fu ih4 =>
      intro k a hk ha he hfu H locs hP hS ls hl
      refine lv_iload_n hx hb dX3_lengths_4 rfl (lv_at hl 0 rfl) ?_
      refine lv_aload_n hx hb dX3_lengths_5 rfl (lv_at hl 2 rfl) ?_
      refine k_get (q0 := 118 + 2 * t) (k := 0) (T := TX3) (Nf := 1) (ci := 3) (C := RX3) (v := .ref (ad (118 + 2 * t + 1))) hx hb hw_X3 hown hK hP (by omega) (cW_st (t := t) (by omega)) rfl (by decide) hf_11 rfl rfl dX3_lengths_6 ?_
      refine k_alen (q0 := 118 + 2 * t + 1) hx hb hK hP 3 (by omega) (cW_sr (t := t) (by omega)) rfl 6 rfl dX3_lengths_9 ?_
      refine n_icmp_ge (tgt := 31) hx hb (by omega) (by omega) dX3_lengths_10 (by decide) (fun h_1 => ?_) (fun h_1 => ?_)
      · skip
        refine lv_iload_n hx hb dX3_lengths_31 rfl (lv_at hl 1 rfl) ?_
        refine k_iret hx hb hr hlocks (ρ, x) hP hS dX3_lengths_32 ?_
        exact ⟨rN (by rw [he, show k = 6 by omega]; rfl), rfl⟩
      · skip
        refine lv_iload_n hx hb dX3_lengths_13 rfl (lv_at hl 1 rfl) ?_
        refine lv_aload_n hx hb dX3_lengths_14 rfl (lv_at hl 2 rfl) ?_
        refine k_get (q0 := 118 + 2 * t) (k := 0) (T := TX3) (Nf := 1) (ci := 3) (C := RX3) (v := .ref (ad (118 + 2 * t + 1))) hx hb hw_X3 hown hK hP (by omega) (cW_st (t := t) (by omega)) rfl (by decide) hf_11 rfl rfl dX3_lengths_15 ?_
        refine lv_iload_n hx hb dX3_lengths_18 rfl (lv_at hl 0 rfl) ?_
        refine k_aald (q0 := 118 + 2 * t + 1) (j := k) hx hb hK hP (by omega) (cW_sr (t := t) (by omega)) rfl (by decide) (by omega) dX3_lengths_19 ?_
        refine r_same ?_
        refine k_callVr (rest := [.int (nI (a))]) (nL := 3) ⟨hx, hb, hml, hown, hts⟩ (c_X2_length l D cy ad hI ρ x (6 * t + k) (by first | assumption | omega)) (cwV 0 hts gX3_lengths_X2_length rfl rfl rfl (by decide +kernel) ⟨Nat.le_of_ble_eq_true rfl, Nat.le_of_ble_eq_true rfl⟩) hK hP hS (fun _ h => h) (q0 := 2 * (6 * t + k)) (ci := 2) rfl (by omega) (cW_row (i := 6 * t + k) (by omega)) rfl rfl rfl hl.1 rfl (Nat.le_of_ble_eq_true rfl) dX3_lengths_20 ⟨Nat.zero_le _, Nat.zero_le _⟩ (fun H locs hP hS => ?_)
        have hP : va_P D vwCl (wL 143 ad (cW ad cy (ρ) (x))) H := hP
        refine n_iadd hx hb dX3_lengths_23 ?_
        refine lv_istore_n (lv' := [(1, .int (nI (a + ((ρ (6 * t + k)).1)))), (2, .int (nI (k))), (0, .ref (ad (118 + 2 * t)))]) hx hb dX3_lengths_24 rfl hl (by decide) rfl (fun ls hl => ?_)
        refine lv_iinc (v := nI (k + 1)) (lv' := [(2, .int (nI (k + 1))), (1, .int (nI (a + ((ρ (6 * t + k)).1)))), (0, .ref (ad (118 + 2 * t)))]) hx hb dX3_lengths_25 hl (k := 1) rfl (nI_inc _) (by decide) rfl (fun ls hl => ?_)
        refine lv_goto (tgt := 4) hx hb dX3_lengths_28 (by decide) ?_
        exact ih4 (k + 1) (a + (ρ (6 * t + k)).1) (by omega) (by have := hlen k h_1; omega) (by rw [he]; rfl) (by omega) _ _ hP hS _ hl
  exact lp4 (_ + 1) (0) (0) (by omega) (by omega) rfl (Nat.lt_succ_self _) _ _ hP hS _ hl
set_option maxHeartbeats 4000000 in
set_option maxRecDepth 100000 in
theorem c_X3_copyFrom (l : Launch) (D : va_G) (cy : Nat → ClassId) (ad : Nat → Nat) (hI : wI 143 ad) (ρ : Nat → kR) (x : kX) (t : Nat) (u : Nat) (ht : t < 9) (hu : u < 9) (htu : u ≠ t) : kM l yX3_copyFrom wsX3_copyFrom ({ frames := 2, cells := 0, slots := 0, locals := 39 } : Room) D cy 143 ad (cWf ad cy) (cW ad cy (ρ) (x)) [.ref (ad (118 + 2 * t)), .ref (ad (118 + 2 * u))] (kF none (cpS ρ t u 6, x)) := by
  refine k_met cX3_copyFrom 3 none (by decide) rfl (Nat.le_of_ble_eq_true rfl) ?_
  intro p e s m below meth c ls hx hb hr hts hown hlocks hml hK hP hS hl
  have hl : lv_has ls 3 [(0, .ref (ad (118 + 2 * t))), (1, .ref (ad (118 + 2 * u)))] := hl
  have hown : s.vm.findClass RX3 = some m.cls := hown
  have hf_11 := hts (.fieldLink RX3 11 "TurnedRows$State" "rows" "[LTurnedRows$Row;") (by decide +kernel)
  have hw_X3 : ∀ qw ∈ wsX30, qw.before ([.ref (ad (118 + 2 * t)), .ref (ad (118 + 2 * u))] : List Value).toArray s = true := fun qw h => hts qw ((by decide +kernel : ∀ qw ∈ wsX30, qw ∈ wsX3_copyFrom) qw h)
  refine lv_iconst (v := nI (0)) hx hb dX3_copyFrom_0 rfl ?_
  refine lv_istore_n (lv' := [(2, .int (nI (0))), (0, .ref (ad (118 + 2 * t))), (1, .ref (ad (118 + 2 * u)))]) hx hb dX3_copyFrom_1 rfl hl (by decide) rfl (fun ls hl => ?_)
  have lp2 : ∀ (fu : Nat) (k : Nat) (ρ' : Nat → kR), k ≤ 6 → ρ' = cpS ρ t u k → 6 - k < fu → ∀ (H : Heap) (locs : List Loc), va_P D vwCl (wL 143 ad (cW ad cy (ρ') (x))) H → va_S (wA 143 ad) s.heap H locs → ∀ (ls : Array Slot), lv_has ls 3 [(2, .int (nI (k))), (0, .ref (ad (118 + 2 * t))), (1, .ref (ad (118 + 2 * u)))] → W p l e ({ frames := 2, cells := 0, slots := 0, locals := 39 } : Room) s m ([.ref (ad (118 + 2 * t)), .ref (ad (118 + 2 * u))] : List Value).toArray below meth c H locs 0 0 (MQ below (kQ D 143 ad (cWf ad cy) (kF none (cpS ρ t u 6, x))) ([.ref (ad (118 + 2 * t)), .ref (ad (118 + 2 * u))] : List Value).toArray s 0 0 (wA 143 ad)) (F0 m 2 ls []) := by
    intro fu
    induction fu with
    | zero => intro k ρ' hk hρ hfu; exact absurd hfu (Nat.not_lt_zero _)
    | succ fu ih2 =>
      intro k ρ' hk hρ hfu H locs hP hS ls hl
      refine lv_iload_n hx hb dX3_copyFrom_2 rfl (lv_at hl 0 rfl) ?_
      refine lv_aload_n hx hb dX3_copyFrom_3 rfl (lv_at hl 1 rfl) ?_
      refine k_get (q0 := 118 + 2 * t) (k := 0) (T := TX3) (Nf := 1) (ci := 3) (C := RX3) (v := .ref (ad (118 + 2 * t + 1))) hx hb hw_X3 hown hK hP (by omega) (cW_st (t := t) (by omega)) rfl (by decide) hf_11 rfl rfl dX3_copyFrom_4 ?_
      refine k_alen (q0 := 118 + 2 * t + 1) hx hb hK hP 3 (by omega) (cW_sr (t := t) (by omega)) rfl 6 rfl dX3_copyFrom_7 ?_
      refine n_icmp_ge (tgt := 32) hx hb (by omega) (by omega) dX3_copyFrom_8 (by decide) (fun h_1 => ?_) (fun h_1 => ?_)
      · skip
        rw [hρ, show k = 6 by omega] at hP
        refine k_vret hx hb hr hlocks (cpS ρ t u 6, x) hP hS dX3_copyFrom_32 ?_
        exact ⟨rfl, rfl⟩
      · skip
        refine lv_aload_n hx hb dX3_copyFrom_11 rfl (lv_at hl 1 rfl) ?_
        refine k_get (q0 := 118 + 2 * t) (k := 0) (T := TX3) (Nf := 1) (ci := 3) (C := RX3) (v := .ref (ad (118 + 2 * t + 1))) hx hb hw_X3 hown hK hP (by omega) (cW_st (t := t) (by omega)) rfl (by decide) hf_11 rfl rfl dX3_copyFrom_12 ?_
        refine lv_iload_n hx hb dX3_copyFrom_15 rfl (lv_at hl 0 rfl) ?_
        refine k_aald (q0 := 118 + 2 * t + 1) (j := k) hx hb hK hP (by omega) (cW_sr (t := t) (by omega)) rfl (by decide) (by omega) dX3_copyFrom_16 ?_
        refine r_same ?_
        refine lv_aload_n hx hb dX3_copyFrom_17 rfl (lv_at hl 2 rfl) ?_
        refine k_get (q0 := 118 + 2 * u) (k := 0) (T := TX3) (Nf := 1) (ci := 3) (C := RX3) (v := .ref (ad (118 + 2 * u + 1))) hx hb hw_X3 hown hK hP (by omega) (cW_st (t := u) (by omega)) rfl (by decide) hf_11 rfl rfl dX3_copyFrom_18 ?_
        refine lv_iload_n hx hb dX3_copyFrom_21 rfl (lv_at hl 0 rfl) ?_
        refine k_aald (q0 := 118 + 2 * u + 1) (j := k) hx hb hK hP (by omega) (cW_sr (t := u) (by omega)) rfl (by decide) (by omega) dX3_copyFrom_22 ?_
        refine r_same ?_
        refine k_callVv (rest := []) (nL := 3) ⟨hx, hb, hml, hown, hts⟩ (c_X2_copyFrom l D cy ad hI ρ' x (6 * t + k) (6 * u + k) (by first | assumption | omega) (by first | assumption | omega) (by first | assumption | omega)) (cwV 1 hts gX3_copyFrom_X2_copyFrom rfl rfl rfl (by decide +kernel) ⟨Nat.le_of_ble_eq_true rfl, Nat.le_of_ble_eq_true rfl⟩) hK hP hS (fun _ h => h) (q0 := 2 * (6 * t + k)) (ci := 2) rfl (by omega) (cW_row (i := 6 * t + k) (by omega)) rfl rfl rfl hl.1 rfl (Nat.le_of_ble_eq_true rfl) dX3_copyFrom_23 ⟨Nat.zero_le _, Nat.zero_le _⟩ (fun H locs hP hS => ?_)
        have hP : va_P D vwCl (wL 143 ad (cW ad cy (va_up ρ' (6 * t + k) (ρ' (6 * u + k))) (x))) H := hP
        refine lv_iinc (v := nI (k + 1)) (lv' := [(2, .int (nI (k + 1))), (0, .ref (ad (118 + 2 * t))), (1, .ref (ad (118 + 2 * u)))]) hx hb dX3_copyFrom_26 hl (k := 0) rfl (nI_inc _) (by decide) rfl (fun ls hl => ?_)
        refine lv_goto (tgt := 2) hx hb dX3_copyFrom_29 (by decide) ?_
        exact ih2 (k + 1) (va_up ρ' (6 * t + k) (ρ' (6 * u + k))) (by omega) (by rw [hρ, cpS_s htu h_1]) (by omega) _ _ hP hS _ hl
  exact lp2 (_ + 1) (0) (ρ) (by omega) (by rw [cpS_0]) (Nat.lt_succ_self _) _ _ hP hS _ hl
set_option maxHeartbeats 4000000 in
set_option maxRecDepth 100000 in
theorem c_X0_length (l : Launch) (D : va_G) (cy : Nat → ClassId) (ad : Nat → Nat) (hI : wI 143 ad) (ρ : Nat → kR) (x : kX) : kM l yX0_length wsX0_length ({ frames := 0, cells := 0, slots := 0, locals := 0 } : Room) D cy 143 ad (cWf ad cy) (cW ad cy (ρ) (x)) [.ref (ad (137))] (kF (some (.int (nI (x.1)))) (ρ, x)) := by
  refine k_met cX0_length 1 (some .int) (by decide) rfl (Nat.le_of_ble_eq_true rfl) ?_
  intro p e s m below meth c ls hx hb hr hts hown hlocks hml hK hP hS hl
  have hl : lv_has ls 1 [(0, .ref (ad (137)))] := hl
  have hown : s.vm.findClass RX0 = some m.cls := hown
  have hf_17 := hts (.fieldLink RX0 17 "TurnedRows$History" "length" "I") (by decide +kernel)
  have hw_X0 : ∀ qw ∈ wsX00, qw.before ([.ref (ad (137))] : List Value).toArray s = true := fun qw h => hts qw ((by decide +kernel : ∀ qw ∈ wsX00, qw ∈ wsX0_length) qw h)
  refine lv_aload_n hx hb dX0_length_0 rfl (lv_at hl 0 rfl) ?_
  refine k_get (q0 := 137) (k := 1) (T := TX0) (Nf := 2) (ci := 0) (C := RX0) (v := .int (nI (x.1))) hx hb hw_X0 hown hK hP (by decide) cW_hist rfl (by decide) hf_17 rfl rfl dX0_length_1 ?_
  refine k_iret hx hb hr hlocks (ρ, x) hP hS dX0_length_4 ?_
  exact ⟨rfl, rfl⟩
set_option maxHeartbeats 4000000 in
set_option maxRecDepth 100000 in
theorem c_X0_dropOldest (l : Launch) (D : va_G) (cy : Nat → ClassId) (ad : Nat → Nat) (hI : wI 143 ad) (ρ : Nat → kR) (x : kX) (hpm : ∀ j, j < 6 → x.2.1 j < 9) : kM l yX0_dropOldest wsX0_dropOldest ({ frames := 0, cells := 0, slots := 0, locals := 0 } : Room) D cy 143 ad (cWf ad cy) (cW ad cy (ρ) (x)) [.ref (ad (137))] (kF none (ρ, (5, rotF x.2.1, x.2.2))) := by
  refine k_met cX0_dropOldest 3 none (by decide) rfl (Nat.le_of_ble_eq_true rfl) ?_
  intro p e s m below meth c ls hx hb hr hts hown hlocks hml hK hP hS hl
  have hl : lv_has ls 3 [(0, .ref (ad (137)))] := hl
  have hown : s.vm.findClass RX0 = some m.cls := hown
  have hf_11 := hts (.fieldLink RX0 11 "TurnedRows$History" "states" "[LTurnedRows$State;") (by decide +kernel)
  have hf_17 := hts (.fieldLink RX0 17 "TurnedRows$History" "length" "I") (by decide +kernel)
  have hw_X0 : ∀ qw ∈ wsX00, qw.before ([.ref (ad (137))] : List Value).toArray s = true := fun qw h => hts qw ((by decide +kernel : ∀ qw ∈ wsX00, qw ∈ wsX0_dropOldest) qw h)
  refine lv_aload_n hx hb dX0_dropOldest_0 rfl (lv_at hl 0 rfl) ?_
  refine k_get (q0 := 137) (k := 0) (T := TX0) (Nf := 2) (ci := 0) (C := RX0) (v := .ref (ad (138))) hx hb hw_X0 hown hK hP (by decide) cW_hist rfl (by decide) hf_11 rfl rfl dX0_dropOldest_1 ?_
  refine lv_iconst (v := nI (0)) hx hb dX0_dropOldest_4 rfl ?_
  refine k_aald (q0 := 138) (j := 0) hx hb hK hP (by decide) cW_hs rfl (by decide) (by omega) dX0_dropOldest_5 ?_
  have hp0 := hpm 0 (by decide)
  refine r_same ?_
  refine lv_astore_n (lv' := [(1, .ref (ad (118 + 2 * (x.2.1 0)))), (0, .ref (ad (137)))]) hx hb dX0_dropOldest_6 rfl hl (by decide) rfl (fun ls hl => ?_)
  refine lv_iconst (v := nI (1)) hx hb dX0_dropOldest_7 rfl ?_
  refine lv_istore_n (lv' := [(2, .int (nI (1))), (1, .ref (ad (118 + 2 * (x.2.1 0)))), (0, .ref (ad (137)))]) hx hb dX0_dropOldest_8 rfl hl (by decide) rfl (fun ls hl => ?_)
  have lp9 : ∀ (fu : Nat) (k : Nat) (x' : kX), 1 ≤ k ∧ k ≤ 6 → x' = (x.1, rot x.2.1 k, x.2.2) → 6 - k < fu → ∀ (H : Heap) (locs : List Loc), va_P D vwCl (wL 143 ad (cW ad cy (ρ) (x'))) H → va_S (wA 143 ad) s.heap H locs → ∀ (ls : Array Slot), lv_has ls 3 [(2, .int (nI (k))), (1, .ref (ad (118 + 2 * (x.2.1 0)))), (0, .ref (ad (137)))] → W p l e ({ frames := 0, cells := 0, slots := 0, locals := 0 } : Room) s m ([.ref (ad (137))] : List Value).toArray below meth c H locs 0 0 (MQ below (kQ D 143 ad (cWf ad cy) (kF none (ρ, (5, rotF x.2.1, x.2.2)))) ([.ref (ad (137))] : List Value).toArray s 0 0 (wA 143 ad)) (F0 m 9 ls []) := by
    intro fu
    induction fu with
    | zero => intro k x' hk hx' hfu; exact absurd hfu (Nat.not_lt_zero _)
    | succ fu ih9 =>
      intro k x' hk hx' hfu H locs hP hS ls hl
      refine lv_iload_n hx hb dX0_dropOldest_9 rfl (lv_at hl 0 rfl) ?_
      refine lv_aload_n hx hb dX0_dropOldest_10 rfl (lv_at hl 2 rfl) ?_
      refine k_get (q0 := 137) (k := 0) (T := TX0) (Nf := 2) (ci := 0) (C := RX0) (v := .ref (ad (138))) hx hb hw_X0 hown hK hP (by decide) cW_hist rfl (by decide) hf_11 rfl rfl dX0_dropOldest_11 ?_
      refine k_alen (q0 := 138) hx hb hK hP 4 (by decide) cW_hs rfl 6 rfl dX0_dropOldest_14 ?_
      refine n_icmp_ge (tgt := 38) hx hb (by omega) (by omega) dX0_dropOldest_15 (by decide) (fun h_1 => ?_) (fun h_1 => ?_)
      · skip
        refine lv_aload_n hx hb dX0_dropOldest_38 rfl (lv_at hl 2 rfl) ?_
        refine lv_aload_n hx hb dX0_dropOldest_39 rfl (lv_at hl 2 rfl) ?_
        refine k_get (q0 := 137) (k := 0) (T := TX0) (Nf := 2) (ci := 0) (C := RX0) (v := .ref (ad (138))) hx hb hw_X0 hown hK hP (by decide) cW_hist rfl (by decide) hf_11 rfl rfl dX0_dropOldest_40 ?_
        refine k_alen (q0 := 138) hx hb hK hP 4 (by decide) cW_hs rfl 6 rfl dX0_dropOldest_43 ?_
        refine lv_iconst (v := nI (1)) hx hb dX0_dropOldest_44 rfl ?_
        refine n_isub hx hb (by omega) dX0_dropOldest_45 ?_
        refine k_put (q0 := 137) (k := 1) (T := TX0) (Nf := 2) (ci := 0) (C := RX0) (v := .int (nI (6 - 1))) (Wd' := cW ad cy (ρ) ((6 - 1, x'.2))) hx hb hw_X0 tyX0 tyX0_ok nmX0 hown hK hI hP hS (by decide) cW_hist rfl (by decide) hf_17 rfl rfl (ty := .int) (by decide +kernel) rfl rfl (Nat.le_of_ble_eq_true rfl) cW_up_hl dX0_dropOldest_46 (fun H locs hP hS => ?_)
        refine lv_aload_n hx hb dX0_dropOldest_49 rfl (lv_at hl 2 rfl) ?_
        refine k_get (q0 := 137) (k := 0) (T := TX0) (Nf := 2) (ci := 0) (C := RX0) (v := .ref (ad (138))) hx hb hw_X0 hown hK hP (by decide) cW_hist rfl (by decide) hf_11 rfl rfl dX0_dropOldest_50 ?_
        refine lv_aload_n hx hb dX0_dropOldest_53 rfl (lv_at hl 2 rfl) ?_
        refine k_get (q0 := 137) (k := 1) (T := TX0) (Nf := 2) (ci := 0) (C := RX0) (v := .int (nI (6 - 1))) hx hb hw_X0 hown hK hP (by decide) cW_hist rfl (by decide) hf_17 rfl rfl dX0_dropOldest_54 ?_
        refine lv_aload_n hx hb dX0_dropOldest_57 rfl (lv_at hl 1 rfl) ?_
        refine k_aast (q0 := 138) (qk := 118 + 2 * (x.2.1 0)) (j := 6 - 1) (r := (RX3, TX3, 1)) (Wd' := cW ad cy (ρ) ((6 - 1, va_up x'.2.1 (6 - 1) (x.2.1 0), x'.2.2))) hx hb hK hI hP hS (by decide) cW_hs rfl (by omega) (cW_st (t := x.2.1 0) (by omega)) rfl (by decide) (by omega) cW_up_hs dX0_dropOldest_58 (fun H locs hP hS => ?_)
        refine k_vret hx hb hr hlocks (ρ, (6 - 1, va_up x'.2.1 (6 - 1) (x.2.1 0), x'.2.2)) hP hS dX0_dropOldest_59 ?_
        exact ⟨rfl, by rw [hx', show k = 6 by omega]; rfl⟩
      · skip
        refine lv_aload_n hx hb dX0_dropOldest_18 rfl (lv_at hl 2 rfl) ?_
        refine k_get (q0 := 137) (k := 0) (T := TX0) (Nf := 2) (ci := 0) (C := RX0) (v := .ref (ad (138))) hx hb hw_X0 hown hK hP (by decide) cW_hist rfl (by decide) hf_11 rfl rfl dX0_dropOldest_19 ?_
        refine lv_iload_n hx hb dX0_dropOldest_22 rfl (lv_at hl 0 rfl) ?_
        refine lv_iconst (v := nI (1)) hx hb dX0_dropOldest_23 rfl ?_
        refine n_isub hx hb (by omega) dX0_dropOldest_24 ?_
        refine lv_aload_n hx hb dX0_dropOldest_25 rfl (lv_at hl 2 rfl) ?_
        refine k_get (q0 := 137) (k := 0) (T := TX0) (Nf := 2) (ci := 0) (C := RX0) (v := .ref (ad (138))) hx hb hw_X0 hown hK hP (by decide) cW_hist rfl (by decide) hf_11 rfl rfl dX0_dropOldest_26 ?_
        refine lv_iload_n hx hb dX0_dropOldest_29 rfl (lv_at hl 0 rfl) ?_
        refine k_aald (q0 := 138) (j := k) hx hb hK hP (by decide) cW_hs rfl (by decide) (by omega) dX0_dropOldest_30 ?_
        have hp1 := hpm k (by omega)
        have e1 : x'.2.1 k = x.2.1 k := by rw [hx']; exact rot_k _ _
        rw [e1]
        refine r_same ?_
        refine k_aast (q0 := 138) (qk := 118 + 2 * (x.2.1 k)) (j := k - 1) (r := (RX3, TX3, 1)) (Wd' := cW ad cy (ρ) ((x'.1, va_up x'.2.1 (k - 1) (x.2.1 k), x'.2.2))) hx hb hK hI hP hS (by decide) cW_hs rfl (by omega) (cW_st (t := x.2.1 k) (by omega)) rfl (by decide) (by omega) cW_up_hs dX0_dropOldest_31 (fun H locs hP hS => ?_)
        refine lv_iinc (v := nI (k + 1)) (lv' := [(2, .int (nI (k + 1))), (1, .ref (ad (118 + 2 * (x.2.1 0)))), (0, .ref (ad (137)))]) hx hb dX0_dropOldest_32 hl (k := 0) rfl (nI_inc _) (by decide) rfl (fun ls hl => ?_)
        refine lv_goto (tgt := 9) hx hb dX0_dropOldest_35 (by decide) ?_
        exact ih9 (k + 1) ((x'.1, va_up x'.2.1 (k - 1) (x.2.1 k), x'.2.2)) (by omega) (by rw [hx']; exact congrArg (fun q => (x.1, q, x.2.2)) (rot_s _ hk.1)) (by omega) _ _ hP hS _ hl
  exact lp9 (_ + 1) (1) (x) (by omega) (by rw [rot_1]) (Nat.lt_succ_self _) _ _ hP hS _ hl
set_option maxHeartbeats 4000000 in
set_option maxRecDepth 100000 in
theorem c_X0_keep (l : Launch) (D : va_G) (cy : Nat → ClassId) (ad : Nat → Nat) (hI : wI 143 ad) (ρ : Nat → kR) (x : kX) (hpm : ∀ j, j < 6 → x.2.1 j < 9) (hhl : x.1 ≤ 6) (hp0 : ∀ j, j < 6 → x.2.1 j ≠ 0) : kM l yX0_keep wsX0_keep ({ frames := 3, cells := 0, slots := 0, locals := 61 } : Room) D cy 143 ad (cWf ad cy) (cW ad cy (ρ) (x)) [.ref (ad (137)), .ref (ad (118 + 2 * 0))] (kF none (keepR ρ x, keepX x)) := by
  refine k_met cX0_keep 2 none (by decide) rfl (Nat.le_of_ble_eq_true rfl) ?_
  intro p e s m below meth c ls hx hb hr hts hown hlocks hml hK hP hS hl
  have hl : lv_has ls 2 [(0, .ref (ad (137))), (1, .ref (ad (118 + 2 * 0)))] := hl
  have hown : s.vm.findClass RX0 = some m.cls := hown
  have hf_11 := hts (.fieldLink RX0 11 "TurnedRows$History" "states" "[LTurnedRows$State;") (by decide +kernel)
  have hf_17 := hts (.fieldLink RX0 17 "TurnedRows$History" "length" "I") (by decide +kernel)
  have hw_X0 : ∀ qw ∈ wsX00, qw.before ([.ref (ad (137)), .ref (ad (118 + 2 * 0))] : List Value).toArray s = true := fun qw h => hts qw ((by decide +kernel : ∀ qw ∈ wsX00, qw ∈ wsX0_keep) qw h)
  have hpx : ∀ j, j < 6 → rotF x.2.1 j < 9 := by
    intro j hj
    by_cases q : j = 5
    · subst q; exact hpm 0 (by decide)
    · unfold rotF; rw [va_up_ne _ _ q]; unfold rot; split; exact hpm _ (by omega); exact hpm _ hj
  refine lv_aload_n hx hb dX0_keep_0 rfl (lv_at hl 0 rfl) ?_
  refine k_get (q0 := 137) (k := 1) (T := TX0) (Nf := 2) (ci := 0) (C := RX0) (v := .int (nI (x.1))) hx hb hw_X0 hown hK hP (by decide) cW_hist rfl (by decide) hf_17 rfl rfl dX0_keep_1 ?_
  refine lv_aload_n hx hb dX0_keep_4 rfl (lv_at hl 0 rfl) ?_
  refine k_get (q0 := 137) (k := 0) (T := TX0) (Nf := 2) (ci := 0) (C := RX0) (v := .ref (ad (138))) hx hb hw_X0 hown hK hP (by decide) cW_hist rfl (by decide) hf_11 rfl rfl dX0_keep_5 ?_
  refine k_alen (q0 := 138) hx hb hK hP 4 (by decide) cW_hs rfl 6 rfl dX0_keep_8 ?_
  refine n_icmp_lt (tgt := 16) hx hb (by omega) (by omega) dX0_keep_9 (by decide) (fun h_1 => ?_) (fun h_1 => ?_)
  · skip
    have e1 : kpm x = x.2.1 := if_pos h_1
    have e2 : khl x = x.1 := if_pos h_1
    have hp1 := hpm x.1 h_1
    have hp2 := hp0 x.1 h_1
    refine lv_aload_n hx hb dX0_keep_16 rfl (lv_at hl 0 rfl) ?_
    refine k_get (q0 := 137) (k := 0) (T := TX0) (Nf := 2) (ci := 0) (C := RX0) (v := .ref (ad (138))) hx hb hw_X0 hown hK hP (by decide) cW_hist rfl (by decide) hf_11 rfl rfl dX0_keep_17 ?_
    refine lv_aload_n hx hb dX0_keep_20 rfl (lv_at hl 0 rfl) ?_
    refine k_get (q0 := 137) (k := 1) (T := TX0) (Nf := 2) (ci := 0) (C := RX0) (v := .int (nI (x.1))) hx hb hw_X0 hown hK hP (by decide) cW_hist rfl (by decide) hf_17 rfl rfl dX0_keep_21 ?_
    refine k_aald (q0 := 138) (j := x.1) hx hb hK hP (by decide) cW_hs rfl (by decide) (by omega) dX0_keep_24 ?_
    refine r_same ?_
    refine lv_aload_n hx hb dX0_keep_25 rfl (lv_at hl 1 rfl) ?_
    refine k_callVv (rest := []) (nL := 2) ⟨hx, hb, hml, hown, hts⟩ (c_X3_copyFrom l D cy ad hI ρ x (x.2.1 x.1) 0 (by first | assumption | omega) (by first | assumption | omega) (by first | assumption | omega)) (cwV 1 hts gX0_keep_X3_copyFrom rfl rfl rfl (by decide +kernel) ⟨Nat.le_of_ble_eq_true rfl, Nat.le_of_ble_eq_true rfl⟩) hK hP hS (fun _ h => h) (q0 := 118 + 2 * (x.2.1 x.1)) (ci := 3) rfl (by omega) (cW_st (t := x.2.1 x.1) (by omega)) rfl rfl rfl hl.1 rfl (Nat.le_of_ble_eq_true rfl) dX0_keep_26 ⟨Nat.zero_le _, Nat.zero_le _⟩ (fun H locs hP hS => ?_)
    have hP : va_P D vwCl (wL 143 ad (cW ad cy (cpS ρ (x.2.1 x.1) 0 6) (x))) H := hP
    refine lv_aload_n hx hb dX0_keep_29 rfl (lv_at hl 0 rfl) ?_
    refine lv_dup hx hb dX0_keep_30 rfl ?_
    refine k_get (q0 := 137) (k := 1) (T := TX0) (Nf := 2) (ci := 0) (C := RX0) (v := .int (nI (x.1))) hx hb hw_X0 hown hK hP (by decide) cW_hist rfl (by decide) hf_17 rfl rfl dX0_keep_31 ?_
    refine lv_iconst (v := nI (1)) hx hb dX0_keep_34 rfl ?_
    refine n_iadd hx hb dX0_keep_35 ?_
    refine k_put (q0 := 137) (k := 1) (T := TX0) (Nf := 2) (ci := 0) (C := RX0) (v := .int (nI (x.1 + 1))) (Wd' := cW ad cy (cpS ρ (x.2.1 x.1) 0 6) ((x.1 + 1, x.2))) hx hb hw_X0 tyX0 tyX0_ok nmX0 hown hK hI hP hS (by decide) cW_hist rfl (by decide) hf_17 rfl rfl (ty := .int) (by decide +kernel) rfl rfl (Nat.le_of_ble_eq_true rfl) cW_up_hl dX0_keep_36 (fun H locs hP hS => ?_)
    refine k_vret hx hb hr hlocks (cpS ρ (x.2.1 x.1) 0 6, (x.1 + 1, x.2)) hP hS dX0_keep_39 ?_
    exact ⟨rfl, by unfold keepR keepX; rw [e1, e2]⟩
  · skip
    have e1 : kpm x = rotF x.2.1 := if_neg (Nat.not_lt.mpr h_1)
    have e2 : khl x = 5 := if_neg (Nat.not_lt.mpr h_1)
    have hp1 := hpx 5 (by decide)
    have hp2 : rotF x.2.1 5 ≠ 0 := hp0 0 (by decide)
    refine lv_aload_n hx hb dX0_keep_12 rfl (lv_at hl 0 rfl) ?_
    refine k_callVv (rest := []) (nL := 2) ⟨hx, hb, hml, hown, hts⟩ (c_X0_dropOldest l D cy ad hI ρ x (by first | assumption | omega)) (cwV 0 hts gX0_keep_X0_dropOldest rfl rfl rfl (by decide +kernel) ⟨Nat.le_of_ble_eq_true rfl, Nat.le_of_ble_eq_true rfl⟩) hK hP hS (fun _ h => h) (q0 := 137) (ci := 0) rfl (by decide) cW_hist rfl rfl rfl hl.1 rfl (Nat.le_of_ble_eq_true rfl) dX0_keep_13 ⟨Nat.zero_le _, Nat.zero_le _⟩ (fun H locs hP hS => ?_)
    have hP : va_P D vwCl (wL 143 ad (cW ad cy (ρ) ((5, rotF x.2.1, x.2.2)))) H := hP
    refine lv_aload_n hx hb dX0_keep_16 rfl (lv_at hl 0 rfl) ?_
    refine k_get (q0 := 137) (k := 0) (T := TX0) (Nf := 2) (ci := 0) (C := RX0) (v := .ref (ad (138))) hx hb hw_X0 hown hK hP (by decide) cW_hist rfl (by decide) hf_11 rfl rfl dX0_keep_17 ?_
    refine lv_aload_n hx hb dX0_keep_20 rfl (lv_at hl 0 rfl) ?_
    refine k_get (q0 := 137) (k := 1) (T := TX0) (Nf := 2) (ci := 0) (C := RX0) (v := .int (nI (5))) hx hb hw_X0 hown hK hP (by decide) cW_hist rfl (by decide) hf_17 rfl rfl dX0_keep_21 ?_
    refine k_aald (q0 := 138) (j := 5) hx hb hK hP (by decide) cW_hs rfl (by decide) (by omega) dX0_keep_24 ?_
    refine r_same ?_
    refine lv_aload_n hx hb dX0_keep_25 rfl (lv_at hl 1 rfl) ?_
    refine k_callVv (rest := []) (nL := 2) ⟨hx, hb, hml, hown, hts⟩ (c_X3_copyFrom l D cy ad hI ρ (5, rotF x.2.1, x.2.2) ((rotF x.2.1) 5) 0 (by first | assumption | omega) (by first | assumption | omega) (by first | assumption | omega)) (cwV 1 hts gX0_keep_X3_copyFrom rfl rfl rfl (by decide +kernel) ⟨Nat.le_of_ble_eq_true rfl, Nat.le_of_ble_eq_true rfl⟩) hK hP hS (fun _ h => h) (q0 := 118 + 2 * ((rotF x.2.1) 5)) (ci := 3) rfl (by omega) (cW_st (t := (rotF x.2.1) 5) (by omega)) rfl rfl rfl hl.1 rfl (Nat.le_of_ble_eq_true rfl) dX0_keep_26 ⟨Nat.zero_le _, Nat.zero_le _⟩ (fun H locs hP hS => ?_)
    have hP : va_P D vwCl (wL 143 ad (cW ad cy (cpS ρ ((rotF x.2.1) 5) 0 6) ((5, rotF x.2.1, x.2.2)))) H := hP
    refine lv_aload_n hx hb dX0_keep_29 rfl (lv_at hl 0 rfl) ?_
    refine lv_dup hx hb dX0_keep_30 rfl ?_
    refine k_get (q0 := 137) (k := 1) (T := TX0) (Nf := 2) (ci := 0) (C := RX0) (v := .int (nI (5))) hx hb hw_X0 hown hK hP (by decide) cW_hist rfl (by decide) hf_17 rfl rfl dX0_keep_31 ?_
    refine lv_iconst (v := nI (1)) hx hb dX0_keep_34 rfl ?_
    refine n_iadd hx hb dX0_keep_35 ?_
    refine k_put (q0 := 137) (k := 1) (T := TX0) (Nf := 2) (ci := 0) (C := RX0) (v := .int (nI (5 + 1))) (Wd' := cW ad cy (cpS ρ ((rotF x.2.1) 5) 0 6) ((5 + 1, (rotF x.2.1, x.2.2)))) hx hb hw_X0 tyX0 tyX0_ok nmX0 hown hK hI hP hS (by decide) cW_hist rfl (by decide) hf_17 rfl rfl (ty := .int) (by decide +kernel) rfl rfl (Nat.le_of_ble_eq_true rfl) cW_up_hl dX0_keep_36 (fun H locs hP hS => ?_)
    refine k_vret hx hb hr hlocks (cpS ρ ((rotF x.2.1) 5) 0 6, (5 + 1, (rotF x.2.1, x.2.2))) hP hS dX0_keep_39 ?_
    exact ⟨rfl, by unfold keepR keepX; rw [e1, e2]⟩
set_option maxHeartbeats 4000000 in
set_option maxRecDepth 100000 in
theorem c_X0_takeLatest (l : Launch) (D : va_G) (cy : Nat → ClassId) (ad : Nat → Nat) (hI : wI 143 ad) (ρ : Nat → kR) (x : kX) (hpm : ∀ j, j < 6 → x.2.1 j < 9) (hhl : x.1 ≤ 6) (h0 : 0 < x.1) (hp0 : ∀ j, j < x.1 → x.2.1 j ≠ 0) : kM l yX0_takeLatest wsX0_takeLatest ({ frames := 3, cells := 0, slots := 0, locals := 61 } : Room) D cy 143 ad (cWf ad cy) (cW ad cy (ρ) (x)) [.ref (ad (137)), .ref (ad (118 + 2 * 0))] (kF none (cpS ρ 0 (x.2.1 (x.1 - 1)) 6, (x.1 - 1, x.2))) := by
  refine k_met cX0_takeLatest 2 none (by decide) rfl (Nat.le_of_ble_eq_true rfl) ?_
  intro p e s m below meth c ls hx hb hr hts hown hlocks hml hK hP hS hl
  have hl : lv_has ls 2 [(0, .ref (ad (137))), (1, .ref (ad (118 + 2 * 0)))] := hl
  have hown : s.vm.findClass RX0 = some m.cls := hown
  have hf_11 := hts (.fieldLink RX0 11 "TurnedRows$History" "states" "[LTurnedRows$State;") (by decide +kernel)
  have hf_17 := hts (.fieldLink RX0 17 "TurnedRows$History" "length" "I") (by decide +kernel)
  have hw_X0 : ∀ qw ∈ wsX00, qw.before ([.ref (ad (137)), .ref (ad (118 + 2 * 0))] : List Value).toArray s = true := fun qw h => hts qw ((by decide +kernel : ∀ qw ∈ wsX00, qw ∈ wsX0_takeLatest) qw h)
  refine lv_aload_n hx hb dX0_takeLatest_0 rfl (lv_at hl 0 rfl) ?_
  refine k_get (q0 := 137) (k := 1) (T := TX0) (Nf := 2) (ci := 0) (C := RX0) (v := .int (nI (x.1))) hx hb hw_X0 hown hK hP (by decide) cW_hist rfl (by decide) hf_17 rfl rfl dX0_takeLatest_1 ?_
  refine n_ifle (tgt := 30) hx hb (by omega) dX0_takeLatest_4 (by decide) (fun h_1 => ?_) (fun h_1 => ?_)
  · skip
    exact absurd h_1 (by omega)
  · skip
    refine lv_aload_n hx hb dX0_takeLatest_7 rfl (lv_at hl 0 rfl) ?_
    refine lv_dup hx hb dX0_takeLatest_8 rfl ?_
    refine k_get (q0 := 137) (k := 1) (T := TX0) (Nf := 2) (ci := 0) (C := RX0) (v := .int (nI (x.1))) hx hb hw_X0 hown hK hP (by decide) cW_hist rfl (by decide) hf_17 rfl rfl dX0_takeLatest_9 ?_
    refine lv_iconst (v := nI (1)) hx hb dX0_takeLatest_12 rfl ?_
    refine n_isub hx hb (by omega) dX0_takeLatest_13 ?_
    refine k_put (q0 := 137) (k := 1) (T := TX0) (Nf := 2) (ci := 0) (C := RX0) (v := .int (nI (x.1 - 1))) (Wd' := cW ad cy (ρ) ((x.1 - 1, x.2))) hx hb hw_X0 tyX0 tyX0_ok nmX0 hown hK hI hP hS (by decide) cW_hist rfl (by decide) hf_17 rfl rfl (ty := .int) (by decide +kernel) rfl rfl (Nat.le_of_ble_eq_true rfl) cW_up_hl dX0_takeLatest_14 (fun H locs hP hS => ?_)
    refine lv_aload_n hx hb dX0_takeLatest_17 rfl (lv_at hl 1 rfl) ?_
    refine lv_aload_n hx hb dX0_takeLatest_18 rfl (lv_at hl 0 rfl) ?_
    refine k_get (q0 := 137) (k := 0) (T := TX0) (Nf := 2) (ci := 0) (C := RX0) (v := .ref (ad (138))) hx hb hw_X0 hown hK hP (by decide) cW_hist rfl (by decide) hf_11 rfl rfl dX0_takeLatest_19 ?_
    refine lv_aload_n hx hb dX0_takeLatest_22 rfl (lv_at hl 0 rfl) ?_
    refine k_get (q0 := 137) (k := 1) (T := TX0) (Nf := 2) (ci := 0) (C := RX0) (v := .int (nI (x.1 - 1))) hx hb hw_X0 hown hK hP (by decide) cW_hist rfl (by decide) hf_17 rfl rfl dX0_takeLatest_23 ?_
    refine k_aald (q0 := 138) (j := x.1 - 1) hx hb hK hP (by decide) cW_hs rfl (by decide) (by omega) dX0_takeLatest_26 ?_
    have hp1 := hpm (x.1 - 1) (by omega)
    have hp2 := hp0 (x.1 - 1) (by omega)
    refine r_same ?_
    refine k_callVv (rest := []) (nL := 2) ⟨hx, hb, hml, hown, hts⟩ (c_X3_copyFrom l D cy ad hI ρ (x.1 - 1, x.2) 0 (x.2.1 (x.1 - 1)) (by first | assumption | omega) (by first | assumption | omega) (by first | assumption | omega)) (cwV 1 hts gX0_takeLatest_X3_copyFrom rfl rfl rfl (by decide +kernel) ⟨Nat.le_of_ble_eq_true rfl, Nat.le_of_ble_eq_true rfl⟩) hK hP hS (fun _ h => h) (q0 := 118 + 2 * 0) (ci := 3) rfl (by omega) (cW_st (t := 0) (by omega)) rfl rfl rfl hl.1 rfl (Nat.le_of_ble_eq_true rfl) dX0_takeLatest_27 ⟨Nat.zero_le _, Nat.zero_le _⟩ (fun H locs hP hS => ?_)
    have hP : va_P D vwCl (wL 143 ad (cW ad cy (cpS ρ 0 (x.2.1 (x.1 - 1)) 6) ((x.1 - 1, x.2)))) H := hP
    refine k_vret hx hb hr hlocks (cpS ρ 0 (x.2.1 (x.1 - 1)) 6, (x.1 - 1, x.2)) hP hS dX0_takeLatest_30 ?_
    exact ⟨rfl, rfl⟩
set_option maxHeartbeats 4000000 in
set_option maxRecDepth 100000 in
theorem c_X1_length (l : Launch) (D : va_G) (cy : Nat → ClassId) (ad : Nat → Nat) (hI : wI 143 ad) (ρ : Nat → kR) (x : kX) : kM l yX1_length wsX1_length ({ frames := 0, cells := 0, slots := 0, locals := 0 } : Room) D cy 143 ad (cWf ad cy) (cW ad cy (ρ) (x)) [.ref (ad (139))] (kF (some (.int (nI (x.2.2.1)))) (ρ, x)) := by
  refine k_met cX1_length 1 (some .int) (by decide) rfl (Nat.le_of_ble_eq_true rfl) ?_
  intro p e s m below meth c ls hx hb hr hts hown hlocks hml hK hP hS hl
  have hl : lv_has ls 1 [(0, .ref (ad (139)))] := hl
  have hown : s.vm.findClass RX1 = some m.cls := hown
  have hf_15 := hts (.fieldLink RX1 15 "TurnedRows$Pad" "length" "I") (by decide +kernel)
  have hw_X1 : ∀ qw ∈ wsX10, qw.before ([.ref (ad (139))] : List Value).toArray s = true := fun qw h => hts qw ((by decide +kernel : ∀ qw ∈ wsX10, qw ∈ wsX1_length) qw h)
  refine lv_aload_n hx hb dX1_length_0 rfl (lv_at hl 0 rfl) ?_
  refine k_get (q0 := 139) (k := 1) (T := TX1) (Nf := 2) (ci := 1) (C := RX1) (v := .int (nI (x.2.2.1))) hx hb hw_X1 hown hK hP (by decide) cW_pad rfl (by decide) hf_15 rfl rfl dX1_length_1 ?_
  refine k_iret hx hb hr hlocks (ρ, x) hP hS dX1_length_4 ?_
  exact ⟨rfl, rfl⟩
set_option maxHeartbeats 4000000 in
set_option maxRecDepth 100000 in
theorem c_X1_empty (l : Launch) (D : va_G) (cy : Nat → ClassId) (ad : Nat → Nat) (hI : wI 143 ad) (ρ : Nat → kR) (x : kX) : kM l yX1_empty wsX1_empty ({ frames := 0, cells := 0, slots := 0, locals := 0 } : Room) D cy 143 ad (cWf ad cy) (cW ad cy (ρ) (x)) [.ref (ad (139))] (kF none (ρ, (x.1, x.2.1, 0, x.2.2.2))) := by
  refine k_met cX1_empty 1 none (by decide) rfl (Nat.le_of_ble_eq_true rfl) ?_
  intro p e s m below meth c ls hx hb hr hts hown hlocks hml hK hP hS hl
  have hl : lv_has ls 1 [(0, .ref (ad (139)))] := hl
  have hown : s.vm.findClass RX1 = some m.cls := hown
  have hf_15 := hts (.fieldLink RX1 15 "TurnedRows$Pad" "length" "I") (by decide +kernel)
  have hw_X1 : ∀ qw ∈ wsX10, qw.before ([.ref (ad (139))] : List Value).toArray s = true := fun qw h => hts qw ((by decide +kernel : ∀ qw ∈ wsX10, qw ∈ wsX1_empty) qw h)
  refine lv_aload_n hx hb dX1_empty_0 rfl (lv_at hl 0 rfl) ?_
  refine lv_iconst (v := nI (0)) hx hb dX1_empty_1 rfl ?_
  refine k_put (q0 := 139) (k := 1) (T := TX1) (Nf := 2) (ci := 1) (C := RX1) (v := .int (nI (0))) (Wd' := cW ad cy (ρ) ((x.1, x.2.1, 0, x.2.2.2))) hx hb hw_X1 tyX1 tyX1_ok nmX1 hown hK hI hP hS (by decide) cW_pad rfl (by decide) hf_15 rfl rfl (ty := .int) (by decide +kernel) rfl rfl (Nat.le_of_ble_eq_true rfl) cW_up_pl dX1_empty_2 (fun H locs hP hS => ?_)
  refine k_vret hx hb hr hlocks (ρ, (x.1, x.2.1, 0, x.2.2.2)) hP hS dX1_empty_5 ?_
  exact ⟨rfl, rfl⟩
set_option maxHeartbeats 4000000 in
set_option maxRecDepth 100000 in
theorem c_X1_append (l : Launch) (D : va_G) (cy : Nat → ClassId) (ad : Nat → Nat) (hI : wI 143 ad) (ρ : Nat → kR) (x : kX) (w : Nat) (hl80 : x.2.2.1 < 80) : kM l yX1_append wsX1_append ({ frames := 0, cells := 0, slots := 0, locals := 0 } : Room) D cy 143 ad (cWf ad cy) (cW ad cy (ρ) (x)) [.ref (ad (139)), .int (nI (w))] (kF none (ρ, (x.1, x.2.1, x.2.2.1 + 1, va_up x.2.2.2.1 x.2.2.1 w, x.2.2.2.2))) := by
  refine k_met cX1_append 2 none (by decide) rfl (Nat.le_of_ble_eq_true rfl) ?_
  intro p e s m below meth c ls hx hb hr hts hown hlocks hml hK hP hS hl
  have hl : lv_has ls 2 [(0, .ref (ad (139))), (1, .int (nI (w)))] := hl
  have hown : s.vm.findClass RX1 = some m.cls := hown
  have hf_9 := hts (.fieldLink RX1 9 "TurnedRows$Pad" "codes" "[I") (by decide +kernel)
  have hf_15 := hts (.fieldLink RX1 15 "TurnedRows$Pad" "length" "I") (by decide +kernel)
  have hw_X1 : ∀ qw ∈ wsX10, qw.before ([.ref (ad (139)), .int (nI (w))] : List Value).toArray s = true := fun qw h => hts qw ((by decide +kernel : ∀ qw ∈ wsX10, qw ∈ wsX1_append) qw h)
  refine lv_aload_n hx hb dX1_append_0 rfl (lv_at hl 0 rfl) ?_
  refine k_get (q0 := 139) (k := 1) (T := TX1) (Nf := 2) (ci := 1) (C := RX1) (v := .int (nI (x.2.2.1))) hx hb hw_X1 hown hK hP (by decide) cW_pad rfl (by decide) hf_15 rfl rfl dX1_append_1 ?_
  refine lv_aload_n hx hb dX1_append_4 rfl (lv_at hl 0 rfl) ?_
  refine k_get (q0 := 139) (k := 0) (T := TX1) (Nf := 2) (ci := 1) (C := RX1) (v := .ref (ad (140))) hx hb hw_X1 hown hK hP (by decide) cW_pad rfl (by decide) hf_9 rfl rfl dX1_append_5 ?_
  refine k_alen (q0 := 140) hx hb hK hP 0 (by decide) cW_pc rfl 80 rfl dX1_append_8 ?_
  refine n_icmp_ge (tgt := 32) hx hb (by omega) (by omega) dX1_append_9 (by decide) (fun h_1 => ?_) (fun h_1 => ?_)
  · skip
    exact absurd h_1 (by omega)
  · skip
    refine lv_aload_n hx hb dX1_append_12 rfl (lv_at hl 0 rfl) ?_
    refine k_get (q0 := 139) (k := 0) (T := TX1) (Nf := 2) (ci := 1) (C := RX1) (v := .ref (ad (140))) hx hb hw_X1 hown hK hP (by decide) cW_pad rfl (by decide) hf_9 rfl rfl dX1_append_13 ?_
    refine lv_aload_n hx hb dX1_append_16 rfl (lv_at hl 0 rfl) ?_
    refine k_get (q0 := 139) (k := 1) (T := TX1) (Nf := 2) (ci := 1) (C := RX1) (v := .int (nI (x.2.2.1))) hx hb hw_X1 hown hK hP (by decide) cW_pad rfl (by decide) hf_15 rfl rfl dX1_append_17 ?_
    refine lv_iload_n hx hb dX1_append_20 rfl (lv_at hl 1 rfl) ?_
    refine k_iast (q0 := 140) (j := x.2.2.1) (v := nI (w)) (Wd' := cW ad cy (ρ) ((x.1, x.2.1, x.2.2.1, va_up x.2.2.2.1 x.2.2.1 w, x.2.2.2.2))) hx hb hK hI hP hS (by decide) cW_pc (by decide) (by omega) cW_up_pd dX1_append_21 (fun H locs hP hS => ?_)
    refine lv_aload_n hx hb dX1_append_22 rfl (lv_at hl 0 rfl) ?_
    refine lv_dup hx hb dX1_append_23 rfl ?_
    refine k_get (q0 := 139) (k := 1) (T := TX1) (Nf := 2) (ci := 1) (C := RX1) (v := .int (nI (x.2.2.1))) hx hb hw_X1 hown hK hP (by decide) cW_pad rfl (by decide) hf_15 rfl rfl dX1_append_24 ?_
    refine lv_iconst (v := nI (1)) hx hb dX1_append_27 rfl ?_
    refine n_iadd hx hb dX1_append_28 ?_
    refine k_put (q0 := 139) (k := 1) (T := TX1) (Nf := 2) (ci := 1) (C := RX1) (v := .int (nI (x.2.2.1 + 1))) (Wd' := cW ad cy (ρ) ((x.1, x.2.1, x.2.2.1 + 1, (va_up x.2.2.2.1 x.2.2.1 w, x.2.2.2.2)))) hx hb hw_X1 tyX1 tyX1_ok nmX1 hown hK hI hP hS (by decide) cW_pad rfl (by decide) hf_15 rfl rfl (ty := .int) (by decide +kernel) rfl rfl (Nat.le_of_ble_eq_true rfl) cW_up_pl dX1_append_29 (fun H locs hP hS => ?_)
    refine k_vret hx hb hr hlocks (ρ, (x.1, x.2.1, x.2.2.1 + 1, (va_up x.2.2.2.1 x.2.2.1 w, x.2.2.2.2))) hP hS dX1_append_32 ?_
    exact ⟨rfl, rfl⟩
end
section
/-- a row's numbers are numbers, its length no more than 64 -/
def rK (r : kR) : Prop := r.1 ≤ 64 ∧ ∀ k, r.2 k < 257
/-- products: the first j numbers of f times c, put from i on, going round by s -/
def mulI (c : Nat) (f : Nat → Nat) (s i : Nat) (g : Nat → Nat) : Nat → (Nat → Nat)
  | 0 => g
  | j + 1 => va_up (mulI c f s i g j) ((i + j) % s) ((mulI c f s i g j ((i + j) % s) + c * f j) % 257)
def mulO (f1 f2 : Nat → Nat) (l2 s : Nat) : Nat → (Nat → Nat)
  | 0 => fun _ => 0
  | i + 1 => mulI (f1 i) f2 s i (mulO f1 f2 l2 s i) l2
theorem mulI_lt {c : Nat} {f : Nat → Nat} {s i : Nat} {g : Nat → Nat} (hg : ∀ k, g k < 257) : ∀ (j k : Nat), mulI c f s i g j k < 257 := by
  intro j
  induction j with
  | zero => exact hg
  | succ j ih =>
    intro k
    unfold mulI
    by_cases h : k = (i + j) % s
    · rw [h, va_up_self]; exact Nat.mod_lt _ (by decide)
    · rw [va_up_ne _ _ h]; exact ih k
theorem mulO_lt {f1 f2 : Nat → Nat} {l2 s : Nat} : ∀ (i k : Nat), mulO f1 f2 l2 s i k < 257 := by
  intro i
  induction i with
  | zero => intro k; exact (by decide : 0 < 257)
  | succ i ih => exact mulI_lt ih l2
def mulR (a b : kR) (s : Nat) : kR := (s, mulO a.2 b.2 b.1 s a.1)
theorem nI_p1mod {q s : Nat} (h0 : 0 < s) : (q % s + 1) % s = (q + 1) % s := by rw [Nat.mod_add_mod]
/-- a row's values at the powers of a point -/
def tur (r : kR) (p k : Nat) : Nat → Nat := fun j => if j < k then vx r (pw p j) else 0
theorem tur_0 (r : kR) (p : Nat) : tur r p 0 = fun _ => 0 := by funext j; simp [tur]
theorem tur_s (r : kR) (p k : Nat) : va_up (tur r p k) k (vx r (pw p k)) = tur r p (k + 1) := by
  funext j
  unfold tur
  by_cases h : j = k
  · subst h; rw [va_up_self, if_pos (by omega)]
  · rw [va_up_ne _ _ h]
    by_cases q : j < k
    · rw [if_pos q, if_pos (by omega)]
    · rw [if_neg q, if_neg (by omega)]
/-- searching -/
def fitP (f g : Nat → Nat) (p k : Nat) : Bool := decide (f k = 0) || decide (g (p + k) = 0) || decide (f k = g (p + k))
/-- the pattern f fits the text g at p, over its first n numbers -/
def fitA (f g : Nat → Nat) (p : Nat) : Nat → Bool
  | 0 => true
  | n + 1 => fitA f g p n && fitP f g p n
theorem fitA_miss {f g : Nat → Nat} {p k : Nat} (h : fitP f g p k = false) : ∀ n, k < n → fitA f g p n = false := by
  intro n
  induction n with
  | zero => intro h; omega
  | succ n ih =>
    intro hk
    unfold fitA
    by_cases q : k = n
    · rw [← q, h, Bool.and_false]
    · rw [ih (by omega), Bool.false_and]
theorem fitA_all {f g : Nat → Nat} {p n : Nat} (h : ∀ k, k < n → fitP f g p k = true) : fitA f g p n = true := by
  induction n with
  | zero => rfl
  | succ n ih => unfold fitA; rw [ih (fun k hk => h k (by omega)), h n (by omega)]; rfl
/-- (x - y) * (x - y), modulo 257 -/
def sqd (x y : Nat) : Nat := kmod (((x : Int) - y) * ((x : Int) - y))
def sumS (f g : Nat → Nat) (p : Nat) : Nat → Nat
  | 0 => 0
  | n + 1 => (sumS f g p n + f n * g (p + n) % 257 * sqd (f n) (g (p + n))) % 257
theorem sumS_lt (f g : Nat → Nat) (p n : Nat) : sumS f g p n < 257 := by
  cases n with
  | zero => exact (by decide : 0 < 257)
  | succ n => exact Nat.mod_lt _ (by decide)
theorem sqd_lt (x y : Nat) : sqd x y < 257 := kmod_lt _
theorem nI_sub_toInt {a b : Nat} (ha : a < 2 ^ 30) (hb : b < 2 ^ 30) : (nI a - nI b).toInt = (a : Int) - b := pk_sub_toInt ha hb
theorem sq_rem {x y : Nat} (hx : x < 257) (hy : y < 257) : (nI x - nI y) * (nI x - nI y) - (nI x - nI y) * (nI x - nI y) / nI 257 * nI 257 = nI (sqd x y) := by
  have h1 : (nI x - nI y).toInt = (x : Int) - y := nI_sub_toInt (by omega) (by omega)
  obtain ⟨d, hd⟩ : ∃ d : Nat, ((x : Int) - y) * ((x : Int) - y) = (d : Int) := ⟨(((x : Int) - y) * ((x : Int) - y)).toNat, by
    have : 0 ≤ ((x : Int) - y) * ((x : Int) - y) := by
      rcases Int.le_total 0 ((x : Int) - y) with q | q
      · exact Int.mul_nonneg q q
      · exact Int.mul_nonneg_of_nonpos_of_nonpos q q
    omega⟩
  have hdl : d ≤ 65536 := by
    have h2 : ((x : Int) - y).natAbs ≤ 256 := by omega
    have h3 : ((x : Int) - y).natAbs * ((x : Int) - y).natAbs ≤ 256 * 256 := Nat.mul_le_mul h2 h2
    have h4 : (((x : Int) - y).natAbs * ((x : Int) - y).natAbs : Int) = ((x : Int) - y) * ((x : Int) - y) := by
      rw [Int.natAbs_mul_self']
    generalize ((x : Int) - y).natAbs = n at h2 h3 h4
    have h5 : ((n * n : Nat) : Int) ≤ ((256 * 256 : Nat) : Int) := Int.ofNat_le.mpr h3
    rw [Int.natCast_mul, h4, hd] at h5
    omega
  have e : (nI x - nI y) * (nI x - nI y) = nI d := by
    apply Int32.toInt_inj.mp
    rw [Int32.toInt_mul, h1, hd, bm (by omega) (by omega), nI_toInt (by omega)]
  rw [e]
  have e2 : nI d - nI d / nI 257 * nI 257 = nI (d % 257) := pk_rem (by omega) (by omega) (by omega)
  rw [e2]
  unfold sqd kmod
  rw [hd]
  congr 1
end
section
set_option maxHeartbeats 4000000 in
set_option maxRecDepth 100000 in
theorem c_X4_isNumber (l : Launch) (D : va_G) (cy : Nat → ClassId) (ad : Nat → Nat) (hI : wI 143 ad) (ρ : Nat → kR) (x : kX) (r : Int32) : kM l yX4_isNumber wsX4_isNumber ({ frames := 0, cells := 0, slots := 0, locals := 0 } : Room) D cy 143 ad (cWf ad cy) (cW ad cy (ρ) (x)) [.int (r)] (kF (some (.int (kB (decide (0 ≤ r ∧ r < 257))))) (ρ, x)) := by
  refine k_met cX4_isNumber 1 (some .boolean) (by decide) rfl (Nat.le_of_ble_eq_true rfl) ?_
  intro p e s m below meth c ls hx hb hr hts hown hlocks hml hK hP hS hl
  have hl : lv_has ls 1 [(0, .int (r))] := hl
  have hown : s.vm.findClass RX4 = some m.cls := hown
  refine lv_iload_n hx hb dX4_isNumber_0 rfl (lv_at hl 0 rfl) ?_
  refine lv_if_lt (tgt := 15) hx hb dX4_isNumber_1 (by decide) (fun h_1 => ?_) (fun h_1 => ?_)
  · skip
    refine lv_iconst (v := nI (0)) hx hb dX4_isNumber_15 rfl ?_
    refine k_zret hx hb hr hlocks (by first | rfl | decide) (ρ, x) hP hS dX4_isNumber_16 ?_
    exact ⟨by rw [show decide (0 ≤ r ∧ r < 257) = false from decide_eq_false (fun q => absurd q.1 (Int32.not_le.mpr h_1))]; rfl, rfl⟩
  · skip
    refine lv_iload_n hx hb dX4_isNumber_4 rfl (lv_at hl 0 rfl) ?_
    refine lv_sipush (v := nI (257)) hx hb dX4_isNumber_5 rfl ?_
    refine lv_icmp_ge (tgt := 15) hx hb dX4_isNumber_8 (by decide) (fun h_2 => ?_) (fun h_2 => ?_)
    · skip
      refine lv_iconst (v := nI (0)) hx hb dX4_isNumber_15 rfl ?_
      refine k_zret hx hb hr hlocks (by first | rfl | decide) (ρ, x) hP hS dX4_isNumber_16 ?_
      exact ⟨by rw [show decide (0 ≤ r ∧ r < 257) = false from decide_eq_false (fun q => absurd q.2 (Int32.not_lt.mpr h_2))]; rfl, rfl⟩
    · skip
      refine lv_iconst (v := nI (1)) hx hb dX4_isNumber_11 rfl ?_
      refine lv_goto (tgt := 16) hx hb dX4_isNumber_12 (by decide) ?_
      refine k_zret hx hb hr hlocks (by first | rfl | decide) (ρ, x) hP hS dX4_isNumber_16 ?_
      exact ⟨by rw [show decide (0 ≤ r ∧ r < 257) = true from decide_eq_true ⟨Int32.not_lt.mp h_1, Int32.not_le.mp h_2⟩]; rfl, rfl⟩
set_option maxHeartbeats 4000000 in
set_option maxRecDepth 100000 in
theorem c_X4_isSlot (l : Launch) (D : va_G) (cy : Nat → ClassId) (ad : Nat → Nat) (hI : wI 143 ad) (ρ : Nat → kR) (x : kX) (r : Int32) : kM l yX4_isSlot wsX4_isSlot ({ frames := 0, cells := 0, slots := 0, locals := 0 } : Room) D cy 143 ad (cWf ad cy) (cW ad cy (ρ) (x)) [.int (r)] (kF (some (.int (kB (decide (0 ≤ r ∧ r < 2))))) (ρ, x)) := by
  refine k_met cX4_isSlot 1 (some .boolean) (by decide) rfl (Nat.le_of_ble_eq_true rfl) ?_
  intro p e s m below meth c ls hx hb hr hts hown hlocks hml hK hP hS hl
  have hl : lv_has ls 1 [(0, .int (r))] := hl
  have hown : s.vm.findClass RX4 = some m.cls := hown
  refine lv_iload_n hx hb dX4_isSlot_0 rfl (lv_at hl 0 rfl) ?_
  refine lv_if_lt (tgt := 13) hx hb dX4_isSlot_1 (by decide) (fun h_1 => ?_) (fun h_1 => ?_)
  · skip
    refine lv_iconst (v := nI (0)) hx hb dX4_isSlot_13 rfl ?_
    refine k_zret hx hb hr hlocks (by first | rfl | decide) (ρ, x) hP hS dX4_isSlot_14 ?_
    exact ⟨by rw [show decide (0 ≤ r ∧ r < 2) = false from decide_eq_false (fun q => absurd q.1 (Int32.not_le.mpr h_1))]; rfl, rfl⟩
  · skip
    refine lv_iload_n hx hb dX4_isSlot_4 rfl (lv_at hl 0 rfl) ?_
    refine lv_iconst (v := nI (2)) hx hb dX4_isSlot_5 rfl ?_
    refine lv_icmp_ge (tgt := 13) hx hb dX4_isSlot_6 (by decide) (fun h_2 => ?_) (fun h_2 => ?_)
    · skip
      refine lv_iconst (v := nI (0)) hx hb dX4_isSlot_13 rfl ?_
      refine k_zret hx hb hr hlocks (by first | rfl | decide) (ρ, x) hP hS dX4_isSlot_14 ?_
      exact ⟨by rw [show decide (0 ≤ r ∧ r < 2) = false from decide_eq_false (fun q => absurd q.2 (Int32.not_lt.mpr h_2))]; rfl, rfl⟩
    · skip
      refine lv_iconst (v := nI (1)) hx hb dX4_isSlot_9 rfl ?_
      refine lv_goto (tgt := 14) hx hb dX4_isSlot_10 (by decide) ?_
      refine k_zret hx hb hr hlocks (by first | rfl | decide) (ρ, x) hP hS dX4_isSlot_14 ?_
      exact ⟨by rw [show decide (0 ≤ r ∧ r < 2) = true from decide_eq_true ⟨Int32.not_lt.mp h_1, Int32.not_le.mp h_2⟩]; rfl, rfl⟩
set_option maxHeartbeats 4000000 in
set_option maxRecDepth 100000 in
theorem c_X4_raise (l : Launch) (D : va_G) (cy : Nat → ClassId) (ad : Nat → Nat) (hI : wI 143 ad) (ρ : Nat → kR) (x : kX) (a : Nat) (n : Nat) (ha : a < 257) (hn : n < 2 ^ 31) : kM l yX4_raise wsX4_raise ({ frames := 0, cells := 0, slots := 0, locals := 0 } : Room) D cy 143 ad (cWf ad cy) (cW ad cy (ρ) (x)) [.int (nI (a)), .int (nI (n))] (kF (some (.int (nI (pw a n)))) (ρ, x)) := by
  refine k_met cX4_raise 5 (some .int) (by decide) rfl (Nat.le_of_ble_eq_true rfl) ?_
  intro p e s m below meth c ls hx hb hr hts hown hlocks hml hK hP hS hl
  have hl : lv_has ls 5 [(0, .int (nI (a))), (1, .int (nI (n)))] := hl
  have hown : s.vm.findClass RX4 = some m.cls := hown
  refine lv_iconst (v := nI (1)) hx hb dX4_raise_0 rfl ?_
  refine lv_istore_n (lv' := [(2, .int (nI (1))), (0, .int (nI (a))), (1, .int (nI (n)))]) hx hb dX4_raise_1 rfl hl (by decide) rfl (fun ls hl => ?_)
  refine lv_iload_n hx hb dX4_raise_2 rfl (lv_at hl 1 rfl) ?_
  refine lv_istore_n (lv' := [(3, .int (nI (a))), (2, .int (nI (1))), (0, .int (nI (a))), (1, .int (nI (n)))]) hx hb dX4_raise_3 rfl hl (by decide) rfl (fun ls hl => ?_)
  refine lv_iload_n hx hb dX4_raise_4 rfl (lv_at hl 3 rfl) ?_
  refine lv_istore (lv' := [(4, .int (nI (n))), (3, .int (nI (a))), (2, .int (nI (1))), (0, .int (nI (a))), (1, .int (nI (n)))]) hx hb dX4_raise_5 hl (by decide) rfl (fun ls hl => ?_)
  have lp7 : ∀ (fu : Nat) (k : Nat) (t : Nat) (q : Nat), k < 2 ^ 31 → t < 257 → q < 257 → t * q ^ k % 257 = pw a n → k < fu → ∀ (H : Heap) (locs : List Loc), va_P D vwCl (wL 143 ad (cW ad cy (ρ) (x))) H → va_S (wA 143 ad) s.heap H locs → ∀ (ls : Array Slot), lv_has ls 5 [(4, .int (nI (k))), (3, .int (nI (q))), (2, .int (nI (t))), (0, .int (nI (a))), (1, .int (nI (n)))] → W p l e ({ frames := 0, cells := 0, slots := 0, locals := 0 } : Room) s m ([.int (nI (a)), .int (nI (n))] : List Value).toArray below meth c H locs 0 0 (MQ below (kQ D 143 ad (cWf ad cy) (kF (some (.int (nI (pw a n)))) (ρ, x))) ([.int (nI (a)), .int (nI (n))] : List Value).toArray s 0 0 (wA 143 ad)) (F0 m 7 ls []) := by
    intro fu
    induction fu with
    | zero => intro k t q hk ht hq he hfu; exact absurd hfu (Nat.not_lt_zero _)
    | succ fu ih7 =>
      intro k t q hk ht hq he hfu H locs hP hS ls hl
      have hm := mul_lt_257 ht hq
      have hm2 := mul_lt_257 hq hq
      refine lv_iload hx hb dX4_raise_7 (lv_at hl 0 rfl) ?_
      refine n_ifle (tgt := 45) hx hb (by omega) dX4_raise_9 (by decide) (fun h_1 => ?_) (fun h_1 => ?_)
      · skip
        refine lv_iload_n hx hb dX4_raise_45 rfl (lv_at hl 2 rfl) ?_
        refine k_iret hx hb hr hlocks (ρ, x) hP hS dX4_raise_46 ?_
        exact ⟨rN (by rw [← he, h_1, Nat.pow_zero, Nat.mul_one, Nat.mod_eq_of_lt ht]), rfl⟩
      · skip
        refine lv_iload hx hb dX4_raise_12 (lv_at hl 0 rfl) ?_
        refine lv_iconst (v := nI (1)) hx hb dX4_raise_14 rfl ?_
        refine lv_iand hx hb dX4_raise_15 ?_
        refine n_push (a := k % 2) (nI_and1 hk) ?_
        refine lv_iconst (v := nI (1)) hx hb dX4_raise_16 rfl ?_
        refine n_icmp_ne (tgt := 28) hx hb (by omega) (by omega) dX4_raise_17 (by decide) (fun h_2 => ?_) (fun h_2 => ?_)
        · skip
          refine lv_iload_n hx hb dX4_raise_28 rfl (lv_at hl 1 rfl) ?_
          refine lv_iload_n hx hb dX4_raise_29 rfl (lv_at hl 1 rfl) ?_
          refine n_imul hx hb dX4_raise_30 ?_
          refine lv_sipush (v := nI (257)) hx hb dX4_raise_31 rfl ?_
          refine n_irem hx hb (by omega) (by omega) (by omega) dX4_raise_34  ?_
          refine lv_istore_n (lv' := [(3, .int (nI ((q * q) % 257))), (4, .int (nI (k))), (2, .int (nI (t))), (0, .int (nI (a))), (1, .int (nI (n)))]) hx hb dX4_raise_35 rfl hl (by decide) rfl (fun ls hl => ?_)
          refine lv_iload hx hb dX4_raise_36 (lv_at hl 1 rfl) ?_
          refine lv_iconst (v := nI (1)) hx hb dX4_raise_38 rfl ?_
          refine lv_ishr hx hb dX4_raise_39 ?_
          refine n_push (a := k / 2) (nI_shr1 hk) ?_
          refine lv_istore (lv' := [(4, .int (nI (k / 2))), (3, .int (nI ((q * q) % 257))), (2, .int (nI (t))), (0, .int (nI (a))), (1, .int (nI (n)))]) hx hb dX4_raise_40 hl (by decide) rfl (fun ls hl => ?_)
          refine lv_goto (tgt := 7) hx hb dX4_raise_42 (by decide) ?_
          exact ih7 (k / 2) (t) (q * q % 257) (by omega) ht (Nat.mod_lt _ (by decide)) (by rw [← he]; exact rs_even h_2) (by omega) _ _ hP hS _ hl
        · skip
          refine lv_iload_n hx hb dX4_raise_20 rfl (lv_at hl 2 rfl) ?_
          refine lv_iload_n hx hb dX4_raise_21 rfl (lv_at hl 1 rfl) ?_
          refine n_imul hx hb dX4_raise_22 ?_
          refine lv_sipush (v := nI (257)) hx hb dX4_raise_23 rfl ?_
          refine n_irem hx hb (by omega) (by omega) (by omega) dX4_raise_26  ?_
          refine lv_istore_n (lv' := [(2, .int (nI ((t * q) % 257))), (4, .int (nI (k))), (3, .int (nI (q))), (0, .int (nI (a))), (1, .int (nI (n)))]) hx hb dX4_raise_27 rfl hl (by decide) rfl (fun ls hl => ?_)
          refine lv_iload_n hx hb dX4_raise_28 rfl (lv_at hl 2 rfl) ?_
          refine lv_iload_n hx hb dX4_raise_29 rfl (lv_at hl 2 rfl) ?_
          refine n_imul hx hb dX4_raise_30 ?_
          refine lv_sipush (v := nI (257)) hx hb dX4_raise_31 rfl ?_
          refine n_irem hx hb (by omega) (by omega) (by omega) dX4_raise_34  ?_
          refine lv_istore_n (lv' := [(3, .int (nI ((q * q) % 257))), (2, .int (nI ((t * q) % 257))), (4, .int (nI (k))), (0, .int (nI (a))), (1, .int (nI (n)))]) hx hb dX4_raise_35 rfl hl (by decide) rfl (fun ls hl => ?_)
          refine lv_iload hx hb dX4_raise_36 (lv_at hl 2 rfl) ?_
          refine lv_iconst (v := nI (1)) hx hb dX4_raise_38 rfl ?_
          refine lv_ishr hx hb dX4_raise_39 ?_
          refine n_push (a := k / 2) (nI_shr1 hk) ?_
          refine lv_istore (lv' := [(4, .int (nI (k / 2))), (3, .int (nI ((q * q) % 257))), (2, .int (nI ((t * q) % 257))), (0, .int (nI (a))), (1, .int (nI (n)))]) hx hb dX4_raise_40 hl (by decide) rfl (fun ls hl => ?_)
          refine lv_goto (tgt := 7) hx hb dX4_raise_42 (by decide) ?_
          exact ih7 (k / 2) (t * q % 257) (q * q % 257) (by omega) (Nat.mod_lt _ (by decide)) (Nat.mod_lt _ (by decide)) (by rw [← he]; exact rs_odd h_2) (by omega) _ _ hP hS _ hl
  exact lp7 (_ + 1) (n) (1) (a) hn (by decide) ha (by rw [Nat.one_mul]; rfl) (Nat.lt_succ_self _) _ _ hP hS _ hl
set_option maxHeartbeats 4000000 in
set_option maxRecDepth 100000 in
theorem c_X4_inverseOf (l : Launch) (D : va_G) (cy : Nat → ClassId) (ad : Nat → Nat) (hI : wI 143 ad) (ρ : Nat → kR) (x : kX) (a : Nat) (ha : a < 257) : kM l yX4_inverseOf wsX4_inverseOf ({ frames := 1, cells := 0, slots := 0, locals := 24 } : Room) D cy 143 ad (cWf ad cy) (cW ad cy (ρ) (x)) [.int (nI (a))] (kF (some (.int (nI (pw a 255)))) (ρ, x)) := by
  refine k_met cX4_inverseOf 1 (some .int) (by decide) rfl (Nat.le_of_ble_eq_true rfl) ?_
  intro p e s m below meth c ls hx hb hr hts hown hlocks hml hK hP hS hl
  have hl : lv_has ls 1 [(0, .int (nI (a)))] := hl
  have hown : s.vm.findClass RX4 = some m.cls := hown
  refine lv_iload_n hx hb dX4_inverseOf_0 rfl (lv_at hl 0 rfl) ?_
  refine lv_sipush (v := nI (255)) hx hb dX4_inverseOf_1 rfl ?_
  refine k_callSr (rest := []) (nL := 1) ⟨hx, hb, hml, hown, hts⟩ (c_X4_raise l D cy ad hI ρ x a 255 (by first | assumption | omega) (by first | assumption | omega)) (va_cwS 2 hts gX4_inverseOf_X4_raise rfl rfl rfl (by decide +kernel) ⟨Nat.le_of_ble_eq_true rfl, Nat.le_of_ble_eq_true rfl⟩) hK hP hS (fun _ h => h) rfl hl.1 rfl (Nat.le_of_ble_eq_true rfl) dX4_inverseOf_4 ⟨Nat.zero_le _, Nat.zero_le _⟩ (fun H locs hP hS => ?_)
  have hP : va_P D vwCl (wL 143 ad (cW ad cy (ρ) (x))) H := hP
  refine k_iret hx hb hr hlocks (ρ, x) hP hS dX4_inverseOf_7 ?_
  exact ⟨rfl, rfl⟩
set_option maxHeartbeats 4000000 in
set_option maxRecDepth 100000 in
theorem c_X4_pointOf (l : Launch) (D : va_G) (cy : Nat → ClassId) (ad : Nat → Nat) (hI : wI 143 ad) (ρ : Nat → kR) (x : kX) (r : Int32) : kM l yX4_pointOf wsX4_pointOf ({ frames := 1, cells := 0, slots := 0, locals := 24 } : Room) D cy 143 ad (cWf ad cy) (cW ad cy (ρ) (x)) [.int (r)] (kF (some (.int (ptV r))) (ρ, x)) := by
  refine k_met cX4_pointOf 1 (some .int) (by decide) rfl (Nat.le_of_ble_eq_true rfl) ?_
  intro p e s m below meth c ls hx hb hr hts hown hlocks hml hK hP hS hl
  have hl : lv_has ls 1 [(0, .int (r))] := hl
  have hown : s.vm.findClass RX4 = some m.cls := hown
  refine lv_iload_n hx hb dX4_pointOf_0 rfl (lv_at hl 0 rfl) ?_
  refine lv_iconst (v := nI (1)) hx hb dX4_pointOf_1 rfl ?_
  refine lv_icmp_lt (tgt := 19) hx hb dX4_pointOf_2 (by decide) (fun h_1 => ?_) (fun h_1 => ?_)
  · skip
    have hz : isZ r = false := isZ_lo h_1
    refine lv_bipush (v := (-6 : Int32)) hx hb dX4_pointOf_19 (by decide) ?_
    refine k_iret hx hb hr hlocks (ρ, x) hP hS dX4_pointOf_21 ?_
    exact ⟨by unfold ptV; rw [hz]; rfl, rfl⟩
  · skip
    refine lv_iload_n hx hb dX4_pointOf_5 rfl (lv_at hl 0 rfl) ?_
    refine lv_bipush (v := nI (64)) hx hb dX4_pointOf_6 rfl ?_
    refine lv_icmp_gt (tgt := 19) hx hb dX4_pointOf_8 (by decide) (fun h_2 => ?_) (fun h_2 => ?_)
    · skip
      have hz : isZ r = false := isZ_hi h_2
      refine lv_bipush (v := (-6 : Int32)) hx hb dX4_pointOf_19 (by decide) ?_
      refine k_iret hx hb hr hlocks (ρ, x) hP hS dX4_pointOf_21 ?_
      exact ⟨by unfold ptV; rw [hz]; rfl, rfl⟩
    · skip
      obtain ⟨k, hk, rfl⟩ : ∃ k : Nat, k < 65 ∧ r = nI k := by
        rcases kin_cases r 65 (by decide) with q | ⟨k, hk, e⟩
        · exact absurd ⟨Int32.le_trans (by decide) (Int32.not_lt.mp h_1), Int32.lt_of_le_of_lt (Int32.not_lt.mp h_2) (by decide)⟩ q
        · exact ⟨k, hk, e⟩
      have hk1 : 1 ≤ k := by
        rcases Nat.eq_zero_or_pos k with q | q
        · subst q; exact absurd (by decide) h_1
        · exact q
      have hzz := isZ_and k hk hk1
      refine lv_iload_n hx hb dX4_pointOf_11 rfl (lv_at hl 0 rfl) ?_
      refine lv_iload_n hx hb dX4_pointOf_12 rfl (lv_at hl 0 rfl) ?_
      refine lv_iconst (v := nI (1)) hx hb dX4_pointOf_13 rfl ?_
      refine lv_isub hx hb dX4_pointOf_14 ?_
      refine lv_iand hx hb dX4_pointOf_15 ?_
      refine lv_if_eq (tgt := 22) hx hb dX4_pointOf_16 (by decide) (fun h_3 => ?_) (fun h_3 => ?_)
      · skip
        have hz : isZ (nI k) = true := by rw [hzz]; exact decide_eq_true h_3
        refine lv_iconst (v := nI (3)) hx hb dX4_pointOf_22 rfl ?_
        refine lv_sipush (v := nI (256)) hx hb dX4_pointOf_23 rfl ?_
        refine lv_iload_n hx hb dX4_pointOf_26 rfl (lv_at hl 0 rfl) ?_
        refine n_idiv hx hb (by omega) (by omega) (by omega) dX4_pointOf_27 ?_
        refine k_callSr (rest := []) (nL := 1) ⟨hx, hb, hml, hown, hts⟩ (c_X4_raise l D cy ad hI ρ x 3 (256 / k) (by first | assumption | omega) (Nat.lt_of_le_of_lt (Nat.div_le_self _ _) (by decide))) (va_cwS 2 hts gX4_pointOf_X4_raise rfl rfl rfl (by decide +kernel) ⟨Nat.le_of_ble_eq_true rfl, Nat.le_of_ble_eq_true rfl⟩) hK hP hS (fun _ h => h) rfl hl.1 rfl (Nat.le_of_ble_eq_true rfl) dX4_pointOf_28 ⟨Nat.zero_le _, Nat.zero_le _⟩ (fun H locs hP hS => ?_)
        have hP : va_P D vwCl (wL 143 ad (cW ad cy (ρ) (x))) H := hP
        refine k_iret hx hb hr hlocks (ρ, x) hP hS dX4_pointOf_31 ?_
        exact ⟨by unfold ptV; rw [if_pos hz, nI_clamp (by omega)]; rfl, rfl⟩
      · skip
        have hz : isZ (nI k) = false := by rw [hzz]; exact decide_eq_false h_3
        refine lv_bipush (v := (-6 : Int32)) hx hb dX4_pointOf_19 (by decide) ?_
        refine k_iret hx hb hr hlocks (ρ, x) hP hS dX4_pointOf_21 ?_
        exact ⟨by unfold ptV; rw [hz]; rfl, rfl⟩
set_option maxHeartbeats 4000000 in
set_option maxRecDepth 100000 in
theorem c_X4_productLength (l : Launch) (D : va_G) (cy : Nat → ClassId) (ad : Nat → Nat) (hI : wI 143 ad) (ρ : Nat → kR) (x : kX) (a : Nat) (b : Nat) (ha : a < 59) (hb2 : b < 59) (hla : (ρ a).1 ≤ 64 ∧ 1 ≤ (ρ a).1) (hlb : (ρ b).1 ≤ 64) : kM l yX4_productLength wsX4_productLength ({ frames := 1, cells := 0, slots := 0, locals := 20 } : Room) D cy 143 ad (cWf ad cy) (cW ad cy (ρ) (x)) [.ref (ad (2 * a)), .ref (ad (2 * b))] (kF (some (.int (nI ((ρ a).1 + (ρ b).1 - 1)))) (ρ, x)) := by
  refine k_met cX4_productLength 2 (some .int) (by decide) rfl (Nat.le_of_ble_eq_true rfl) ?_
  intro p e s m below meth c ls hx hb hr hts hown hlocks hml hK hP hS hl
  have hl : lv_has ls 2 [(0, .ref (ad (2 * a))), (1, .ref (ad (2 * b)))] := hl
  have hown : s.vm.findClass RX4 = some m.cls := hown
  refine lv_aload_n hx hb dX4_productLength_0 rfl (lv_at hl 0 rfl) ?_
  refine k_callVr (rest := []) (nL := 2) ⟨hx, hb, hml, hown, hts⟩ (c_X2_length l D cy ad hI ρ x a (by first | assumption | omega)) (cwV 0 hts gX4_productLength_X2_length rfl rfl rfl (by decide +kernel) ⟨Nat.le_of_ble_eq_true rfl, Nat.le_of_ble_eq_true rfl⟩) hK hP hS (fun _ h => h) (q0 := 2 * a) (ci := 2) rfl (by omega) (cW_row (i := a) (by omega)) rfl rfl rfl hl.1 rfl (Nat.le_of_ble_eq_true rfl) dX4_productLength_1 ⟨Nat.zero_le _, Nat.zero_le _⟩ (fun H locs hP hS => ?_)
  have hP : va_P D vwCl (wL 143 ad (cW ad cy (ρ) (x))) H := hP
  refine lv_aload_n hx hb dX4_productLength_4 rfl (lv_at hl 1 rfl) ?_
  refine k_callVr (rest := [.int (nI ((ρ a).1))]) (nL := 2) ⟨hx, hb, hml, hown, hts⟩ (c_X2_length l D cy ad hI ρ x b (by first | assumption | omega)) (cwV 0 hts gX4_productLength_X2_length rfl rfl rfl (by decide +kernel) ⟨Nat.le_of_ble_eq_true rfl, Nat.le_of_ble_eq_true rfl⟩) hK hP hS (fun _ h => h) (q0 := 2 * b) (ci := 2) rfl (by omega) (cW_row (i := b) (by omega)) rfl rfl rfl hl.1 rfl (Nat.le_of_ble_eq_true rfl) dX4_productLength_5 ⟨Nat.zero_le _, Nat.zero_le _⟩ (fun H locs hP hS => ?_)
  have hP : va_P D vwCl (wL 143 ad (cW ad cy (ρ) (x))) H := hP
  refine n_iadd hx hb dX4_productLength_8 ?_
  refine lv_iconst (v := nI (1)) hx hb dX4_productLength_9 rfl ?_
  refine n_isub hx hb (by omega) dX4_productLength_10 ?_
  refine k_iret hx hb hr hlocks (ρ, x) hP hS dX4_productLength_11 ?_
  exact ⟨rfl, rfl⟩
set_option maxHeartbeats 4000000 in
set_option maxRecDepth 100000 in
theorem c_X4_nextPlace (l : Launch) (D : va_G) (cy : Nat → ClassId) (ad : Nat → Nat) (hI : wI 143 ad) (ρ : Nat → kR) (x : kX) (q : Nat) (sz : Nat) (hs : q < sz) (hs2 : sz ≤ 64) : kM l yX4_nextPlace wsX4_nextPlace ({ frames := 0, cells := 0, slots := 0, locals := 0 } : Room) D cy 143 ad (cWf ad cy) (cW ad cy (ρ) (x)) [.int (nI (q)), .int (nI (sz))] (kF (some (.int (nI ((q + 1) % sz)))) (ρ, x)) := by
  refine k_met cX4_nextPlace 2 (some .int) (by decide) rfl (Nat.le_of_ble_eq_true rfl) ?_
  intro p e s m below meth c ls hx hb hr hts hown hlocks hml hK hP hS hl
  have hl : lv_has ls 2 [(0, .int (nI (q))), (1, .int (nI (sz)))] := hl
  have hown : s.vm.findClass RX4 = some m.cls := hown
  refine lv_iload_n hx hb dX4_nextPlace_0 rfl (lv_at hl 0 rfl) ?_
  refine lv_iconst (v := nI (1)) hx hb dX4_nextPlace_1 rfl ?_
  refine n_iadd hx hb dX4_nextPlace_2 ?_
  refine lv_iload_n hx hb dX4_nextPlace_3 rfl (lv_at hl 1 rfl) ?_
  refine n_icmp_ge (tgt := 13) hx hb (by omega) (by omega) dX4_nextPlace_4 (by decide) (fun h_1 => ?_) (fun h_1 => ?_)
  · skip
    refine lv_iconst (v := nI (0)) hx hb dX4_nextPlace_13 rfl ?_
    refine k_iret hx hb hr hlocks (ρ, x) hP hS dX4_nextPlace_14 ?_
    exact ⟨rN (by rw [show q + 1 = sz by omega, Nat.mod_self]), rfl⟩
  · skip
    refine lv_iload_n hx hb dX4_nextPlace_7 rfl (lv_at hl 0 rfl) ?_
    refine lv_iconst (v := nI (1)) hx hb dX4_nextPlace_8 rfl ?_
    refine n_iadd hx hb dX4_nextPlace_9 ?_
    refine lv_goto (tgt := 14) hx hb dX4_nextPlace_10 (by decide) ?_
    refine k_iret hx hb hr hlocks (ρ, x) hP hS dX4_nextPlace_14 ?_
    exact ⟨rN (by rw [Nat.mod_eq_of_lt h_1]), rfl⟩
set_option maxHeartbeats 4000000 in
set_option maxRecDepth 100000 in
theorem c_X4_multiply (l : Launch) (D : va_G) (cy : Nat → ClassId) (ad : Nat → Nat) (hI : wI 143 ad) (ρ : Nat → kR) (x : kX) (a : Nat) (b : Nat) (o : Nat) (sz : Nat) (ha : a < 59) (hb2 : b < 59) (ho : o < 59) (hao : a ≠ o) (hbo : b ≠ o) (hra : rK (ρ a)) (hrb : rK (ρ b)) (hs : 1 ≤ sz ∧ sz ≤ 64) : kM l yX4_multiply wsX4_multiply ({ frames := 2, cells := 0, slots := 0, locals := 44 } : Room) D cy 143 ad (cWf ad cy) (cW ad cy (ρ) (x)) [.ref (ad (2 * a)), .ref (ad (2 * b)), .int (nI (sz)), .ref (ad (2 * o))] (kF none (va_up ρ o (mulR (ρ a) (ρ b) sz), x)) := by
  refine k_met cX4_multiply 8 none (by decide) rfl (Nat.le_of_ble_eq_true rfl) ?_
  intro p e s m below meth c ls hx hb hr hts hown hlocks hml hK hP hS hl
  have hl : lv_has ls 8 [(0, .ref (ad (2 * a))), (1, .ref (ad (2 * b))), (2, .int (nI (sz))), (3, .ref (ad (2 * o)))] := hl
  have hown : s.vm.findClass RX4 = some m.cls := hown
  obtain ⟨hla, hfa⟩ := hra
  obtain ⟨hlb, hfb⟩ := hrb
  refine lv_aload_n hx hb dX4_multiply_0 rfl (lv_at hl 3 rfl) ?_
  refine lv_iload_n hx hb dX4_multiply_1 rfl (lv_at hl 2 rfl) ?_
  refine k_callVv (rest := []) (nL := 8) ⟨hx, hb, hml, hown, hts⟩ (c_X2_clear l D cy ad hI ρ x o sz (by first | assumption | omega)) (cwV 1 hts gX4_multiply_X2_clear rfl rfl rfl (by decide +kernel) ⟨Nat.le_of_ble_eq_true rfl, Nat.le_of_ble_eq_true rfl⟩) hK hP hS (fun _ h => h) (q0 := 2 * o) (ci := 2) rfl (by omega) (cW_row (i := o) (by omega)) rfl rfl rfl hl.1 rfl (Nat.le_of_ble_eq_true rfl) dX4_multiply_2 ⟨Nat.zero_le _, Nat.zero_le _⟩ (fun H locs hP hS => ?_)
  have hP : va_P D vwCl (wL 143 ad (cW ad cy (va_up ρ o (sz, fun _ => 0)) (x))) H := hP
  refine lv_iconst (v := nI (0)) hx hb dX4_multiply_5 rfl ?_
  refine lv_istore (lv' := [(4, .int (nI (0))), (0, .ref (ad (2 * a))), (1, .ref (ad (2 * b))), (2, .int (nI (sz))), (3, .ref (ad (2 * o)))]) hx hb dX4_multiply_6 hl (by decide) rfl (fun ls hl => ?_)
  refine lv_iconst (v := nI (0)) hx hb dX4_multiply_8 rfl ?_
  refine lv_istore (lv' := [(5, .int (nI (0))), (4, .int (nI (0))), (0, .ref (ad (2 * a))), (1, .ref (ad (2 * b))), (2, .int (nI (sz))), (3, .ref (ad (2 * o)))]) hx hb dX4_multiply_9 hl (by decide) rfl (fun ls hl => ?_)
  have lp11 : ∀ (fu : Nat) (k : Nat) (ρ' : Nat → kR), k ≤ (ρ a).1 → ρ' = va_up ρ o (sz, mulO (ρ a).2 (ρ b).2 (ρ b).1 sz k) → (ρ a).1 - k < fu → ∀ (H : Heap) (locs : List Loc), va_P D vwCl (wL 143 ad (cW ad cy (ρ') (x))) H → va_S (wA 143 ad) s.heap H locs → ∀ (ls : Array Slot), lv_has ls 8 [(5, .int (nI (k))), (4, .int (nI (k % sz))), (0, .ref (ad (2 * a))), (1, .ref (ad (2 * b))), (2, .int (nI (sz))), (3, .ref (ad (2 * o)))] → W p l e ({ frames := 2, cells := 0, slots := 0, locals := 44 } : Room) s m ([.ref (ad (2 * a)), .ref (ad (2 * b)), .int (nI (sz)), .ref (ad (2 * o))] : List Value).toArray below meth c H locs 0 0 (MQ below (kQ D 143 ad (cWf ad cy) (kF none (va_up ρ o (mulR (ρ a) (ρ b) sz), x))) ([.ref (ad (2 * a)), .ref (ad (2 * b)), .int (nI (sz)), .ref (ad (2 * o))] : List Value).toArray s 0 0 (wA 143 ad)) (F0 m 11 ls []) := by
    intro fu
    induction fu with
    | zero => intro k ρ' hk hρ hfu; exact absurd hfu (Nat.not_lt_zero _)
    | succ fu ih11 =>
      intro k ρ' hk hρ hfu H locs hP hS ls hl
      have ea : ρ' a = ρ a := by rw [hρ, va_up_ne _ _ hao]
      refine lv_iload hx hb dX4_multiply_11 (lv_at hl 0 rfl) ?_
      refine lv_aload_n hx hb dX4_multiply_13 rfl (lv_at hl 2 rfl) ?_
      refine k_callVr (rest := [.int (nI (k))]) (nL := 8) ⟨hx, hb, hml, hown, hts⟩ (c_X2_length l D cy ad hI ρ' x a (by first | assumption | omega)) (cwV 0 hts gX4_multiply_X2_length rfl rfl rfl (by decide +kernel) ⟨Nat.le_of_ble_eq_true rfl, Nat.le_of_ble_eq_true rfl⟩) hK hP hS (fun _ h => h) (q0 := 2 * a) (ci := 2) rfl (by omega) (cW_row (i := a) (by omega)) rfl rfl rfl hl.1 rfl (Nat.le_of_ble_eq_true rfl) dX4_multiply_14 ⟨Nat.zero_le _, Nat.zero_le _⟩ (fun H locs hP hS => ?_)
      have hP : va_P D vwCl (wL 143 ad (cW ad cy (ρ') (x))) H := hP
      refine n_push (a := (ρ a).1) (by rw [ea]) ?_
      refine n_icmp_ge (tgt := 90) hx hb (by omega) (by omega) dX4_multiply_17 (by decide) (fun h_1 => ?_) (fun h_1 => ?_)
      · skip
        rw [hρ, show k = (ρ a).1 by omega] at hP
        refine k_vret hx hb hr hlocks (va_up ρ o (mulR (ρ a) (ρ b) sz), x) hP hS dX4_multiply_90 ?_
        exact ⟨rfl, rfl⟩
      · skip
        refine lv_iload hx hb dX4_multiply_20 (lv_at hl 1 rfl) ?_
        refine lv_istore (lv' := [(6, .int (nI (k % sz))), (5, .int (nI (k))), (4, .int (nI (k % sz))), (0, .ref (ad (2 * a))), (1, .ref (ad (2 * b))), (2, .int (nI (sz))), (3, .ref (ad (2 * o)))]) hx hb dX4_multiply_22 hl (by decide) rfl (fun ls hl => ?_)
        refine lv_iconst (v := nI (0)) hx hb dX4_multiply_24 rfl ?_
        refine lv_istore (lv' := [(7, .int (nI (0))), (6, .int (nI (k % sz))), (5, .int (nI (k))), (4, .int (nI (k % sz))), (0, .ref (ad (2 * a))), (1, .ref (ad (2 * b))), (2, .int (nI (sz))), (3, .ref (ad (2 * o)))]) hx hb dX4_multiply_25 hl (by decide) rfl (fun ls hl => ?_)
        have lp27 : ∀ (fu : Nat) (j : Nat) (ρ'' : Nat → kR), j ≤ (ρ b).1 → ρ'' = va_up ρ o (sz, mulI ((ρ a).2 k) (ρ b).2 sz k (mulO (ρ a).2 (ρ b).2 (ρ b).1 sz k) j) → (ρ b).1 - j < fu → ∀ (H : Heap) (locs : List Loc), va_P D vwCl (wL 143 ad (cW ad cy (ρ'') (x))) H → va_S (wA 143 ad) s.heap H locs → ∀ (ls : Array Slot), lv_has ls 8 [(7, .int (nI (j))), (6, .int (nI ((k + j) % sz))), (5, .int (nI (k))), (4, .int (nI (k % sz))), (0, .ref (ad (2 * a))), (1, .ref (ad (2 * b))), (2, .int (nI (sz))), (3, .ref (ad (2 * o)))] → W p l e ({ frames := 2, cells := 0, slots := 0, locals := 44 } : Room) s m ([.ref (ad (2 * a)), .ref (ad (2 * b)), .int (nI (sz)), .ref (ad (2 * o))] : List Value).toArray below meth c H locs 0 0 (MQ below (kQ D 143 ad (cWf ad cy) (kF none (va_up ρ o (mulR (ρ a) (ρ b) sz), x))) ([.ref (ad (2 * a)), .ref (ad (2 * b)), .int (nI (sz)), .ref (ad (2 * o))] : List Value).toArray s 0 0 (wA 143 ad)) (F0 m 27 ls []) := by
          intro fu
          induction fu with
          | zero => intro j ρ'' hj hρ2 hfu; exact absurd hfu (Nat.not_lt_zero _)
          | succ fu ih27 =>
            intro j ρ'' hj hρ2 hfu H locs hP hS ls hl
            have ea2 : ρ'' a = ρ a := by rw [hρ2, va_up_ne _ _ hao]
            have eb2 : ρ'' b = ρ b := by rw [hρ2, va_up_ne _ _ hbo]
            have eo2 : ρ'' o = (sz, mulI ((ρ a).2 k) (ρ b).2 sz k (mulO (ρ a).2 (ρ b).2 (ρ b).1 sz k) j) := by rw [hρ2, va_up_self]
            have hm := mul_lt_257 (hfa k) (hfb j)
            have hg := mulI_lt (c := (ρ a).2 k) (f := (ρ b).2) (s := sz) (i := k) (mulO_lt (f1 := (ρ a).2) (f2 := (ρ b).2) (l2 := (ρ b).1) (s := sz) k) j ((k + j) % sz)
            have hp : (k + j) % sz < sz := Nat.mod_lt _ (by omega)
            have hp0 : k % sz < sz := Nat.mod_lt _ (by omega)
            refine lv_iload hx hb dX4_multiply_27 (lv_at hl 0 rfl) ?_
            refine lv_aload_n hx hb dX4_multiply_29 rfl (lv_at hl 5 rfl) ?_
            refine k_callVr (rest := [.int (nI (j))]) (nL := 8) ⟨hx, hb, hml, hown, hts⟩ (c_X2_length l D cy ad hI ρ'' x b (by first | assumption | omega)) (cwV 0 hts gX4_multiply_X2_length rfl rfl rfl (by decide +kernel) ⟨Nat.le_of_ble_eq_true rfl, Nat.le_of_ble_eq_true rfl⟩) hK hP hS (fun _ h => h) (q0 := 2 * b) (ci := 2) rfl (by omega) (cW_row (i := b) (by omega)) rfl rfl rfl hl.1 rfl (Nat.le_of_ble_eq_true rfl) dX4_multiply_30 ⟨Nat.zero_le _, Nat.zero_le _⟩ (fun H locs hP hS => ?_)
            have hP : va_P D vwCl (wL 143 ad (cW ad cy (ρ'') (x))) H := hP
            refine n_push (a := (ρ b).1) (by rw [eb2]) ?_
            refine n_icmp_ge (tgt := 76) hx hb (by omega) (by omega) dX4_multiply_33 (by decide) (fun h_2 => ?_) (fun h_2 => ?_)
            · skip
              refine lv_iload hx hb dX4_multiply_76 (lv_at hl 3 rfl) ?_
              refine lv_iload_n hx hb dX4_multiply_78 rfl (lv_at hl 6 rfl) ?_
              refine k_callSr (rest := []) (nL := 8) ⟨hx, hb, hml, hown, hts⟩ (c_X4_nextPlace l D cy ad hI ρ'' x (k % sz) sz (by first | assumption | omega) (by first | assumption | omega)) (va_cwS 2 hts gX4_multiply_X4_nextPlace rfl rfl rfl (by decide +kernel) ⟨Nat.le_of_ble_eq_true rfl, Nat.le_of_ble_eq_true rfl⟩) hK hP hS (fun _ h => h) rfl hl.1 rfl (Nat.le_of_ble_eq_true rfl) dX4_multiply_79 ⟨Nat.zero_le _, Nat.zero_le _⟩ (fun H locs hP hS => ?_)
              have hP : va_P D vwCl (wL 143 ad (cW ad cy (ρ'') (x))) H := hP
              refine n_push (a := (k + 1) % sz) (by rw [Nat.mod_add_mod]) ?_
              refine lv_istore (lv' := [(4, .int (nI ((k + 1) % sz))), (7, .int (nI (j))), (6, .int (nI ((k + j) % sz))), (5, .int (nI (k))), (0, .ref (ad (2 * a))), (1, .ref (ad (2 * b))), (2, .int (nI (sz))), (3, .ref (ad (2 * o)))]) hx hb dX4_multiply_82 hl (by decide) rfl (fun ls hl => ?_)
              refine lv_iinc (v := nI (k + 1)) (lv' := [(5, .int (nI (k + 1))), (4, .int (nI ((k + 1) % sz))), (7, .int (nI (j))), (6, .int (nI ((k + j) % sz))), (0, .ref (ad (2 * a))), (1, .ref (ad (2 * b))), (2, .int (nI (sz))), (3, .ref (ad (2 * o)))]) hx hb dX4_multiply_84 hl (k := 3) rfl (nI_inc _) (by decide) rfl (fun ls hl => ?_)
              refine lv_goto (tgt := 11) hx hb dX4_multiply_87 (by decide) ?_
              exact ih11 (k + 1) (ρ'') (by omega) (by rw [hρ2, show j = (ρ b).1 by omega]; rfl) (by omega) _ _ hP hS _ (lv_sub hl [0, 1, 4, 5, 6, 7] rfl)
            · skip
              refine lv_aload_n hx hb dX4_multiply_36 rfl (lv_at hl 7 rfl) ?_
              refine lv_iload hx hb dX4_multiply_37 (lv_at hl 1 rfl) ?_
              refine lv_aload_n hx hb dX4_multiply_39 rfl (lv_at hl 7 rfl) ?_
              refine lv_iload hx hb dX4_multiply_40 (lv_at hl 1 rfl) ?_
              refine k_callVr (rest := [.int (nI ((k + j) % sz)), .ref (ad (2 * o))]) (nL := 8) ⟨hx, hb, hml, hown, hts⟩ (c_X2_at l D cy ad hI ρ'' x o ((k + j) % sz) (by first | assumption | omega) (by first | assumption | omega)) (cwV 1 hts gX4_multiply_X2_at rfl rfl rfl (by decide +kernel) ⟨Nat.le_of_ble_eq_true rfl, Nat.le_of_ble_eq_true rfl⟩) hK hP hS (fun _ h => h) (q0 := 2 * o) (ci := 2) rfl (by omega) (cW_row (i := o) (by omega)) rfl rfl rfl hl.1 rfl (Nat.le_of_ble_eq_true rfl) dX4_multiply_42 ⟨Nat.zero_le _, Nat.zero_le _⟩ (fun H locs hP hS => ?_)
              have hP : va_P D vwCl (wL 143 ad (cW ad cy (ρ'') (x))) H := hP
              refine n_push (a := mulI ((ρ a).2 k) (ρ b).2 sz k (mulO (ρ a).2 (ρ b).2 (ρ b).1 sz k) j ((k + j) % sz)) (by rw [eo2]) ?_
              refine lv_aload_n hx hb dX4_multiply_45 rfl (lv_at hl 4 rfl) ?_
              refine lv_iload hx hb dX4_multiply_46 (lv_at hl 2 rfl) ?_
              refine k_callVr (rest := [.int (nI (mulI ((ρ a).2 k) (ρ b).2 sz k (mulO (ρ a).2 (ρ b).2 (ρ b).1 sz k) j ((k + j) % sz))), .int (nI ((k + j) % sz)), .ref (ad (2 * o))]) (nL := 8) ⟨hx, hb, hml, hown, hts⟩ (c_X2_at l D cy ad hI ρ'' x a k (by first | assumption | omega) (by first | assumption | omega)) (cwV 1 hts gX4_multiply_X2_at rfl rfl rfl (by decide +kernel) ⟨Nat.le_of_ble_eq_true rfl, Nat.le_of_ble_eq_true rfl⟩) hK hP hS (fun _ h => h) (q0 := 2 * a) (ci := 2) rfl (by omega) (cW_row (i := a) (by omega)) rfl rfl rfl hl.1 rfl (Nat.le_of_ble_eq_true rfl) dX4_multiply_48 ⟨Nat.zero_le _, Nat.zero_le _⟩ (fun H locs hP hS => ?_)
              have hP : va_P D vwCl (wL 143 ad (cW ad cy (ρ'') (x))) H := hP
              refine n_push (a := (ρ a).2 k) (by rw [ea2]) ?_
              refine lv_aload_n hx hb dX4_multiply_51 rfl (lv_at hl 5 rfl) ?_
              refine lv_iload hx hb dX4_multiply_52 (lv_at hl 0 rfl) ?_
              refine k_callVr (rest := [.int (nI ((ρ a).2 k)), .int (nI (mulI ((ρ a).2 k) (ρ b).2 sz k (mulO (ρ a).2 (ρ b).2 (ρ b).1 sz k) j ((k + j) % sz))), .int (nI ((k + j) % sz)), .ref (ad (2 * o))]) (nL := 8) ⟨hx, hb, hml, hown, hts⟩ (c_X2_at l D cy ad hI ρ'' x b j (by first | assumption | omega) (by first | assumption | omega)) (cwV 1 hts gX4_multiply_X2_at rfl rfl rfl (by decide +kernel) ⟨Nat.le_of_ble_eq_true rfl, Nat.le_of_ble_eq_true rfl⟩) hK hP hS (fun _ h => h) (q0 := 2 * b) (ci := 2) rfl (by omega) (cW_row (i := b) (by omega)) rfl rfl rfl hl.1 rfl (Nat.le_of_ble_eq_true rfl) dX4_multiply_54 ⟨Nat.zero_le _, Nat.zero_le _⟩ (fun H locs hP hS => ?_)
              have hP : va_P D vwCl (wL 143 ad (cW ad cy (ρ'') (x))) H := hP
              refine n_push (a := (ρ b).2 j) (by rw [eb2]) ?_
              refine n_imul hx hb dX4_multiply_57 ?_
              refine n_iadd hx hb dX4_multiply_58 ?_
              refine k_callVv (rest := []) (nL := 8) ⟨hx, hb, hml, hown, hts⟩ (c_X2_write l D cy ad hI ρ'' x o ((k + j) % sz) (nI ((mulI ((ρ a).2 k) (ρ b).2 sz k (mulO (ρ a).2 (ρ b).2 (ρ b).1 sz k) j ((k + j) % sz)) + (((ρ a).2 k) * ((ρ b).2 j)))) (by first | assumption | omega) (by first | assumption | omega)) (cwV 2 hts gX4_multiply_X2_write rfl rfl rfl (by decide +kernel) ⟨Nat.le_of_ble_eq_true rfl, Nat.le_of_ble_eq_true rfl⟩) hK hP hS (fun _ h => h) (q0 := 2 * o) (ci := 2) rfl (by omega) (cW_row (i := o) (by omega)) rfl rfl rfl hl.1 rfl (Nat.le_of_ble_eq_true rfl) dX4_multiply_59 ⟨Nat.zero_le _, Nat.zero_le _⟩ (fun H locs hP hS => ?_)
              have hP : va_P D vwCl (wL 143 ad (cW ad cy (va_up ρ'' o ((ρ'' o).1, va_up (ρ'' o).2 ((k + j) % sz) (kmod (nI ((mulI ((ρ a).2 k) (ρ b).2 sz k (mulO (ρ a).2 (ρ b).2 (ρ b).1 sz k) j ((k + j) % sz)) + (((ρ a).2 k) * ((ρ b).2 j)))).toInt))) (x))) H := hP
              refine lv_iload hx hb dX4_multiply_62 (lv_at hl 1 rfl) ?_
              refine lv_iload_n hx hb dX4_multiply_64 rfl (lv_at hl 6 rfl) ?_
              refine k_callSr (rest := []) (nL := 8) ⟨hx, hb, hml, hown, hts⟩ (c_X4_nextPlace l D cy ad hI (va_up ρ'' o ((ρ'' o).1, va_up (ρ'' o).2 ((k + j) % sz) (kmod (nI ((mulI ((ρ a).2 k) (ρ b).2 sz k (mulO (ρ a).2 (ρ b).2 (ρ b).1 sz k) j ((k + j) % sz)) + (((ρ a).2 k) * ((ρ b).2 j)))).toInt))) x ((k + j) % sz) sz (by first | assumption | omega) (by first | assumption | omega)) (va_cwS 2 hts gX4_multiply_X4_nextPlace rfl rfl rfl (by decide +kernel) ⟨Nat.le_of_ble_eq_true rfl, Nat.le_of_ble_eq_true rfl⟩) hK hP hS (fun _ h => h) rfl hl.1 rfl (Nat.le_of_ble_eq_true rfl) dX4_multiply_65 ⟨Nat.zero_le _, Nat.zero_le _⟩ (fun H locs hP hS => ?_)
              have hP : va_P D vwCl (wL 143 ad (cW ad cy (va_up ρ'' o ((ρ'' o).1, va_up (ρ'' o).2 ((k + j) % sz) (kmod (nI ((mulI ((ρ a).2 k) (ρ b).2 sz k (mulO (ρ a).2 (ρ b).2 (ρ b).1 sz k) j ((k + j) % sz)) + (((ρ a).2 k) * ((ρ b).2 j)))).toInt))) (x))) H := hP
              refine n_push (a := (k + (j + 1)) % sz) (by rw [Nat.mod_add_mod]; rfl) ?_
              refine lv_istore (lv' := [(6, .int (nI ((k + (j + 1)) % sz))), (7, .int (nI (j))), (5, .int (nI (k))), (4, .int (nI (k % sz))), (0, .ref (ad (2 * a))), (1, .ref (ad (2 * b))), (2, .int (nI (sz))), (3, .ref (ad (2 * o)))]) hx hb dX4_multiply_68 hl (by decide) rfl (fun ls hl => ?_)
              refine lv_iinc (v := nI (j + 1)) (lv' := [(7, .int (nI (j + 1))), (6, .int (nI ((k + (j + 1)) % sz))), (5, .int (nI (k))), (4, .int (nI (k % sz))), (0, .ref (ad (2 * a))), (1, .ref (ad (2 * b))), (2, .int (nI (sz))), (3, .ref (ad (2 * o)))]) hx hb dX4_multiply_70 hl (k := 1) rfl (nI_inc _) (by decide) rfl (fun ls hl => ?_)
              refine lv_goto (tgt := 27) hx hb dX4_multiply_73 (by decide) ?_
              exact ih27 (j + 1) (va_up ρ'' o ((ρ'' o).1, va_up (ρ'' o).2 ((k + j) % sz) (kmod (nI ((mulI ((ρ a).2 k) (ρ b).2 sz k (mulO (ρ a).2 (ρ b).2 (ρ b).1 sz k) j ((k + j) % sz)) + (((ρ a).2 k) * ((ρ b).2 j)))).toInt))) (by omega) (by rw [kmod_nI (by omega), eo2, hρ2, up_up]; rfl) (by omega) _ _ hP hS _ hl
        exact lp27 (_ + 1) (0) (ρ') (by omega) hρ (Nat.lt_succ_self _) _ _ hP hS _ hl
  exact lp11 (_ + 1) (0) (va_up ρ o (sz, fun _ => 0)) (by omega) rfl (Nat.lt_succ_self _) _ _ hP hS _ hl
set_option maxHeartbeats 4000000 in
set_option maxRecDepth 100000 in
theorem c_X4_turnAround (l : Launch) (D : va_G) (cy : Nat → ClassId) (ad : Nat → Nat) (hI : wI 143 ad) (ρ : Nat → kR) (x : kX) (a : Nat) (sz : Nat) (q : Nat) (o : Nat) (ha : a < 59) (ho : o < 59) (hao : a ≠ o) (hra : rK (ρ a)) (hs : sz ≤ 64) (hq : q < 257) : kM l yX4_turnAround wsX4_turnAround ({ frames := 2, cells := 0, slots := 0, locals := 44 } : Room) D cy 143 ad (cWf ad cy) (cW ad cy (ρ) (x)) [.ref (ad (2 * a)), .int (nI (sz)), .int (nI (q)), .ref (ad (2 * o))] (kF none (va_up ρ o (sz, tur (ρ a) q sz), x)) := by
  refine k_met cX4_turnAround 6 none (by decide) rfl (Nat.le_of_ble_eq_true rfl) ?_
  intro p e s m below meth c ls hx hb hr hts hown hlocks hml hK hP hS hl
  have hl : lv_has ls 6 [(0, .ref (ad (2 * a))), (1, .int (nI (sz))), (2, .int (nI (q))), (3, .ref (ad (2 * o)))] := hl
  have hown : s.vm.findClass RX4 = some m.cls := hown
  obtain ⟨hla, hfa⟩ := hra
  refine lv_aload_n hx hb dX4_turnAround_0 rfl (lv_at hl 3 rfl) ?_
  refine lv_iload_n hx hb dX4_turnAround_1 rfl (lv_at hl 1 rfl) ?_
  refine k_callVv (rest := []) (nL := 6) ⟨hx, hb, hml, hown, hts⟩ (c_X2_clear l D cy ad hI ρ x o sz (by first | assumption | omega)) (cwV 1 hts gX4_turnAround_X2_clear rfl rfl rfl (by decide +kernel) ⟨Nat.le_of_ble_eq_true rfl, Nat.le_of_ble_eq_true rfl⟩) hK hP hS (fun _ h => h) (q0 := 2 * o) (ci := 2) rfl (by omega) (cW_row (i := o) (by omega)) rfl rfl rfl hl.1 rfl (Nat.le_of_ble_eq_true rfl) dX4_turnAround_2 ⟨Nat.zero_le _, Nat.zero_le _⟩ (fun H locs hP hS => ?_)
  have hP : va_P D vwCl (wL 143 ad (cW ad cy (va_up ρ o (sz, fun _ => 0)) (x))) H := hP
  refine lv_iconst (v := nI (1)) hx hb dX4_turnAround_5 rfl ?_
  refine lv_istore (lv' := [(4, .int (nI (1))), (0, .ref (ad (2 * a))), (1, .int (nI (sz))), (2, .int (nI (q))), (3, .ref (ad (2 * o)))]) hx hb dX4_turnAround_6 hl (by decide) rfl (fun ls hl => ?_)
  refine lv_iconst (v := nI (0)) hx hb dX4_turnAround_8 rfl ?_
  refine lv_istore (lv' := [(5, .int (nI (0))), (4, .int (nI (1))), (0, .ref (ad (2 * a))), (1, .int (nI (sz))), (2, .int (nI (q))), (3, .ref (ad (2 * o)))]) hx hb dX4_turnAround_9 hl (by decide) rfl (fun ls hl => ?_)
  have lp11 : ∀ (fu : Nat) (k : Nat) (ρ' : Nat → kR), k ≤ sz → ρ' = va_up ρ o (sz, tur (ρ a) q k) → sz - k < fu → ∀ (H : Heap) (locs : List Loc), va_P D vwCl (wL 143 ad (cW ad cy (ρ') (x))) H → va_S (wA 143 ad) s.heap H locs → ∀ (ls : Array Slot), lv_has ls 6 [(5, .int (nI (k))), (4, .int (nI (pw q k))), (0, .ref (ad (2 * a))), (1, .int (nI (sz))), (2, .int (nI (q))), (3, .ref (ad (2 * o)))] → W p l e ({ frames := 2, cells := 0, slots := 0, locals := 44 } : Room) s m ([.ref (ad (2 * a)), .int (nI (sz)), .int (nI (q)), .ref (ad (2 * o))] : List Value).toArray below meth c H locs 0 0 (MQ below (kQ D 143 ad (cWf ad cy) (kF none (va_up ρ o (sz, tur (ρ a) q sz), x))) ([.ref (ad (2 * a)), .int (nI (sz)), .int (nI (q)), .ref (ad (2 * o))] : List Value).toArray s 0 0 (wA 143 ad)) (F0 m 11 ls []) := by
    intro fu
    induction fu with
    | zero => intro k ρ' hk hρ hfu; exact absurd hfu (Nat.not_lt_zero _)
    | succ fu ih11 =>
      intro k ρ' hk hρ hfu H locs hP hS ls hl
      have ea : ρ' a = ρ a := by rw [hρ, va_up_ne _ _ hao]
      have eo : ρ' o = (sz, tur (ρ a) q k) := by rw [hρ, va_up_self]
      have hpk := pw_lt q k
      have hv := vx_lt (ρ a) (pw q k)
      have hm := mul_lt_257 hpk hq
      refine lv_iload hx hb dX4_turnAround_11 (lv_at hl 0 rfl) ?_
      refine lv_iload_n hx hb dX4_turnAround_13 rfl (lv_at hl 3 rfl) ?_
      refine n_icmp_ge (tgt := 45) hx hb (by omega) (by omega) dX4_turnAround_14 (by decide) (fun h_1 => ?_) (fun h_1 => ?_)
      · skip
        rw [hρ, show k = sz by omega] at hP
        refine k_vret hx hb hr hlocks (va_up ρ o (sz, tur (ρ a) q sz), x) hP hS dX4_turnAround_45 ?_
        exact ⟨rfl, rfl⟩
      · skip
        refine lv_aload_n hx hb dX4_turnAround_17 rfl (lv_at hl 5 rfl) ?_
        refine lv_iload hx hb dX4_turnAround_18 (lv_at hl 0 rfl) ?_
        refine lv_aload_n hx hb dX4_turnAround_20 rfl (lv_at hl 2 rfl) ?_
        refine lv_iload hx hb dX4_turnAround_21 (lv_at hl 1 rfl) ?_
        refine k_callVr (rest := [.int (nI (k)), .ref (ad (2 * o))]) (nL := 6) ⟨hx, hb, hml, hown, hts⟩ (c_X2_valueAt l D cy ad hI ρ' x a (pw q k) (by first | assumption | omega) (by rw [ea]; exact hla) (by rw [ea]; exact hfa) (by first | assumption | omega)) (cwV 1 hts gX4_turnAround_X2_valueAt rfl rfl rfl (by decide +kernel) ⟨Nat.le_of_ble_eq_true rfl, Nat.le_of_ble_eq_true rfl⟩) hK hP hS (fun _ h => h) (q0 := 2 * a) (ci := 2) rfl (by omega) (cW_row (i := a) (by omega)) rfl rfl rfl hl.1 rfl (Nat.le_of_ble_eq_true rfl) dX4_turnAround_23 ⟨Nat.zero_le _, Nat.zero_le _⟩ (fun H locs hP hS => ?_)
        have hP : va_P D vwCl (wL 143 ad (cW ad cy (ρ') (x))) H := hP
        refine n_push (a := vx (ρ a) (pw q k)) (by rw [ea]) ?_
        refine k_callVv (rest := []) (nL := 6) ⟨hx, hb, hml, hown, hts⟩ (c_X2_write l D cy ad hI ρ' x o k (nI (vx (ρ a) (pw q k))) (by first | assumption | omega) (by first | assumption | omega)) (cwV 2 hts gX4_turnAround_X2_write rfl rfl rfl (by decide +kernel) ⟨Nat.le_of_ble_eq_true rfl, Nat.le_of_ble_eq_true rfl⟩) hK hP hS (fun _ h => h) (q0 := 2 * o) (ci := 2) rfl (by omega) (cW_row (i := o) (by omega)) rfl rfl rfl hl.1 rfl (Nat.le_of_ble_eq_true rfl) dX4_turnAround_26 ⟨Nat.zero_le _, Nat.zero_le _⟩ (fun H locs hP hS => ?_)
        have hP : va_P D vwCl (wL 143 ad (cW ad cy (va_up ρ' o ((ρ' o).1, va_up (ρ' o).2 k (kmod (nI (vx (ρ a) (pw q k))).toInt))) (x))) H := hP
        refine lv_iload hx hb dX4_turnAround_29 (lv_at hl 1 rfl) ?_
        refine lv_iload_n hx hb dX4_turnAround_31 rfl (lv_at hl 4 rfl) ?_
        refine n_imul hx hb dX4_turnAround_32 ?_
        refine lv_sipush (v := nI (257)) hx hb dX4_turnAround_33 rfl ?_
        refine n_irem hx hb (by omega) (by omega) (by omega) dX4_turnAround_36  ?_
        refine n_push (a := pw q (k + 1)) (by rw [pw_s]) ?_
        refine lv_istore (lv' := [(4, .int (nI (pw q (k + 1)))), (5, .int (nI (k))), (0, .ref (ad (2 * a))), (1, .int (nI (sz))), (2, .int (nI (q))), (3, .ref (ad (2 * o)))]) hx hb dX4_turnAround_37 hl (by decide) rfl (fun ls hl => ?_)
        refine lv_iinc (v := nI (k + 1)) (lv' := [(5, .int (nI (k + 1))), (4, .int (nI (pw q (k + 1)))), (0, .ref (ad (2 * a))), (1, .int (nI (sz))), (2, .int (nI (q))), (3, .ref (ad (2 * o)))]) hx hb dX4_turnAround_39 hl (k := 1) rfl (nI_inc _) (by decide) rfl (fun ls hl => ?_)
        refine lv_goto (tgt := 11) hx hb dX4_turnAround_42 (by decide) ?_
        exact ih11 (k + 1) (va_up ρ' o ((ρ' o).1, va_up (ρ' o).2 k (kmod (nI (vx (ρ a) (pw q k))).toInt))) (by omega) (by rw [kmod_nI (by omega), Nat.mod_eq_of_lt hv, eo, hρ, up_up, tur_s]) (by omega) _ _ hP hS _ hl
  exact lp11 (_ + 1) (0) (va_up ρ o (sz, fun _ => 0)) (by omega) (by rw [tur_0]) (Nat.lt_succ_self _) _ _ hP hS _ hl
end
