section
-- ===== PART A: goes FIRST, ahead of the names: the tables' words, and 'selects' of the private methods out of them =====
/-- a private method of a class that the tables say can be made, by its rows of tables_1 -/
def lw_okq (q : MethodName × Nat) : Prop := (q.1.cls ≠ "java/lang/invoke/MethodHandle" ∧ q.1.cls ≠ "java/lang/invoke/VarHandle") ∧ Cond.instantiable q.1.cls q.2 ∈ tables_1 ∧ Cond.privateMethod q.1 ∈ tables_1 ∧ Cond.instanceMethod q.1 ∈ tables_1
theorem lw_p0 : lw_okq (⟨"GrowingBook", "refresh", "()V"⟩, 11) := ⟨⟨by decide +kernel, by decide +kernel⟩, List.mem_of_getElem? (i := 12) (by decide +kernel), List.mem_of_getElem? (i := 223) (by decide +kernel), List.mem_of_getElem? (i := 224) (by decide +kernel)⟩
theorem lw_p1 : lw_okq (⟨"GrowingBook$Writer", "begin", "(I)V"⟩, 12) := ⟨⟨by decide +kernel, by decide +kernel⟩, List.mem_of_getElem? (i := 95) (by decide +kernel), List.mem_of_getElem? (i := 231) (by decide +kernel), List.mem_of_getElem? (i := 232) (by decide +kernel)⟩
theorem lw_p2 : lw_okq (⟨"GrowingBook$Writer", "writeCode", "(III)V"⟩, 12) := ⟨⟨by decide +kernel, by decide +kernel⟩, List.mem_of_getElem? (i := 95) (by decide +kernel), List.mem_of_getElem? (i := 249) (by decide +kernel), List.mem_of_getElem? (i := 250) (by decide +kernel)⟩
theorem lw_p3 : lw_okq (⟨"GrowingBook$Writer", "grow", "(II)V"⟩, 12) := ⟨⟨by decide +kernel, by decide +kernel⟩, List.mem_of_getElem? (i := 95) (by decide +kernel), List.mem_of_getElem? (i := 260) (by decide +kernel), List.mem_of_getElem? (i := 261) (by decide +kernel)⟩
theorem lw_p4 : lw_okq (⟨"GrowingBook$Writer", "mustClear", "(II)Z"⟩, 12) := ⟨⟨by decide +kernel, by decide +kernel⟩, List.mem_of_getElem? (i := 95) (by decide +kernel), List.mem_of_getElem? (i := 271) (by decide +kernel), List.mem_of_getElem? (i := 272) (by decide +kernel)⟩
theorem lw_p5 : lw_okq (⟨"GrowingBook$Writer", "losesBy", "(I)Z"⟩, 12) := ⟨⟨by decide +kernel, by decide +kernel⟩, List.mem_of_getElem? (i := 95) (by decide +kernel), List.mem_of_getElem? (i := 275) (by decide +kernel), List.mem_of_getElem? (i := 276) (by decide +kernel)⟩
theorem lw_p6 : lw_okq (⟨"GrowingBook$Writer", "signsOf", "(II)I"⟩, 12) := ⟨⟨by decide +kernel, by decide +kernel⟩, List.mem_of_getElem? (i := 95) (by decide +kernel), List.mem_of_getElem? (i := 279) (by decide +kernel), List.mem_of_getElem? (i := 280) (by decide +kernel)⟩
theorem lw_p7 : lw_okq (⟨"GrowingBook$Reader", "begin", "(I)V"⟩, 11) := ⟨⟨by decide +kernel, by decide +kernel⟩, List.mem_of_getElem? (i := 176) (by decide +kernel), List.mem_of_getElem? (i := 287) (by decide +kernel), List.mem_of_getElem? (i := 288) (by decide +kernel)⟩
theorem lw_p8 : lw_okq (⟨"GrowingBook$Reader", "dropPhrases", "()V"⟩, 11) := ⟨⟨by decide +kernel, by decide +kernel⟩, List.mem_of_getElem? (i := 176) (by decide +kernel), List.mem_of_getElem? (i := 291) (by decide +kernel), List.mem_of_getElem? (i := 292) (by decide +kernel)⟩
theorem lw_p9 : lw_okq (⟨"GrowingBook$Reader", "noteFault", "(II)V"⟩, 11) := ⟨⟨by decide +kernel, by decide +kernel⟩, List.mem_of_getElem? (i := 176) (by decide +kernel), List.mem_of_getElem? (i := 295) (by decide +kernel), List.mem_of_getElem? (i := 296) (by decide +kernel)⟩
theorem lw_p10 : lw_okq (⟨"GrowingBook$Reader", "canStand", "(I)Z"⟩, 11) := ⟨⟨by decide +kernel, by decide +kernel⟩, List.mem_of_getElem? (i := 176) (by decide +kernel), List.mem_of_getElem? (i := 299) (by decide +kernel), List.mem_of_getElem? (i := 300) (by decide +kernel)⟩
theorem lw_p11 : lw_okq (⟨"GrowingBook$Reader", "canGrow", "()Z"⟩, 11) := ⟨⟨by decide +kernel, by decide +kernel⟩, List.mem_of_getElem? (i := 176) (by decide +kernel), List.mem_of_getElem? (i := 303) (by decide +kernel), List.mem_of_getElem? (i := 304) (by decide +kernel)⟩
theorem lw_p12 : lw_okq (⟨"GrowingBook$Reader", "readEntry", "(I)V"⟩, 11) := ⟨⟨by decide +kernel, by decide +kernel⟩, List.mem_of_getElem? (i := 176) (by decide +kernel), List.mem_of_getElem? (i := 307) (by decide +kernel), List.mem_of_getElem? (i := 308) (by decide +kernel)⟩
theorem lw_p13 : lw_okq (⟨"GrowingBook$Reader", "readSign", "(I)V"⟩, 11) := ⟨⟨by decide +kernel, by decide +kernel⟩, List.mem_of_getElem? (i := 176) (by decide +kernel), List.mem_of_getElem? (i := 311) (by decide +kernel), List.mem_of_getElem? (i := 312) (by decide +kernel)⟩
theorem lw_p14 : lw_okq (⟨"GrowingBook$Reader", "readPhrase", "(II)V"⟩, 11) := ⟨⟨by decide +kernel, by decide +kernel⟩, List.mem_of_getElem? (i := 176) (by decide +kernel), List.mem_of_getElem? (i := 315) (by decide +kernel), List.mem_of_getElem? (i := 316) (by decide +kernel)⟩
theorem lw_p15 : lw_okq (⟨"GrowingBook", "isCode", "(I)Z"⟩, 11) := ⟨⟨by decide +kernel, by decide +kernel⟩, List.mem_of_getElem? (i := 12) (by decide +kernel), List.mem_of_getElem? (i := 406) (by decide +kernel), List.mem_of_getElem? (i := 407) (by decide +kernel)⟩
def lw_privs_1 : List (MethodName × Nat) := [(⟨"GrowingBook", "refresh", "()V"⟩, 11), (⟨"GrowingBook$Writer", "begin", "(I)V"⟩, 12), (⟨"GrowingBook$Writer", "writeCode", "(III)V"⟩, 12), (⟨"GrowingBook$Writer", "grow", "(II)V"⟩, 12), (⟨"GrowingBook$Writer", "mustClear", "(II)Z"⟩, 12), (⟨"GrowingBook$Writer", "losesBy", "(I)Z"⟩, 12), (⟨"GrowingBook$Writer", "signsOf", "(II)I"⟩, 12), (⟨"GrowingBook$Reader", "begin", "(I)V"⟩, 11), (⟨"GrowingBook$Reader", "dropPhrases", "()V"⟩, 11), (⟨"GrowingBook$Reader", "noteFault", "(II)V"⟩, 11), (⟨"GrowingBook$Reader", "canStand", "(I)Z"⟩, 11), (⟨"GrowingBook$Reader", "canGrow", "()Z"⟩, 11), (⟨"GrowingBook$Reader", "readEntry", "(I)V"⟩, 11), (⟨"GrowingBook$Reader", "readSign", "(I)V"⟩, 11), (⟨"GrowingBook$Reader", "readPhrase", "(II)V"⟩, 11), (⟨"GrowingBook", "isCode", "(I)Z"⟩, 11)]
theorem lw_r1 : ∀ q ∈ lw_privs_1, lw_okq q := List.forall_mem_cons.mpr ⟨lw_p0, List.forall_mem_cons.mpr ⟨lw_p1, List.forall_mem_cons.mpr ⟨lw_p2, List.forall_mem_cons.mpr ⟨lw_p3, List.forall_mem_cons.mpr ⟨lw_p4, List.forall_mem_cons.mpr ⟨lw_p5, List.forall_mem_cons.mpr ⟨lw_p6, List.forall_mem_cons.mpr ⟨lw_p7, List.forall_mem_cons.mpr ⟨lw_p8, List.forall_mem_cons.mpr ⟨lw_p9, List.forall_mem_cons.mpr ⟨lw_p10, List.forall_mem_cons.mpr ⟨lw_p11, List.forall_mem_cons.mpr ⟨lw_p12, List.forall_mem_cons.mpr ⟨lw_p13, List.forall_mem_cons.mpr ⟨lw_p14, List.forall_mem_cons.mpr ⟨lw_p15, fun _ h => absurd h List.not_mem_nil⟩⟩⟩⟩⟩⟩⟩⟩⟩⟩⟩⟩⟩⟩⟩⟩
def lw_privs : List (MethodName × Nat) := lw_privs_1
def lw_tbl : List Cond := k2_sels lw_privs ++ tables_1
theorem lw_privs_ok : ∀ q ∈ lw_privs, lw_okq q := lw_r1
-- ===== end of PART A
def RX0 : String := "GrowingBook$Book"
def TX0 : u_T := fun k => match k with
  | 0 => ("GrowingBook$Book", "shorter", "[I", true)
  | 1 => ("GrowingBook$Book", "lastSigns", "[I", true)
  | 2 => ("GrowingBook$Book", "lengths", "[I", true)
  | 3 => ("GrowingBook$Book", "longer", "[I", true)
  | _ => ("GrowingBook$Book", "entries", "I", false)
def tyX0 : Nat → FieldType := fun k => match k with
  | 0 => .array .int
  | 1 => .array .int
  | 2 => .array .int
  | 3 => .array .int
  | _ => .int
theorem nmX0 : ∀ a, a < 5 → ∀ b, b < 5 → a ≠ b → (TX0 a).2.1 ≠ (TX0 b).2.1 := by decide +kernel
theorem tyX0_ok : ∀ k, k < 5 → parseFieldDescriptor (TX0 k).2.2.1 = some (tyX0 k) := by decide +kernel
abbrev cX0_init : ByteArray := prog_2_method_1_code
def yX0_init : MethodName := ⟨RX0, "<init>", "()V"⟩
abbrev cX0_dropPhrases : ByteArray := prog_2_method_2_code
def yX0_dropPhrases : MethodName := ⟨RX0, "dropPhrases", "()V"⟩
abbrev cX0_addPhrase : ByteArray := prog_2_method_3_code
def yX0_addPhrase : MethodName := ⟨RX0, "addPhrase", "(II)V"⟩
abbrev cX0_longestAt : ByteArray := prog_2_method_4_code
def yX0_longestAt : MethodName := ⟨RX0, "longestAt", "([III)I"⟩
def RX1 : String := "GrowingBook$History"
def TX1 : u_T := fun k => match k with
  | 0 => ("GrowingBook$History", "states", "[LGrowingBook$State;", true)
  | 1 => ("GrowingBook$History", "latest", "I", false)
  | _ => ("GrowingBook$History", "held", "I", false)
def tyX1 : Nat → FieldType := fun k => match k with
  | 0 => .array (.object "GrowingBook$State")
  | 1 => .int
  | _ => .int
theorem nmX1 : ∀ a, a < 3 → ∀ b, b < 3 → a ≠ b → (TX1 a).2.1 ≠ (TX1 b).2.1 := by decide +kernel
theorem tyX1_ok : ∀ k, k < 3 → parseFieldDescriptor (TX1 k).2.2.1 = some (tyX1 k) := by decide +kernel
abbrev cX1_init : ByteArray := prog_3_method_1_code
def yX1_init : MethodName := ⟨RX1, "<init>", "()V"⟩
abbrev cX1_record : ByteArray := prog_3_method_2_code
def yX1_record : MethodName := ⟨RX1, "record", "(LGrowingBook$State;)V"⟩
def RX2 : String := "GrowingBook$Pad"
def TX2 : u_T := fun k => match k with
  | 0 => ("GrowingBook$Pad", "characters", "[I", true)
  | 1 => ("GrowingBook$Pad", "spelled", "[I", true)
  | 2 => ("GrowingBook$Pad", "begins", "[I", true)
  | 3 => ("GrowingBook$Pad", "times", "[I", true)
  | _ => ("GrowingBook$Pad", "length", "I", false)
def tyX2 : Nat → FieldType := fun k => match k with
  | 0 => .array .int
  | 1 => .array .int
  | 2 => .array .int
  | 3 => .array .int
  | _ => .int
theorem nmX2 : ∀ a, a < 5 → ∀ b, b < 5 → a ≠ b → (TX2 a).2.1 ≠ (TX2 b).2.1 := by decide +kernel
theorem tyX2_ok : ∀ k, k < 5 → parseFieldDescriptor (TX2 k).2.2.1 = some (tyX2 k) := by decide +kernel
abbrev cX2_init : ByteArray := prog_4_method_1_code
def yX2_init : MethodName := ⟨RX2, "<init>", "()V"⟩
def RX3 : String := "GrowingBook$Reader"
def TX3 : u_T := fun k => match k with
  | 0 => ("GrowingBook$Reader", "signs", "[I", true)
  | 1 => ("GrowingBook$Reader", "many", "I", false)
  | 2 => ("GrowingBook$Reader", "entries", "I", false)
  | 3 => ("GrowingBook$Reader", "early", "I", false)
  | 4 => ("GrowingBook$Reader", "faultPlace", "I", false)
  | 5 => ("GrowingBook$Reader", "reason", "I", false)
  | 6 => ("GrowingBook$Reader", "begins", "[I", true)
  | 7 => ("GrowingBook$Reader", "lengths", "[I", true)
  | 8 => ("GrowingBook$Reader", "full", "I", false)
  | 9 => ("GrowingBook$Reader", "aheadBegin", "I", false)
  | _ => ("GrowingBook$Reader", "aheadLength", "I", false)
def tyX3 : Nat → FieldType := fun k => match k with
  | 0 => .array .int
  | 1 => .int
  | 2 => .int
  | 3 => .int
  | 4 => .int
  | 5 => .int
  | 6 => .array .int
  | 7 => .array .int
  | 8 => .int
  | 9 => .int
  | _ => .int
theorem nmX3 : ∀ a, a < 11 → ∀ b, b < 11 → a ≠ b → (TX3 a).2.1 ≠ (TX3 b).2.1 := by decide +kernel
theorem tyX3_ok : ∀ k, k < 11 → parseFieldDescriptor (TX3 k).2.2.1 = some (tyX3 k) := by decide +kernel
abbrev cX3_init : ByteArray := prog_5_method_1_code
def yX3_init : MethodName := ⟨RX3, "<init>", "()V"⟩
abbrev cX3_readAll : ByteArray := prog_5_method_2_code
def yX3_readAll : MethodName := ⟨RX3, "readAll", "([III)V"⟩
abbrev cX3_begin : ByteArray := prog_5_method_3_code
def yX3_begin : MethodName := ⟨RX3, "begin", "(I)V"⟩
abbrev cX3_dropPhrases : ByteArray := prog_5_method_4_code
def yX3_dropPhrases : MethodName := ⟨RX3, "dropPhrases", "()V"⟩
abbrev cX3_noteFault : ByteArray := prog_5_method_5_code
def yX3_noteFault : MethodName := ⟨RX3, "noteFault", "(II)V"⟩
abbrev cX3_canGrow : ByteArray := prog_5_method_6_code
def yX3_canGrow : MethodName := ⟨RX3, "canGrow", "()Z"⟩
abbrev cX3_canStand : ByteArray := prog_5_method_7_code
def yX3_canStand : MethodName := ⟨RX3, "canStand", "(I)Z"⟩
abbrev cX3_readEntry : ByteArray := prog_5_method_8_code
def yX3_readEntry : MethodName := ⟨RX3, "readEntry", "(I)V"⟩
abbrev cX3_readPhrase : ByteArray := prog_5_method_9_code
def yX3_readPhrase : MethodName := ⟨RX3, "readPhrase", "(II)V"⟩
abbrev cX3_readSign : ByteArray := prog_5_method_10_code
def yX3_readSign : MethodName := ⟨RX3, "readSign", "(I)V"⟩
abbrev cX3_firstDifference : ByteArray := prog_5_method_11_code
def yX3_firstDifference : MethodName := ⟨RX3, "firstDifference", "([II)I"⟩
def RX4 : String := "GrowingBook$State"
def TX4 : u_T := fun k => match k with
  | 0 => ("GrowingBook$State", "settings", "[I", true)
  | 1 => ("GrowingBook$State", "signs", "[I", true)
  | 2 => ("GrowingBook$State", "turned", "[I", true)
  | _ => ("GrowingBook$State", "length", "I", false)
def tyX4 : Nat → FieldType := fun k => match k with
  | 0 => .array .int
  | 1 => .array .int
  | 2 => .array .int
  | _ => .int
theorem nmX4 : ∀ a, a < 4 → ∀ b, b < 4 → a ≠ b → (TX4 a).2.1 ≠ (TX4 b).2.1 := by decide +kernel
theorem tyX4_ok : ∀ k, k < 4 → parseFieldDescriptor (TX4 k).2.2.1 = some (tyX4 k) := by decide +kernel
abbrev cX4_init : ByteArray := prog_6_method_1_code
def yX4_init : MethodName := ⟨RX4, "<init>", "()V"⟩
abbrev cX4_mendCodes : ByteArray := prog_6_method_2_code
def yX4_mendCodes : MethodName := ⟨RX4, "mendCodes", "()V"⟩
abbrev cX4_countSpoiled : ByteArray := prog_6_method_3_code
def yX4_countSpoiled : MethodName := ⟨RX4, "countSpoiled", "()I"⟩
def RX5 : String := "GrowingBook$Writer"
def TX5 : u_T := fun k => match k with
  | 0 => ("GrowingBook$Writer", "book", "LGrowingBook$Book;", true)
  | 1 => ("GrowingBook$Writer", "numbers", "[I", true)
  | 2 => ("GrowingBook$Writer", "widths", "[I", true)
  | 3 => ("GrowingBook$Writer", "places", "[I", true)
  | 4 => ("GrowingBook$Writer", "lengths", "[I", true)
  | 5 => ("GrowingBook$Writer", "books", "[I", true)
  | 6 => ("GrowingBook$Writer", "codes", "I", false)
  | 7 => ("GrowingBook$Writer", "bits", "I", false)
  | 8 => ("GrowingBook$Writer", "clears", "I", false)
  | 9 => ("GrowingBook$Writer", "longest", "I", false)
  | 10 => ("GrowingBook$Writer", "full", "I", false)
  | _ => ("GrowingBook$Writer", "firstSinceFull", "I", false)
def tyX5 : Nat → FieldType := fun k => match k with
  | 0 => .object "GrowingBook$Book"
  | 1 => .array .int
  | 2 => .array .int
  | 3 => .array .int
  | 4 => .array .int
  | 5 => .array .int
  | 6 => .int
  | 7 => .int
  | 8 => .int
  | 9 => .int
  | 10 => .int
  | _ => .int
theorem nmX5 : ∀ a, a < 12 → ∀ b, b < 12 → a ≠ b → (TX5 a).2.1 ≠ (TX5 b).2.1 := by decide +kernel
theorem tyX5_ok : ∀ k, k < 12 → parseFieldDescriptor (TX5 k).2.2.1 = some (tyX5 k) := by decide +kernel
abbrev cX5_init : ByteArray := prog_7_method_1_code
def yX5_init : MethodName := ⟨RX5, "<init>", "()V"⟩
abbrev cX5_writeOut : ByteArray := prog_7_method_2_code
def yX5_writeOut : MethodName := ⟨RX5, "writeOut", "([IIIII)V"⟩
abbrev cX5_begin : ByteArray := prog_7_method_3_code
def yX5_begin : MethodName := ⟨RX5, "begin", "(I)V"⟩
abbrev cX5_writeCode : ByteArray := prog_7_method_4_code
def yX5_writeCode : MethodName := ⟨RX5, "writeCode", "(III)V"⟩
abbrev cX5_bitsOf : ByteArray := prog_7_method_5_code
def yX5_bitsOf : MethodName := ⟨RX5, "bitsOf", "(I)I"⟩
abbrev cX5_grow : ByteArray := prog_7_method_6_code
def yX5_grow : MethodName := ⟨RX5, "grow", "(II)V"⟩
abbrev cX5_mustClear : ByteArray := prog_7_method_7_code
def yX5_mustClear : MethodName := ⟨RX5, "mustClear", "(II)Z"⟩
abbrev cX5_losesBy : ByteArray := prog_7_method_8_code
def yX5_losesBy : MethodName := ⟨RX5, "losesBy", "(I)Z"⟩
abbrev cX5_signsOf : ByteArray := prog_7_method_9_code
def yX5_signsOf : MethodName := ⟨RX5, "signsOf", "(II)I"⟩
def RX6 : String := "GrowingBook"
def TX6 : u_T := fun k => match k with
  | 0 => ("GrowingBook", "now", "LGrowingBook$State;", true)
  | 1 => ("GrowingBook", "history", "LGrowingBook$History;", true)
  | 2 => ("GrowingBook", "slots", "[LGrowingBook$State;", true)
  | 3 => ("GrowingBook", "saved", "[Z", true)
  | 4 => ("GrowingBook", "pad", "LGrowingBook$Pad;", true)
  | 5 => ("GrowingBook", "writer", "LGrowingBook$Writer;", true)
  | 6 => ("GrowingBook", "reader", "LGrowingBook$Reader;", true)
  | 7 => ("GrowingBook", "coming", "[I", true)
  | 8 => ("GrowingBook", "trialWriter", "LGrowingBook$Writer;", true)
  | 9 => ("GrowingBook", "trialReader", "LGrowingBook$Reader;", true)
  | _ => ("GrowingBook", "trialCodes", "[I", true)
def tyX6 : Nat → FieldType := fun k => match k with
  | 0 => .object "GrowingBook$State"
  | 1 => .object "GrowingBook$History"
  | 2 => .array (.object "GrowingBook$State")
  | 3 => .array .boolean
  | 4 => .object "GrowingBook$Pad"
  | 5 => .object "GrowingBook$Writer"
  | 6 => .object "GrowingBook$Reader"
  | 7 => .array .int
  | 8 => .object "GrowingBook$Writer"
  | 9 => .object "GrowingBook$Reader"
  | _ => .array .int
theorem nmX6 : ∀ a, a < 11 → ∀ b, b < 11 → a ≠ b → (TX6 a).2.1 ≠ (TX6 b).2.1 := by decide +kernel
theorem tyX6_ok : ∀ k, k < 11 → parseFieldDescriptor (TX6 k).2.2.1 = some (tyX6 k) := by decide +kernel
abbrev cX6_init : ByteArray := prog_1_method_1_code
def yX6_init : MethodName := ⟨RX6, "<init>", "()V"⟩
abbrev cX6_set : ByteArray := prog_1_method_2_code
def yX6_set : MethodName := ⟨RX6, "set", "(II)I"⟩
abbrev cX6_add : ByteArray := prog_1_method_3_code
def yX6_add : MethodName := ⟨RX6, "add", "(II)I"⟩
abbrev cX6_cut : ByteArray := prog_1_method_4_code
def yX6_cut : MethodName := ⟨RX6, "cut", "(I)I"⟩
abbrev cX6_spoil : ByteArray := prog_1_method_5_code
def yX6_spoil : MethodName := ⟨RX6, "spoil", "(II)I"⟩
abbrev cX6_sign : ByteArray := prog_1_method_10_code
def yX6_sign : MethodName := ⟨RX6, "sign", "(I)I"⟩
abbrev cX6_ofCode : ByteArray := prog_1_method_11_code
def yX6_ofCode : MethodName := ⟨RX6, "ofCode", "(II)I"⟩
abbrev cX6_count : ByteArray := prog_1_method_12_code
def yX6_count : MethodName := ⟨RX6, "count", "(I)I"⟩
abbrev cX6_entry : ByteArray := prog_1_method_13_code
def yX6_entry : MethodName := ⟨RX6, "entry", "(II)I"⟩
abbrev cX6_reading : ByteArray := prog_1_method_14_code
def yX6_reading : MethodName := ⟨RX6, "reading", "(I)I"⟩
abbrev cX6_read : ByteArray := prog_1_method_15_code
def yX6_read : MethodName := ⟨RX6, "read", "(I)I"⟩
abbrev cX6_isSetting : ByteArray := prog_1_method_23_code
def yX6_isSetting : MethodName := ⟨RX6, "isSetting", "(II)Z"⟩
abbrev cX6_isCode : ByteArray := prog_1_method_24_code
def yX6_isCode : MethodName := ⟨RX6, "isCode", "(I)Z"⟩
abbrev cX6_refresh : ByteArray := prog_1_method_25_code
def yX6_refresh : MethodName := ⟨RX6, "refresh", "()V"⟩
abbrev cX6_copyState : ByteArray := prog_1_method_28_code
def yX6_copyState : MethodName := ⟨RX6, "copyState", "(LGrowingBook$State;LGrowingBook$State;)V"⟩
def RX7 : String := "GrowingBookModel"
def TX7 : u_T := fun k => match k with
  | _ => ("", "", "", false)
def tyX7 : Nat → FieldType := fun k => match k with
  | _ => .int
theorem nmX7 : ∀ a, a < 0 → ∀ b, b < 0 → a ≠ b → (TX7 a).2.1 ≠ (TX7 b).2.1 := by decide +kernel
theorem tyX7_ok : ∀ k, k < 0 → parseFieldDescriptor (TX7 k).2.2.1 = some (tyX7 k) := by decide +kernel
def RJx8e188 : String := "java/lang/Cloneable"
def TJx8e188 : u_T := fun k => match k with
  | _ => ("", "", "", false)
def tyJx8e188 : Nat → FieldType := fun k => match k with
  | _ => .int
theorem nmJx8e188 : ∀ a, a < 0 → ∀ b, b < 0 → a ≠ b → (TJx8e188 a).2.1 ≠ (TJx8e188 b).2.1 := by decide +kernel
theorem tyJx8e188_ok : ∀ k, k < 0 → parseFieldDescriptor (TJx8e188 k).2.2.1 = some (tyJx8e188 k) := by decide +kernel
def RJ9 : String := "java/lang/Math"
def TJ9 : u_T := fun k => match k with
  | _ => ("", "", "", false)
def tyJ9 : Nat → FieldType := fun k => match k with
  | _ => .int
theorem nmJ9 : ∀ a, a < 0 → ∀ b, b < 0 → a ≠ b → (TJ9 a).2.1 ≠ (TJ9 b).2.1 := by decide +kernel
theorem tyJ9_ok : ∀ k, k < 0 → parseFieldDescriptor (TJ9 k).2.2.1 = some (tyJ9 k) := by decide +kernel
abbrev cJ9_max_7cf53 : ByteArray := prog_11_method_65_code
def yJ9_max_7cf53 : MethodName := ⟨RJ9, "max", "(II)I"⟩
abbrev cJ9_min_7cf53 : ByteArray := prog_11_method_69_code
def yJ9_min_7cf53 : MethodName := ⟨RJ9, "min", "(II)I"⟩
def RJ10 : String := "java/lang/System"
def TJ10 : u_T := fun k => match k with
  | _ => ("", "", "", false)
def tyJ10 : Nat → FieldType := fun k => match k with
  | _ => .int
theorem nmJ10 : ∀ a, a < 0 → ∀ b, b < 0 → a ≠ b → (TJ10 a).2.1 ≠ (TJ10 b).2.1 := by decide +kernel
theorem tyJ10_ok : ∀ k, k < 0 → parseFieldDescriptor (TJ10 k).2.2.1 = some (tyJ10 k) := by decide +kernel
def RJ7 : String := "java/util/Arrays"
def TJ7 : u_T := fun k => match k with
  | _ => ("", "", "", false)
def tyJ7 : Nat → FieldType := fun k => match k with
  | _ => .int
theorem nmJ7 : ∀ a, a < 0 → ∀ b, b < 0 → a ≠ b → (TJ7 a).2.1 ≠ (TJ7 b).2.1 := by decide +kernel
theorem tyJ7_ok : ∀ k, k < 0 → parseFieldDescriptor (TJ7 k).2.2.1 = some (tyJ7 k) := by decide +kernel
abbrev cJ7_rangeCheck_23922 : ByteArray := prog_13_method_30_code
def yJ7_rangeCheck_23922 : MethodName := ⟨RJ7, "rangeCheck", "(III)V"⟩
abbrev cJ7_fill_53178 : ByteArray := prog_13_method_103_code
def yJ7_fill_53178 : MethodName := ⟨RJ7, "fill", "([II)V"⟩
abbrev cJ7_fill_fda19 : ByteArray := prog_13_method_104_code
def yJ7_fill_fda19 : MethodName := ⟨RJ7, "fill", "([IIII)V"⟩
def RL : String := "GrowingBookLaw"
abbrev cL_cell : ByteArray := method_2_code
def yL_cell : MethodName := ⟨RL, "cell", "([III)I"⟩
abbrev cL_bits : ByteArray := method_3_code
def yL_bits : MethodName := ⟨RL, "bits", "(I)I"⟩
abbrev cL_isAlike : ByteArray := method_4_code
def yL_isAlike : MethodName := ⟨RL, "isAlike", "(LGrowingBook;III)Z"⟩
abbrev cL_areCodes : ByteArray := method_5_code
def yL_areCodes : MethodName := ⟨RL, "areCodes", "(LGrowingBook;)Z"⟩
abbrev cL_areEntries : ByteArray := method_6_code
def yL_areEntries : MethodName := ⟨RL, "areEntries", "(LGrowingBook;)Z"⟩
abbrev cL_isRead : ByteArray := method_7_code
def yL_isRead : MethodName := ⟨RL, "isRead", "(LGrowingBook;)Z"⟩
abbrev cL_agree : ByteArray := method_8_code
def yL_agree : MethodName := ⟨RL, "agree", "(LGrowingBook;)Z"⟩
abbrev cL_isSpoiled : ByteArray := method_9_code
def yL_isSpoiled : MethodName := ⟨RL, "isSpoiled", "(LGrowingBook;II)Z"⟩
abbrev cL_isAct : ByteArray := method_10_code
def yL_isAct : MethodName := ⟨RL, "isAct", "(LGrowingBook;[II)Z"⟩
abbrev cL_law : ByteArray := code
def yL_law : MethodName := ⟨RL, "law", "([I)Z"⟩
theorem dX0_init_0 : decode cX0_init 0 = .ok (.aload_n 0, 1) := by decide +kernel
theorem dX0_init_1 : decode cX0_init 1 = .ok (.invokespecial 3, 3) := by decide +kernel
theorem dX0_init_4 : decode cX0_init 4 = .ok (.aload_n 0, 1) := by decide +kernel
theorem dX0_init_5 : decode cX0_init 5 = .ok (.sipush 512, 3) := by decide +kernel
theorem dX0_init_8 : decode cX0_init 8 = .ok (.newarray .int, 2) := by decide +kernel
theorem dX0_init_10 : decode cX0_init 10 = .ok (.putfield 9, 3) := by decide +kernel
theorem dX0_init_13 : decode cX0_init 13 = .ok (.aload_n 0, 1) := by decide +kernel
theorem dX0_init_14 : decode cX0_init 14 = .ok (.sipush 512, 3) := by decide +kernel
theorem dX0_init_17 : decode cX0_init 17 = .ok (.newarray .int, 2) := by decide +kernel
theorem dX0_init_19 : decode cX0_init 19 = .ok (.putfield 15, 3) := by decide +kernel
theorem dX0_init_22 : decode cX0_init 22 = .ok (.aload_n 0, 1) := by decide +kernel
theorem dX0_init_23 : decode cX0_init 23 = .ok (.sipush 512, 3) := by decide +kernel
theorem dX0_init_26 : decode cX0_init 26 = .ok (.newarray .int, 2) := by decide +kernel
theorem dX0_init_28 : decode cX0_init 28 = .ok (.putfield 18, 3) := by decide +kernel
theorem dX0_init_31 : decode cX0_init 31 = .ok (.aload_n 0, 1) := by decide +kernel
theorem dX0_init_32 : decode cX0_init 32 = .ok (.sipush 4096, 3) := by decide +kernel
theorem dX0_init_35 : decode cX0_init 35 = .ok (.newarray .int, 2) := by decide +kernel
theorem dX0_init_37 : decode cX0_init 37 = .ok (.putfield 21, 3) := by decide +kernel
theorem dX0_init_40 : decode cX0_init 40 = .ok (.iconst 0, 1) := by decide +kernel
theorem dX0_init_41 : decode cX0_init 41 = .ok (.istore_n 1, 1) := by decide +kernel
theorem dX0_init_42 : decode cX0_init 42 = .ok (.iload_n 1, 1) := by decide +kernel
theorem dX0_init_43 : decode cX0_init 43 = .ok (.bipush 10, 2) := by decide +kernel
theorem dX0_init_45 : decode cX0_init 45 = .ok (.if_icmp .ge 52, 3) := by decide +kernel
theorem dX0_init_48 : decode cX0_init 48 = .ok (.aload_n 0, 1) := by decide +kernel
theorem dX0_init_49 : decode cX0_init 49 = .ok (.getfield 9, 3) := by decide +kernel
theorem dX0_init_52 : decode cX0_init 52 = .ok (.iload_n 1, 1) := by decide +kernel
theorem dX0_init_53 : decode cX0_init 53 = .ok (.bipush (-6), 2) := by decide +kernel
theorem dX0_init_55 : decode cX0_init 55 = .ok (.iastore, 1) := by decide +kernel
theorem dX0_init_56 : decode cX0_init 56 = .ok (.aload_n 0, 1) := by decide +kernel
theorem dX0_init_57 : decode cX0_init 57 = .ok (.getfield 15, 3) := by decide +kernel
theorem dX0_init_60 : decode cX0_init 60 = .ok (.iload_n 1, 1) := by decide +kernel
theorem dX0_init_61 : decode cX0_init 61 = .ok (.iload_n 1, 1) := by decide +kernel
theorem dX0_init_62 : decode cX0_init 62 = .ok (.bipush 8, 2) := by decide +kernel
theorem dX0_init_64 : decode cX0_init 64 = .ok (.if_icmp .ge 7, 3) := by decide +kernel
theorem dX0_init_67 : decode cX0_init 67 = .ok (.iload_n 1, 1) := by decide +kernel
theorem dX0_init_68 : decode cX0_init 68 = .ok (.goto 5, 3) := by decide +kernel
theorem dX0_init_71 : decode cX0_init 71 = .ok (.bipush (-6), 2) := by decide +kernel
theorem dX0_init_73 : decode cX0_init 73 = .ok (.iastore, 1) := by decide +kernel
theorem dX0_init_74 : decode cX0_init 74 = .ok (.aload_n 0, 1) := by decide +kernel
theorem dX0_init_75 : decode cX0_init 75 = .ok (.getfield 18, 3) := by decide +kernel
theorem dX0_init_78 : decode cX0_init 78 = .ok (.iload_n 1, 1) := by decide +kernel
theorem dX0_init_79 : decode cX0_init 79 = .ok (.iload_n 1, 1) := by decide +kernel
theorem dX0_init_80 : decode cX0_init 80 = .ok (.bipush 8, 2) := by decide +kernel
theorem dX0_init_82 : decode cX0_init 82 = .ok (.if_icmp .ge 7, 3) := by decide +kernel
theorem dX0_init_85 : decode cX0_init 85 = .ok (.iconst 1, 1) := by decide +kernel
theorem dX0_init_86 : decode cX0_init 86 = .ok (.goto 4, 3) := by decide +kernel
theorem dX0_init_89 : decode cX0_init 89 = .ok (.iconst 0, 1) := by decide +kernel
theorem dX0_init_90 : decode cX0_init 90 = .ok (.iastore, 1) := by decide +kernel
theorem dX0_init_91 : decode cX0_init 91 = .ok (.iinc 1 1, 3) := by decide +kernel
theorem dX0_init_94 : decode cX0_init 94 = .ok (.goto (-52), 3) := by decide +kernel
theorem dX0_init_97 : decode cX0_init 97 = .ok (.aload_n 0, 1) := by decide +kernel
theorem dX0_init_98 : decode cX0_init 98 = .ok (.bipush 10, 2) := by decide +kernel
theorem dX0_init_100 : decode cX0_init 100 = .ok (.putfield 24, 3) := by decide +kernel
theorem dX0_init_103 : decode cX0_init 103 = .ok (.return_, 1) := by decide +kernel
theorem dX0_dropPhrases_0 : decode cX0_dropPhrases 0 = .ok (.aload_n 0, 1) := by decide +kernel
theorem dX0_dropPhrases_1 : decode cX0_dropPhrases 1 = .ok (.bipush 10, 2) := by decide +kernel
theorem dX0_dropPhrases_3 : decode cX0_dropPhrases 3 = .ok (.putfield 24, 3) := by decide +kernel
theorem dX0_dropPhrases_6 : decode cX0_dropPhrases 6 = .ok (.aload_n 0, 1) := by decide +kernel
theorem dX0_dropPhrases_7 : decode cX0_dropPhrases 7 = .ok (.getfield 21, 3) := by decide +kernel
theorem dX0_dropPhrases_10 : decode cX0_dropPhrases 10 = .ok (.iconst 0, 1) := by decide +kernel
theorem dX0_dropPhrases_11 : decode cX0_dropPhrases 11 = .ok (.bipush 80, 2) := by decide +kernel
theorem dX0_dropPhrases_13 : decode cX0_dropPhrases 13 = .ok (.iconst 0, 1) := by decide +kernel
theorem dX0_dropPhrases_14 : decode cX0_dropPhrases 14 = .ok (.invokestatic 28, 3) := by decide +kernel
theorem dX0_dropPhrases_17 : decode cX0_dropPhrases 17 = .ok (.return_, 1) := by decide +kernel
theorem dX0_addPhrase_0 : decode cX0_addPhrase 0 = .ok (.aload_n 0, 1) := by decide +kernel
theorem dX0_addPhrase_1 : decode cX0_addPhrase 1 = .ok (.getfield 24, 3) := by decide +kernel
theorem dX0_addPhrase_4 : decode cX0_addPhrase 4 = .ok (.sipush 512, 3) := by decide +kernel
theorem dX0_addPhrase_7 : decode cX0_addPhrase 7 = .ok (.if_icmp .lt 4, 3) := by decide +kernel
theorem dX0_addPhrase_10 : decode cX0_addPhrase 10 = .ok (.return_, 1) := by decide +kernel
theorem dX0_addPhrase_11 : decode cX0_addPhrase 11 = .ok (.aload_n 0, 1) := by decide +kernel
theorem dX0_addPhrase_12 : decode cX0_addPhrase 12 = .ok (.getfield 9, 3) := by decide +kernel
theorem dX0_addPhrase_15 : decode cX0_addPhrase 15 = .ok (.aload_n 0, 1) := by decide +kernel
theorem dX0_addPhrase_16 : decode cX0_addPhrase 16 = .ok (.getfield 24, 3) := by decide +kernel
theorem dX0_addPhrase_19 : decode cX0_addPhrase 19 = .ok (.iload_n 1, 1) := by decide +kernel
theorem dX0_addPhrase_20 : decode cX0_addPhrase 20 = .ok (.iastore, 1) := by decide +kernel
theorem dX0_addPhrase_21 : decode cX0_addPhrase 21 = .ok (.aload_n 0, 1) := by decide +kernel
theorem dX0_addPhrase_22 : decode cX0_addPhrase 22 = .ok (.getfield 15, 3) := by decide +kernel
theorem dX0_addPhrase_25 : decode cX0_addPhrase 25 = .ok (.aload_n 0, 1) := by decide +kernel
theorem dX0_addPhrase_26 : decode cX0_addPhrase 26 = .ok (.getfield 24, 3) := by decide +kernel
theorem dX0_addPhrase_29 : decode cX0_addPhrase 29 = .ok (.iload_n 2, 1) := by decide +kernel
theorem dX0_addPhrase_30 : decode cX0_addPhrase 30 = .ok (.iastore, 1) := by decide +kernel
theorem dX0_addPhrase_31 : decode cX0_addPhrase 31 = .ok (.aload_n 0, 1) := by decide +kernel
theorem dX0_addPhrase_32 : decode cX0_addPhrase 32 = .ok (.getfield 18, 3) := by decide +kernel
theorem dX0_addPhrase_35 : decode cX0_addPhrase 35 = .ok (.aload_n 0, 1) := by decide +kernel
theorem dX0_addPhrase_36 : decode cX0_addPhrase 36 = .ok (.getfield 24, 3) := by decide +kernel
theorem dX0_addPhrase_39 : decode cX0_addPhrase 39 = .ok (.aload_n 0, 1) := by decide +kernel
theorem dX0_addPhrase_40 : decode cX0_addPhrase 40 = .ok (.getfield 18, 3) := by decide +kernel
theorem dX0_addPhrase_43 : decode cX0_addPhrase 43 = .ok (.iload_n 1, 1) := by decide +kernel
theorem dX0_addPhrase_44 : decode cX0_addPhrase 44 = .ok (.iaload, 1) := by decide +kernel
theorem dX0_addPhrase_45 : decode cX0_addPhrase 45 = .ok (.iconst 1, 1) := by decide +kernel
theorem dX0_addPhrase_46 : decode cX0_addPhrase 46 = .ok (.iadd, 1) := by decide +kernel
theorem dX0_addPhrase_47 : decode cX0_addPhrase 47 = .ok (.iastore, 1) := by decide +kernel
theorem dX0_addPhrase_48 : decode cX0_addPhrase 48 = .ok (.aload_n 0, 1) := by decide +kernel
theorem dX0_addPhrase_49 : decode cX0_addPhrase 49 = .ok (.getfield 21, 3) := by decide +kernel
theorem dX0_addPhrase_52 : decode cX0_addPhrase 52 = .ok (.iload_n 1, 1) := by decide +kernel
theorem dX0_addPhrase_53 : decode cX0_addPhrase 53 = .ok (.bipush 8, 2) := by decide +kernel
theorem dX0_addPhrase_55 : decode cX0_addPhrase 55 = .ok (.imul, 1) := by decide +kernel
theorem dX0_addPhrase_56 : decode cX0_addPhrase 56 = .ok (.iload_n 2, 1) := by decide +kernel
theorem dX0_addPhrase_57 : decode cX0_addPhrase 57 = .ok (.iadd, 1) := by decide +kernel
theorem dX0_addPhrase_58 : decode cX0_addPhrase 58 = .ok (.aload_n 0, 1) := by decide +kernel
theorem dX0_addPhrase_59 : decode cX0_addPhrase 59 = .ok (.getfield 24, 3) := by decide +kernel
theorem dX0_addPhrase_62 : decode cX0_addPhrase 62 = .ok (.iastore, 1) := by decide +kernel
theorem dX0_addPhrase_63 : decode cX0_addPhrase 63 = .ok (.aload_n 0, 1) := by decide +kernel
theorem dX0_addPhrase_64 : decode cX0_addPhrase 64 = .ok (.getfield 21, 3) := by decide +kernel
theorem dX0_addPhrase_67 : decode cX0_addPhrase 67 = .ok (.aload_n 0, 1) := by decide +kernel
theorem dX0_addPhrase_68 : decode cX0_addPhrase 68 = .ok (.getfield 24, 3) := by decide +kernel
theorem dX0_addPhrase_71 : decode cX0_addPhrase 71 = .ok (.bipush 8, 2) := by decide +kernel
theorem dX0_addPhrase_73 : decode cX0_addPhrase 73 = .ok (.imul, 1) := by decide +kernel
theorem dX0_addPhrase_74 : decode cX0_addPhrase 74 = .ok (.aload_n 0, 1) := by decide +kernel
theorem dX0_addPhrase_75 : decode cX0_addPhrase 75 = .ok (.getfield 24, 3) := by decide +kernel
theorem dX0_addPhrase_78 : decode cX0_addPhrase 78 = .ok (.iconst 1, 1) := by decide +kernel
theorem dX0_addPhrase_79 : decode cX0_addPhrase 79 = .ok (.iadd, 1) := by decide +kernel
theorem dX0_addPhrase_80 : decode cX0_addPhrase 80 = .ok (.bipush 8, 2) := by decide +kernel
theorem dX0_addPhrase_82 : decode cX0_addPhrase 82 = .ok (.imul, 1) := by decide +kernel
theorem dX0_addPhrase_83 : decode cX0_addPhrase 83 = .ok (.iconst 0, 1) := by decide +kernel
theorem dX0_addPhrase_84 : decode cX0_addPhrase 84 = .ok (.invokestatic 28, 3) := by decide +kernel
theorem dX0_addPhrase_87 : decode cX0_addPhrase 87 = .ok (.aload_n 0, 1) := by decide +kernel
theorem dX0_addPhrase_88 : decode cX0_addPhrase 88 = .ok (.dup, 1) := by decide +kernel
theorem dX0_addPhrase_89 : decode cX0_addPhrase 89 = .ok (.getfield 24, 3) := by decide +kernel
theorem dX0_addPhrase_92 : decode cX0_addPhrase 92 = .ok (.iconst 1, 1) := by decide +kernel
theorem dX0_addPhrase_93 : decode cX0_addPhrase 93 = .ok (.iadd, 1) := by decide +kernel
theorem dX0_addPhrase_94 : decode cX0_addPhrase 94 = .ok (.putfield 24, 3) := by decide +kernel
theorem dX0_addPhrase_97 : decode cX0_addPhrase 97 = .ok (.return_, 1) := by decide +kernel
theorem dX0_longestAt_0 : decode cX0_longestAt 0 = .ok (.aload_n 1, 1) := by decide +kernel
theorem dX0_longestAt_1 : decode cX0_longestAt 1 = .ok (.iload_n 2, 1) := by decide +kernel
theorem dX0_longestAt_2 : decode cX0_longestAt 2 = .ok (.iaload, 1) := by decide +kernel
theorem dX0_longestAt_3 : decode cX0_longestAt 3 = .ok (.istore 4, 2) := by decide +kernel
theorem dX0_longestAt_5 : decode cX0_longestAt 5 = .ok (.iload_n 2, 1) := by decide +kernel
theorem dX0_longestAt_6 : decode cX0_longestAt 6 = .ok (.iconst 1, 1) := by decide +kernel
theorem dX0_longestAt_7 : decode cX0_longestAt 7 = .ok (.iadd, 1) := by decide +kernel
theorem dX0_longestAt_8 : decode cX0_longestAt 8 = .ok (.istore 5, 2) := by decide +kernel
theorem dX0_longestAt_10 : decode cX0_longestAt 10 = .ok (.iload 5, 2) := by decide +kernel
theorem dX0_longestAt_12 : decode cX0_longestAt 12 = .ok (.iload_n 3, 1) := by decide +kernel
theorem dX0_longestAt_13 : decode cX0_longestAt 13 = .ok (.if_icmp .ge 38, 3) := by decide +kernel
theorem dX0_longestAt_16 : decode cX0_longestAt 16 = .ok (.aload_n 0, 1) := by decide +kernel
theorem dX0_longestAt_17 : decode cX0_longestAt 17 = .ok (.getfield 21, 3) := by decide +kernel
theorem dX0_longestAt_20 : decode cX0_longestAt 20 = .ok (.iload 4, 2) := by decide +kernel
theorem dX0_longestAt_22 : decode cX0_longestAt 22 = .ok (.bipush 8, 2) := by decide +kernel
theorem dX0_longestAt_24 : decode cX0_longestAt 24 = .ok (.imul, 1) := by decide +kernel
theorem dX0_longestAt_25 : decode cX0_longestAt 25 = .ok (.aload_n 1, 1) := by decide +kernel
theorem dX0_longestAt_26 : decode cX0_longestAt 26 = .ok (.iload 5, 2) := by decide +kernel
theorem dX0_longestAt_28 : decode cX0_longestAt 28 = .ok (.iaload, 1) := by decide +kernel
theorem dX0_longestAt_29 : decode cX0_longestAt 29 = .ok (.iadd, 1) := by decide +kernel
theorem dX0_longestAt_30 : decode cX0_longestAt 30 = .ok (.iaload, 1) := by decide +kernel
theorem dX0_longestAt_31 : decode cX0_longestAt 31 = .ok (.istore 6, 2) := by decide +kernel
theorem dX0_longestAt_33 : decode cX0_longestAt 33 = .ok (.iload 6, 2) := by decide +kernel
theorem dX0_longestAt_35 : decode cX0_longestAt 35 = .ok (.ifCond .ne 6, 3) := by decide +kernel
theorem dX0_longestAt_38 : decode cX0_longestAt 38 = .ok (.iload 4, 2) := by decide +kernel
theorem dX0_longestAt_40 : decode cX0_longestAt 40 = .ok (.ireturn, 1) := by decide +kernel
theorem dX0_longestAt_41 : decode cX0_longestAt 41 = .ok (.iload 6, 2) := by decide +kernel
theorem dX0_longestAt_43 : decode cX0_longestAt 43 = .ok (.istore 4, 2) := by decide +kernel
theorem dX0_longestAt_45 : decode cX0_longestAt 45 = .ok (.iinc 5 1, 3) := by decide +kernel
theorem dX0_longestAt_48 : decode cX0_longestAt 48 = .ok (.goto (-38), 3) := by decide +kernel
theorem dX0_longestAt_51 : decode cX0_longestAt 51 = .ok (.iload 4, 2) := by decide +kernel
theorem dX0_longestAt_53 : decode cX0_longestAt 53 = .ok (.ireturn, 1) := by decide +kernel
theorem dX1_init_0 : decode cX1_init 0 = .ok (.aload_n 0, 1) := by decide +kernel
theorem dX1_init_1 : decode cX1_init 1 = .ok (.invokespecial 3, 3) := by decide +kernel
theorem dX1_init_4 : decode cX1_init 4 = .ok (.aload_n 0, 1) := by decide +kernel
theorem dX1_init_5 : decode cX1_init 5 = .ok (.bipush 6, 2) := by decide +kernel
theorem dX1_init_7 : decode cX1_init 7 = .ok (.anewarray 9, 3) := by decide +kernel
theorem dX1_init_10 : decode cX1_init 10 = .ok (.putfield 11, 3) := by decide +kernel
theorem dX1_init_13 : decode cX1_init 13 = .ok (.iconst 0, 1) := by decide +kernel
theorem dX1_init_14 : decode cX1_init 14 = .ok (.istore_n 1, 1) := by decide +kernel
theorem dX1_init_15 : decode cX1_init 15 = .ok (.iload_n 1, 1) := by decide +kernel
theorem dX1_init_16 : decode cX1_init 16 = .ok (.bipush 6, 2) := by decide +kernel
theorem dX1_init_18 : decode cX1_init 18 = .ok (.if_icmp .ge 22, 3) := by decide +kernel
theorem dX1_init_21 : decode cX1_init 21 = .ok (.aload_n 0, 1) := by decide +kernel
theorem dX1_init_22 : decode cX1_init 22 = .ok (.getfield 11, 3) := by decide +kernel
theorem dX1_init_25 : decode cX1_init 25 = .ok (.iload_n 1, 1) := by decide +kernel
theorem dX1_init_26 : decode cX1_init 26 = .ok (.new 9, 3) := by decide +kernel
theorem dX1_init_29 : decode cX1_init 29 = .ok (.dup, 1) := by decide +kernel
theorem dX1_init_30 : decode cX1_init 30 = .ok (.invokespecial 17, 3) := by decide +kernel
theorem dX1_init_33 : decode cX1_init 33 = .ok (.aastore, 1) := by decide +kernel
theorem dX1_init_34 : decode cX1_init 34 = .ok (.iinc 1 1, 3) := by decide +kernel
theorem dX1_init_37 : decode cX1_init 37 = .ok (.goto (-22), 3) := by decide +kernel
theorem dX1_init_40 : decode cX1_init 40 = .ok (.return_, 1) := by decide +kernel
theorem dX1_record_0 : decode cX1_record 0 = .ok (.aload_n 0, 1) := by decide +kernel
theorem dX1_record_1 : decode cX1_record 1 = .ok (.aload_n 0, 1) := by decide +kernel
theorem dX1_record_2 : decode cX1_record 2 = .ok (.getfield 18, 3) := by decide +kernel
theorem dX1_record_5 : decode cX1_record 5 = .ok (.iconst 5, 1) := by decide +kernel
theorem dX1_record_6 : decode cX1_record 6 = .ok (.if_icmp .lt 7, 3) := by decide +kernel
theorem dX1_record_9 : decode cX1_record 9 = .ok (.iconst 0, 1) := by decide +kernel
theorem dX1_record_10 : decode cX1_record 10 = .ok (.goto 9, 3) := by decide +kernel
theorem dX1_record_13 : decode cX1_record 13 = .ok (.aload_n 0, 1) := by decide +kernel
theorem dX1_record_14 : decode cX1_record 14 = .ok (.getfield 18, 3) := by decide +kernel
theorem dX1_record_17 : decode cX1_record 17 = .ok (.iconst 1, 1) := by decide +kernel
theorem dX1_record_18 : decode cX1_record 18 = .ok (.iadd, 1) := by decide +kernel
theorem dX1_record_19 : decode cX1_record 19 = .ok (.putfield 18, 3) := by decide +kernel
theorem dX1_record_22 : decode cX1_record 22 = .ok (.aload_n 0, 1) := by decide +kernel
theorem dX1_record_23 : decode cX1_record 23 = .ok (.aload_n 0, 1) := by decide +kernel
theorem dX1_record_24 : decode cX1_record 24 = .ok (.getfield 22, 3) := by decide +kernel
theorem dX1_record_27 : decode cX1_record 27 = .ok (.iconst 1, 1) := by decide +kernel
theorem dX1_record_28 : decode cX1_record 28 = .ok (.iadd, 1) := by decide +kernel
theorem dX1_record_29 : decode cX1_record 29 = .ok (.bipush 6, 2) := by decide +kernel
theorem dX1_record_31 : decode cX1_record 31 = .ok (.invokestatic 25, 3) := by decide +kernel
theorem dX1_record_34 : decode cX1_record 34 = .ok (.putfield 22, 3) := by decide +kernel
theorem dX1_record_37 : decode cX1_record 37 = .ok (.aload_n 1, 1) := by decide +kernel
theorem dX1_record_38 : decode cX1_record 38 = .ok (.aload_n 0, 1) := by decide +kernel
theorem dX1_record_39 : decode cX1_record 39 = .ok (.getfield 11, 3) := by decide +kernel
theorem dX1_record_42 : decode cX1_record 42 = .ok (.aload_n 0, 1) := by decide +kernel
theorem dX1_record_43 : decode cX1_record 43 = .ok (.getfield 18, 3) := by decide +kernel
theorem dX1_record_46 : decode cX1_record 46 = .ok (.aaload, 1) := by decide +kernel
theorem dX1_record_47 : decode cX1_record 47 = .ok (.invokestatic 31, 3) := by decide +kernel
theorem dX1_record_50 : decode cX1_record 50 = .ok (.return_, 1) := by decide +kernel
theorem dX2_init_0 : decode cX2_init 0 = .ok (.aload_n 0, 1) := by decide +kernel
theorem dX2_init_1 : decode cX2_init 1 = .ok (.invokespecial 3, 3) := by decide +kernel
theorem dX2_init_4 : decode cX2_init 4 = .ok (.aload_n 0, 1) := by decide +kernel
theorem dX2_init_5 : decode cX2_init 5 = .ok (.bipush 80, 2) := by decide +kernel
theorem dX2_init_7 : decode cX2_init 7 = .ok (.newarray .int, 2) := by decide +kernel
theorem dX2_init_9 : decode cX2_init 9 = .ok (.putfield 9, 3) := by decide +kernel
theorem dX2_init_12 : decode cX2_init 12 = .ok (.aload_n 0, 1) := by decide +kernel
theorem dX2_init_13 : decode cX2_init 13 = .ok (.sipush 240, 3) := by decide +kernel
theorem dX2_init_16 : decode cX2_init 16 = .ok (.newarray .int, 2) := by decide +kernel
theorem dX2_init_18 : decode cX2_init 18 = .ok (.putfield 15, 3) := by decide +kernel
theorem dX2_init_21 : decode cX2_init 21 = .ok (.aload_n 0, 1) := by decide +kernel
theorem dX2_init_22 : decode cX2_init 22 = .ok (.iconst 3, 1) := by decide +kernel
theorem dX2_init_23 : decode cX2_init 23 = .ok (.newarray .int, 2) := by decide +kernel
theorem dX2_init_25 : decode cX2_init 25 = .ok (.putfield 18, 3) := by decide +kernel
theorem dX2_init_28 : decode cX2_init 28 = .ok (.aload_n 0, 1) := by decide +kernel
theorem dX2_init_29 : decode cX2_init 29 = .ok (.iconst 3, 1) := by decide +kernel
theorem dX2_init_30 : decode cX2_init 30 = .ok (.newarray .int, 2) := by decide +kernel
theorem dX2_init_32 : decode cX2_init 32 = .ok (.putfield 21, 3) := by decide +kernel
theorem dX2_init_35 : decode cX2_init 35 = .ok (.return_, 1) := by decide +kernel
theorem dX3_init_0 : decode cX3_init 0 = .ok (.aload_n 0, 1) := by decide +kernel
theorem dX3_init_1 : decode cX3_init 1 = .ok (.invokespecial 3, 3) := by decide +kernel
theorem dX3_init_4 : decode cX3_init 4 = .ok (.aload_n 0, 1) := by decide +kernel
theorem dX3_init_5 : decode cX3_init 5 = .ok (.ldc 9, 2) := by decide +kernel
theorem dX3_init_7 : decode cX3_init 7 = .ok (.newarray .int, 2) := by decide +kernel
theorem dX3_init_9 : decode cX3_init 9 = .ok (.putfield 10, 3) := by decide +kernel
theorem dX3_init_12 : decode cX3_init 12 = .ok (.aload_n 0, 1) := by decide +kernel
theorem dX3_init_13 : decode cX3_init 13 = .ok (.sipush 512, 3) := by decide +kernel
theorem dX3_init_16 : decode cX3_init 16 = .ok (.newarray .int, 2) := by decide +kernel
theorem dX3_init_18 : decode cX3_init 18 = .ok (.putfield 16, 3) := by decide +kernel
theorem dX3_init_21 : decode cX3_init 21 = .ok (.aload_n 0, 1) := by decide +kernel
theorem dX3_init_22 : decode cX3_init 22 = .ok (.sipush 512, 3) := by decide +kernel
theorem dX3_init_25 : decode cX3_init 25 = .ok (.newarray .int, 2) := by decide +kernel
theorem dX3_init_27 : decode cX3_init 27 = .ok (.putfield 19, 3) := by decide +kernel
theorem dX3_init_30 : decode cX3_init 30 = .ok (.return_, 1) := by decide +kernel
theorem dX3_readAll_0 : decode cX3_readAll 0 = .ok (.aload_n 0, 1) := by decide +kernel
theorem dX3_readAll_1 : decode cX3_readAll 1 = .ok (.iload_n 3, 1) := by decide +kernel
theorem dX3_readAll_2 : decode cX3_readAll 2 = .ok (.invokevirtual 22, 3) := by decide +kernel
theorem dX3_readAll_5 : decode cX3_readAll 5 = .ok (.iconst 0, 1) := by decide +kernel
theorem dX3_readAll_6 : decode cX3_readAll 6 = .ok (.istore 4, 2) := by decide +kernel
theorem dX3_readAll_8 : decode cX3_readAll 8 = .ok (.iload 4, 2) := by decide +kernel
theorem dX3_readAll_10 : decode cX3_readAll 10 = .ok (.iload_n 2, 1) := by decide +kernel
theorem dX3_readAll_11 : decode cX3_readAll 11 = .ok (.if_icmp .ge 80, 3) := by decide +kernel
theorem dX3_readAll_14 : decode cX3_readAll 14 = .ok (.aload_n 1, 1) := by decide +kernel
theorem dX3_readAll_15 : decode cX3_readAll 15 = .ok (.iload 4, 2) := by decide +kernel
theorem dX3_readAll_17 : decode cX3_readAll 17 = .ok (.iaload, 1) := by decide +kernel
theorem dX3_readAll_18 : decode cX3_readAll 18 = .ok (.istore 5, 2) := by decide +kernel
theorem dX3_readAll_20 : decode cX3_readAll 20 = .ok (.iload 5, 2) := by decide +kernel
theorem dX3_readAll_22 : decode cX3_readAll 22 = .ok (.bipush 9, 2) := by decide +kernel
theorem dX3_readAll_24 : decode cX3_readAll 24 = .ok (.if_icmp .ne 21, 3) := by decide +kernel
theorem dX3_readAll_27 : decode cX3_readAll 27 = .ok (.iload 4, 2) := by decide +kernel
theorem dX3_readAll_29 : decode cX3_readAll 29 = .ok (.iconst 1, 1) := by decide +kernel
theorem dX3_readAll_30 : decode cX3_readAll 30 = .ok (.iadd, 1) := by decide +kernel
theorem dX3_readAll_31 : decode cX3_readAll 31 = .ok (.iload_n 2, 1) := by decide +kernel
theorem dX3_readAll_32 : decode cX3_readAll 32 = .ok (.if_icmp .ge 12, 3) := by decide +kernel
theorem dX3_readAll_35 : decode cX3_readAll 35 = .ok (.aload_n 0, 1) := by decide +kernel
theorem dX3_readAll_36 : decode cX3_readAll 36 = .ok (.iload 4, 2) := by decide +kernel
theorem dX3_readAll_38 : decode cX3_readAll 38 = .ok (.iconst 1, 1) := by decide +kernel
theorem dX3_readAll_39 : decode cX3_readAll 39 = .ok (.iadd, 1) := by decide +kernel
theorem dX3_readAll_40 : decode cX3_readAll 40 = .ok (.iconst 3, 1) := by decide +kernel
theorem dX3_readAll_41 : decode cX3_readAll 41 = .ok (.invokevirtual 26, 3) := by decide +kernel
theorem dX3_readAll_44 : decode cX3_readAll 44 = .ok (.return_, 1) := by decide +kernel
theorem dX3_readAll_45 : decode cX3_readAll 45 = .ok (.iload 5, 2) := by decide +kernel
theorem dX3_readAll_47 : decode cX3_readAll 47 = .ok (.bipush 8, 2) := by decide +kernel
theorem dX3_readAll_49 : decode cX3_readAll 49 = .ok (.if_icmp .ne 10, 3) := by decide +kernel
theorem dX3_readAll_52 : decode cX3_readAll 52 = .ok (.aload_n 0, 1) := by decide +kernel
theorem dX3_readAll_53 : decode cX3_readAll 53 = .ok (.invokevirtual 30, 3) := by decide +kernel
theorem dX3_readAll_56 : decode cX3_readAll 56 = .ok (.goto 29, 3) := by decide +kernel
theorem dX3_readAll_59 : decode cX3_readAll 59 = .ok (.aload_n 0, 1) := by decide +kernel
theorem dX3_readAll_60 : decode cX3_readAll 60 = .ok (.iload 5, 2) := by decide +kernel
theorem dX3_readAll_62 : decode cX3_readAll 62 = .ok (.invokevirtual 33, 3) := by decide +kernel
theorem dX3_readAll_65 : decode cX3_readAll 65 = .ok (.ifCond .eq 12, 3) := by decide +kernel
theorem dX3_readAll_68 : decode cX3_readAll 68 = .ok (.aload_n 0, 1) := by decide +kernel
theorem dX3_readAll_69 : decode cX3_readAll 69 = .ok (.iload 5, 2) := by decide +kernel
theorem dX3_readAll_71 : decode cX3_readAll 71 = .ok (.invokevirtual 37, 3) := by decide +kernel
theorem dX3_readAll_74 : decode cX3_readAll 74 = .ok (.goto 11, 3) := by decide +kernel
theorem dX3_readAll_77 : decode cX3_readAll 77 = .ok (.aload_n 0, 1) := by decide +kernel
theorem dX3_readAll_78 : decode cX3_readAll 78 = .ok (.iload 4, 2) := by decide +kernel
theorem dX3_readAll_80 : decode cX3_readAll 80 = .ok (.iconst 1, 1) := by decide +kernel
theorem dX3_readAll_81 : decode cX3_readAll 81 = .ok (.invokevirtual 26, 3) := by decide +kernel
theorem dX3_readAll_84 : decode cX3_readAll 84 = .ok (.return_, 1) := by decide +kernel
theorem dX3_readAll_85 : decode cX3_readAll 85 = .ok (.iinc 4 1, 3) := by decide +kernel
theorem dX3_readAll_88 : decode cX3_readAll 88 = .ok (.goto (-80), 3) := by decide +kernel
theorem dX3_readAll_91 : decode cX3_readAll 91 = .ok (.aload_n 0, 1) := by decide +kernel
theorem dX3_readAll_92 : decode cX3_readAll 92 = .ok (.iload_n 2, 1) := by decide +kernel
theorem dX3_readAll_93 : decode cX3_readAll 93 = .ok (.iconst 2, 1) := by decide +kernel
theorem dX3_readAll_94 : decode cX3_readAll 94 = .ok (.invokevirtual 26, 3) := by decide +kernel
theorem dX3_readAll_97 : decode cX3_readAll 97 = .ok (.return_, 1) := by decide +kernel
theorem dX3_begin_0 : decode cX3_begin 0 = .ok (.aload_n 0, 1) := by decide +kernel
theorem dX3_begin_1 : decode cX3_begin 1 = .ok (.iconst 1, 1) := by decide +kernel
theorem dX3_begin_2 : decode cX3_begin 2 = .ok (.iload_n 1, 1) := by decide +kernel
theorem dX3_begin_3 : decode cX3_begin 3 = .ok (.ishl, 1) := by decide +kernel
theorem dX3_begin_4 : decode cX3_begin 4 = .ok (.putfield 40, 3) := by decide +kernel
theorem dX3_begin_7 : decode cX3_begin 7 = .ok (.aload_n 0, 1) := by decide +kernel
theorem dX3_begin_8 : decode cX3_begin 8 = .ok (.iconst 0, 1) := by decide +kernel
theorem dX3_begin_9 : decode cX3_begin 9 = .ok (.putfield 44, 3) := by decide +kernel
theorem dX3_begin_12 : decode cX3_begin 12 = .ok (.aload_n 0, 1) := by decide +kernel
theorem dX3_begin_13 : decode cX3_begin 13 = .ok (.iconst 0, 1) := by decide +kernel
theorem dX3_begin_14 : decode cX3_begin 14 = .ok (.putfield 47, 3) := by decide +kernel
theorem dX3_begin_17 : decode cX3_begin 17 = .ok (.aload_n 0, 1) := by decide +kernel
theorem dX3_begin_18 : decode cX3_begin 18 = .ok (.bipush (-6), 2) := by decide +kernel
theorem dX3_begin_20 : decode cX3_begin 20 = .ok (.putfield 50, 3) := by decide +kernel
theorem dX3_begin_23 : decode cX3_begin 23 = .ok (.aload_n 0, 1) := by decide +kernel
theorem dX3_begin_24 : decode cX3_begin 24 = .ok (.iconst 0, 1) := by decide +kernel
theorem dX3_begin_25 : decode cX3_begin 25 = .ok (.putfield 53, 3) := by decide +kernel
theorem dX3_begin_28 : decode cX3_begin 28 = .ok (.aload_n 0, 1) := by decide +kernel
theorem dX3_begin_29 : decode cX3_begin 29 = .ok (.invokevirtual 30, 3) := by decide +kernel
theorem dX3_begin_32 : decode cX3_begin 32 = .ok (.return_, 1) := by decide +kernel
theorem dX3_dropPhrases_0 : decode cX3_dropPhrases 0 = .ok (.aload_n 0, 1) := by decide +kernel
theorem dX3_dropPhrases_1 : decode cX3_dropPhrases 1 = .ok (.bipush 10, 2) := by decide +kernel
theorem dX3_dropPhrases_3 : decode cX3_dropPhrases 3 = .ok (.putfield 56, 3) := by decide +kernel
theorem dX3_dropPhrases_6 : decode cX3_dropPhrases 6 = .ok (.aload_n 0, 1) := by decide +kernel
theorem dX3_dropPhrases_7 : decode cX3_dropPhrases 7 = .ok (.iconst 0, 1) := by decide +kernel
theorem dX3_dropPhrases_8 : decode cX3_dropPhrases 8 = .ok (.putfield 59, 3) := by decide +kernel
theorem dX3_dropPhrases_11 : decode cX3_dropPhrases 11 = .ok (.return_, 1) := by decide +kernel
theorem dX3_noteFault_0 : decode cX3_noteFault 0 = .ok (.aload_n 0, 1) := by decide +kernel
theorem dX3_noteFault_1 : decode cX3_noteFault 1 = .ok (.iload_n 1, 1) := by decide +kernel
theorem dX3_noteFault_2 : decode cX3_noteFault 2 = .ok (.putfield 50, 3) := by decide +kernel
theorem dX3_noteFault_5 : decode cX3_noteFault 5 = .ok (.aload_n 0, 1) := by decide +kernel
theorem dX3_noteFault_6 : decode cX3_noteFault 6 = .ok (.iload_n 2, 1) := by decide +kernel
theorem dX3_noteFault_7 : decode cX3_noteFault 7 = .ok (.putfield 53, 3) := by decide +kernel
theorem dX3_noteFault_10 : decode cX3_noteFault 10 = .ok (.return_, 1) := by decide +kernel
theorem dX3_canGrow_0 : decode cX3_canGrow 0 = .ok (.aload_n 0, 1) := by decide +kernel
theorem dX3_canGrow_1 : decode cX3_canGrow 1 = .ok (.getfield 59, 3) := by decide +kernel
theorem dX3_canGrow_4 : decode cX3_canGrow 4 = .ok (.ifCond .le 28, 3) := by decide +kernel
theorem dX3_canGrow_7 : decode cX3_canGrow 7 = .ok (.aload_n 0, 1) := by decide +kernel
theorem dX3_canGrow_8 : decode cX3_canGrow 8 = .ok (.getfield 56, 3) := by decide +kernel
theorem dX3_canGrow_11 : decode cX3_canGrow 11 = .ok (.aload_n 0, 1) := by decide +kernel
theorem dX3_canGrow_12 : decode cX3_canGrow 12 = .ok (.getfield 40, 3) := by decide +kernel
theorem dX3_canGrow_15 : decode cX3_canGrow 15 = .ok (.if_icmp .ge 17, 3) := by decide +kernel
theorem dX3_canGrow_18 : decode cX3_canGrow 18 = .ok (.aload_n 0, 1) := by decide +kernel
theorem dX3_canGrow_19 : decode cX3_canGrow 19 = .ok (.getfield 56, 3) := by decide +kernel
theorem dX3_canGrow_22 : decode cX3_canGrow 22 = .ok (.sipush 512, 3) := by decide +kernel
theorem dX3_canGrow_25 : decode cX3_canGrow 25 = .ok (.if_icmp .ge 7, 3) := by decide +kernel
theorem dX3_canGrow_28 : decode cX3_canGrow 28 = .ok (.iconst 1, 1) := by decide +kernel
theorem dX3_canGrow_29 : decode cX3_canGrow 29 = .ok (.goto 4, 3) := by decide +kernel
theorem dX3_canGrow_32 : decode cX3_canGrow 32 = .ok (.iconst 0, 1) := by decide +kernel
theorem dX3_canGrow_33 : decode cX3_canGrow 33 = .ok (.ireturn, 1) := by decide +kernel
theorem dX3_canStand_0 : decode cX3_canStand 0 = .ok (.iload_n 1, 1) := by decide +kernel
theorem dX3_canStand_1 : decode cX3_canStand 1 = .ok (.ifCond .lt 30, 3) := by decide +kernel
theorem dX3_canStand_4 : decode cX3_canStand 4 = .ok (.iload_n 1, 1) := by decide +kernel
theorem dX3_canStand_5 : decode cX3_canStand 5 = .ok (.aload_n 0, 1) := by decide +kernel
theorem dX3_canStand_6 : decode cX3_canStand 6 = .ok (.getfield 56, 3) := by decide +kernel
theorem dX3_canStand_9 : decode cX3_canStand 9 = .ok (.if_icmp .lt 18, 3) := by decide +kernel
theorem dX3_canStand_12 : decode cX3_canStand 12 = .ok (.iload_n 1, 1) := by decide +kernel
theorem dX3_canStand_13 : decode cX3_canStand 13 = .ok (.aload_n 0, 1) := by decide +kernel
theorem dX3_canStand_14 : decode cX3_canStand 14 = .ok (.getfield 56, 3) := by decide +kernel
theorem dX3_canStand_17 : decode cX3_canStand 17 = .ok (.if_icmp .ne 14, 3) := by decide +kernel
theorem dX3_canStand_20 : decode cX3_canStand 20 = .ok (.aload_n 0, 1) := by decide +kernel
theorem dX3_canStand_21 : decode cX3_canStand 21 = .ok (.invokevirtual 62, 3) := by decide +kernel
theorem dX3_canStand_24 : decode cX3_canStand 24 = .ok (.ifCond .eq 7, 3) := by decide +kernel
theorem dX3_canStand_27 : decode cX3_canStand 27 = .ok (.iconst 1, 1) := by decide +kernel
theorem dX3_canStand_28 : decode cX3_canStand 28 = .ok (.goto 4, 3) := by decide +kernel
theorem dX3_canStand_31 : decode cX3_canStand 31 = .ok (.iconst 0, 1) := by decide +kernel
theorem dX3_canStand_32 : decode cX3_canStand 32 = .ok (.ireturn, 1) := by decide +kernel
theorem dX3_readEntry_0 : decode cX3_readEntry 0 = .ok (.aload_n 0, 1) := by decide +kernel
theorem dX3_readEntry_1 : decode cX3_readEntry 1 = .ok (.dup, 1) := by decide +kernel
theorem dX3_readEntry_2 : decode cX3_readEntry 2 = .ok (.getfield 47, 3) := by decide +kernel
theorem dX3_readEntry_5 : decode cX3_readEntry 5 = .ok (.iload_n 1, 1) := by decide +kernel
theorem dX3_readEntry_6 : decode cX3_readEntry 6 = .ok (.aload_n 0, 1) := by decide +kernel
theorem dX3_readEntry_7 : decode cX3_readEntry 7 = .ok (.getfield 56, 3) := by decide +kernel
theorem dX3_readEntry_10 : decode cX3_readEntry 10 = .ok (.if_icmp .ne 7, 3) := by decide +kernel
theorem dX3_readEntry_13 : decode cX3_readEntry 13 = .ok (.iconst 1, 1) := by decide +kernel
theorem dX3_readEntry_14 : decode cX3_readEntry 14 = .ok (.goto 4, 3) := by decide +kernel
theorem dX3_readEntry_17 : decode cX3_readEntry 17 = .ok (.iconst 0, 1) := by decide +kernel
theorem dX3_readEntry_18 : decode cX3_readEntry 18 = .ok (.iadd, 1) := by decide +kernel
theorem dX3_readEntry_19 : decode cX3_readEntry 19 = .ok (.putfield 47, 3) := by decide +kernel
theorem dX3_readEntry_22 : decode cX3_readEntry 22 = .ok (.aload_n 0, 1) := by decide +kernel
theorem dX3_readEntry_23 : decode cX3_readEntry 23 = .ok (.invokevirtual 62, 3) := by decide +kernel
theorem dX3_readEntry_26 : decode cX3_readEntry 26 = .ok (.ifCond .eq 41, 3) := by decide +kernel
theorem dX3_readEntry_29 : decode cX3_readEntry 29 = .ok (.aload_n 0, 1) := by decide +kernel
theorem dX3_readEntry_30 : decode cX3_readEntry 30 = .ok (.getfield 16, 3) := by decide +kernel
theorem dX3_readEntry_33 : decode cX3_readEntry 33 = .ok (.aload_n 0, 1) := by decide +kernel
theorem dX3_readEntry_34 : decode cX3_readEntry 34 = .ok (.getfield 56, 3) := by decide +kernel
theorem dX3_readEntry_37 : decode cX3_readEntry 37 = .ok (.aload_n 0, 1) := by decide +kernel
theorem dX3_readEntry_38 : decode cX3_readEntry 38 = .ok (.getfield 66, 3) := by decide +kernel
theorem dX3_readEntry_41 : decode cX3_readEntry 41 = .ok (.iastore, 1) := by decide +kernel
theorem dX3_readEntry_42 : decode cX3_readEntry 42 = .ok (.aload_n 0, 1) := by decide +kernel
theorem dX3_readEntry_43 : decode cX3_readEntry 43 = .ok (.getfield 19, 3) := by decide +kernel
theorem dX3_readEntry_46 : decode cX3_readEntry 46 = .ok (.aload_n 0, 1) := by decide +kernel
theorem dX3_readEntry_47 : decode cX3_readEntry 47 = .ok (.getfield 56, 3) := by decide +kernel
theorem dX3_readEntry_50 : decode cX3_readEntry 50 = .ok (.aload_n 0, 1) := by decide +kernel
theorem dX3_readEntry_51 : decode cX3_readEntry 51 = .ok (.getfield 59, 3) := by decide +kernel
theorem dX3_readEntry_54 : decode cX3_readEntry 54 = .ok (.iconst 1, 1) := by decide +kernel
theorem dX3_readEntry_55 : decode cX3_readEntry 55 = .ok (.iadd, 1) := by decide +kernel
theorem dX3_readEntry_56 : decode cX3_readEntry 56 = .ok (.iastore, 1) := by decide +kernel
theorem dX3_readEntry_57 : decode cX3_readEntry 57 = .ok (.aload_n 0, 1) := by decide +kernel
theorem dX3_readEntry_58 : decode cX3_readEntry 58 = .ok (.dup, 1) := by decide +kernel
theorem dX3_readEntry_59 : decode cX3_readEntry 59 = .ok (.getfield 56, 3) := by decide +kernel
theorem dX3_readEntry_62 : decode cX3_readEntry 62 = .ok (.iconst 1, 1) := by decide +kernel
theorem dX3_readEntry_63 : decode cX3_readEntry 63 = .ok (.iadd, 1) := by decide +kernel
theorem dX3_readEntry_64 : decode cX3_readEntry 64 = .ok (.putfield 56, 3) := by decide +kernel
theorem dX3_readEntry_67 : decode cX3_readEntry 67 = .ok (.aload_n 0, 1) := by decide +kernel
theorem dX3_readEntry_68 : decode cX3_readEntry 68 = .ok (.aload_n 0, 1) := by decide +kernel
theorem dX3_readEntry_69 : decode cX3_readEntry 69 = .ok (.getfield 44, 3) := by decide +kernel
theorem dX3_readEntry_72 : decode cX3_readEntry 72 = .ok (.putfield 66, 3) := by decide +kernel
theorem dX3_readEntry_75 : decode cX3_readEntry 75 = .ok (.iload_n 1, 1) := by decide +kernel
theorem dX3_readEntry_76 : decode cX3_readEntry 76 = .ok (.bipush 8, 2) := by decide +kernel
theorem dX3_readEntry_78 : decode cX3_readEntry 78 = .ok (.if_icmp .ge 16, 3) := by decide +kernel
theorem dX3_readEntry_81 : decode cX3_readEntry 81 = .ok (.aload_n 0, 1) := by decide +kernel
theorem dX3_readEntry_82 : decode cX3_readEntry 82 = .ok (.iconst 1, 1) := by decide +kernel
theorem dX3_readEntry_83 : decode cX3_readEntry 83 = .ok (.putfield 59, 3) := by decide +kernel
theorem dX3_readEntry_86 : decode cX3_readEntry 86 = .ok (.aload_n 0, 1) := by decide +kernel
theorem dX3_readEntry_87 : decode cX3_readEntry 87 = .ok (.iload_n 1, 1) := by decide +kernel
theorem dX3_readEntry_88 : decode cX3_readEntry 88 = .ok (.invokevirtual 69, 3) := by decide +kernel
theorem dX3_readEntry_91 : decode cX3_readEntry 91 = .ok (.goto 29, 3) := by decide +kernel
theorem dX3_readEntry_94 : decode cX3_readEntry 94 = .ok (.aload_n 0, 1) := by decide +kernel
theorem dX3_readEntry_95 : decode cX3_readEntry 95 = .ok (.aload_n 0, 1) := by decide +kernel
theorem dX3_readEntry_96 : decode cX3_readEntry 96 = .ok (.getfield 19, 3) := by decide +kernel
theorem dX3_readEntry_99 : decode cX3_readEntry 99 = .ok (.iload_n 1, 1) := by decide +kernel
theorem dX3_readEntry_100 : decode cX3_readEntry 100 = .ok (.iaload, 1) := by decide +kernel
theorem dX3_readEntry_101 : decode cX3_readEntry 101 = .ok (.putfield 59, 3) := by decide +kernel
theorem dX3_readEntry_104 : decode cX3_readEntry 104 = .ok (.aload_n 0, 1) := by decide +kernel
theorem dX3_readEntry_105 : decode cX3_readEntry 105 = .ok (.aload_n 0, 1) := by decide +kernel
theorem dX3_readEntry_106 : decode cX3_readEntry 106 = .ok (.getfield 16, 3) := by decide +kernel
theorem dX3_readEntry_109 : decode cX3_readEntry 109 = .ok (.iload_n 1, 1) := by decide +kernel
theorem dX3_readEntry_110 : decode cX3_readEntry 110 = .ok (.iaload, 1) := by decide +kernel
theorem dX3_readEntry_111 : decode cX3_readEntry 111 = .ok (.aload_n 0, 1) := by decide +kernel
theorem dX3_readEntry_112 : decode cX3_readEntry 112 = .ok (.getfield 19, 3) := by decide +kernel
theorem dX3_readEntry_115 : decode cX3_readEntry 115 = .ok (.iload_n 1, 1) := by decide +kernel
theorem dX3_readEntry_116 : decode cX3_readEntry 116 = .ok (.iaload, 1) := by decide +kernel
theorem dX3_readEntry_117 : decode cX3_readEntry 117 = .ok (.invokevirtual 72, 3) := by decide +kernel
theorem dX3_readEntry_120 : decode cX3_readEntry 120 = .ok (.return_, 1) := by decide +kernel
theorem dX3_readPhrase_0 : decode cX3_readPhrase 0 = .ok (.iload_n 1, 1) := by decide +kernel
theorem dX3_readPhrase_1 : decode cX3_readPhrase 1 = .ok (.istore_n 3, 1) := by decide +kernel
theorem dX3_readPhrase_2 : decode cX3_readPhrase 2 = .ok (.iload_n 3, 1) := by decide +kernel
theorem dX3_readPhrase_3 : decode cX3_readPhrase 3 = .ok (.iload_n 1, 1) := by decide +kernel
theorem dX3_readPhrase_4 : decode cX3_readPhrase 4 = .ok (.iload_n 2, 1) := by decide +kernel
theorem dX3_readPhrase_5 : decode cX3_readPhrase 5 = .ok (.iadd, 1) := by decide +kernel
theorem dX3_readPhrase_6 : decode cX3_readPhrase 6 = .ok (.if_icmp .ge 27, 3) := by decide +kernel
theorem dX3_readPhrase_9 : decode cX3_readPhrase 9 = .ok (.iload_n 3, 1) := by decide +kernel
theorem dX3_readPhrase_10 : decode cX3_readPhrase 10 = .ok (.aload_n 0, 1) := by decide +kernel
theorem dX3_readPhrase_11 : decode cX3_readPhrase 11 = .ok (.getfield 44, 3) := by decide +kernel
theorem dX3_readPhrase_14 : decode cX3_readPhrase 14 = .ok (.if_icmp .ge 19, 3) := by decide +kernel
theorem dX3_readPhrase_17 : decode cX3_readPhrase 17 = .ok (.aload_n 0, 1) := by decide +kernel
theorem dX3_readPhrase_18 : decode cX3_readPhrase 18 = .ok (.aload_n 0, 1) := by decide +kernel
theorem dX3_readPhrase_19 : decode cX3_readPhrase 19 = .ok (.getfield 10, 3) := by decide +kernel
theorem dX3_readPhrase_22 : decode cX3_readPhrase 22 = .ok (.iload_n 3, 1) := by decide +kernel
theorem dX3_readPhrase_23 : decode cX3_readPhrase 23 = .ok (.iaload, 1) := by decide +kernel
theorem dX3_readPhrase_24 : decode cX3_readPhrase 24 = .ok (.invokevirtual 69, 3) := by decide +kernel
theorem dX3_readPhrase_27 : decode cX3_readPhrase 27 = .ok (.iinc 3 1, 3) := by decide +kernel
theorem dX3_readPhrase_30 : decode cX3_readPhrase 30 = .ok (.goto (-28), 3) := by decide +kernel
theorem dX3_readPhrase_33 : decode cX3_readPhrase 33 = .ok (.return_, 1) := by decide +kernel
theorem dX3_readSign_0 : decode cX3_readSign 0 = .ok (.aload_n 0, 1) := by decide +kernel
theorem dX3_readSign_1 : decode cX3_readSign 1 = .ok (.getfield 44, 3) := by decide +kernel
theorem dX3_readSign_4 : decode cX3_readSign 4 = .ok (.ldc 9, 2) := by decide +kernel
theorem dX3_readSign_6 : decode cX3_readSign 6 = .ok (.if_icmp .ge 23, 3) := by decide +kernel
theorem dX3_readSign_9 : decode cX3_readSign 9 = .ok (.aload_n 0, 1) := by decide +kernel
theorem dX3_readSign_10 : decode cX3_readSign 10 = .ok (.getfield 10, 3) := by decide +kernel
theorem dX3_readSign_13 : decode cX3_readSign 13 = .ok (.aload_n 0, 1) := by decide +kernel
theorem dX3_readSign_14 : decode cX3_readSign 14 = .ok (.getfield 44, 3) := by decide +kernel
theorem dX3_readSign_17 : decode cX3_readSign 17 = .ok (.iload_n 1, 1) := by decide +kernel
theorem dX3_readSign_18 : decode cX3_readSign 18 = .ok (.iastore, 1) := by decide +kernel
theorem dX3_readSign_19 : decode cX3_readSign 19 = .ok (.aload_n 0, 1) := by decide +kernel
theorem dX3_readSign_20 : decode cX3_readSign 20 = .ok (.dup, 1) := by decide +kernel
theorem dX3_readSign_21 : decode cX3_readSign 21 = .ok (.getfield 44, 3) := by decide +kernel
theorem dX3_readSign_24 : decode cX3_readSign 24 = .ok (.iconst 1, 1) := by decide +kernel
theorem dX3_readSign_25 : decode cX3_readSign 25 = .ok (.iadd, 1) := by decide +kernel
theorem dX3_readSign_26 : decode cX3_readSign 26 = .ok (.putfield 44, 3) := by decide +kernel
theorem dX3_readSign_29 : decode cX3_readSign 29 = .ok (.return_, 1) := by decide +kernel
theorem dX3_firstDifference_0 : decode cX3_firstDifference 0 = .ok (.aload_n 0, 1) := by decide +kernel
theorem dX3_firstDifference_1 : decode cX3_firstDifference 1 = .ok (.getfield 44, 3) := by decide +kernel
theorem dX3_firstDifference_4 : decode cX3_firstDifference 4 = .ok (.iload_n 2, 1) := by decide +kernel
theorem dX3_firstDifference_5 : decode cX3_firstDifference 5 = .ok (.invokestatic 75, 3) := by decide +kernel
theorem dX3_firstDifference_8 : decode cX3_firstDifference 8 = .ok (.istore_n 3, 1) := by decide +kernel
theorem dX3_firstDifference_9 : decode cX3_firstDifference 9 = .ok (.iconst 0, 1) := by decide +kernel
theorem dX3_firstDifference_10 : decode cX3_firstDifference 10 = .ok (.istore 4, 2) := by decide +kernel
theorem dX3_firstDifference_12 : decode cX3_firstDifference 12 = .ok (.iload 4, 2) := by decide +kernel
theorem dX3_firstDifference_14 : decode cX3_firstDifference 14 = .ok (.iload_n 3, 1) := by decide +kernel
theorem dX3_firstDifference_15 : decode cX3_firstDifference 15 = .ok (.if_icmp .ge 26, 3) := by decide +kernel
theorem dX3_firstDifference_18 : decode cX3_firstDifference 18 = .ok (.aload_n 0, 1) := by decide +kernel
theorem dX3_firstDifference_19 : decode cX3_firstDifference 19 = .ok (.getfield 10, 3) := by decide +kernel
theorem dX3_firstDifference_22 : decode cX3_firstDifference 22 = .ok (.iload 4, 2) := by decide +kernel
theorem dX3_firstDifference_24 : decode cX3_firstDifference 24 = .ok (.iaload, 1) := by decide +kernel
theorem dX3_firstDifference_25 : decode cX3_firstDifference 25 = .ok (.aload_n 1, 1) := by decide +kernel
theorem dX3_firstDifference_26 : decode cX3_firstDifference 26 = .ok (.iload 4, 2) := by decide +kernel
theorem dX3_firstDifference_28 : decode cX3_firstDifference 28 = .ok (.iaload, 1) := by decide +kernel
theorem dX3_firstDifference_29 : decode cX3_firstDifference 29 = .ok (.if_icmp .eq 6, 3) := by decide +kernel
theorem dX3_firstDifference_32 : decode cX3_firstDifference 32 = .ok (.iload 4, 2) := by decide +kernel
theorem dX3_firstDifference_34 : decode cX3_firstDifference 34 = .ok (.ireturn, 1) := by decide +kernel
theorem dX3_firstDifference_35 : decode cX3_firstDifference 35 = .ok (.iinc 4 1, 3) := by decide +kernel
theorem dX3_firstDifference_38 : decode cX3_firstDifference 38 = .ok (.goto (-26), 3) := by decide +kernel
theorem dX3_firstDifference_41 : decode cX3_firstDifference 41 = .ok (.aload_n 0, 1) := by decide +kernel
theorem dX3_firstDifference_42 : decode cX3_firstDifference 42 = .ok (.getfield 44, 3) := by decide +kernel
theorem dX3_firstDifference_45 : decode cX3_firstDifference 45 = .ok (.iload_n 2, 1) := by decide +kernel
theorem dX3_firstDifference_46 : decode cX3_firstDifference 46 = .ok (.if_icmp .ne 8, 3) := by decide +kernel
theorem dX3_firstDifference_49 : decode cX3_firstDifference 49 = .ok (.bipush (-6), 2) := by decide +kernel
theorem dX3_firstDifference_51 : decode cX3_firstDifference 51 = .ok (.goto 4, 3) := by decide +kernel
theorem dX3_firstDifference_54 : decode cX3_firstDifference 54 = .ok (.iload_n 3, 1) := by decide +kernel
theorem dX3_firstDifference_55 : decode cX3_firstDifference 55 = .ok (.ireturn, 1) := by decide +kernel
theorem dX4_init_0 : decode cX4_init 0 = .ok (.aload_n 0, 1) := by decide +kernel
theorem dX4_init_1 : decode cX4_init 1 = .ok (.invokespecial 3, 3) := by decide +kernel
theorem dX4_init_4 : decode cX4_init 4 = .ok (.aload_n 0, 1) := by decide +kernel
theorem dX4_init_5 : decode cX4_init 5 = .ok (.getstatic 9, 3) := by decide +kernel
theorem dX4_init_8 : decode cX4_init 8 = .ok (.invokevirtual 13, 3) := by decide +kernel
theorem dX4_init_11 : decode cX4_init 11 = .ok (.checkcast 14, 3) := by decide +kernel
theorem dX4_init_14 : decode cX4_init 14 = .ok (.putfield 18, 3) := by decide +kernel
theorem dX4_init_17 : decode cX4_init 17 = .ok (.aload_n 0, 1) := by decide +kernel
theorem dX4_init_18 : decode cX4_init 18 = .ok (.sipush 240, 3) := by decide +kernel
theorem dX4_init_21 : decode cX4_init 21 = .ok (.newarray .int, 2) := by decide +kernel
theorem dX4_init_23 : decode cX4_init 23 = .ok (.putfield 23, 3) := by decide +kernel
theorem dX4_init_26 : decode cX4_init 26 = .ok (.aload_n 0, 1) := by decide +kernel
theorem dX4_init_27 : decode cX4_init 27 = .ok (.sipush 281, 3) := by decide +kernel
theorem dX4_init_30 : decode cX4_init 30 = .ok (.newarray .int, 2) := by decide +kernel
theorem dX4_init_32 : decode cX4_init 32 = .ok (.putfield 26, 3) := by decide +kernel
theorem dX4_init_35 : decode cX4_init 35 = .ok (.return_, 1) := by decide +kernel
theorem dX4_mendCodes_0 : decode cX4_mendCodes 0 = .ok (.aload_n 0, 1) := by decide +kernel
theorem dX4_mendCodes_1 : decode cX4_mendCodes 1 = .ok (.getfield 26, 3) := by decide +kernel
theorem dX4_mendCodes_4 : decode cX4_mendCodes 4 = .ok (.iconst 0, 1) := by decide +kernel
theorem dX4_mendCodes_5 : decode cX4_mendCodes 5 = .ok (.invokestatic 29, 3) := by decide +kernel
theorem dX4_mendCodes_8 : decode cX4_mendCodes 8 = .ok (.return_, 1) := by decide +kernel
theorem dX4_countSpoiled_0 : decode cX4_countSpoiled 0 = .ok (.iconst 0, 1) := by decide +kernel
theorem dX4_countSpoiled_1 : decode cX4_countSpoiled 1 = .ok (.istore_n 1, 1) := by decide +kernel
theorem dX4_countSpoiled_2 : decode cX4_countSpoiled 2 = .ok (.iconst 0, 1) := by decide +kernel
theorem dX4_countSpoiled_3 : decode cX4_countSpoiled 3 = .ok (.istore_n 2, 1) := by decide +kernel
theorem dX4_countSpoiled_4 : decode cX4_countSpoiled 4 = .ok (.iload_n 2, 1) := by decide +kernel
theorem dX4_countSpoiled_5 : decode cX4_countSpoiled 5 = .ok (.sipush 281, 3) := by decide +kernel
theorem dX4_countSpoiled_8 : decode cX4_countSpoiled 8 = .ok (.if_icmp .ge 26, 3) := by decide +kernel
theorem dX4_countSpoiled_11 : decode cX4_countSpoiled 11 = .ok (.iload_n 1, 1) := by decide +kernel
theorem dX4_countSpoiled_12 : decode cX4_countSpoiled 12 = .ok (.aload_n 0, 1) := by decide +kernel
theorem dX4_countSpoiled_13 : decode cX4_countSpoiled 13 = .ok (.getfield 26, 3) := by decide +kernel
theorem dX4_countSpoiled_16 : decode cX4_countSpoiled 16 = .ok (.iload_n 2, 1) := by decide +kernel
theorem dX4_countSpoiled_17 : decode cX4_countSpoiled 17 = .ok (.iaload, 1) := by decide +kernel
theorem dX4_countSpoiled_18 : decode cX4_countSpoiled 18 = .ok (.ifCond .eq 7, 3) := by decide +kernel
theorem dX4_countSpoiled_21 : decode cX4_countSpoiled 21 = .ok (.iconst 1, 1) := by decide +kernel
theorem dX4_countSpoiled_22 : decode cX4_countSpoiled 22 = .ok (.goto 4, 3) := by decide +kernel
theorem dX4_countSpoiled_25 : decode cX4_countSpoiled 25 = .ok (.iconst 0, 1) := by decide +kernel
theorem dX4_countSpoiled_26 : decode cX4_countSpoiled 26 = .ok (.iadd, 1) := by decide +kernel
theorem dX4_countSpoiled_27 : decode cX4_countSpoiled 27 = .ok (.istore_n 1, 1) := by decide +kernel
theorem dX4_countSpoiled_28 : decode cX4_countSpoiled 28 = .ok (.iinc 2 1, 3) := by decide +kernel
theorem dX4_countSpoiled_31 : decode cX4_countSpoiled 31 = .ok (.goto (-27), 3) := by decide +kernel
theorem dX4_countSpoiled_34 : decode cX4_countSpoiled 34 = .ok (.iload_n 1, 1) := by decide +kernel
theorem dX4_countSpoiled_35 : decode cX4_countSpoiled 35 = .ok (.ireturn, 1) := by decide +kernel
theorem dX5_init_0 : decode cX5_init 0 = .ok (.aload_n 0, 1) := by decide +kernel
theorem dX5_init_1 : decode cX5_init 1 = .ok (.invokespecial 3, 3) := by decide +kernel
theorem dX5_init_4 : decode cX5_init 4 = .ok (.aload_n 0, 1) := by decide +kernel
theorem dX5_init_5 : decode cX5_init 5 = .ok (.new 9, 3) := by decide +kernel
theorem dX5_init_8 : decode cX5_init 8 = .ok (.dup, 1) := by decide +kernel
theorem dX5_init_9 : decode cX5_init 9 = .ok (.invokespecial 11, 3) := by decide +kernel
theorem dX5_init_12 : decode cX5_init 12 = .ok (.putfield 12, 3) := by decide +kernel
theorem dX5_init_15 : decode cX5_init 15 = .ok (.aload_n 0, 1) := by decide +kernel
theorem dX5_init_16 : decode cX5_init 16 = .ok (.sipush 281, 3) := by decide +kernel
theorem dX5_init_19 : decode cX5_init 19 = .ok (.newarray .int, 2) := by decide +kernel
theorem dX5_init_21 : decode cX5_init 21 = .ok (.putfield 18, 3) := by decide +kernel
theorem dX5_init_24 : decode cX5_init 24 = .ok (.aload_n 0, 1) := by decide +kernel
theorem dX5_init_25 : decode cX5_init 25 = .ok (.sipush 281, 3) := by decide +kernel
theorem dX5_init_28 : decode cX5_init 28 = .ok (.newarray .int, 2) := by decide +kernel
theorem dX5_init_30 : decode cX5_init 30 = .ok (.putfield 22, 3) := by decide +kernel
theorem dX5_init_33 : decode cX5_init 33 = .ok (.aload_n 0, 1) := by decide +kernel
theorem dX5_init_34 : decode cX5_init 34 = .ok (.sipush 281, 3) := by decide +kernel
theorem dX5_init_37 : decode cX5_init 37 = .ok (.newarray .int, 2) := by decide +kernel
theorem dX5_init_39 : decode cX5_init 39 = .ok (.putfield 25, 3) := by decide +kernel
theorem dX5_init_42 : decode cX5_init 42 = .ok (.aload_n 0, 1) := by decide +kernel
theorem dX5_init_43 : decode cX5_init 43 = .ok (.sipush 281, 3) := by decide +kernel
theorem dX5_init_46 : decode cX5_init 46 = .ok (.newarray .int, 2) := by decide +kernel
theorem dX5_init_48 : decode cX5_init 48 = .ok (.putfield 28, 3) := by decide +kernel
theorem dX5_init_51 : decode cX5_init 51 = .ok (.aload_n 0, 1) := by decide +kernel
theorem dX5_init_52 : decode cX5_init 52 = .ok (.sipush 281, 3) := by decide +kernel
theorem dX5_init_55 : decode cX5_init 55 = .ok (.newarray .int, 2) := by decide +kernel
theorem dX5_init_57 : decode cX5_init 57 = .ok (.putfield 31, 3) := by decide +kernel
theorem dX5_init_60 : decode cX5_init 60 = .ok (.return_, 1) := by decide +kernel
theorem dX5_writeOut_0 : decode cX5_writeOut 0 = .ok (.aload_n 0, 1) := by decide +kernel
theorem dX5_writeOut_1 : decode cX5_writeOut 1 = .ok (.iload_n 3, 1) := by decide +kernel
theorem dX5_writeOut_2 : decode cX5_writeOut 2 = .ok (.invokevirtual 34, 3) := by decide +kernel
theorem dX5_writeOut_5 : decode cX5_writeOut 5 = .ok (.iconst 0, 1) := by decide +kernel
theorem dX5_writeOut_6 : decode cX5_writeOut 6 = .ok (.istore 6, 2) := by decide +kernel
theorem dX5_writeOut_8 : decode cX5_writeOut 8 = .ok (.iconst 0, 1) := by decide +kernel
theorem dX5_writeOut_9 : decode cX5_writeOut 9 = .ok (.istore 7, 2) := by decide +kernel
theorem dX5_writeOut_11 : decode cX5_writeOut 11 = .ok (.iload 7, 2) := by decide +kernel
theorem dX5_writeOut_13 : decode cX5_writeOut 13 = .ok (.sipush 240, 3) := by decide +kernel
theorem dX5_writeOut_16 : decode cX5_writeOut 16 = .ok (.if_icmp .ge 114, 3) := by decide +kernel
theorem dX5_writeOut_19 : decode cX5_writeOut 19 = .ok (.iload 6, 2) := by decide +kernel
theorem dX5_writeOut_21 : decode cX5_writeOut 21 = .ok (.iload_n 2, 1) := by decide +kernel
theorem dX5_writeOut_22 : decode cX5_writeOut 22 = .ok (.if_icmp .ge 108, 3) := by decide +kernel
theorem dX5_writeOut_25 : decode cX5_writeOut 25 = .ok (.aload_n 0, 1) := by decide +kernel
theorem dX5_writeOut_26 : decode cX5_writeOut 26 = .ok (.getfield 12, 3) := by decide +kernel
theorem dX5_writeOut_29 : decode cX5_writeOut 29 = .ok (.aload_n 1, 1) := by decide +kernel
theorem dX5_writeOut_30 : decode cX5_writeOut 30 = .ok (.iload 6, 2) := by decide +kernel
theorem dX5_writeOut_32 : decode cX5_writeOut 32 = .ok (.iload_n 2, 1) := by decide +kernel
theorem dX5_writeOut_33 : decode cX5_writeOut 33 = .ok (.invokevirtual 38, 3) := by decide +kernel
theorem dX5_writeOut_36 : decode cX5_writeOut 36 = .ok (.istore 8, 2) := by decide +kernel
theorem dX5_writeOut_38 : decode cX5_writeOut 38 = .ok (.aload_n 0, 1) := by decide +kernel
theorem dX5_writeOut_39 : decode cX5_writeOut 39 = .ok (.iload 8, 2) := by decide +kernel
theorem dX5_writeOut_41 : decode cX5_writeOut 41 = .ok (.iload 6, 2) := by decide +kernel
theorem dX5_writeOut_43 : decode cX5_writeOut 43 = .ok (.aload_n 0, 1) := by decide +kernel
theorem dX5_writeOut_44 : decode cX5_writeOut 44 = .ok (.getfield 12, 3) := by decide +kernel
theorem dX5_writeOut_47 : decode cX5_writeOut 47 = .ok (.getfield 42, 3) := by decide +kernel
theorem dX5_writeOut_50 : decode cX5_writeOut 50 = .ok (.iload 8, 2) := by decide +kernel
theorem dX5_writeOut_52 : decode cX5_writeOut 52 = .ok (.iaload, 1) := by decide +kernel
theorem dX5_writeOut_53 : decode cX5_writeOut 53 = .ok (.invokevirtual 43, 3) := by decide +kernel
theorem dX5_writeOut_56 : decode cX5_writeOut 56 = .ok (.iload 6, 2) := by decide +kernel
theorem dX5_writeOut_58 : decode cX5_writeOut 58 = .ok (.aload_n 0, 1) := by decide +kernel
theorem dX5_writeOut_59 : decode cX5_writeOut 59 = .ok (.getfield 12, 3) := by decide +kernel
theorem dX5_writeOut_62 : decode cX5_writeOut 62 = .ok (.getfield 42, 3) := by decide +kernel
theorem dX5_writeOut_65 : decode cX5_writeOut 65 = .ok (.iload 8, 2) := by decide +kernel
theorem dX5_writeOut_67 : decode cX5_writeOut 67 = .ok (.iaload, 1) := by decide +kernel
theorem dX5_writeOut_68 : decode cX5_writeOut 68 = .ok (.iadd, 1) := by decide +kernel
theorem dX5_writeOut_69 : decode cX5_writeOut 69 = .ok (.istore 6, 2) := by decide +kernel
theorem dX5_writeOut_71 : decode cX5_writeOut 71 = .ok (.iload 6, 2) := by decide +kernel
theorem dX5_writeOut_73 : decode cX5_writeOut 73 = .ok (.iload_n 2, 1) := by decide +kernel
theorem dX5_writeOut_74 : decode cX5_writeOut 74 = .ok (.if_icmp .ge 50, 3) := by decide +kernel
theorem dX5_writeOut_77 : decode cX5_writeOut 77 = .ok (.aload_n 0, 1) := by decide +kernel
theorem dX5_writeOut_78 : decode cX5_writeOut 78 = .ok (.iload 8, 2) := by decide +kernel
theorem dX5_writeOut_80 : decode cX5_writeOut 80 = .ok (.aload_n 1, 1) := by decide +kernel
theorem dX5_writeOut_81 : decode cX5_writeOut 81 = .ok (.iload 6, 2) := by decide +kernel
theorem dX5_writeOut_83 : decode cX5_writeOut 83 = .ok (.iaload, 1) := by decide +kernel
theorem dX5_writeOut_84 : decode cX5_writeOut 84 = .ok (.invokevirtual 47, 3) := by decide +kernel
theorem dX5_writeOut_87 : decode cX5_writeOut 87 = .ok (.aload_n 0, 1) := by decide +kernel
theorem dX5_writeOut_88 : decode cX5_writeOut 88 = .ok (.iload 4, 2) := by decide +kernel
theorem dX5_writeOut_90 : decode cX5_writeOut 90 = .ok (.iload 5, 2) := by decide +kernel
theorem dX5_writeOut_92 : decode cX5_writeOut 92 = .ok (.invokevirtual 51, 3) := by decide +kernel
theorem dX5_writeOut_95 : decode cX5_writeOut 95 = .ok (.ifCond .eq 29, 3) := by decide +kernel
theorem dX5_writeOut_98 : decode cX5_writeOut 98 = .ok (.aload_n 0, 1) := by decide +kernel
theorem dX5_writeOut_99 : decode cX5_writeOut 99 = .ok (.bipush 8, 2) := by decide +kernel
theorem dX5_writeOut_101 : decode cX5_writeOut 101 = .ok (.bipush (-6), 2) := by decide +kernel
theorem dX5_writeOut_103 : decode cX5_writeOut 103 = .ok (.iconst 0, 1) := by decide +kernel
theorem dX5_writeOut_104 : decode cX5_writeOut 104 = .ok (.invokevirtual 43, 3) := by decide +kernel
theorem dX5_writeOut_107 : decode cX5_writeOut 107 = .ok (.aload_n 0, 1) := by decide +kernel
theorem dX5_writeOut_108 : decode cX5_writeOut 108 = .ok (.dup, 1) := by decide +kernel
theorem dX5_writeOut_109 : decode cX5_writeOut 109 = .ok (.getfield 55, 3) := by decide +kernel
theorem dX5_writeOut_112 : decode cX5_writeOut 112 = .ok (.iconst 1, 1) := by decide +kernel
theorem dX5_writeOut_113 : decode cX5_writeOut 113 = .ok (.iadd, 1) := by decide +kernel
theorem dX5_writeOut_114 : decode cX5_writeOut 114 = .ok (.putfield 55, 3) := by decide +kernel
theorem dX5_writeOut_117 : decode cX5_writeOut 117 = .ok (.aload_n 0, 1) := by decide +kernel
theorem dX5_writeOut_118 : decode cX5_writeOut 118 = .ok (.getfield 12, 3) := by decide +kernel
theorem dX5_writeOut_121 : decode cX5_writeOut 121 = .ok (.invokevirtual 59, 3) := by decide +kernel
theorem dX5_writeOut_124 : decode cX5_writeOut 124 = .ok (.iinc 7 1, 3) := by decide +kernel
theorem dX5_writeOut_127 : decode cX5_writeOut 127 = .ok (.goto (-116), 3) := by decide +kernel
theorem dX5_writeOut_130 : decode cX5_writeOut 130 = .ok (.aload_n 0, 1) := by decide +kernel
theorem dX5_writeOut_131 : decode cX5_writeOut 131 = .ok (.bipush 9, 2) := by decide +kernel
theorem dX5_writeOut_133 : decode cX5_writeOut 133 = .ok (.bipush (-6), 2) := by decide +kernel
theorem dX5_writeOut_135 : decode cX5_writeOut 135 = .ok (.iconst 0, 1) := by decide +kernel
theorem dX5_writeOut_136 : decode cX5_writeOut 136 = .ok (.invokevirtual 43, 3) := by decide +kernel
theorem dX5_writeOut_139 : decode cX5_writeOut 139 = .ok (.return_, 1) := by decide +kernel
theorem dX5_begin_0 : decode cX5_begin 0 = .ok (.aload_n 0, 1) := by decide +kernel
theorem dX5_begin_1 : decode cX5_begin 1 = .ok (.getfield 12, 3) := by decide +kernel
theorem dX5_begin_4 : decode cX5_begin 4 = .ok (.invokevirtual 59, 3) := by decide +kernel
theorem dX5_begin_7 : decode cX5_begin 7 = .ok (.aload_n 0, 1) := by decide +kernel
theorem dX5_begin_8 : decode cX5_begin 8 = .ok (.iconst 1, 1) := by decide +kernel
theorem dX5_begin_9 : decode cX5_begin 9 = .ok (.iload_n 1, 1) := by decide +kernel
theorem dX5_begin_10 : decode cX5_begin 10 = .ok (.ishl, 1) := by decide +kernel
theorem dX5_begin_11 : decode cX5_begin 11 = .ok (.putfield 62, 3) := by decide +kernel
theorem dX5_begin_14 : decode cX5_begin 14 = .ok (.aload_n 0, 1) := by decide +kernel
theorem dX5_begin_15 : decode cX5_begin 15 = .ok (.iconst 0, 1) := by decide +kernel
theorem dX5_begin_16 : decode cX5_begin 16 = .ok (.putfield 65, 3) := by decide +kernel
theorem dX5_begin_19 : decode cX5_begin 19 = .ok (.aload_n 0, 1) := by decide +kernel
theorem dX5_begin_20 : decode cX5_begin 20 = .ok (.iconst 0, 1) := by decide +kernel
theorem dX5_begin_21 : decode cX5_begin 21 = .ok (.putfield 68, 3) := by decide +kernel
theorem dX5_begin_24 : decode cX5_begin 24 = .ok (.aload_n 0, 1) := by decide +kernel
theorem dX5_begin_25 : decode cX5_begin 25 = .ok (.iconst 0, 1) := by decide +kernel
theorem dX5_begin_26 : decode cX5_begin 26 = .ok (.putfield 55, 3) := by decide +kernel
theorem dX5_begin_29 : decode cX5_begin 29 = .ok (.aload_n 0, 1) := by decide +kernel
theorem dX5_begin_30 : decode cX5_begin 30 = .ok (.iconst 0, 1) := by decide +kernel
theorem dX5_begin_31 : decode cX5_begin 31 = .ok (.putfield 71, 3) := by decide +kernel
theorem dX5_begin_34 : decode cX5_begin 34 = .ok (.return_, 1) := by decide +kernel
theorem dX5_writeCode_0 : decode cX5_writeCode 0 = .ok (.aload_n 0, 1) := by decide +kernel
theorem dX5_writeCode_1 : decode cX5_writeCode 1 = .ok (.getfield 65, 3) := by decide +kernel
theorem dX5_writeCode_4 : decode cX5_writeCode 4 = .ok (.sipush 281, 3) := by decide +kernel
theorem dX5_writeCode_7 : decode cX5_writeCode 7 = .ok (.if_icmp .lt 4, 3) := by decide +kernel
theorem dX5_writeCode_10 : decode cX5_writeCode 10 = .ok (.return_, 1) := by decide +kernel
theorem dX5_writeCode_11 : decode cX5_writeCode 11 = .ok (.aload_n 0, 1) := by decide +kernel
theorem dX5_writeCode_12 : decode cX5_writeCode 12 = .ok (.getfield 12, 3) := by decide +kernel
theorem dX5_writeCode_15 : decode cX5_writeCode 15 = .ok (.getfield 74, 3) := by decide +kernel
theorem dX5_writeCode_18 : decode cX5_writeCode 18 = .ok (.iconst 1, 1) := by decide +kernel
theorem dX5_writeCode_19 : decode cX5_writeCode 19 = .ok (.isub, 1) := by decide +kernel
theorem dX5_writeCode_20 : decode cX5_writeCode 20 = .ok (.invokestatic 77, 3) := by decide +kernel
theorem dX5_writeCode_23 : decode cX5_writeCode 23 = .ok (.istore 4, 2) := by decide +kernel
theorem dX5_writeCode_25 : decode cX5_writeCode 25 = .ok (.aload_n 0, 1) := by decide +kernel
theorem dX5_writeCode_26 : decode cX5_writeCode 26 = .ok (.getfield 18, 3) := by decide +kernel
theorem dX5_writeCode_29 : decode cX5_writeCode 29 = .ok (.aload_n 0, 1) := by decide +kernel
theorem dX5_writeCode_30 : decode cX5_writeCode 30 = .ok (.getfield 65, 3) := by decide +kernel
theorem dX5_writeCode_33 : decode cX5_writeCode 33 = .ok (.iload_n 1, 1) := by decide +kernel
theorem dX5_writeCode_34 : decode cX5_writeCode 34 = .ok (.iastore, 1) := by decide +kernel
theorem dX5_writeCode_35 : decode cX5_writeCode 35 = .ok (.aload_n 0, 1) := by decide +kernel
theorem dX5_writeCode_36 : decode cX5_writeCode 36 = .ok (.getfield 22, 3) := by decide +kernel
theorem dX5_writeCode_39 : decode cX5_writeCode 39 = .ok (.aload_n 0, 1) := by decide +kernel
theorem dX5_writeCode_40 : decode cX5_writeCode 40 = .ok (.getfield 65, 3) := by decide +kernel
theorem dX5_writeCode_43 : decode cX5_writeCode 43 = .ok (.iload 4, 2) := by decide +kernel
theorem dX5_writeCode_45 : decode cX5_writeCode 45 = .ok (.iastore, 1) := by decide +kernel
theorem dX5_writeCode_46 : decode cX5_writeCode 46 = .ok (.aload_n 0, 1) := by decide +kernel
theorem dX5_writeCode_47 : decode cX5_writeCode 47 = .ok (.getfield 25, 3) := by decide +kernel
theorem dX5_writeCode_50 : decode cX5_writeCode 50 = .ok (.aload_n 0, 1) := by decide +kernel
theorem dX5_writeCode_51 : decode cX5_writeCode 51 = .ok (.getfield 65, 3) := by decide +kernel
theorem dX5_writeCode_54 : decode cX5_writeCode 54 = .ok (.iload_n 2, 1) := by decide +kernel
theorem dX5_writeCode_55 : decode cX5_writeCode 55 = .ok (.iastore, 1) := by decide +kernel
theorem dX5_writeCode_56 : decode cX5_writeCode 56 = .ok (.aload_n 0, 1) := by decide +kernel
theorem dX5_writeCode_57 : decode cX5_writeCode 57 = .ok (.getfield 28, 3) := by decide +kernel
theorem dX5_writeCode_60 : decode cX5_writeCode 60 = .ok (.aload_n 0, 1) := by decide +kernel
theorem dX5_writeCode_61 : decode cX5_writeCode 61 = .ok (.getfield 65, 3) := by decide +kernel
theorem dX5_writeCode_64 : decode cX5_writeCode 64 = .ok (.iload_n 3, 1) := by decide +kernel
theorem dX5_writeCode_65 : decode cX5_writeCode 65 = .ok (.iastore, 1) := by decide +kernel
theorem dX5_writeCode_66 : decode cX5_writeCode 66 = .ok (.aload_n 0, 1) := by decide +kernel
theorem dX5_writeCode_67 : decode cX5_writeCode 67 = .ok (.getfield 31, 3) := by decide +kernel
theorem dX5_writeCode_70 : decode cX5_writeCode 70 = .ok (.aload_n 0, 1) := by decide +kernel
theorem dX5_writeCode_71 : decode cX5_writeCode 71 = .ok (.getfield 65, 3) := by decide +kernel
theorem dX5_writeCode_74 : decode cX5_writeCode 74 = .ok (.aload_n 0, 1) := by decide +kernel
theorem dX5_writeCode_75 : decode cX5_writeCode 75 = .ok (.getfield 12, 3) := by decide +kernel
theorem dX5_writeCode_78 : decode cX5_writeCode 78 = .ok (.getfield 74, 3) := by decide +kernel
theorem dX5_writeCode_81 : decode cX5_writeCode 81 = .ok (.iastore, 1) := by decide +kernel
theorem dX5_writeCode_82 : decode cX5_writeCode 82 = .ok (.aload_n 0, 1) := by decide +kernel
theorem dX5_writeCode_83 : decode cX5_writeCode 83 = .ok (.dup, 1) := by decide +kernel
theorem dX5_writeCode_84 : decode cX5_writeCode 84 = .ok (.getfield 68, 3) := by decide +kernel
theorem dX5_writeCode_87 : decode cX5_writeCode 87 = .ok (.iload 4, 2) := by decide +kernel
theorem dX5_writeCode_89 : decode cX5_writeCode 89 = .ok (.iadd, 1) := by decide +kernel
theorem dX5_writeCode_90 : decode cX5_writeCode 90 = .ok (.putfield 68, 3) := by decide +kernel
theorem dX5_writeCode_93 : decode cX5_writeCode 93 = .ok (.aload_n 0, 1) := by decide +kernel
theorem dX5_writeCode_94 : decode cX5_writeCode 94 = .ok (.dup, 1) := by decide +kernel
theorem dX5_writeCode_95 : decode cX5_writeCode 95 = .ok (.getfield 65, 3) := by decide +kernel
theorem dX5_writeCode_98 : decode cX5_writeCode 98 = .ok (.iconst 1, 1) := by decide +kernel
theorem dX5_writeCode_99 : decode cX5_writeCode 99 = .ok (.iadd, 1) := by decide +kernel
theorem dX5_writeCode_100 : decode cX5_writeCode 100 = .ok (.putfield 65, 3) := by decide +kernel
theorem dX5_writeCode_103 : decode cX5_writeCode 103 = .ok (.return_, 1) := by decide +kernel
theorem dX5_bitsOf_0 : decode cX5_bitsOf 0 = .ok (.getstatic 81, 3) := by decide +kernel
theorem dX5_bitsOf_3 : decode cX5_bitsOf 3 = .ok (.iconst 0, 1) := by decide +kernel
theorem dX5_bitsOf_4 : decode cX5_bitsOf 4 = .ok (.iaload, 1) := by decide +kernel
theorem dX5_bitsOf_5 : decode cX5_bitsOf 5 = .ok (.istore_n 1, 1) := by decide +kernel
theorem dX5_bitsOf_6 : decode cX5_bitsOf 6 = .ok (.iload_n 1, 1) := by decide +kernel
theorem dX5_bitsOf_7 : decode cX5_bitsOf 7 = .ok (.getstatic 84, 3) := by decide +kernel
theorem dX5_bitsOf_10 : decode cX5_bitsOf 10 = .ok (.iconst 0, 1) := by decide +kernel
theorem dX5_bitsOf_11 : decode cX5_bitsOf 11 = .ok (.iaload, 1) := by decide +kernel
theorem dX5_bitsOf_12 : decode cX5_bitsOf 12 = .ok (.if_icmp .ge 15, 3) := by decide +kernel
theorem dX5_bitsOf_15 : decode cX5_bitsOf 15 = .ok (.iload_n 0, 1) := by decide +kernel
theorem dX5_bitsOf_16 : decode cX5_bitsOf 16 = .ok (.iload_n 1, 1) := by decide +kernel
theorem dX5_bitsOf_17 : decode cX5_bitsOf 17 = .ok (.ishr, 1) := by decide +kernel
theorem dX5_bitsOf_18 : decode cX5_bitsOf 18 = .ok (.ifCond .eq 9, 3) := by decide +kernel
theorem dX5_bitsOf_21 : decode cX5_bitsOf 21 = .ok (.iinc 1 1, 3) := by decide +kernel
theorem dX5_bitsOf_24 : decode cX5_bitsOf 24 = .ok (.goto (-18), 3) := by decide +kernel
theorem dX5_bitsOf_27 : decode cX5_bitsOf 27 = .ok (.iload_n 1, 1) := by decide +kernel
theorem dX5_bitsOf_28 : decode cX5_bitsOf 28 = .ok (.ireturn, 1) := by decide +kernel
theorem dX5_grow_0 : decode cX5_grow 0 = .ok (.aload_n 0, 1) := by decide +kernel
theorem dX5_grow_1 : decode cX5_grow 1 = .ok (.getfield 12, 3) := by decide +kernel
theorem dX5_grow_4 : decode cX5_grow 4 = .ok (.getfield 74, 3) := by decide +kernel
theorem dX5_grow_7 : decode cX5_grow 7 = .ok (.aload_n 0, 1) := by decide +kernel
theorem dX5_grow_8 : decode cX5_grow 8 = .ok (.getfield 62, 3) := by decide +kernel
theorem dX5_grow_11 : decode cX5_grow 11 = .ok (.if_icmp .lt 4, 3) := by decide +kernel
theorem dX5_grow_14 : decode cX5_grow 14 = .ok (.return_, 1) := by decide +kernel
theorem dX5_grow_15 : decode cX5_grow 15 = .ok (.aload_n 0, 1) := by decide +kernel
theorem dX5_grow_16 : decode cX5_grow 16 = .ok (.getfield 12, 3) := by decide +kernel
theorem dX5_grow_19 : decode cX5_grow 19 = .ok (.iload_n 1, 1) := by decide +kernel
theorem dX5_grow_20 : decode cX5_grow 20 = .ok (.iload_n 2, 1) := by decide +kernel
theorem dX5_grow_21 : decode cX5_grow 21 = .ok (.invokevirtual 87, 3) := by decide +kernel
theorem dX5_grow_24 : decode cX5_grow 24 = .ok (.aload_n 0, 1) := by decide +kernel
theorem dX5_grow_25 : decode cX5_grow 25 = .ok (.aload_n 0, 1) := by decide +kernel
theorem dX5_grow_26 : decode cX5_grow 26 = .ok (.getfield 71, 3) := by decide +kernel
theorem dX5_grow_29 : decode cX5_grow 29 = .ok (.aload_n 0, 1) := by decide +kernel
theorem dX5_grow_30 : decode cX5_grow 30 = .ok (.getfield 12, 3) := by decide +kernel
theorem dX5_grow_33 : decode cX5_grow 33 = .ok (.getfield 42, 3) := by decide +kernel
theorem dX5_grow_36 : decode cX5_grow 36 = .ok (.iload_n 1, 1) := by decide +kernel
theorem dX5_grow_37 : decode cX5_grow 37 = .ok (.iaload, 1) := by decide +kernel
theorem dX5_grow_38 : decode cX5_grow 38 = .ok (.iconst 1, 1) := by decide +kernel
theorem dX5_grow_39 : decode cX5_grow 39 = .ok (.iadd, 1) := by decide +kernel
theorem dX5_grow_40 : decode cX5_grow 40 = .ok (.invokestatic 90, 3) := by decide +kernel
theorem dX5_grow_43 : decode cX5_grow 43 = .ok (.putfield 71, 3) := by decide +kernel
theorem dX5_grow_46 : decode cX5_grow 46 = .ok (.aload_n 0, 1) := by decide +kernel
theorem dX5_grow_47 : decode cX5_grow 47 = .ok (.aload_n 0, 1) := by decide +kernel
theorem dX5_grow_48 : decode cX5_grow 48 = .ok (.getfield 65, 3) := by decide +kernel
theorem dX5_grow_51 : decode cX5_grow 51 = .ok (.putfield 96, 3) := by decide +kernel
theorem dX5_grow_54 : decode cX5_grow 54 = .ok (.return_, 1) := by decide +kernel
theorem dX5_mustClear_0 : decode cX5_mustClear 0 = .ok (.iload_n 1, 1) := by decide +kernel
theorem dX5_mustClear_1 : decode cX5_mustClear 1 = .ok (.ifCond .eq 17, 3) := by decide +kernel
theorem dX5_mustClear_4 : decode cX5_mustClear 4 = .ok (.aload_n 0, 1) := by decide +kernel
theorem dX5_mustClear_5 : decode cX5_mustClear 5 = .ok (.getfield 12, 3) := by decide +kernel
theorem dX5_mustClear_8 : decode cX5_mustClear 8 = .ok (.getfield 74, 3) := by decide +kernel
theorem dX5_mustClear_11 : decode cX5_mustClear 11 = .ok (.aload_n 0, 1) := by decide +kernel
theorem dX5_mustClear_12 : decode cX5_mustClear 12 = .ok (.getfield 62, 3) := by decide +kernel
theorem dX5_mustClear_15 : decode cX5_mustClear 15 = .ok (.if_icmp .ge 5, 3) := by decide +kernel
theorem dX5_mustClear_18 : decode cX5_mustClear 18 = .ok (.iconst 0, 1) := by decide +kernel
theorem dX5_mustClear_19 : decode cX5_mustClear 19 = .ok (.ireturn, 1) := by decide +kernel
theorem dX5_mustClear_20 : decode cX5_mustClear 20 = .ok (.iload_n 1, 1) := by decide +kernel
theorem dX5_mustClear_21 : decode cX5_mustClear 21 = .ok (.iconst 1, 1) := by decide +kernel
theorem dX5_mustClear_22 : decode cX5_mustClear 22 = .ok (.if_icmp .eq 11, 3) := by decide +kernel
theorem dX5_mustClear_25 : decode cX5_mustClear 25 = .ok (.aload_n 0, 1) := by decide +kernel
theorem dX5_mustClear_26 : decode cX5_mustClear 26 = .ok (.iload_n 2, 1) := by decide +kernel
theorem dX5_mustClear_27 : decode cX5_mustClear 27 = .ok (.invokevirtual 99, 3) := by decide +kernel
theorem dX5_mustClear_30 : decode cX5_mustClear 30 = .ok (.ifCond .eq 7, 3) := by decide +kernel
theorem dX5_mustClear_33 : decode cX5_mustClear 33 = .ok (.iconst 1, 1) := by decide +kernel
theorem dX5_mustClear_34 : decode cX5_mustClear 34 = .ok (.goto 4, 3) := by decide +kernel
theorem dX5_mustClear_37 : decode cX5_mustClear 37 = .ok (.iconst 0, 1) := by decide +kernel
theorem dX5_mustClear_38 : decode cX5_mustClear 38 = .ok (.ireturn, 1) := by decide +kernel
theorem dX5_losesBy_0 : decode cX5_losesBy 0 = .ok (.aload_n 0, 1) := by decide +kernel
theorem dX5_losesBy_1 : decode cX5_losesBy 1 = .ok (.getfield 65, 3) := by decide +kernel
theorem dX5_losesBy_4 : decode cX5_losesBy 4 = .ok (.aload_n 0, 1) := by decide +kernel
theorem dX5_losesBy_5 : decode cX5_losesBy 5 = .ok (.getfield 96, 3) := by decide +kernel
theorem dX5_losesBy_8 : decode cX5_losesBy 8 = .ok (.isub, 1) := by decide +kernel
theorem dX5_losesBy_9 : decode cX5_losesBy 9 = .ok (.iconst 2, 1) := by decide +kernel
theorem dX5_losesBy_10 : decode cX5_losesBy 10 = .ok (.iload_n 1, 1) := by decide +kernel
theorem dX5_losesBy_11 : decode cX5_losesBy 11 = .ok (.imul, 1) := by decide +kernel
theorem dX5_losesBy_12 : decode cX5_losesBy 12 = .ok (.if_icmp .ge 5, 3) := by decide +kernel
theorem dX5_losesBy_15 : decode cX5_losesBy 15 = .ok (.iconst 0, 1) := by decide +kernel
theorem dX5_losesBy_16 : decode cX5_losesBy 16 = .ok (.ireturn, 1) := by decide +kernel
theorem dX5_losesBy_17 : decode cX5_losesBy 17 = .ok (.aload_n 0, 1) := by decide +kernel
theorem dX5_losesBy_18 : decode cX5_losesBy 18 = .ok (.aload_n 0, 1) := by decide +kernel
theorem dX5_losesBy_19 : decode cX5_losesBy 19 = .ok (.getfield 65, 3) := by decide +kernel
theorem dX5_losesBy_22 : decode cX5_losesBy 22 = .ok (.iload_n 1, 1) := by decide +kernel
theorem dX5_losesBy_23 : decode cX5_losesBy 23 = .ok (.isub, 1) := by decide +kernel
theorem dX5_losesBy_24 : decode cX5_losesBy 24 = .ok (.aload_n 0, 1) := by decide +kernel
theorem dX5_losesBy_25 : decode cX5_losesBy 25 = .ok (.getfield 65, 3) := by decide +kernel
theorem dX5_losesBy_28 : decode cX5_losesBy 28 = .ok (.invokevirtual 103, 3) := by decide +kernel
theorem dX5_losesBy_31 : decode cX5_losesBy 31 = .ok (.aload_n 0, 1) := by decide +kernel
theorem dX5_losesBy_32 : decode cX5_losesBy 32 = .ok (.aload_n 0, 1) := by decide +kernel
theorem dX5_losesBy_33 : decode cX5_losesBy 33 = .ok (.getfield 65, 3) := by decide +kernel
theorem dX5_losesBy_36 : decode cX5_losesBy 36 = .ok (.iconst 2, 1) := by decide +kernel
theorem dX5_losesBy_37 : decode cX5_losesBy 37 = .ok (.iload_n 1, 1) := by decide +kernel
theorem dX5_losesBy_38 : decode cX5_losesBy 38 = .ok (.imul, 1) := by decide +kernel
theorem dX5_losesBy_39 : decode cX5_losesBy 39 = .ok (.isub, 1) := by decide +kernel
theorem dX5_losesBy_40 : decode cX5_losesBy 40 = .ok (.aload_n 0, 1) := by decide +kernel
theorem dX5_losesBy_41 : decode cX5_losesBy 41 = .ok (.getfield 65, 3) := by decide +kernel
theorem dX5_losesBy_44 : decode cX5_losesBy 44 = .ok (.iload_n 1, 1) := by decide +kernel
theorem dX5_losesBy_45 : decode cX5_losesBy 45 = .ok (.isub, 1) := by decide +kernel
theorem dX5_losesBy_46 : decode cX5_losesBy 46 = .ok (.invokevirtual 103, 3) := by decide +kernel
theorem dX5_losesBy_49 : decode cX5_losesBy 49 = .ok (.if_icmp .ge 7, 3) := by decide +kernel
theorem dX5_losesBy_52 : decode cX5_losesBy 52 = .ok (.iconst 1, 1) := by decide +kernel
theorem dX5_losesBy_53 : decode cX5_losesBy 53 = .ok (.goto 4, 3) := by decide +kernel
theorem dX5_losesBy_56 : decode cX5_losesBy 56 = .ok (.iconst 0, 1) := by decide +kernel
theorem dX5_losesBy_57 : decode cX5_losesBy 57 = .ok (.ireturn, 1) := by decide +kernel
theorem dX5_signsOf_0 : decode cX5_signsOf 0 = .ok (.iconst 0, 1) := by decide +kernel
theorem dX5_signsOf_1 : decode cX5_signsOf 1 = .ok (.istore_n 3, 1) := by decide +kernel
theorem dX5_signsOf_2 : decode cX5_signsOf 2 = .ok (.iload_n 1, 1) := by decide +kernel
theorem dX5_signsOf_3 : decode cX5_signsOf 3 = .ok (.istore 4, 2) := by decide +kernel
theorem dX5_signsOf_5 : decode cX5_signsOf 5 = .ok (.iload 4, 2) := by decide +kernel
theorem dX5_signsOf_7 : decode cX5_signsOf 7 = .ok (.iload_n 2, 1) := by decide +kernel
theorem dX5_signsOf_8 : decode cX5_signsOf 8 = .ok (.if_icmp .ge 19, 3) := by decide +kernel
theorem dX5_signsOf_11 : decode cX5_signsOf 11 = .ok (.iload_n 3, 1) := by decide +kernel
theorem dX5_signsOf_12 : decode cX5_signsOf 12 = .ok (.aload_n 0, 1) := by decide +kernel
theorem dX5_signsOf_13 : decode cX5_signsOf 13 = .ok (.getfield 28, 3) := by decide +kernel
theorem dX5_signsOf_16 : decode cX5_signsOf 16 = .ok (.iload 4, 2) := by decide +kernel
theorem dX5_signsOf_18 : decode cX5_signsOf 18 = .ok (.iaload, 1) := by decide +kernel
theorem dX5_signsOf_19 : decode cX5_signsOf 19 = .ok (.iadd, 1) := by decide +kernel
theorem dX5_signsOf_20 : decode cX5_signsOf 20 = .ok (.istore_n 3, 1) := by decide +kernel
theorem dX5_signsOf_21 : decode cX5_signsOf 21 = .ok (.iinc 4 1, 3) := by decide +kernel
theorem dX5_signsOf_24 : decode cX5_signsOf 24 = .ok (.goto (-19), 3) := by decide +kernel
theorem dX5_signsOf_27 : decode cX5_signsOf 27 = .ok (.iload_n 3, 1) := by decide +kernel
theorem dX5_signsOf_28 : decode cX5_signsOf 28 = .ok (.ireturn, 1) := by decide +kernel
theorem dX6_init_0 : decode cX6_init 0 = .ok (.aload_n 0, 1) := by decide +kernel
theorem dX6_init_1 : decode cX6_init 1 = .ok (.invokespecial 3, 3) := by decide +kernel
theorem dX6_init_4 : decode cX6_init 4 = .ok (.aload_n 0, 1) := by decide +kernel
theorem dX6_init_5 : decode cX6_init 5 = .ok (.new 9, 3) := by decide +kernel
theorem dX6_init_8 : decode cX6_init 8 = .ok (.dup, 1) := by decide +kernel
theorem dX6_init_9 : decode cX6_init 9 = .ok (.invokespecial 11, 3) := by decide +kernel
theorem dX6_init_12 : decode cX6_init 12 = .ok (.putfield 12, 3) := by decide +kernel
theorem dX6_init_15 : decode cX6_init 15 = .ok (.aload_n 0, 1) := by decide +kernel
theorem dX6_init_16 : decode cX6_init 16 = .ok (.new 16, 3) := by decide +kernel
theorem dX6_init_19 : decode cX6_init 19 = .ok (.dup, 1) := by decide +kernel
theorem dX6_init_20 : decode cX6_init 20 = .ok (.invokespecial 18, 3) := by decide +kernel
theorem dX6_init_23 : decode cX6_init 23 = .ok (.putfield 19, 3) := by decide +kernel
theorem dX6_init_26 : decode cX6_init 26 = .ok (.aload_n 0, 1) := by decide +kernel
theorem dX6_init_27 : decode cX6_init 27 = .ok (.iconst 2, 1) := by decide +kernel
theorem dX6_init_28 : decode cX6_init 28 = .ok (.anewarray 9, 3) := by decide +kernel
theorem dX6_init_31 : decode cX6_init 31 = .ok (.putfield 23, 3) := by decide +kernel
theorem dX6_init_34 : decode cX6_init 34 = .ok (.aload_n 0, 1) := by decide +kernel
theorem dX6_init_35 : decode cX6_init 35 = .ok (.iconst 2, 1) := by decide +kernel
theorem dX6_init_36 : decode cX6_init 36 = .ok (.newarray .boolean, 2) := by decide +kernel
theorem dX6_init_38 : decode cX6_init 38 = .ok (.putfield 27, 3) := by decide +kernel
theorem dX6_init_41 : decode cX6_init 41 = .ok (.aload_n 0, 1) := by decide +kernel
theorem dX6_init_42 : decode cX6_init 42 = .ok (.new 31, 3) := by decide +kernel
theorem dX6_init_45 : decode cX6_init 45 = .ok (.dup, 1) := by decide +kernel
theorem dX6_init_46 : decode cX6_init 46 = .ok (.invokespecial 33, 3) := by decide +kernel
theorem dX6_init_49 : decode cX6_init 49 = .ok (.putfield 34, 3) := by decide +kernel
theorem dX6_init_52 : decode cX6_init 52 = .ok (.aload_n 0, 1) := by decide +kernel
theorem dX6_init_53 : decode cX6_init 53 = .ok (.new 38, 3) := by decide +kernel
theorem dX6_init_56 : decode cX6_init 56 = .ok (.dup, 1) := by decide +kernel
theorem dX6_init_57 : decode cX6_init 57 = .ok (.invokespecial 40, 3) := by decide +kernel
theorem dX6_init_60 : decode cX6_init 60 = .ok (.putfield 41, 3) := by decide +kernel
theorem dX6_init_63 : decode cX6_init 63 = .ok (.aload_n 0, 1) := by decide +kernel
theorem dX6_init_64 : decode cX6_init 64 = .ok (.new 45, 3) := by decide +kernel
theorem dX6_init_67 : decode cX6_init 67 = .ok (.dup, 1) := by decide +kernel
theorem dX6_init_68 : decode cX6_init 68 = .ok (.invokespecial 47, 3) := by decide +kernel
theorem dX6_init_71 : decode cX6_init 71 = .ok (.putfield 48, 3) := by decide +kernel
theorem dX6_init_74 : decode cX6_init 74 = .ok (.aload_n 0, 1) := by decide +kernel
theorem dX6_init_75 : decode cX6_init 75 = .ok (.sipush 281, 3) := by decide +kernel
theorem dX6_init_78 : decode cX6_init 78 = .ok (.newarray .int, 2) := by decide +kernel
theorem dX6_init_80 : decode cX6_init 80 = .ok (.putfield 52, 3) := by decide +kernel
theorem dX6_init_83 : decode cX6_init 83 = .ok (.aload_n 0, 1) := by decide +kernel
theorem dX6_init_84 : decode cX6_init 84 = .ok (.new 38, 3) := by decide +kernel
theorem dX6_init_87 : decode cX6_init 87 = .ok (.dup, 1) := by decide +kernel
theorem dX6_init_88 : decode cX6_init 88 = .ok (.invokespecial 40, 3) := by decide +kernel
theorem dX6_init_91 : decode cX6_init 91 = .ok (.putfield 56, 3) := by decide +kernel
theorem dX6_init_94 : decode cX6_init 94 = .ok (.aload_n 0, 1) := by decide +kernel
theorem dX6_init_95 : decode cX6_init 95 = .ok (.new 45, 3) := by decide +kernel
theorem dX6_init_98 : decode cX6_init 98 = .ok (.dup, 1) := by decide +kernel
theorem dX6_init_99 : decode cX6_init 99 = .ok (.invokespecial 47, 3) := by decide +kernel
theorem dX6_init_102 : decode cX6_init 102 = .ok (.putfield 59, 3) := by decide +kernel
theorem dX6_init_105 : decode cX6_init 105 = .ok (.aload_n 0, 1) := by decide +kernel
theorem dX6_init_106 : decode cX6_init 106 = .ok (.sipush 281, 3) := by decide +kernel
theorem dX6_init_109 : decode cX6_init 109 = .ok (.newarray .int, 2) := by decide +kernel
theorem dX6_init_111 : decode cX6_init 111 = .ok (.putfield 62, 3) := by decide +kernel
theorem dX6_init_114 : decode cX6_init 114 = .ok (.iconst 0, 1) := by decide +kernel
theorem dX6_init_115 : decode cX6_init 115 = .ok (.istore_n 1, 1) := by decide +kernel
theorem dX6_init_116 : decode cX6_init 116 = .ok (.iload_n 1, 1) := by decide +kernel
theorem dX6_init_117 : decode cX6_init 117 = .ok (.iconst 2, 1) := by decide +kernel
theorem dX6_init_118 : decode cX6_init 118 = .ok (.if_icmp .ge 22, 3) := by decide +kernel
theorem dX6_init_121 : decode cX6_init 121 = .ok (.aload_n 0, 1) := by decide +kernel
theorem dX6_init_122 : decode cX6_init 122 = .ok (.getfield 23, 3) := by decide +kernel
theorem dX6_init_125 : decode cX6_init 125 = .ok (.iload_n 1, 1) := by decide +kernel
theorem dX6_init_126 : decode cX6_init 126 = .ok (.new 9, 3) := by decide +kernel
theorem dX6_init_129 : decode cX6_init 129 = .ok (.dup, 1) := by decide +kernel
theorem dX6_init_130 : decode cX6_init 130 = .ok (.invokespecial 11, 3) := by decide +kernel
theorem dX6_init_133 : decode cX6_init 133 = .ok (.aastore, 1) := by decide +kernel
theorem dX6_init_134 : decode cX6_init 134 = .ok (.iinc 1 1, 3) := by decide +kernel
theorem dX6_init_137 : decode cX6_init 137 = .ok (.goto (-21), 3) := by decide +kernel
theorem dX6_init_140 : decode cX6_init 140 = .ok (.aload_n 0, 1) := by decide +kernel
theorem dX6_init_141 : decode cX6_init 141 = .ok (.invokevirtual 65, 3) := by decide +kernel
theorem dX6_init_144 : decode cX6_init 144 = .ok (.return_, 1) := by decide +kernel
theorem dX6_set_0 : decode cX6_set 0 = .ok (.iload_n 1, 1) := by decide +kernel
theorem dX6_set_1 : decode cX6_set 1 = .ok (.iload_n 2, 1) := by decide +kernel
theorem dX6_set_2 : decode cX6_set 2 = .ok (.invokestatic 68, 3) := by decide +kernel
theorem dX6_set_5 : decode cX6_set 5 = .ok (.ifCond .ne 6, 3) := by decide +kernel
theorem dX6_set_8 : decode cX6_set 8 = .ok (.bipush (-2), 2) := by decide +kernel
theorem dX6_set_10 : decode cX6_set 10 = .ok (.ireturn, 1) := by decide +kernel
theorem dX6_set_11 : decode cX6_set 11 = .ok (.aload_n 0, 1) := by decide +kernel
theorem dX6_set_12 : decode cX6_set 12 = .ok (.getfield 19, 3) := by decide +kernel
theorem dX6_set_15 : decode cX6_set 15 = .ok (.aload_n 0, 1) := by decide +kernel
theorem dX6_set_16 : decode cX6_set 16 = .ok (.getfield 12, 3) := by decide +kernel
theorem dX6_set_19 : decode cX6_set 19 = .ok (.invokevirtual 72, 3) := by decide +kernel
theorem dX6_set_22 : decode cX6_set 22 = .ok (.aload_n 0, 1) := by decide +kernel
theorem dX6_set_23 : decode cX6_set 23 = .ok (.getfield 12, 3) := by decide +kernel
theorem dX6_set_26 : decode cX6_set 26 = .ok (.getfield 76, 3) := by decide +kernel
theorem dX6_set_29 : decode cX6_set 29 = .ok (.iload_n 1, 1) := by decide +kernel
theorem dX6_set_30 : decode cX6_set 30 = .ok (.iaload, 1) := by decide +kernel
theorem dX6_set_31 : decode cX6_set 31 = .ok (.istore_n 3, 1) := by decide +kernel
theorem dX6_set_32 : decode cX6_set 32 = .ok (.aload_n 0, 1) := by decide +kernel
theorem dX6_set_33 : decode cX6_set 33 = .ok (.getfield 12, 3) := by decide +kernel
theorem dX6_set_36 : decode cX6_set 36 = .ok (.getfield 76, 3) := by decide +kernel
theorem dX6_set_39 : decode cX6_set 39 = .ok (.iload_n 1, 1) := by decide +kernel
theorem dX6_set_40 : decode cX6_set 40 = .ok (.iload_n 2, 1) := by decide +kernel
theorem dX6_set_41 : decode cX6_set 41 = .ok (.iastore, 1) := by decide +kernel
theorem dX6_set_42 : decode cX6_set 42 = .ok (.aload_n 0, 1) := by decide +kernel
theorem dX6_set_43 : decode cX6_set 43 = .ok (.getfield 12, 3) := by decide +kernel
theorem dX6_set_46 : decode cX6_set 46 = .ok (.invokevirtual 79, 3) := by decide +kernel
theorem dX6_set_49 : decode cX6_set 49 = .ok (.aload_n 0, 1) := by decide +kernel
theorem dX6_set_50 : decode cX6_set 50 = .ok (.invokevirtual 65, 3) := by decide +kernel
theorem dX6_set_53 : decode cX6_set 53 = .ok (.iload_n 3, 1) := by decide +kernel
theorem dX6_set_54 : decode cX6_set 54 = .ok (.ireturn, 1) := by decide +kernel
theorem dX6_add_0 : decode cX6_add 0 = .ok (.iload_n 1, 1) := by decide +kernel
theorem dX6_add_1 : decode cX6_add 1 = .ok (.ifCond .lt 21, 3) := by decide +kernel
theorem dX6_add_4 : decode cX6_add 4 = .ok (.iload_n 1, 1) := by decide +kernel
theorem dX6_add_5 : decode cX6_add 5 = .ok (.bipush 8, 2) := by decide +kernel
theorem dX6_add_7 : decode cX6_add 7 = .ok (.if_icmp .ge 15, 3) := by decide +kernel
theorem dX6_add_10 : decode cX6_add 10 = .ok (.iload_n 2, 1) := by decide +kernel
theorem dX6_add_11 : decode cX6_add 11 = .ok (.iconst 1, 1) := by decide +kernel
theorem dX6_add_12 : decode cX6_add 12 = .ok (.if_icmp .lt 10, 3) := by decide +kernel
theorem dX6_add_15 : decode cX6_add 15 = .ok (.iload_n 2, 1) := by decide +kernel
theorem dX6_add_16 : decode cX6_add 16 = .ok (.sipush 240, 3) := by decide +kernel
theorem dX6_add_19 : decode cX6_add 19 = .ok (.if_icmp .le 6, 3) := by decide +kernel
theorem dX6_add_22 : decode cX6_add 22 = .ok (.bipush (-2), 2) := by decide +kernel
theorem dX6_add_24 : decode cX6_add 24 = .ok (.ireturn, 1) := by decide +kernel
theorem dX6_add_25 : decode cX6_add 25 = .ok (.aload_n 0, 1) := by decide +kernel
theorem dX6_add_26 : decode cX6_add 26 = .ok (.getfield 12, 3) := by decide +kernel
theorem dX6_add_29 : decode cX6_add 29 = .ok (.getfield 82, 3) := by decide +kernel
theorem dX6_add_32 : decode cX6_add 32 = .ok (.iload_n 2, 1) := by decide +kernel
theorem dX6_add_33 : decode cX6_add 33 = .ok (.iadd, 1) := by decide +kernel
theorem dX6_add_34 : decode cX6_add 34 = .ok (.sipush 240, 3) := by decide +kernel
theorem dX6_add_37 : decode cX6_add 37 = .ok (.if_icmp .le 6, 3) := by decide +kernel
theorem dX6_add_40 : decode cX6_add 40 = .ok (.bipush (-4), 2) := by decide +kernel
theorem dX6_add_42 : decode cX6_add 42 = .ok (.ireturn, 1) := by decide +kernel
theorem dX6_add_43 : decode cX6_add 43 = .ok (.aload_n 0, 1) := by decide +kernel
theorem dX6_add_44 : decode cX6_add 44 = .ok (.getfield 19, 3) := by decide +kernel
theorem dX6_add_47 : decode cX6_add 47 = .ok (.aload_n 0, 1) := by decide +kernel
theorem dX6_add_48 : decode cX6_add 48 = .ok (.getfield 12, 3) := by decide +kernel
theorem dX6_add_51 : decode cX6_add 51 = .ok (.invokevirtual 72, 3) := by decide +kernel
theorem dX6_add_54 : decode cX6_add 54 = .ok (.aload_n 0, 1) := by decide +kernel
theorem dX6_add_55 : decode cX6_add 55 = .ok (.getfield 12, 3) := by decide +kernel
theorem dX6_add_58 : decode cX6_add 58 = .ok (.getfield 86, 3) := by decide +kernel
theorem dX6_add_61 : decode cX6_add 61 = .ok (.aload_n 0, 1) := by decide +kernel
theorem dX6_add_62 : decode cX6_add 62 = .ok (.getfield 12, 3) := by decide +kernel
theorem dX6_add_65 : decode cX6_add 65 = .ok (.getfield 82, 3) := by decide +kernel
theorem dX6_add_68 : decode cX6_add 68 = .ok (.aload_n 0, 1) := by decide +kernel
theorem dX6_add_69 : decode cX6_add 69 = .ok (.getfield 12, 3) := by decide +kernel
theorem dX6_add_72 : decode cX6_add 72 = .ok (.getfield 82, 3) := by decide +kernel
theorem dX6_add_75 : decode cX6_add 75 = .ok (.iload_n 2, 1) := by decide +kernel
theorem dX6_add_76 : decode cX6_add 76 = .ok (.iadd, 1) := by decide +kernel
theorem dX6_add_77 : decode cX6_add 77 = .ok (.iload_n 1, 1) := by decide +kernel
theorem dX6_add_78 : decode cX6_add 78 = .ok (.invokestatic 89, 3) := by decide +kernel
theorem dX6_add_81 : decode cX6_add 81 = .ok (.aload_n 0, 1) := by decide +kernel
theorem dX6_add_82 : decode cX6_add 82 = .ok (.getfield 12, 3) := by decide +kernel
theorem dX6_add_85 : decode cX6_add 85 = .ok (.dup, 1) := by decide +kernel
theorem dX6_add_86 : decode cX6_add 86 = .ok (.getfield 82, 3) := by decide +kernel
theorem dX6_add_89 : decode cX6_add 89 = .ok (.iload_n 2, 1) := by decide +kernel
theorem dX6_add_90 : decode cX6_add 90 = .ok (.iadd, 1) := by decide +kernel
theorem dX6_add_91 : decode cX6_add 91 = .ok (.putfield 82, 3) := by decide +kernel
theorem dX6_add_94 : decode cX6_add 94 = .ok (.aload_n 0, 1) := by decide +kernel
theorem dX6_add_95 : decode cX6_add 95 = .ok (.getfield 12, 3) := by decide +kernel
theorem dX6_add_98 : decode cX6_add 98 = .ok (.invokevirtual 79, 3) := by decide +kernel
theorem dX6_add_101 : decode cX6_add 101 = .ok (.aload_n 0, 1) := by decide +kernel
theorem dX6_add_102 : decode cX6_add 102 = .ok (.invokevirtual 65, 3) := by decide +kernel
theorem dX6_add_105 : decode cX6_add 105 = .ok (.aload_n 0, 1) := by decide +kernel
theorem dX6_add_106 : decode cX6_add 106 = .ok (.getfield 12, 3) := by decide +kernel
theorem dX6_add_109 : decode cX6_add 109 = .ok (.getfield 82, 3) := by decide +kernel
theorem dX6_add_112 : decode cX6_add 112 = .ok (.ireturn, 1) := by decide +kernel
theorem dX6_cut_0 : decode cX6_cut 0 = .ok (.iload_n 1, 1) := by decide +kernel
theorem dX6_cut_1 : decode cX6_cut 1 = .ok (.iconst 1, 1) := by decide +kernel
theorem dX6_cut_2 : decode cX6_cut 2 = .ok (.if_icmp .lt 10, 3) := by decide +kernel
theorem dX6_cut_5 : decode cX6_cut 5 = .ok (.iload_n 1, 1) := by decide +kernel
theorem dX6_cut_6 : decode cX6_cut 6 = .ok (.sipush 240, 3) := by decide +kernel
theorem dX6_cut_9 : decode cX6_cut 9 = .ok (.if_icmp .le 6, 3) := by decide +kernel
theorem dX6_cut_12 : decode cX6_cut 12 = .ok (.bipush (-2), 2) := by decide +kernel
theorem dX6_cut_14 : decode cX6_cut 14 = .ok (.ireturn, 1) := by decide +kernel
theorem dX6_cut_15 : decode cX6_cut 15 = .ok (.iload_n 1, 1) := by decide +kernel
theorem dX6_cut_16 : decode cX6_cut 16 = .ok (.aload_n 0, 1) := by decide +kernel
theorem dX6_cut_17 : decode cX6_cut 17 = .ok (.getfield 12, 3) := by decide +kernel
theorem dX6_cut_20 : decode cX6_cut 20 = .ok (.getfield 82, 3) := by decide +kernel
theorem dX6_cut_23 : decode cX6_cut 23 = .ok (.if_icmp .le 6, 3) := by decide +kernel
theorem dX6_cut_26 : decode cX6_cut 26 = .ok (.bipush (-5), 2) := by decide +kernel
theorem dX6_cut_28 : decode cX6_cut 28 = .ok (.ireturn, 1) := by decide +kernel
theorem dX6_cut_29 : decode cX6_cut 29 = .ok (.aload_n 0, 1) := by decide +kernel
theorem dX6_cut_30 : decode cX6_cut 30 = .ok (.getfield 19, 3) := by decide +kernel
theorem dX6_cut_33 : decode cX6_cut 33 = .ok (.aload_n 0, 1) := by decide +kernel
theorem dX6_cut_34 : decode cX6_cut 34 = .ok (.getfield 12, 3) := by decide +kernel
theorem dX6_cut_37 : decode cX6_cut 37 = .ok (.invokevirtual 72, 3) := by decide +kernel
theorem dX6_cut_40 : decode cX6_cut 40 = .ok (.aload_n 0, 1) := by decide +kernel
theorem dX6_cut_41 : decode cX6_cut 41 = .ok (.getfield 12, 3) := by decide +kernel
theorem dX6_cut_44 : decode cX6_cut 44 = .ok (.dup, 1) := by decide +kernel
theorem dX6_cut_45 : decode cX6_cut 45 = .ok (.getfield 82, 3) := by decide +kernel
theorem dX6_cut_48 : decode cX6_cut 48 = .ok (.iload_n 1, 1) := by decide +kernel
theorem dX6_cut_49 : decode cX6_cut 49 = .ok (.isub, 1) := by decide +kernel
theorem dX6_cut_50 : decode cX6_cut 50 = .ok (.putfield 82, 3) := by decide +kernel
theorem dX6_cut_53 : decode cX6_cut 53 = .ok (.aload_n 0, 1) := by decide +kernel
theorem dX6_cut_54 : decode cX6_cut 54 = .ok (.getfield 12, 3) := by decide +kernel
theorem dX6_cut_57 : decode cX6_cut 57 = .ok (.invokevirtual 79, 3) := by decide +kernel
theorem dX6_cut_60 : decode cX6_cut 60 = .ok (.aload_n 0, 1) := by decide +kernel
theorem dX6_cut_61 : decode cX6_cut 61 = .ok (.invokevirtual 65, 3) := by decide +kernel
theorem dX6_cut_64 : decode cX6_cut 64 = .ok (.aload_n 0, 1) := by decide +kernel
theorem dX6_cut_65 : decode cX6_cut 65 = .ok (.getfield 12, 3) := by decide +kernel
theorem dX6_cut_68 : decode cX6_cut 68 = .ok (.getfield 82, 3) := by decide +kernel
theorem dX6_cut_71 : decode cX6_cut 71 = .ok (.ireturn, 1) := by decide +kernel
theorem dX6_spoil_0 : decode cX6_spoil 0 = .ok (.aload_n 0, 1) := by decide +kernel
theorem dX6_spoil_1 : decode cX6_spoil 1 = .ok (.iload_n 1, 1) := by decide +kernel
theorem dX6_spoil_2 : decode cX6_spoil 2 = .ok (.invokevirtual 95, 3) := by decide +kernel
theorem dX6_spoil_5 : decode cX6_spoil 5 = .ok (.ifCond .ne 5, 3) := by decide +kernel
theorem dX6_spoil_8 : decode cX6_spoil 8 = .ok (.iconst (-1), 1) := by decide +kernel
theorem dX6_spoil_9 : decode cX6_spoil 9 = .ok (.ireturn, 1) := by decide +kernel
theorem dX6_spoil_10 : decode cX6_spoil 10 = .ok (.iload_n 2, 1) := by decide +kernel
theorem dX6_spoil_11 : decode cX6_spoil 11 = .ok (.iconst 1, 1) := by decide +kernel
theorem dX6_spoil_12 : decode cX6_spoil 12 = .ok (.if_icmp .lt 10, 3) := by decide +kernel
theorem dX6_spoil_15 : decode cX6_spoil 15 = .ok (.iload_n 2, 1) := by decide +kernel
theorem dX6_spoil_16 : decode cX6_spoil 16 = .ok (.sipush 511, 3) := by decide +kernel
theorem dX6_spoil_19 : decode cX6_spoil 19 = .ok (.if_icmp .le 6, 3) := by decide +kernel
theorem dX6_spoil_22 : decode cX6_spoil 22 = .ok (.bipush (-2), 2) := by decide +kernel
theorem dX6_spoil_24 : decode cX6_spoil 24 = .ok (.ireturn, 1) := by decide +kernel
theorem dX6_spoil_25 : decode cX6_spoil 25 = .ok (.aload_n 0, 1) := by decide +kernel
theorem dX6_spoil_26 : decode cX6_spoil 26 = .ok (.getfield 19, 3) := by decide +kernel
theorem dX6_spoil_29 : decode cX6_spoil 29 = .ok (.aload_n 0, 1) := by decide +kernel
theorem dX6_spoil_30 : decode cX6_spoil 30 = .ok (.getfield 12, 3) := by decide +kernel
theorem dX6_spoil_33 : decode cX6_spoil 33 = .ok (.invokevirtual 72, 3) := by decide +kernel
theorem dX6_spoil_36 : decode cX6_spoil 36 = .ok (.aload_n 0, 1) := by decide +kernel
theorem dX6_spoil_37 : decode cX6_spoil 37 = .ok (.getfield 12, 3) := by decide +kernel
theorem dX6_spoil_40 : decode cX6_spoil 40 = .ok (.getfield 99, 3) := by decide +kernel
theorem dX6_spoil_43 : decode cX6_spoil 43 = .ok (.iload_n 1, 1) := by decide +kernel
theorem dX6_spoil_44 : decode cX6_spoil 44 = .ok (.dup2, 1) := by decide +kernel
theorem dX6_spoil_45 : decode cX6_spoil 45 = .ok (.iaload, 1) := by decide +kernel
theorem dX6_spoil_46 : decode cX6_spoil 46 = .ok (.iload_n 2, 1) := by decide +kernel
theorem dX6_spoil_47 : decode cX6_spoil 47 = .ok (.ixor, 1) := by decide +kernel
theorem dX6_spoil_48 : decode cX6_spoil 48 = .ok (.iastore, 1) := by decide +kernel
theorem dX6_spoil_49 : decode cX6_spoil 49 = .ok (.aload_n 0, 1) := by decide +kernel
theorem dX6_spoil_50 : decode cX6_spoil 50 = .ok (.invokevirtual 65, 3) := by decide +kernel
theorem dX6_spoil_53 : decode cX6_spoil 53 = .ok (.aload_n 0, 1) := by decide +kernel
theorem dX6_spoil_54 : decode cX6_spoil 54 = .ok (.getfield 52, 3) := by decide +kernel
theorem dX6_spoil_57 : decode cX6_spoil 57 = .ok (.iload_n 1, 1) := by decide +kernel
theorem dX6_spoil_58 : decode cX6_spoil 58 = .ok (.iaload, 1) := by decide +kernel
theorem dX6_spoil_59 : decode cX6_spoil 59 = .ok (.ireturn, 1) := by decide +kernel
theorem dX6_sign_0 : decode cX6_sign 0 = .ok (.iload_n 1, 1) := by decide +kernel
theorem dX6_sign_1 : decode cX6_sign 1 = .ok (.ifCond .lt 14, 3) := by decide +kernel
theorem dX6_sign_4 : decode cX6_sign 4 = .ok (.iload_n 1, 1) := by decide +kernel
theorem dX6_sign_5 : decode cX6_sign 5 = .ok (.aload_n 0, 1) := by decide +kernel
theorem dX6_sign_6 : decode cX6_sign 6 = .ok (.getfield 12, 3) := by decide +kernel
theorem dX6_sign_9 : decode cX6_sign 9 = .ok (.getfield 82, 3) := by decide +kernel
theorem dX6_sign_12 : decode cX6_sign 12 = .ok (.if_icmp .lt 7, 3) := by decide +kernel
theorem dX6_sign_15 : decode cX6_sign 15 = .ok (.iconst (-1), 1) := by decide +kernel
theorem dX6_sign_16 : decode cX6_sign 16 = .ok (.goto 12, 3) := by decide +kernel
theorem dX6_sign_19 : decode cX6_sign 19 = .ok (.aload_n 0, 1) := by decide +kernel
theorem dX6_sign_20 : decode cX6_sign 20 = .ok (.getfield 12, 3) := by decide +kernel
theorem dX6_sign_23 : decode cX6_sign 23 = .ok (.getfield 86, 3) := by decide +kernel
theorem dX6_sign_26 : decode cX6_sign 26 = .ok (.iload_n 1, 1) := by decide +kernel
theorem dX6_sign_27 : decode cX6_sign 27 = .ok (.iaload, 1) := by decide +kernel
theorem dX6_sign_28 : decode cX6_sign 28 = .ok (.ireturn, 1) := by decide +kernel
theorem dX6_ofCode_0 : decode cX6_ofCode 0 = .ok (.aload_n 0, 1) := by decide +kernel
theorem dX6_ofCode_1 : decode cX6_ofCode 1 = .ok (.iload_n 1, 1) := by decide +kernel
theorem dX6_ofCode_2 : decode cX6_ofCode 2 = .ok (.invokevirtual 95, 3) := by decide +kernel
theorem dX6_ofCode_5 : decode cX6_ofCode 5 = .ok (.ifCond .ne 5, 3) := by decide +kernel
theorem dX6_ofCode_8 : decode cX6_ofCode 8 = .ok (.iconst (-1), 1) := by decide +kernel
theorem dX6_ofCode_9 : decode cX6_ofCode 9 = .ok (.ireturn, 1) := by decide +kernel
theorem dX6_ofCode_10 : decode cX6_ofCode 10 = .ok (.iload_n 2, 1) := by decide +kernel
theorem dX6_ofCode_11 : decode cX6_ofCode 11 = .ok (.tableswitch 94 0 5 #[37, 47, 54, 64, 74, 84], 37) := by decide +kernel
theorem dX6_ofCode_48 : decode cX6_ofCode 48 = .ok (.aload_n 0, 1) := by decide +kernel
theorem dX6_ofCode_49 : decode cX6_ofCode 49 = .ok (.getfield 41, 3) := by decide +kernel
theorem dX6_ofCode_52 : decode cX6_ofCode 52 = .ok (.getfield 127, 3) := by decide +kernel
theorem dX6_ofCode_55 : decode cX6_ofCode 55 = .ok (.iload_n 1, 1) := by decide +kernel
theorem dX6_ofCode_56 : decode cX6_ofCode 56 = .ok (.iaload, 1) := by decide +kernel
theorem dX6_ofCode_57 : decode cX6_ofCode 57 = .ok (.ireturn, 1) := by decide +kernel
theorem dX6_ofCode_58 : decode cX6_ofCode 58 = .ok (.aload_n 0, 1) := by decide +kernel
theorem dX6_ofCode_59 : decode cX6_ofCode 59 = .ok (.getfield 52, 3) := by decide +kernel
theorem dX6_ofCode_62 : decode cX6_ofCode 62 = .ok (.iload_n 1, 1) := by decide +kernel
theorem dX6_ofCode_63 : decode cX6_ofCode 63 = .ok (.iaload, 1) := by decide +kernel
theorem dX6_ofCode_64 : decode cX6_ofCode 64 = .ok (.ireturn, 1) := by decide +kernel
theorem dX6_ofCode_65 : decode cX6_ofCode 65 = .ok (.aload_n 0, 1) := by decide +kernel
theorem dX6_ofCode_66 : decode cX6_ofCode 66 = .ok (.getfield 41, 3) := by decide +kernel
theorem dX6_ofCode_69 : decode cX6_ofCode 69 = .ok (.getfield 130, 3) := by decide +kernel
theorem dX6_ofCode_72 : decode cX6_ofCode 72 = .ok (.iload_n 1, 1) := by decide +kernel
theorem dX6_ofCode_73 : decode cX6_ofCode 73 = .ok (.iaload, 1) := by decide +kernel
theorem dX6_ofCode_74 : decode cX6_ofCode 74 = .ok (.ireturn, 1) := by decide +kernel
theorem dX6_ofCode_75 : decode cX6_ofCode 75 = .ok (.aload_n 0, 1) := by decide +kernel
theorem dX6_ofCode_76 : decode cX6_ofCode 76 = .ok (.getfield 41, 3) := by decide +kernel
theorem dX6_ofCode_79 : decode cX6_ofCode 79 = .ok (.getfield 133, 3) := by decide +kernel
theorem dX6_ofCode_82 : decode cX6_ofCode 82 = .ok (.iload_n 1, 1) := by decide +kernel
theorem dX6_ofCode_83 : decode cX6_ofCode 83 = .ok (.iaload, 1) := by decide +kernel
theorem dX6_ofCode_84 : decode cX6_ofCode 84 = .ok (.ireturn, 1) := by decide +kernel
theorem dX6_ofCode_85 : decode cX6_ofCode 85 = .ok (.aload_n 0, 1) := by decide +kernel
theorem dX6_ofCode_86 : decode cX6_ofCode 86 = .ok (.getfield 41, 3) := by decide +kernel
theorem dX6_ofCode_89 : decode cX6_ofCode 89 = .ok (.getfield 136, 3) := by decide +kernel
theorem dX6_ofCode_92 : decode cX6_ofCode 92 = .ok (.iload_n 1, 1) := by decide +kernel
theorem dX6_ofCode_93 : decode cX6_ofCode 93 = .ok (.iaload, 1) := by decide +kernel
theorem dX6_ofCode_94 : decode cX6_ofCode 94 = .ok (.ireturn, 1) := by decide +kernel
theorem dX6_ofCode_95 : decode cX6_ofCode 95 = .ok (.aload_n 0, 1) := by decide +kernel
theorem dX6_ofCode_96 : decode cX6_ofCode 96 = .ok (.getfield 41, 3) := by decide +kernel
theorem dX6_ofCode_99 : decode cX6_ofCode 99 = .ok (.getfield 139, 3) := by decide +kernel
theorem dX6_ofCode_102 : decode cX6_ofCode 102 = .ok (.iload_n 1, 1) := by decide +kernel
theorem dX6_ofCode_103 : decode cX6_ofCode 103 = .ok (.iaload, 1) := by decide +kernel
theorem dX6_ofCode_104 : decode cX6_ofCode 104 = .ok (.ireturn, 1) := by decide +kernel
theorem dX6_ofCode_105 : decode cX6_ofCode 105 = .ok (.bipush (-2), 2) := by decide +kernel
theorem dX6_ofCode_107 : decode cX6_ofCode 107 = .ok (.ireturn, 1) := by decide +kernel
theorem dX6_count_0 : decode cX6_count 0 = .ok (.iload_n 1, 1) := by decide +kernel
theorem dX6_count_1 : decode cX6_count 1 = .ok (.tableswitch 168 0 11 #[63, 71, 79, 87, 95, 106, 114, 122, 130, 138, 148, 158], 63) := by decide +kernel
theorem dX6_count_64 : decode cX6_count 64 = .ok (.aload_n 0, 1) := by decide +kernel
theorem dX6_count_65 : decode cX6_count 65 = .ok (.getfield 12, 3) := by decide +kernel
theorem dX6_count_68 : decode cX6_count 68 = .ok (.getfield 82, 3) := by decide +kernel
theorem dX6_count_71 : decode cX6_count 71 = .ok (.ireturn, 1) := by decide +kernel
theorem dX6_count_72 : decode cX6_count 72 = .ok (.aload_n 0, 1) := by decide +kernel
theorem dX6_count_73 : decode cX6_count 73 = .ok (.getfield 41, 3) := by decide +kernel
theorem dX6_count_76 : decode cX6_count 76 = .ok (.getfield 142, 3) := by decide +kernel
theorem dX6_count_79 : decode cX6_count 79 = .ok (.ireturn, 1) := by decide +kernel
theorem dX6_count_80 : decode cX6_count 80 = .ok (.aload_n 0, 1) := by decide +kernel
theorem dX6_count_81 : decode cX6_count 81 = .ok (.getfield 41, 3) := by decide +kernel
theorem dX6_count_84 : decode cX6_count 84 = .ok (.getfield 145, 3) := by decide +kernel
theorem dX6_count_87 : decode cX6_count 87 = .ok (.ireturn, 1) := by decide +kernel
theorem dX6_count_88 : decode cX6_count 88 = .ok (.aload_n 0, 1) := by decide +kernel
theorem dX6_count_89 : decode cX6_count 89 = .ok (.getfield 41, 3) := by decide +kernel
theorem dX6_count_92 : decode cX6_count 92 = .ok (.getfield 148, 3) := by decide +kernel
theorem dX6_count_95 : decode cX6_count 95 = .ok (.ireturn, 1) := by decide +kernel
theorem dX6_count_96 : decode cX6_count 96 = .ok (.aload_n 0, 1) := by decide +kernel
theorem dX6_count_97 : decode cX6_count 97 = .ok (.getfield 41, 3) := by decide +kernel
theorem dX6_count_100 : decode cX6_count 100 = .ok (.getfield 151, 3) := by decide +kernel
theorem dX6_count_103 : decode cX6_count 103 = .ok (.getfield 155, 3) := by decide +kernel
theorem dX6_count_106 : decode cX6_count 106 = .ok (.ireturn, 1) := by decide +kernel
theorem dX6_count_107 : decode cX6_count 107 = .ok (.aload_n 0, 1) := by decide +kernel
theorem dX6_count_108 : decode cX6_count 108 = .ok (.getfield 41, 3) := by decide +kernel
theorem dX6_count_111 : decode cX6_count 111 = .ok (.getfield 160, 3) := by decide +kernel
theorem dX6_count_114 : decode cX6_count 114 = .ok (.ireturn, 1) := by decide +kernel
theorem dX6_count_115 : decode cX6_count 115 = .ok (.aload_n 0, 1) := by decide +kernel
theorem dX6_count_116 : decode cX6_count 116 = .ok (.getfield 12, 3) := by decide +kernel
theorem dX6_count_119 : decode cX6_count 119 = .ok (.invokevirtual 163, 3) := by decide +kernel
theorem dX6_count_122 : decode cX6_count 122 = .ok (.ireturn, 1) := by decide +kernel
theorem dX6_count_123 : decode cX6_count 123 = .ok (.aload_n 0, 1) := by decide +kernel
theorem dX6_count_124 : decode cX6_count 124 = .ok (.getfield 34, 3) := by decide +kernel
theorem dX6_count_127 : decode cX6_count 127 = .ok (.getfield 106, 3) := by decide +kernel
theorem dX6_count_130 : decode cX6_count 130 = .ok (.ireturn, 1) := by decide +kernel
theorem dX6_count_131 : decode cX6_count 131 = .ok (.aload_n 0, 1) := by decide +kernel
theorem dX6_count_132 : decode cX6_count 132 = .ok (.getfield 19, 3) := by decide +kernel
theorem dX6_count_135 : decode cX6_count 135 = .ok (.getfield 166, 3) := by decide +kernel
theorem dX6_count_138 : decode cX6_count 138 = .ok (.ireturn, 1) := by decide +kernel
theorem dX6_count_139 : decode cX6_count 139 = .ok (.aload_n 0, 1) := by decide +kernel
theorem dX6_count_140 : decode cX6_count 140 = .ok (.getfield 12, 3) := by decide +kernel
theorem dX6_count_143 : decode cX6_count 143 = .ok (.getfield 76, 3) := by decide +kernel
theorem dX6_count_146 : decode cX6_count 146 = .ok (.iconst 0, 1) := by decide +kernel
theorem dX6_count_147 : decode cX6_count 147 = .ok (.iaload, 1) := by decide +kernel
theorem dX6_count_148 : decode cX6_count 148 = .ok (.ireturn, 1) := by decide +kernel
theorem dX6_count_149 : decode cX6_count 149 = .ok (.aload_n 0, 1) := by decide +kernel
theorem dX6_count_150 : decode cX6_count 150 = .ok (.getfield 12, 3) := by decide +kernel
theorem dX6_count_153 : decode cX6_count 153 = .ok (.getfield 76, 3) := by decide +kernel
theorem dX6_count_156 : decode cX6_count 156 = .ok (.iconst 1, 1) := by decide +kernel
theorem dX6_count_157 : decode cX6_count 157 = .ok (.iaload, 1) := by decide +kernel
theorem dX6_count_158 : decode cX6_count 158 = .ok (.ireturn, 1) := by decide +kernel
theorem dX6_count_159 : decode cX6_count 159 = .ok (.aload_n 0, 1) := by decide +kernel
theorem dX6_count_160 : decode cX6_count 160 = .ok (.getfield 12, 3) := by decide +kernel
theorem dX6_count_163 : decode cX6_count 163 = .ok (.getfield 76, 3) := by decide +kernel
theorem dX6_count_166 : decode cX6_count 166 = .ok (.iconst 2, 1) := by decide +kernel
theorem dX6_count_167 : decode cX6_count 167 = .ok (.iaload, 1) := by decide +kernel
theorem dX6_count_168 : decode cX6_count 168 = .ok (.ireturn, 1) := by decide +kernel
theorem dX6_count_169 : decode cX6_count 169 = .ok (.bipush (-2), 2) := by decide +kernel
theorem dX6_count_171 : decode cX6_count 171 = .ok (.ireturn, 1) := by decide +kernel
theorem dX6_entry_0 : decode cX6_entry 0 = .ok (.iload_n 1, 1) := by decide +kernel
theorem dX6_entry_1 : decode cX6_entry 1 = .ok (.ifCond .lt 24, 3) := by decide +kernel
theorem dX6_entry_4 : decode cX6_entry 4 = .ok (.iload_n 1, 1) := by decide +kernel
theorem dX6_entry_5 : decode cX6_entry 5 = .ok (.aload_n 0, 1) := by decide +kernel
theorem dX6_entry_6 : decode cX6_entry 6 = .ok (.getfield 41, 3) := by decide +kernel
theorem dX6_entry_9 : decode cX6_entry 9 = .ok (.getfield 151, 3) := by decide +kernel
theorem dX6_entry_12 : decode cX6_entry 12 = .ok (.getfield 155, 3) := by decide +kernel
theorem dX6_entry_15 : decode cX6_entry 15 = .ok (.if_icmp .ge 10, 3) := by decide +kernel
theorem dX6_entry_18 : decode cX6_entry 18 = .ok (.iload_n 1, 1) := by decide +kernel
theorem dX6_entry_19 : decode cX6_entry 19 = .ok (.sipush 512, 3) := by decide +kernel
theorem dX6_entry_22 : decode cX6_entry 22 = .ok (.if_icmp .lt 5, 3) := by decide +kernel
theorem dX6_entry_25 : decode cX6_entry 25 = .ok (.iconst (-1), 1) := by decide +kernel
theorem dX6_entry_26 : decode cX6_entry 26 = .ok (.ireturn, 1) := by decide +kernel
theorem dX6_entry_27 : decode cX6_entry 27 = .ok (.iload_n 2, 1) := by decide +kernel
theorem dX6_entry_28 : decode cX6_entry 28 = .ok (.tableswitch 67 0 2 #[28, 41, 54], 28) := by decide +kernel
theorem dX6_entry_56 : decode cX6_entry 56 = .ok (.aload_n 0, 1) := by decide +kernel
theorem dX6_entry_57 : decode cX6_entry 57 = .ok (.getfield 41, 3) := by decide +kernel
theorem dX6_entry_60 : decode cX6_entry 60 = .ok (.getfield 151, 3) := by decide +kernel
theorem dX6_entry_63 : decode cX6_entry 63 = .ok (.getfield 169, 3) := by decide +kernel
theorem dX6_entry_66 : decode cX6_entry 66 = .ok (.iload_n 1, 1) := by decide +kernel
theorem dX6_entry_67 : decode cX6_entry 67 = .ok (.iaload, 1) := by decide +kernel
theorem dX6_entry_68 : decode cX6_entry 68 = .ok (.ireturn, 1) := by decide +kernel
theorem dX6_entry_69 : decode cX6_entry 69 = .ok (.aload_n 0, 1) := by decide +kernel
theorem dX6_entry_70 : decode cX6_entry 70 = .ok (.getfield 41, 3) := by decide +kernel
theorem dX6_entry_73 : decode cX6_entry 73 = .ok (.getfield 151, 3) := by decide +kernel
theorem dX6_entry_76 : decode cX6_entry 76 = .ok (.getfield 170, 3) := by decide +kernel
theorem dX6_entry_79 : decode cX6_entry 79 = .ok (.iload_n 1, 1) := by decide +kernel
theorem dX6_entry_80 : decode cX6_entry 80 = .ok (.iaload, 1) := by decide +kernel
theorem dX6_entry_81 : decode cX6_entry 81 = .ok (.ireturn, 1) := by decide +kernel
theorem dX6_entry_82 : decode cX6_entry 82 = .ok (.aload_n 0, 1) := by decide +kernel
theorem dX6_entry_83 : decode cX6_entry 83 = .ok (.getfield 41, 3) := by decide +kernel
theorem dX6_entry_86 : decode cX6_entry 86 = .ok (.getfield 151, 3) := by decide +kernel
theorem dX6_entry_89 : decode cX6_entry 89 = .ok (.getfield 173, 3) := by decide +kernel
theorem dX6_entry_92 : decode cX6_entry 92 = .ok (.iload_n 1, 1) := by decide +kernel
theorem dX6_entry_93 : decode cX6_entry 93 = .ok (.iaload, 1) := by decide +kernel
theorem dX6_entry_94 : decode cX6_entry 94 = .ok (.ireturn, 1) := by decide +kernel
theorem dX6_entry_95 : decode cX6_entry 95 = .ok (.bipush (-2), 2) := by decide +kernel
theorem dX6_entry_97 : decode cX6_entry 97 = .ok (.ireturn, 1) := by decide +kernel
theorem dX6_reading_0 : decode cX6_reading 0 = .ok (.iload_n 1, 1) := by decide +kernel
theorem dX6_reading_1 : decode cX6_reading 1 = .ok (.tableswitch 101 0 5 #[39, 47, 55, 63, 71, 79], 39) := by decide +kernel
theorem dX6_reading_40 : decode cX6_reading 40 = .ok (.aload_n 0, 1) := by decide +kernel
theorem dX6_reading_41 : decode cX6_reading 41 = .ok (.getfield 48, 3) := by decide +kernel
theorem dX6_reading_44 : decode cX6_reading 44 = .ok (.getfield 176, 3) := by decide +kernel
theorem dX6_reading_47 : decode cX6_reading 47 = .ok (.ireturn, 1) := by decide +kernel
theorem dX6_reading_48 : decode cX6_reading 48 = .ok (.aload_n 0, 1) := by decide +kernel
theorem dX6_reading_49 : decode cX6_reading 49 = .ok (.getfield 48, 3) := by decide +kernel
theorem dX6_reading_52 : decode cX6_reading 52 = .ok (.getfield 179, 3) := by decide +kernel
theorem dX6_reading_55 : decode cX6_reading 55 = .ok (.ireturn, 1) := by decide +kernel
theorem dX6_reading_56 : decode cX6_reading 56 = .ok (.aload_n 0, 1) := by decide +kernel
theorem dX6_reading_57 : decode cX6_reading 57 = .ok (.getfield 48, 3) := by decide +kernel
theorem dX6_reading_60 : decode cX6_reading 60 = .ok (.getfield 182, 3) := by decide +kernel
theorem dX6_reading_63 : decode cX6_reading 63 = .ok (.ireturn, 1) := by decide +kernel
theorem dX6_reading_64 : decode cX6_reading 64 = .ok (.aload_n 0, 1) := by decide +kernel
theorem dX6_reading_65 : decode cX6_reading 65 = .ok (.getfield 48, 3) := by decide +kernel
theorem dX6_reading_68 : decode cX6_reading 68 = .ok (.getfield 185, 3) := by decide +kernel
theorem dX6_reading_71 : decode cX6_reading 71 = .ok (.ireturn, 1) := by decide +kernel
theorem dX6_reading_72 : decode cX6_reading 72 = .ok (.aload_n 0, 1) := by decide +kernel
theorem dX6_reading_73 : decode cX6_reading 73 = .ok (.getfield 48, 3) := by decide +kernel
theorem dX6_reading_76 : decode cX6_reading 76 = .ok (.getfield 186, 3) := by decide +kernel
theorem dX6_reading_79 : decode cX6_reading 79 = .ok (.ireturn, 1) := by decide +kernel
theorem dX6_reading_80 : decode cX6_reading 80 = .ok (.aload_n 0, 1) := by decide +kernel
theorem dX6_reading_81 : decode cX6_reading 81 = .ok (.getfield 48, 3) := by decide +kernel
theorem dX6_reading_84 : decode cX6_reading 84 = .ok (.aload_n 0, 1) := by decide +kernel
theorem dX6_reading_85 : decode cX6_reading 85 = .ok (.getfield 12, 3) := by decide +kernel
theorem dX6_reading_88 : decode cX6_reading 88 = .ok (.getfield 86, 3) := by decide +kernel
theorem dX6_reading_91 : decode cX6_reading 91 = .ok (.aload_n 0, 1) := by decide +kernel
theorem dX6_reading_92 : decode cX6_reading 92 = .ok (.getfield 12, 3) := by decide +kernel
theorem dX6_reading_95 : decode cX6_reading 95 = .ok (.getfield 82, 3) := by decide +kernel
theorem dX6_reading_98 : decode cX6_reading 98 = .ok (.invokevirtual 189, 3) := by decide +kernel
theorem dX6_reading_101 : decode cX6_reading 101 = .ok (.ireturn, 1) := by decide +kernel
theorem dX6_reading_102 : decode cX6_reading 102 = .ok (.bipush (-2), 2) := by decide +kernel
theorem dX6_reading_104 : decode cX6_reading 104 = .ok (.ireturn, 1) := by decide +kernel
theorem dX6_read_0 : decode cX6_read 0 = .ok (.iload_n 1, 1) := by decide +kernel
theorem dX6_read_1 : decode cX6_read 1 = .ok (.ifCond .lt 20, 3) := by decide +kernel
theorem dX6_read_4 : decode cX6_read 4 = .ok (.iload_n 1, 1) := by decide +kernel
theorem dX6_read_5 : decode cX6_read 5 = .ok (.aload_n 0, 1) := by decide +kernel
theorem dX6_read_6 : decode cX6_read 6 = .ok (.getfield 48, 3) := by decide +kernel
theorem dX6_read_9 : decode cX6_read 9 = .ok (.getfield 176, 3) := by decide +kernel
theorem dX6_read_12 : decode cX6_read 12 = .ok (.if_icmp .ge 9, 3) := by decide +kernel
theorem dX6_read_15 : decode cX6_read 15 = .ok (.iload_n 1, 1) := by decide +kernel
theorem dX6_read_16 : decode cX6_read 16 = .ok (.ldc 193, 2) := by decide +kernel
theorem dX6_read_18 : decode cX6_read 18 = .ok (.if_icmp .lt 7, 3) := by decide +kernel
theorem dX6_read_21 : decode cX6_read 21 = .ok (.iconst (-1), 1) := by decide +kernel
theorem dX6_read_22 : decode cX6_read 22 = .ok (.goto 12, 3) := by decide +kernel
theorem dX6_read_25 : decode cX6_read 25 = .ok (.aload_n 0, 1) := by decide +kernel
theorem dX6_read_26 : decode cX6_read 26 = .ok (.getfield 48, 3) := by decide +kernel
theorem dX6_read_29 : decode cX6_read 29 = .ok (.getfield 194, 3) := by decide +kernel
theorem dX6_read_32 : decode cX6_read 32 = .ok (.iload_n 1, 1) := by decide +kernel
theorem dX6_read_33 : decode cX6_read 33 = .ok (.iaload, 1) := by decide +kernel
theorem dX6_read_34 : decode cX6_read 34 = .ok (.ireturn, 1) := by decide +kernel
theorem dX6_isSetting_0 : decode cX6_isSetting 0 = .ok (.iload_n 0, 1) := by decide +kernel
theorem dX6_isSetting_1 : decode cX6_isSetting 1 = .ok (.ifCond .lt 30, 3) := by decide +kernel
theorem dX6_isSetting_4 : decode cX6_isSetting 4 = .ok (.iload_n 0, 1) := by decide +kernel
theorem dX6_isSetting_5 : decode cX6_isSetting 5 = .ok (.iconst 2, 1) := by decide +kernel
theorem dX6_isSetting_6 : decode cX6_isSetting 6 = .ok (.if_icmp .gt 25, 3) := by decide +kernel
theorem dX6_isSetting_9 : decode cX6_isSetting 9 = .ok (.iload_n 1, 1) := by decide +kernel
theorem dX6_isSetting_10 : decode cX6_isSetting 10 = .ok (.getstatic 200, 3) := by decide +kernel
theorem dX6_isSetting_13 : decode cX6_isSetting 13 = .ok (.iload_n 0, 1) := by decide +kernel
theorem dX6_isSetting_14 : decode cX6_isSetting 14 = .ok (.iaload, 1) := by decide +kernel
theorem dX6_isSetting_15 : decode cX6_isSetting 15 = .ok (.if_icmp .lt 16, 3) := by decide +kernel
theorem dX6_isSetting_18 : decode cX6_isSetting 18 = .ok (.iload_n 1, 1) := by decide +kernel
theorem dX6_isSetting_19 : decode cX6_isSetting 19 = .ok (.getstatic 203, 3) := by decide +kernel
theorem dX6_isSetting_22 : decode cX6_isSetting 22 = .ok (.iload_n 0, 1) := by decide +kernel
theorem dX6_isSetting_23 : decode cX6_isSetting 23 = .ok (.iaload, 1) := by decide +kernel
theorem dX6_isSetting_24 : decode cX6_isSetting 24 = .ok (.if_icmp .gt 7, 3) := by decide +kernel
theorem dX6_isSetting_27 : decode cX6_isSetting 27 = .ok (.iconst 1, 1) := by decide +kernel
theorem dX6_isSetting_28 : decode cX6_isSetting 28 = .ok (.goto 4, 3) := by decide +kernel
theorem dX6_isSetting_31 : decode cX6_isSetting 31 = .ok (.iconst 0, 1) := by decide +kernel
theorem dX6_isSetting_32 : decode cX6_isSetting 32 = .ok (.ireturn, 1) := by decide +kernel
theorem dX6_isCode_0 : decode cX6_isCode 0 = .ok (.iload_n 1, 1) := by decide +kernel
theorem dX6_isCode_1 : decode cX6_isCode 1 = .ok (.ifCond .lt 25, 3) := by decide +kernel
theorem dX6_isCode_4 : decode cX6_isCode 4 = .ok (.iload_n 1, 1) := by decide +kernel
theorem dX6_isCode_5 : decode cX6_isCode 5 = .ok (.aload_n 0, 1) := by decide +kernel
theorem dX6_isCode_6 : decode cX6_isCode 6 = .ok (.getfield 41, 3) := by decide +kernel
theorem dX6_isCode_9 : decode cX6_isCode 9 = .ok (.getfield 142, 3) := by decide +kernel
theorem dX6_isCode_12 : decode cX6_isCode 12 = .ok (.if_icmp .ge 14, 3) := by decide +kernel
theorem dX6_isCode_15 : decode cX6_isCode 15 = .ok (.iload_n 1, 1) := by decide +kernel
theorem dX6_isCode_16 : decode cX6_isCode 16 = .ok (.sipush 281, 3) := by decide +kernel
theorem dX6_isCode_19 : decode cX6_isCode 19 = .ok (.if_icmp .ge 7, 3) := by decide +kernel
theorem dX6_isCode_22 : decode cX6_isCode 22 = .ok (.iconst 1, 1) := by decide +kernel
theorem dX6_isCode_23 : decode cX6_isCode 23 = .ok (.goto 4, 3) := by decide +kernel
theorem dX6_isCode_26 : decode cX6_isCode 26 = .ok (.iconst 0, 1) := by decide +kernel
theorem dX6_isCode_27 : decode cX6_isCode 27 = .ok (.ireturn, 1) := by decide +kernel
theorem dX6_refresh_0 : decode cX6_refresh 0 = .ok (.aload_n 0, 1) := by decide +kernel
theorem dX6_refresh_1 : decode cX6_refresh 1 = .ok (.getfield 41, 3) := by decide +kernel
theorem dX6_refresh_4 : decode cX6_refresh 4 = .ok (.aload_n 0, 1) := by decide +kernel
theorem dX6_refresh_5 : decode cX6_refresh 5 = .ok (.getfield 12, 3) := by decide +kernel
theorem dX6_refresh_8 : decode cX6_refresh 8 = .ok (.getfield 86, 3) := by decide +kernel
theorem dX6_refresh_11 : decode cX6_refresh 11 = .ok (.aload_n 0, 1) := by decide +kernel
theorem dX6_refresh_12 : decode cX6_refresh 12 = .ok (.getfield 12, 3) := by decide +kernel
theorem dX6_refresh_15 : decode cX6_refresh 15 = .ok (.getfield 82, 3) := by decide +kernel
theorem dX6_refresh_18 : decode cX6_refresh 18 = .ok (.aload_n 0, 1) := by decide +kernel
theorem dX6_refresh_19 : decode cX6_refresh 19 = .ok (.getfield 12, 3) := by decide +kernel
theorem dX6_refresh_22 : decode cX6_refresh 22 = .ok (.getfield 76, 3) := by decide +kernel
theorem dX6_refresh_25 : decode cX6_refresh 25 = .ok (.iconst 0, 1) := by decide +kernel
theorem dX6_refresh_26 : decode cX6_refresh 26 = .ok (.iaload, 1) := by decide +kernel
theorem dX6_refresh_27 : decode cX6_refresh 27 = .ok (.aload_n 0, 1) := by decide +kernel
theorem dX6_refresh_28 : decode cX6_refresh 28 = .ok (.getfield 12, 3) := by decide +kernel
theorem dX6_refresh_31 : decode cX6_refresh 31 = .ok (.getfield 76, 3) := by decide +kernel
theorem dX6_refresh_34 : decode cX6_refresh 34 = .ok (.iconst 1, 1) := by decide +kernel
theorem dX6_refresh_35 : decode cX6_refresh 35 = .ok (.iaload, 1) := by decide +kernel
theorem dX6_refresh_36 : decode cX6_refresh 36 = .ok (.aload_n 0, 1) := by decide +kernel
theorem dX6_refresh_37 : decode cX6_refresh 37 = .ok (.getfield 12, 3) := by decide +kernel
theorem dX6_refresh_40 : decode cX6_refresh 40 = .ok (.getfield 76, 3) := by decide +kernel
theorem dX6_refresh_43 : decode cX6_refresh 43 = .ok (.iconst 2, 1) := by decide +kernel
theorem dX6_refresh_44 : decode cX6_refresh 44 = .ok (.iaload, 1) := by decide +kernel
theorem dX6_refresh_45 : decode cX6_refresh 45 = .ok (.invokevirtual 217, 3) := by decide +kernel
theorem dX6_refresh_48 : decode cX6_refresh 48 = .ok (.iconst 0, 1) := by decide +kernel
theorem dX6_refresh_49 : decode cX6_refresh 49 = .ok (.istore_n 1, 1) := by decide +kernel
theorem dX6_refresh_50 : decode cX6_refresh 50 = .ok (.iload_n 1, 1) := by decide +kernel
theorem dX6_refresh_51 : decode cX6_refresh 51 = .ok (.aload_n 0, 1) := by decide +kernel
theorem dX6_refresh_52 : decode cX6_refresh 52 = .ok (.getfield 41, 3) := by decide +kernel
theorem dX6_refresh_55 : decode cX6_refresh 55 = .ok (.getfield 142, 3) := by decide +kernel
theorem dX6_refresh_58 : decode cX6_refresh 58 = .ok (.if_icmp .ge 34, 3) := by decide +kernel
theorem dX6_refresh_61 : decode cX6_refresh 61 = .ok (.aload_n 0, 1) := by decide +kernel
theorem dX6_refresh_62 : decode cX6_refresh 62 = .ok (.getfield 52, 3) := by decide +kernel
theorem dX6_refresh_65 : decode cX6_refresh 65 = .ok (.iload_n 1, 1) := by decide +kernel
theorem dX6_refresh_66 : decode cX6_refresh 66 = .ok (.aload_n 0, 1) := by decide +kernel
theorem dX6_refresh_67 : decode cX6_refresh 67 = .ok (.getfield 41, 3) := by decide +kernel
theorem dX6_refresh_70 : decode cX6_refresh 70 = .ok (.getfield 127, 3) := by decide +kernel
theorem dX6_refresh_73 : decode cX6_refresh 73 = .ok (.iload_n 1, 1) := by decide +kernel
theorem dX6_refresh_74 : decode cX6_refresh 74 = .ok (.iaload, 1) := by decide +kernel
theorem dX6_refresh_75 : decode cX6_refresh 75 = .ok (.aload_n 0, 1) := by decide +kernel
theorem dX6_refresh_76 : decode cX6_refresh 76 = .ok (.getfield 12, 3) := by decide +kernel
theorem dX6_refresh_79 : decode cX6_refresh 79 = .ok (.getfield 99, 3) := by decide +kernel
theorem dX6_refresh_82 : decode cX6_refresh 82 = .ok (.iload_n 1, 1) := by decide +kernel
theorem dX6_refresh_83 : decode cX6_refresh 83 = .ok (.iaload, 1) := by decide +kernel
theorem dX6_refresh_84 : decode cX6_refresh 84 = .ok (.ixor, 1) := by decide +kernel
theorem dX6_refresh_85 : decode cX6_refresh 85 = .ok (.iastore, 1) := by decide +kernel
theorem dX6_refresh_86 : decode cX6_refresh 86 = .ok (.iinc 1 1, 3) := by decide +kernel
theorem dX6_refresh_89 : decode cX6_refresh 89 = .ok (.goto (-39), 3) := by decide +kernel
theorem dX6_refresh_92 : decode cX6_refresh 92 = .ok (.aload_n 0, 1) := by decide +kernel
theorem dX6_refresh_93 : decode cX6_refresh 93 = .ok (.getfield 48, 3) := by decide +kernel
theorem dX6_refresh_96 : decode cX6_refresh 96 = .ok (.aload_n 0, 1) := by decide +kernel
theorem dX6_refresh_97 : decode cX6_refresh 97 = .ok (.getfield 52, 3) := by decide +kernel
theorem dX6_refresh_100 : decode cX6_refresh 100 = .ok (.aload_n 0, 1) := by decide +kernel
theorem dX6_refresh_101 : decode cX6_refresh 101 = .ok (.getfield 41, 3) := by decide +kernel
theorem dX6_refresh_104 : decode cX6_refresh 104 = .ok (.getfield 142, 3) := by decide +kernel
theorem dX6_refresh_107 : decode cX6_refresh 107 = .ok (.aload_n 0, 1) := by decide +kernel
theorem dX6_refresh_108 : decode cX6_refresh 108 = .ok (.getfield 12, 3) := by decide +kernel
theorem dX6_refresh_111 : decode cX6_refresh 111 = .ok (.getfield 76, 3) := by decide +kernel
theorem dX6_refresh_114 : decode cX6_refresh 114 = .ok (.iconst 0, 1) := by decide +kernel
theorem dX6_refresh_115 : decode cX6_refresh 115 = .ok (.iaload, 1) := by decide +kernel
theorem dX6_refresh_116 : decode cX6_refresh 116 = .ok (.invokevirtual 221, 3) := by decide +kernel
theorem dX6_refresh_119 : decode cX6_refresh 119 = .ok (.return_, 1) := by decide +kernel
theorem dX6_copyState_0 : decode cX6_copyState 0 = .ok (.aload_n 0, 1) := by decide +kernel
theorem dX6_copyState_1 : decode cX6_copyState 1 = .ok (.ifnull 7, 3) := by decide +kernel
theorem dX6_copyState_4 : decode cX6_copyState 4 = .ok (.aload_n 1, 1) := by decide +kernel
theorem dX6_copyState_5 : decode cX6_copyState 5 = .ok (.ifnonnull 4, 3) := by decide +kernel
theorem dX6_copyState_8 : decode cX6_copyState 8 = .ok (.return_, 1) := by decide +kernel
theorem dX6_copyState_9 : decode cX6_copyState 9 = .ok (.aload_n 0, 1) := by decide +kernel
theorem dX6_copyState_10 : decode cX6_copyState 10 = .ok (.getfield 76, 3) := by decide +kernel
theorem dX6_copyState_13 : decode cX6_copyState 13 = .ok (.iconst 0, 1) := by decide +kernel
theorem dX6_copyState_14 : decode cX6_copyState 14 = .ok (.aload_n 1, 1) := by decide +kernel
theorem dX6_copyState_15 : decode cX6_copyState 15 = .ok (.getfield 76, 3) := by decide +kernel
theorem dX6_copyState_18 : decode cX6_copyState 18 = .ok (.iconst 0, 1) := by decide +kernel
theorem dX6_copyState_19 : decode cX6_copyState 19 = .ok (.aload_n 0, 1) := by decide +kernel
theorem dX6_copyState_20 : decode cX6_copyState 20 = .ok (.getfield 76, 3) := by decide +kernel
theorem dX6_copyState_23 : decode cX6_copyState 23 = .ok (.arraylength, 1) := by decide +kernel
theorem dX6_copyState_24 : decode cX6_copyState 24 = .ok (.invokestatic 121, 3) := by decide +kernel
theorem dX6_copyState_27 : decode cX6_copyState 27 = .ok (.aload_n 0, 1) := by decide +kernel
theorem dX6_copyState_28 : decode cX6_copyState 28 = .ok (.getfield 86, 3) := by decide +kernel
theorem dX6_copyState_31 : decode cX6_copyState 31 = .ok (.iconst 0, 1) := by decide +kernel
theorem dX6_copyState_32 : decode cX6_copyState 32 = .ok (.aload_n 1, 1) := by decide +kernel
theorem dX6_copyState_33 : decode cX6_copyState 33 = .ok (.getfield 86, 3) := by decide +kernel
theorem dX6_copyState_36 : decode cX6_copyState 36 = .ok (.iconst 0, 1) := by decide +kernel
theorem dX6_copyState_37 : decode cX6_copyState 37 = .ok (.sipush 240, 3) := by decide +kernel
theorem dX6_copyState_40 : decode cX6_copyState 40 = .ok (.invokestatic 121, 3) := by decide +kernel
theorem dX6_copyState_43 : decode cX6_copyState 43 = .ok (.aload_n 0, 1) := by decide +kernel
theorem dX6_copyState_44 : decode cX6_copyState 44 = .ok (.getfield 99, 3) := by decide +kernel
theorem dX6_copyState_47 : decode cX6_copyState 47 = .ok (.iconst 0, 1) := by decide +kernel
theorem dX6_copyState_48 : decode cX6_copyState 48 = .ok (.aload_n 1, 1) := by decide +kernel
theorem dX6_copyState_49 : decode cX6_copyState 49 = .ok (.getfield 99, 3) := by decide +kernel
theorem dX6_copyState_52 : decode cX6_copyState 52 = .ok (.iconst 0, 1) := by decide +kernel
theorem dX6_copyState_53 : decode cX6_copyState 53 = .ok (.sipush 281, 3) := by decide +kernel
theorem dX6_copyState_56 : decode cX6_copyState 56 = .ok (.invokestatic 121, 3) := by decide +kernel
theorem dX6_copyState_59 : decode cX6_copyState 59 = .ok (.aload_n 1, 1) := by decide +kernel
theorem dX6_copyState_60 : decode cX6_copyState 60 = .ok (.aload_n 0, 1) := by decide +kernel
theorem dX6_copyState_61 : decode cX6_copyState 61 = .ok (.getfield 82, 3) := by decide +kernel
theorem dX6_copyState_64 : decode cX6_copyState 64 = .ok (.putfield 82, 3) := by decide +kernel
theorem dX6_copyState_67 : decode cX6_copyState 67 = .ok (.return_, 1) := by decide +kernel
theorem dJ9_max_7cf53_0 : decode cJ9_max_7cf53 0 = .ok (.iload_n 0, 1) := by decide +kernel
theorem dJ9_max_7cf53_1 : decode cJ9_max_7cf53 1 = .ok (.iload_n 1, 1) := by decide +kernel
theorem dJ9_max_7cf53_2 : decode cJ9_max_7cf53 2 = .ok (.if_icmp .lt 7, 3) := by decide +kernel
theorem dJ9_max_7cf53_5 : decode cJ9_max_7cf53 5 = .ok (.iload_n 0, 1) := by decide +kernel
theorem dJ9_max_7cf53_6 : decode cJ9_max_7cf53 6 = .ok (.goto 4, 3) := by decide +kernel
theorem dJ9_max_7cf53_9 : decode cJ9_max_7cf53 9 = .ok (.iload_n 1, 1) := by decide +kernel
theorem dJ9_max_7cf53_10 : decode cJ9_max_7cf53 10 = .ok (.ireturn, 1) := by decide +kernel
theorem dJ9_min_7cf53_0 : decode cJ9_min_7cf53 0 = .ok (.iload_n 0, 1) := by decide +kernel
theorem dJ9_min_7cf53_1 : decode cJ9_min_7cf53 1 = .ok (.iload_n 1, 1) := by decide +kernel
theorem dJ9_min_7cf53_2 : decode cJ9_min_7cf53 2 = .ok (.if_icmp .gt 7, 3) := by decide +kernel
theorem dJ9_min_7cf53_5 : decode cJ9_min_7cf53 5 = .ok (.iload_n 0, 1) := by decide +kernel
theorem dJ9_min_7cf53_6 : decode cJ9_min_7cf53 6 = .ok (.goto 4, 3) := by decide +kernel
theorem dJ9_min_7cf53_9 : decode cJ9_min_7cf53 9 = .ok (.iload_n 1, 1) := by decide +kernel
theorem dJ9_min_7cf53_10 : decode cJ9_min_7cf53 10 = .ok (.ireturn, 1) := by decide +kernel
theorem dJ7_rangeCheck_23922_0 : decode cJ7_rangeCheck_23922 0 = .ok (.iload_n 1, 1) := by decide +kernel
theorem dJ7_rangeCheck_23922_1 : decode cJ7_rangeCheck_23922 1 = .ok (.iload_n 2, 1) := by decide +kernel
theorem dJ7_rangeCheck_23922_2 : decode cJ7_rangeCheck_23922 2 = .ok (.if_icmp .le 44, 3) := by decide +kernel
theorem dJ7_rangeCheck_23922_5 : decode cJ7_rangeCheck_23922 5 = .ok (.new 43, 3) := by decide +kernel
theorem dJ7_rangeCheck_23922_8 : decode cJ7_rangeCheck_23922 8 = .ok (.dup, 1) := by decide +kernel
theorem dJ7_rangeCheck_23922_9 : decode cJ7_rangeCheck_23922 9 = .ok (.new 45, 3) := by decide +kernel
theorem dJ7_rangeCheck_23922_12 : decode cJ7_rangeCheck_23922 12 = .ok (.dup, 1) := by decide +kernel
theorem dJ7_rangeCheck_23922_13 : decode cJ7_rangeCheck_23922 13 = .ok (.invokespecial 47, 3) := by decide +kernel
theorem dJ7_rangeCheck_23922_16 : decode cJ7_rangeCheck_23922 16 = .ok (.ldc 48, 2) := by decide +kernel
theorem dJ7_rangeCheck_23922_18 : decode cJ7_rangeCheck_23922 18 = .ok (.invokevirtual 50, 3) := by decide +kernel
theorem dJ7_rangeCheck_23922_21 : decode cJ7_rangeCheck_23922 21 = .ok (.iload_n 1, 1) := by decide +kernel
theorem dJ7_rangeCheck_23922_22 : decode cJ7_rangeCheck_23922 22 = .ok (.invokevirtual 54, 3) := by decide +kernel
theorem dJ7_rangeCheck_23922_25 : decode cJ7_rangeCheck_23922 25 = .ok (.ldc 57, 2) := by decide +kernel
theorem dJ7_rangeCheck_23922_27 : decode cJ7_rangeCheck_23922 27 = .ok (.invokevirtual 50, 3) := by decide +kernel
theorem dJ7_rangeCheck_23922_30 : decode cJ7_rangeCheck_23922 30 = .ok (.iload_n 2, 1) := by decide +kernel
theorem dJ7_rangeCheck_23922_31 : decode cJ7_rangeCheck_23922 31 = .ok (.invokevirtual 54, 3) := by decide +kernel
theorem dJ7_rangeCheck_23922_34 : decode cJ7_rangeCheck_23922 34 = .ok (.ldc 59, 2) := by decide +kernel
theorem dJ7_rangeCheck_23922_36 : decode cJ7_rangeCheck_23922 36 = .ok (.invokevirtual 50, 3) := by decide +kernel
theorem dJ7_rangeCheck_23922_39 : decode cJ7_rangeCheck_23922 39 = .ok (.invokevirtual 61, 3) := by decide +kernel
theorem dJ7_rangeCheck_23922_42 : decode cJ7_rangeCheck_23922 42 = .ok (.invokespecial 65, 3) := by decide +kernel
theorem dJ7_rangeCheck_23922_45 : decode cJ7_rangeCheck_23922 45 = .ok (.athrow, 1) := by decide +kernel
theorem dJ7_rangeCheck_23922_46 : decode cJ7_rangeCheck_23922 46 = .ok (.iload_n 1, 1) := by decide +kernel
theorem dJ7_rangeCheck_23922_47 : decode cJ7_rangeCheck_23922 47 = .ok (.ifCond .ge 12, 3) := by decide +kernel
theorem dJ7_rangeCheck_23922_50 : decode cJ7_rangeCheck_23922 50 = .ok (.new 68, 3) := by decide +kernel
theorem dJ7_rangeCheck_23922_53 : decode cJ7_rangeCheck_23922 53 = .ok (.dup, 1) := by decide +kernel
theorem dJ7_rangeCheck_23922_54 : decode cJ7_rangeCheck_23922 54 = .ok (.iload_n 1, 1) := by decide +kernel
theorem dJ7_rangeCheck_23922_55 : decode cJ7_rangeCheck_23922 55 = .ok (.invokespecial 70, 3) := by decide +kernel
theorem dJ7_rangeCheck_23922_58 : decode cJ7_rangeCheck_23922 58 = .ok (.athrow, 1) := by decide +kernel
theorem dJ7_rangeCheck_23922_59 : decode cJ7_rangeCheck_23922 59 = .ok (.iload_n 2, 1) := by decide +kernel
theorem dJ7_rangeCheck_23922_60 : decode cJ7_rangeCheck_23922 60 = .ok (.iload_n 0, 1) := by decide +kernel
theorem dJ7_rangeCheck_23922_61 : decode cJ7_rangeCheck_23922 61 = .ok (.if_icmp .le 12, 3) := by decide +kernel
theorem dJ7_rangeCheck_23922_64 : decode cJ7_rangeCheck_23922 64 = .ok (.new 68, 3) := by decide +kernel
theorem dJ7_rangeCheck_23922_67 : decode cJ7_rangeCheck_23922 67 = .ok (.dup, 1) := by decide +kernel
theorem dJ7_rangeCheck_23922_68 : decode cJ7_rangeCheck_23922 68 = .ok (.iload_n 2, 1) := by decide +kernel
theorem dJ7_rangeCheck_23922_69 : decode cJ7_rangeCheck_23922 69 = .ok (.invokespecial 70, 3) := by decide +kernel
theorem dJ7_rangeCheck_23922_72 : decode cJ7_rangeCheck_23922 72 = .ok (.athrow, 1) := by decide +kernel
theorem dJ7_rangeCheck_23922_73 : decode cJ7_rangeCheck_23922 73 = .ok (.return_, 1) := by decide +kernel
theorem dJ7_fill_53178_0 : decode cJ7_fill_53178 0 = .ok (.iconst 0, 1) := by decide +kernel
theorem dJ7_fill_53178_1 : decode cJ7_fill_53178 1 = .ok (.istore_n 2, 1) := by decide +kernel
theorem dJ7_fill_53178_2 : decode cJ7_fill_53178 2 = .ok (.aload_n 0, 1) := by decide +kernel
theorem dJ7_fill_53178_3 : decode cJ7_fill_53178 3 = .ok (.arraylength, 1) := by decide +kernel
theorem dJ7_fill_53178_4 : decode cJ7_fill_53178 4 = .ok (.istore_n 3, 1) := by decide +kernel
theorem dJ7_fill_53178_5 : decode cJ7_fill_53178 5 = .ok (.iload_n 2, 1) := by decide +kernel
theorem dJ7_fill_53178_6 : decode cJ7_fill_53178 6 = .ok (.iload_n 3, 1) := by decide +kernel
theorem dJ7_fill_53178_7 : decode cJ7_fill_53178 7 = .ok (.if_icmp .ge 13, 3) := by decide +kernel
theorem dJ7_fill_53178_10 : decode cJ7_fill_53178 10 = .ok (.aload_n 0, 1) := by decide +kernel
theorem dJ7_fill_53178_11 : decode cJ7_fill_53178 11 = .ok (.iload_n 2, 1) := by decide +kernel
theorem dJ7_fill_53178_12 : decode cJ7_fill_53178 12 = .ok (.iload_n 1, 1) := by decide +kernel
theorem dJ7_fill_53178_13 : decode cJ7_fill_53178 13 = .ok (.iastore, 1) := by decide +kernel
theorem dJ7_fill_53178_14 : decode cJ7_fill_53178 14 = .ok (.iinc 2 1, 3) := by decide +kernel
theorem dJ7_fill_53178_17 : decode cJ7_fill_53178 17 = .ok (.goto (-12), 3) := by decide +kernel
theorem dJ7_fill_53178_20 : decode cJ7_fill_53178 20 = .ok (.return_, 1) := by decide +kernel
theorem dJ7_fill_fda19_0 : decode cJ7_fill_fda19 0 = .ok (.aload_n 0, 1) := by decide +kernel
theorem dJ7_fill_fda19_1 : decode cJ7_fill_fda19 1 = .ok (.arraylength, 1) := by decide +kernel
theorem dJ7_fill_fda19_2 : decode cJ7_fill_fda19 2 = .ok (.iload_n 1, 1) := by decide +kernel
theorem dJ7_fill_fda19_3 : decode cJ7_fill_fda19 3 = .ok (.iload_n 2, 1) := by decide +kernel
theorem dJ7_fill_fda19_4 : decode cJ7_fill_fda19 4 = .ok (.invokestatic 13, 3) := by decide +kernel
theorem dJ7_fill_fda19_7 : decode cJ7_fill_fda19 7 = .ok (.iload_n 1, 1) := by decide +kernel
theorem dJ7_fill_fda19_8 : decode cJ7_fill_fda19 8 = .ok (.istore 4, 2) := by decide +kernel
theorem dJ7_fill_fda19_10 : decode cJ7_fill_fda19 10 = .ok (.iload 4, 2) := by decide +kernel
theorem dJ7_fill_fda19_12 : decode cJ7_fill_fda19 12 = .ok (.iload_n 2, 1) := by decide +kernel
theorem dJ7_fill_fda19_13 : decode cJ7_fill_fda19 13 = .ok (.if_icmp .ge 14, 3) := by decide +kernel
theorem dJ7_fill_fda19_16 : decode cJ7_fill_fda19 16 = .ok (.aload_n 0, 1) := by decide +kernel
theorem dJ7_fill_fda19_17 : decode cJ7_fill_fda19 17 = .ok (.iload 4, 2) := by decide +kernel
theorem dJ7_fill_fda19_19 : decode cJ7_fill_fda19 19 = .ok (.iload_n 3, 1) := by decide +kernel
theorem dJ7_fill_fda19_20 : decode cJ7_fill_fda19 20 = .ok (.iastore, 1) := by decide +kernel
theorem dJ7_fill_fda19_21 : decode cJ7_fill_fda19 21 = .ok (.iinc 4 1, 3) := by decide +kernel
theorem dJ7_fill_fda19_24 : decode cJ7_fill_fda19 24 = .ok (.goto (-14), 3) := by decide +kernel
theorem dJ7_fill_fda19_27 : decode cJ7_fill_fda19 27 = .ok (.return_, 1) := by decide +kernel
theorem dL_cell_0 : decode cL_cell 0 = .ok (.aload_n 0, 1) := by decide +kernel
theorem dL_cell_1 : decode cL_cell 1 = .ok (.arraylength, 1) := by decide +kernel
theorem dL_cell_2 : decode cL_cell 2 = .ok (.ifCond .ne 12, 3) := by decide +kernel
theorem dL_cell_5 : decode cL_cell 5 = .ok (.iload_n 1, 1) := by decide +kernel
theorem dL_cell_6 : decode cL_cell 6 = .ok (.bipush 37, 2) := by decide +kernel
theorem dL_cell_8 : decode cL_cell 8 = .ok (.imul, 1) := by decide +kernel
theorem dL_cell_9 : decode cL_cell 9 = .ok (.iconst 5, 1) := by decide +kernel
theorem dL_cell_10 : decode cL_cell 10 = .ok (.iadd, 1) := by decide +kernel
theorem dL_cell_11 : decode cL_cell 11 = .ok (.goto 17, 3) := by decide +kernel
theorem dL_cell_14 : decode cL_cell 14 = .ok (.aload_n 0, 1) := by decide +kernel
theorem dL_cell_15 : decode cL_cell 15 = .ok (.iload_n 1, 1) := by decide +kernel
theorem dL_cell_16 : decode cL_cell 16 = .ok (.aload_n 0, 1) := by decide +kernel
theorem dL_cell_17 : decode cL_cell 17 = .ok (.arraylength, 1) := by decide +kernel
theorem dL_cell_18 : decode cL_cell 18 = .ok (.irem, 1) := by decide +kernel
theorem dL_cell_19 : decode cL_cell 19 = .ok (.iaload, 1) := by decide +kernel
theorem dL_cell_20 : decode cL_cell 20 = .ok (.iload_n 1, 1) := by decide +kernel
theorem dL_cell_21 : decode cL_cell 21 = .ok (.bipush 7, 2) := by decide +kernel
theorem dL_cell_23 : decode cL_cell 23 = .ok (.irem, 1) := by decide +kernel
theorem dL_cell_24 : decode cL_cell 24 = .ok (.ishr, 1) := by decide +kernel
theorem dL_cell_25 : decode cL_cell 25 = .ok (.ldc 7, 2) := by decide +kernel
theorem dL_cell_27 : decode cL_cell 27 = .ok (.iand, 1) := by decide +kernel
theorem dL_cell_28 : decode cL_cell 28 = .ok (.iload_n 2, 1) := by decide +kernel
theorem dL_cell_29 : decode cL_cell 29 = .ok (.irem, 1) := by decide +kernel
theorem dL_cell_30 : decode cL_cell 30 = .ok (.ireturn, 1) := by decide +kernel
theorem dL_bits_0 : decode cL_bits 0 = .ok (.iconst 4, 1) := by decide +kernel
theorem dL_bits_1 : decode cL_bits 1 = .ok (.istore_n 1, 1) := by decide +kernel
theorem dL_bits_2 : decode cL_bits 2 = .ok (.iload_n 0, 1) := by decide +kernel
theorem dL_bits_3 : decode cL_bits 3 = .ok (.iconst 1, 1) := by decide +kernel
theorem dL_bits_4 : decode cL_bits 4 = .ok (.isub, 1) := by decide +kernel
theorem dL_bits_5 : decode cL_bits 5 = .ok (.iconst 1, 1) := by decide +kernel
theorem dL_bits_6 : decode cL_bits 6 = .ok (.iload_n 1, 1) := by decide +kernel
theorem dL_bits_7 : decode cL_bits 7 = .ok (.ishl, 1) := by decide +kernel
theorem dL_bits_8 : decode cL_bits 8 = .ok (.if_icmp .lt 9, 3) := by decide +kernel
theorem dL_bits_11 : decode cL_bits 11 = .ok (.iinc 1 1, 3) := by decide +kernel
theorem dL_bits_14 : decode cL_bits 14 = .ok (.goto (-12), 3) := by decide +kernel
theorem dL_bits_17 : decode cL_bits 17 = .ok (.iload_n 1, 1) := by decide +kernel
theorem dL_bits_18 : decode cL_bits 18 = .ok (.ireturn, 1) := by decide +kernel
theorem dL_isAlike_0 : decode cL_isAlike 0 = .ok (.iload_n 1, 1) := by decide +kernel
theorem dL_isAlike_1 : decode cL_isAlike 1 = .ok (.iload_n 3, 1) := by decide +kernel
theorem dL_isAlike_2 : decode cL_isAlike 2 = .ok (.iadd, 1) := by decide +kernel
theorem dL_isAlike_3 : decode cL_isAlike 3 = .ok (.aload_n 0, 1) := by decide +kernel
theorem dL_isAlike_4 : decode cL_isAlike 4 = .ok (.iconst 0, 1) := by decide +kernel
theorem dL_isAlike_5 : decode cL_isAlike 5 = .ok (.invokevirtual 8, 3) := by decide +kernel
theorem dL_isAlike_8 : decode cL_isAlike 8 = .ok (.if_icmp .gt 18, 3) := by decide +kernel
theorem dL_isAlike_11 : decode cL_isAlike 11 = .ok (.iload_n 2, 1) := by decide +kernel
theorem dL_isAlike_12 : decode cL_isAlike 12 = .ok (.iload_n 3, 1) := by decide +kernel
theorem dL_isAlike_13 : decode cL_isAlike 13 = .ok (.iadd, 1) := by decide +kernel
theorem dL_isAlike_14 : decode cL_isAlike 14 = .ok (.aload_n 0, 1) := by decide +kernel
theorem dL_isAlike_15 : decode cL_isAlike 15 = .ok (.iconst 0, 1) := by decide +kernel
theorem dL_isAlike_16 : decode cL_isAlike 16 = .ok (.invokevirtual 8, 3) := by decide +kernel
theorem dL_isAlike_19 : decode cL_isAlike 19 = .ok (.if_icmp .gt 7, 3) := by decide +kernel
theorem dL_isAlike_22 : decode cL_isAlike 22 = .ok (.iconst 1, 1) := by decide +kernel
theorem dL_isAlike_23 : decode cL_isAlike 23 = .ok (.goto 4, 3) := by decide +kernel
theorem dL_isAlike_26 : decode cL_isAlike 26 = .ok (.iconst 0, 1) := by decide +kernel
theorem dL_isAlike_27 : decode cL_isAlike 27 = .ok (.istore 4, 2) := by decide +kernel
theorem dL_isAlike_29 : decode cL_isAlike 29 = .ok (.iconst 0, 1) := by decide +kernel
theorem dL_isAlike_30 : decode cL_isAlike 30 = .ok (.istore 5, 2) := by decide +kernel
theorem dL_isAlike_32 : decode cL_isAlike 32 = .ok (.iload 5, 2) := by decide +kernel
theorem dL_isAlike_34 : decode cL_isAlike 34 = .ok (.iload_n 3, 1) := by decide +kernel
theorem dL_isAlike_35 : decode cL_isAlike 35 = .ok (.if_icmp .ge 40, 3) := by decide +kernel
theorem dL_isAlike_38 : decode cL_isAlike 38 = .ok (.iload 4, 2) := by decide +kernel
theorem dL_isAlike_40 : decode cL_isAlike 40 = .ok (.ifCond .eq 35, 3) := by decide +kernel
theorem dL_isAlike_43 : decode cL_isAlike 43 = .ok (.aload_n 0, 1) := by decide +kernel
theorem dL_isAlike_44 : decode cL_isAlike 44 = .ok (.iload_n 1, 1) := by decide +kernel
theorem dL_isAlike_45 : decode cL_isAlike 45 = .ok (.iload 5, 2) := by decide +kernel
theorem dL_isAlike_47 : decode cL_isAlike 47 = .ok (.iadd, 1) := by decide +kernel
theorem dL_isAlike_48 : decode cL_isAlike 48 = .ok (.invokevirtual 14, 3) := by decide +kernel
theorem dL_isAlike_51 : decode cL_isAlike 51 = .ok (.aload_n 0, 1) := by decide +kernel
theorem dL_isAlike_52 : decode cL_isAlike 52 = .ok (.iload_n 2, 1) := by decide +kernel
theorem dL_isAlike_53 : decode cL_isAlike 53 = .ok (.iload 5, 2) := by decide +kernel
theorem dL_isAlike_55 : decode cL_isAlike 55 = .ok (.iadd, 1) := by decide +kernel
theorem dL_isAlike_56 : decode cL_isAlike 56 = .ok (.invokevirtual 14, 3) := by decide +kernel
theorem dL_isAlike_59 : decode cL_isAlike 59 = .ok (.if_icmp .ne 7, 3) := by decide +kernel
theorem dL_isAlike_62 : decode cL_isAlike 62 = .ok (.iconst 1, 1) := by decide +kernel
theorem dL_isAlike_63 : decode cL_isAlike 63 = .ok (.goto 4, 3) := by decide +kernel
theorem dL_isAlike_66 : decode cL_isAlike 66 = .ok (.iconst 0, 1) := by decide +kernel
theorem dL_isAlike_67 : decode cL_isAlike 67 = .ok (.istore 4, 2) := by decide +kernel
theorem dL_isAlike_69 : decode cL_isAlike 69 = .ok (.iinc 5 1, 3) := by decide +kernel
theorem dL_isAlike_72 : decode cL_isAlike 72 = .ok (.goto (-40), 3) := by decide +kernel
theorem dL_isAlike_75 : decode cL_isAlike 75 = .ok (.iload 4, 2) := by decide +kernel
theorem dL_isAlike_77 : decode cL_isAlike 77 = .ok (.ireturn, 1) := by decide +kernel
theorem dL_areCodes_0 : decode cL_areCodes 0 = .ok (.aload_n 0, 1) := by decide +kernel
theorem dL_areCodes_1 : decode cL_areCodes 1 = .ok (.iconst 1, 1) := by decide +kernel
theorem dL_areCodes_2 : decode cL_areCodes 2 = .ok (.invokevirtual 8, 3) := by decide +kernel
theorem dL_areCodes_5 : decode cL_areCodes 5 = .ok (.istore_n 1, 1) := by decide +kernel
theorem dL_areCodes_6 : decode cL_areCodes 6 = .ok (.aload_n 0, 1) := by decide +kernel
theorem dL_areCodes_7 : decode cL_areCodes 7 = .ok (.iconst 0, 1) := by decide +kernel
theorem dL_areCodes_8 : decode cL_areCodes 8 = .ok (.invokevirtual 8, 3) := by decide +kernel
theorem dL_areCodes_11 : decode cL_areCodes 11 = .ok (.istore_n 2, 1) := by decide +kernel
theorem dL_areCodes_12 : decode cL_areCodes 12 = .ok (.iconst 1, 1) := by decide +kernel
theorem dL_areCodes_13 : decode cL_areCodes 13 = .ok (.aload_n 0, 1) := by decide +kernel
theorem dL_areCodes_14 : decode cL_areCodes 14 = .ok (.bipush 9, 2) := by decide +kernel
theorem dL_areCodes_16 : decode cL_areCodes 16 = .ok (.invokevirtual 8, 3) := by decide +kernel
theorem dL_areCodes_19 : decode cL_areCodes 19 = .ok (.ishl, 1) := by decide +kernel
theorem dL_areCodes_20 : decode cL_areCodes 20 = .ok (.istore_n 3, 1) := by decide +kernel
theorem dL_areCodes_21 : decode cL_areCodes 21 = .ok (.aload_n 0, 1) := by decide +kernel
theorem dL_areCodes_22 : decode cL_areCodes 22 = .ok (.bipush 10, 2) := by decide +kernel
theorem dL_areCodes_24 : decode cL_areCodes 24 = .ok (.invokevirtual 8, 3) := by decide +kernel
theorem dL_areCodes_27 : decode cL_areCodes 27 = .ok (.istore 4, 2) := by decide +kernel
theorem dL_areCodes_29 : decode cL_areCodes 29 = .ok (.aload_n 0, 1) := by decide +kernel
theorem dL_areCodes_30 : decode cL_areCodes 30 = .ok (.bipush 11, 2) := by decide +kernel
theorem dL_areCodes_32 : decode cL_areCodes 32 = .ok (.invokevirtual 8, 3) := by decide +kernel
theorem dL_areCodes_35 : decode cL_areCodes 35 = .ok (.istore 5, 2) := by decide +kernel
theorem dL_areCodes_37 : decode cL_areCodes 37 = .ok (.bipush 64, 2) := by decide +kernel
theorem dL_areCodes_39 : decode cL_areCodes 39 = .ok (.newarray .int, 2) := by decide +kernel
theorem dL_areCodes_41 : decode cL_areCodes 41 = .ok (.astore 6, 2) := by decide +kernel
theorem dL_areCodes_43 : decode cL_areCodes 43 = .ok (.bipush 64, 2) := by decide +kernel
theorem dL_areCodes_45 : decode cL_areCodes 45 = .ok (.newarray .int, 2) := by decide +kernel
theorem dL_areCodes_47 : decode cL_areCodes 47 = .ok (.astore 7, 2) := by decide +kernel
theorem dL_areCodes_49 : decode cL_areCodes 49 = .ok (.bipush 64, 2) := by decide +kernel
theorem dL_areCodes_51 : decode cL_areCodes 51 = .ok (.newarray .int, 2) := by decide +kernel
theorem dL_areCodes_53 : decode cL_areCodes 53 = .ok (.astore 8, 2) := by decide +kernel
theorem dL_areCodes_55 : decode cL_areCodes 55 = .ok (.iconst 0, 1) := by decide +kernel
theorem dL_areCodes_56 : decode cL_areCodes 56 = .ok (.istore 9, 2) := by decide +kernel
theorem dL_areCodes_58 : decode cL_areCodes 58 = .ok (.iload 9, 2) := by decide +kernel
theorem dL_areCodes_60 : decode cL_areCodes 60 = .ok (.iload_n 1, 1) := by decide +kernel
theorem dL_areCodes_61 : decode cL_areCodes 61 = .ok (.if_icmp .ge 45, 3) := by decide +kernel
theorem dL_areCodes_64 : decode cL_areCodes 64 = .ok (.aload 6, 2) := by decide +kernel
theorem dL_areCodes_66 : decode cL_areCodes 66 = .ok (.iload 9, 2) := by decide +kernel
theorem dL_areCodes_68 : decode cL_areCodes 68 = .ok (.aload_n 0, 1) := by decide +kernel
theorem dL_areCodes_69 : decode cL_areCodes 69 = .ok (.iload 9, 2) := by decide +kernel
theorem dL_areCodes_71 : decode cL_areCodes 71 = .ok (.iconst 0, 1) := by decide +kernel
theorem dL_areCodes_72 : decode cL_areCodes 72 = .ok (.invokevirtual 17, 3) := by decide +kernel
theorem dL_areCodes_75 : decode cL_areCodes 75 = .ok (.iastore, 1) := by decide +kernel
theorem dL_areCodes_76 : decode cL_areCodes 76 = .ok (.aload 7, 2) := by decide +kernel
theorem dL_areCodes_78 : decode cL_areCodes 78 = .ok (.iload 9, 2) := by decide +kernel
theorem dL_areCodes_80 : decode cL_areCodes 80 = .ok (.aload_n 0, 1) := by decide +kernel
theorem dL_areCodes_81 : decode cL_areCodes 81 = .ok (.iload 9, 2) := by decide +kernel
theorem dL_areCodes_83 : decode cL_areCodes 83 = .ok (.iconst 3, 1) := by decide +kernel
theorem dL_areCodes_84 : decode cL_areCodes 84 = .ok (.invokevirtual 17, 3) := by decide +kernel
theorem dL_areCodes_87 : decode cL_areCodes 87 = .ok (.iastore, 1) := by decide +kernel
theorem dL_areCodes_88 : decode cL_areCodes 88 = .ok (.aload 8, 2) := by decide +kernel
theorem dL_areCodes_90 : decode cL_areCodes 90 = .ok (.iload 9, 2) := by decide +kernel
theorem dL_areCodes_92 : decode cL_areCodes 92 = .ok (.aload_n 0, 1) := by decide +kernel
theorem dL_areCodes_93 : decode cL_areCodes 93 = .ok (.iload 9, 2) := by decide +kernel
theorem dL_areCodes_95 : decode cL_areCodes 95 = .ok (.iconst 4, 1) := by decide +kernel
theorem dL_areCodes_96 : decode cL_areCodes 96 = .ok (.invokevirtual 17, 3) := by decide +kernel
theorem dL_areCodes_99 : decode cL_areCodes 99 = .ok (.iastore, 1) := by decide +kernel
theorem dL_areCodes_100 : decode cL_areCodes 100 = .ok (.iinc 9 1, 3) := by decide +kernel
theorem dL_areCodes_103 : decode cL_areCodes 103 = .ok (.goto (-45), 3) := by decide +kernel
theorem dL_areCodes_106 : decode cL_areCodes 106 = .ok (.iconst 0, 1) := by decide +kernel
theorem dL_areCodes_107 : decode cL_areCodes 107 = .ok (.istore 9, 2) := by decide +kernel
theorem dL_areCodes_109 : decode cL_areCodes 109 = .ok (.iconst 0, 1) := by decide +kernel
theorem dL_areCodes_110 : decode cL_areCodes 110 = .ok (.istore 10, 2) := by decide +kernel
theorem dL_areCodes_112 : decode cL_areCodes 112 = .ok (.bipush 10, 2) := by decide +kernel
theorem dL_areCodes_114 : decode cL_areCodes 114 = .ok (.istore 11, 2) := by decide +kernel
theorem dL_areCodes_116 : decode cL_areCodes 116 = .ok (.iconst 0, 1) := by decide +kernel
theorem dL_areCodes_117 : decode cL_areCodes 117 = .ok (.istore 12, 2) := by decide +kernel
theorem dL_areCodes_119 : decode cL_areCodes 119 = .ok (.iconst 0, 1) := by decide +kernel
theorem dL_areCodes_120 : decode cL_areCodes 120 = .ok (.istore 13, 2) := by decide +kernel
theorem dL_areCodes_122 : decode cL_areCodes 122 = .ok (.iconst 0, 1) := by decide +kernel
theorem dL_areCodes_123 : decode cL_areCodes 123 = .ok (.istore 14, 2) := by decide +kernel
theorem dL_areCodes_125 : decode cL_areCodes 125 = .ok (.iconst 0, 1) := by decide +kernel
theorem dL_areCodes_126 : decode cL_areCodes 126 = .ok (.istore 15, 2) := by decide +kernel
theorem dL_areCodes_128 : decode cL_areCodes 128 = .ok (.iconst 0, 1) := by decide +kernel
theorem dL_areCodes_129 : decode cL_areCodes 129 = .ok (.istore 16, 2) := by decide +kernel
theorem dL_areCodes_131 : decode cL_areCodes 131 = .ok (.iconst 0, 1) := by decide +kernel
theorem dL_areCodes_132 : decode cL_areCodes 132 = .ok (.istore 17, 2) := by decide +kernel
theorem dL_areCodes_134 : decode cL_areCodes 134 = .ok (.iload 17, 2) := by decide +kernel
theorem dL_areCodes_136 : decode cL_areCodes 136 = .ok (.iload_n 1, 1) := by decide +kernel
theorem dL_areCodes_137 : decode cL_areCodes 137 = .ok (.if_icmp .ge 558, 3) := by decide +kernel
theorem dL_areCodes_140 : decode cL_areCodes 140 = .ok (.iload 13, 2) := by decide +kernel
theorem dL_areCodes_142 : decode cL_areCodes 142 = .ok (.iload 11, 2) := by decide +kernel
theorem dL_areCodes_144 : decode cL_areCodes 144 = .ok (.invokestatic 21, 3) := by decide +kernel
theorem dL_areCodes_147 : decode cL_areCodes 147 = .ok (.iadd, 1) := by decide +kernel
theorem dL_areCodes_148 : decode cL_areCodes 148 = .ok (.istore 13, 2) := by decide +kernel
theorem dL_areCodes_150 : decode cL_areCodes 150 = .ok (.aload_n 0, 1) := by decide +kernel
theorem dL_areCodes_151 : decode cL_areCodes 151 = .ok (.iload 17, 2) := by decide +kernel
theorem dL_areCodes_153 : decode cL_areCodes 153 = .ok (.iconst 5, 1) := by decide +kernel
theorem dL_areCodes_154 : decode cL_areCodes 154 = .ok (.invokevirtual 17, 3) := by decide +kernel
theorem dL_areCodes_157 : decode cL_areCodes 157 = .ok (.iload 11, 2) := by decide +kernel
theorem dL_areCodes_159 : decode cL_areCodes 159 = .ok (.if_icmp .ne 18, 3) := by decide +kernel
theorem dL_areCodes_162 : decode cL_areCodes 162 = .ok (.aload_n 0, 1) := by decide +kernel
theorem dL_areCodes_163 : decode cL_areCodes 163 = .ok (.iload 17, 2) := by decide +kernel
theorem dL_areCodes_165 : decode cL_areCodes 165 = .ok (.iconst 2, 1) := by decide +kernel
theorem dL_areCodes_166 : decode cL_areCodes 166 = .ok (.invokevirtual 17, 3) := by decide +kernel
theorem dL_areCodes_169 : decode cL_areCodes 169 = .ok (.iload 11, 2) := by decide +kernel
theorem dL_areCodes_171 : decode cL_areCodes 171 = .ok (.invokestatic 21, 3) := by decide +kernel
theorem dL_areCodes_174 : decode cL_areCodes 174 = .ok (.if_icmp .eq 5, 3) := by decide +kernel
theorem dL_areCodes_177 : decode cL_areCodes 177 = .ok (.iconst 0, 1) := by decide +kernel
theorem dL_areCodes_178 : decode cL_areCodes 178 = .ok (.ireturn, 1) := by decide +kernel
theorem dL_areCodes_179 : decode cL_areCodes 179 = .ok (.iload 16, 2) := by decide +kernel
theorem dL_areCodes_181 : decode cL_areCodes 181 = .ok (.ifCond .ne 9, 3) := by decide +kernel
theorem dL_areCodes_184 : decode cL_areCodes 184 = .ok (.iload 9, 2) := by decide +kernel
theorem dL_areCodes_186 : decode cL_areCodes 186 = .ok (.iload_n 2, 1) := by decide +kernel
theorem dL_areCodes_187 : decode cL_areCodes 187 = .ok (.if_icmp .ne 97, 3) := by decide +kernel
theorem dL_areCodes_190 : decode cL_areCodes 190 = .ok (.aload 6, 2) := by decide +kernel
theorem dL_areCodes_192 : decode cL_areCodes 192 = .ok (.iload 17, 2) := by decide +kernel
theorem dL_areCodes_194 : decode cL_areCodes 194 = .ok (.iaload, 1) := by decide +kernel
theorem dL_areCodes_195 : decode cL_areCodes 195 = .ok (.iload 16, 2) := by decide +kernel
theorem dL_areCodes_197 : decode cL_areCodes 197 = .ok (.ifCond .eq 8, 3) := by decide +kernel
theorem dL_areCodes_200 : decode cL_areCodes 200 = .ok (.bipush 8, 2) := by decide +kernel
theorem dL_areCodes_202 : decode cL_areCodes 202 = .ok (.goto 5, 3) := by decide +kernel
theorem dL_areCodes_205 : decode cL_areCodes 205 = .ok (.bipush 9, 2) := by decide +kernel
theorem dL_areCodes_207 : decode cL_areCodes 207 = .ok (.if_icmp .ne 34, 3) := by decide +kernel
theorem dL_areCodes_210 : decode cL_areCodes 210 = .ok (.aload 7, 2) := by decide +kernel
theorem dL_areCodes_212 : decode cL_areCodes 212 = .ok (.iload 17, 2) := by decide +kernel
theorem dL_areCodes_214 : decode cL_areCodes 214 = .ok (.iaload, 1) := by decide +kernel
theorem dL_areCodes_215 : decode cL_areCodes 215 = .ok (.bipush (-6), 2) := by decide +kernel
theorem dL_areCodes_217 : decode cL_areCodes 217 = .ok (.if_icmp .ne 24, 3) := by decide +kernel
theorem dL_areCodes_220 : decode cL_areCodes 220 = .ok (.aload 8, 2) := by decide +kernel
theorem dL_areCodes_222 : decode cL_areCodes 222 = .ok (.iload 17, 2) := by decide +kernel
theorem dL_areCodes_224 : decode cL_areCodes 224 = .ok (.iaload, 1) := by decide +kernel
theorem dL_areCodes_225 : decode cL_areCodes 225 = .ok (.ifCond .ne 16, 3) := by decide +kernel
theorem dL_areCodes_228 : decode cL_areCodes 228 = .ok (.iload 16, 2) := by decide +kernel
theorem dL_areCodes_230 : decode cL_areCodes 230 = .ok (.ifCond .ne 13, 3) := by decide +kernel
theorem dL_areCodes_233 : decode cL_areCodes 233 = .ok (.iload 17, 2) := by decide +kernel
theorem dL_areCodes_235 : decode cL_areCodes 235 = .ok (.iload_n 1, 1) := by decide +kernel
theorem dL_areCodes_236 : decode cL_areCodes 236 = .ok (.iconst 1, 1) := by decide +kernel
theorem dL_areCodes_237 : decode cL_areCodes 237 = .ok (.isub, 1) := by decide +kernel
theorem dL_areCodes_238 : decode cL_areCodes 238 = .ok (.if_icmp .eq 5, 3) := by decide +kernel
theorem dL_areCodes_241 : decode cL_areCodes 241 = .ok (.iconst 0, 1) := by decide +kernel
theorem dL_areCodes_242 : decode cL_areCodes 242 = .ok (.ireturn, 1) := by decide +kernel
theorem dL_areCodes_243 : decode cL_areCodes 243 = .ok (.iload 14, 2) := by decide +kernel
theorem dL_areCodes_245 : decode cL_areCodes 245 = .ok (.iload 16, 2) := by decide +kernel
theorem dL_areCodes_247 : decode cL_areCodes 247 = .ok (.ifCond .eq 7, 3) := by decide +kernel
theorem dL_areCodes_250 : decode cL_areCodes 250 = .ok (.iconst 1, 1) := by decide +kernel
theorem dL_areCodes_251 : decode cL_areCodes 251 = .ok (.goto 4, 3) := by decide +kernel
theorem dL_areCodes_254 : decode cL_areCodes 254 = .ok (.iconst 0, 1) := by decide +kernel
theorem dL_areCodes_255 : decode cL_areCodes 255 = .ok (.iadd, 1) := by decide +kernel
theorem dL_areCodes_256 : decode cL_areCodes 256 = .ok (.istore 14, 2) := by decide +kernel
theorem dL_areCodes_258 : decode cL_areCodes 258 = .ok (.iload 16, 2) := by decide +kernel
theorem dL_areCodes_260 : decode cL_areCodes 260 = .ok (.ifCond .eq 8, 3) := by decide +kernel
theorem dL_areCodes_263 : decode cL_areCodes 263 = .ok (.bipush 10, 2) := by decide +kernel
theorem dL_areCodes_265 : decode cL_areCodes 265 = .ok (.goto 5, 3) := by decide +kernel
theorem dL_areCodes_268 : decode cL_areCodes 268 = .ok (.iload 11, 2) := by decide +kernel
theorem dL_areCodes_270 : decode cL_areCodes 270 = .ok (.istore 11, 2) := by decide +kernel
theorem dL_areCodes_272 : decode cL_areCodes 272 = .ok (.iload 17, 2) := by decide +kernel
theorem dL_areCodes_274 : decode cL_areCodes 274 = .ok (.iconst 1, 1) := by decide +kernel
theorem dL_areCodes_275 : decode cL_areCodes 275 = .ok (.iadd, 1) := by decide +kernel
theorem dL_areCodes_276 : decode cL_areCodes 276 = .ok (.istore 10, 2) := by decide +kernel
theorem dL_areCodes_278 : decode cL_areCodes 278 = .ok (.iconst 0, 1) := by decide +kernel
theorem dL_areCodes_279 : decode cL_areCodes 279 = .ok (.istore 16, 2) := by decide +kernel
theorem dL_areCodes_281 : decode cL_areCodes 281 = .ok (.goto 408, 3) := by decide +kernel
theorem dL_areCodes_284 : decode cL_areCodes 284 = .ok (.aload 6, 2) := by decide +kernel
theorem dL_areCodes_286 : decode cL_areCodes 286 = .ok (.iload 17, 2) := by decide +kernel
theorem dL_areCodes_288 : decode cL_areCodes 288 = .ok (.iaload, 1) := by decide +kernel
theorem dL_areCodes_289 : decode cL_areCodes 289 = .ok (.istore 18, 2) := by decide +kernel
theorem dL_areCodes_291 : decode cL_areCodes 291 = .ok (.aload 7, 2) := by decide +kernel
theorem dL_areCodes_293 : decode cL_areCodes 293 = .ok (.iload 17, 2) := by decide +kernel
theorem dL_areCodes_295 : decode cL_areCodes 295 = .ok (.iaload, 1) := by decide +kernel
theorem dL_areCodes_296 : decode cL_areCodes 296 = .ok (.iload 9, 2) := by decide +kernel
theorem dL_areCodes_298 : decode cL_areCodes 298 = .ok (.if_icmp .ne 71, 3) := by decide +kernel
theorem dL_areCodes_301 : decode cL_areCodes 301 = .ok (.iload 18, 2) := by decide +kernel
theorem dL_areCodes_303 : decode cL_areCodes 303 = .ok (.bipush 8, 2) := by decide +kernel
theorem dL_areCodes_305 : decode cL_areCodes 305 = .ok (.if_icmp .eq 64, 3) := by decide +kernel
theorem dL_areCodes_308 : decode cL_areCodes 308 = .ok (.iload 18, 2) := by decide +kernel
theorem dL_areCodes_310 : decode cL_areCodes 310 = .ok (.bipush 9, 2) := by decide +kernel
theorem dL_areCodes_312 : decode cL_areCodes 312 = .ok (.if_icmp .eq 57, 3) := by decide +kernel
theorem dL_areCodes_315 : decode cL_areCodes 315 = .ok (.iload 18, 2) := by decide +kernel
theorem dL_areCodes_317 : decode cL_areCodes 317 = .ok (.iload 11, 2) := by decide +kernel
theorem dL_areCodes_319 : decode cL_areCodes 319 = .ok (.if_icmp .ge 50, 3) := by decide +kernel
theorem dL_areCodes_322 : decode cL_areCodes 322 = .ok (.iload 18, 2) := by decide +kernel
theorem dL_areCodes_324 : decode cL_areCodes 324 = .ok (.bipush 8, 2) := by decide +kernel
theorem dL_areCodes_326 : decode cL_areCodes 326 = .ok (.if_icmp .ge 7, 3) := by decide +kernel
theorem dL_areCodes_329 : decode cL_areCodes 329 = .ok (.iconst 1, 1) := by decide +kernel
theorem dL_areCodes_330 : decode cL_areCodes 330 = .ok (.goto 4, 3) := by decide +kernel
theorem dL_areCodes_333 : decode cL_areCodes 333 = .ok (.iconst 0, 1) := by decide +kernel
theorem dL_areCodes_334 : decode cL_areCodes 334 = .ok (.aload 8, 2) := by decide +kernel
theorem dL_areCodes_336 : decode cL_areCodes 336 = .ok (.iload 17, 2) := by decide +kernel
theorem dL_areCodes_338 : decode cL_areCodes 338 = .ok (.iaload, 1) := by decide +kernel
theorem dL_areCodes_339 : decode cL_areCodes 339 = .ok (.iconst 1, 1) := by decide +kernel
theorem dL_areCodes_340 : decode cL_areCodes 340 = .ok (.if_icmp .ne 7, 3) := by decide +kernel
theorem dL_areCodes_343 : decode cL_areCodes 343 = .ok (.iconst 1, 1) := by decide +kernel
theorem dL_areCodes_344 : decode cL_areCodes 344 = .ok (.goto 4, 3) := by decide +kernel
theorem dL_areCodes_347 : decode cL_areCodes 347 = .ok (.iconst 0, 1) := by decide +kernel
theorem dL_areCodes_348 : decode cL_areCodes 348 = .ok (.if_icmp .ne 21, 3) := by decide +kernel
theorem dL_areCodes_351 : decode cL_areCodes 351 = .ok (.iload 18, 2) := by decide +kernel
theorem dL_areCodes_353 : decode cL_areCodes 353 = .ok (.bipush 8, 2) := by decide +kernel
theorem dL_areCodes_355 : decode cL_areCodes 355 = .ok (.if_icmp .ge 16, 3) := by decide +kernel
theorem dL_areCodes_358 : decode cL_areCodes 358 = .ok (.iload 18, 2) := by decide +kernel
theorem dL_areCodes_360 : decode cL_areCodes 360 = .ok (.aload_n 0, 1) := by decide +kernel
theorem dL_areCodes_361 : decode cL_areCodes 361 = .ok (.iload 9, 2) := by decide +kernel
theorem dL_areCodes_363 : decode cL_areCodes 363 = .ok (.invokevirtual 14, 3) := by decide +kernel
theorem dL_areCodes_366 : decode cL_areCodes 366 = .ok (.if_icmp .eq 5, 3) := by decide +kernel
theorem dL_areCodes_369 : decode cL_areCodes 369 = .ok (.iconst 0, 1) := by decide +kernel
theorem dL_areCodes_370 : decode cL_areCodes 370 = .ok (.ireturn, 1) := by decide +kernel
theorem dL_areCodes_371 : decode cL_areCodes 371 = .ok (.iload 18, 2) := by decide +kernel
theorem dL_areCodes_373 : decode cL_areCodes 373 = .ok (.bipush 10, 2) := by decide +kernel
theorem dL_areCodes_375 : decode cL_areCodes 375 = .ok (.if_icmp .lt 51, 3) := by decide +kernel
theorem dL_areCodes_378 : decode cL_areCodes 378 = .ok (.aload 8, 2) := by decide +kernel
theorem dL_areCodes_380 : decode cL_areCodes 380 = .ok (.iload 17, 2) := by decide +kernel
theorem dL_areCodes_382 : decode cL_areCodes 382 = .ok (.iaload, 1) := by decide +kernel
theorem dL_areCodes_383 : decode cL_areCodes 383 = .ok (.aload 8, 2) := by decide +kernel
theorem dL_areCodes_385 : decode cL_areCodes 385 = .ok (.iload 10, 2) := by decide +kernel
theorem dL_areCodes_387 : decode cL_areCodes 387 = .ok (.iload 18, 2) := by decide +kernel
theorem dL_areCodes_389 : decode cL_areCodes 389 = .ok (.iadd, 1) := by decide +kernel
theorem dL_areCodes_390 : decode cL_areCodes 390 = .ok (.bipush 10, 2) := by decide +kernel
theorem dL_areCodes_392 : decode cL_areCodes 392 = .ok (.isub, 1) := by decide +kernel
theorem dL_areCodes_393 : decode cL_areCodes 393 = .ok (.iaload, 1) := by decide +kernel
theorem dL_areCodes_394 : decode cL_areCodes 394 = .ok (.iconst 1, 1) := by decide +kernel
theorem dL_areCodes_395 : decode cL_areCodes 395 = .ok (.iadd, 1) := by decide +kernel
theorem dL_areCodes_396 : decode cL_areCodes 396 = .ok (.if_icmp .ne 28, 3) := by decide +kernel
theorem dL_areCodes_399 : decode cL_areCodes 399 = .ok (.aload_n 0, 1) := by decide +kernel
theorem dL_areCodes_400 : decode cL_areCodes 400 = .ok (.iload 9, 2) := by decide +kernel
theorem dL_areCodes_402 : decode cL_areCodes 402 = .ok (.aload 7, 2) := by decide +kernel
theorem dL_areCodes_404 : decode cL_areCodes 404 = .ok (.iload 10, 2) := by decide +kernel
theorem dL_areCodes_406 : decode cL_areCodes 406 = .ok (.iload 18, 2) := by decide +kernel
theorem dL_areCodes_408 : decode cL_areCodes 408 = .ok (.iadd, 1) := by decide +kernel
theorem dL_areCodes_409 : decode cL_areCodes 409 = .ok (.bipush 10, 2) := by decide +kernel
theorem dL_areCodes_411 : decode cL_areCodes 411 = .ok (.isub, 1) := by decide +kernel
theorem dL_areCodes_412 : decode cL_areCodes 412 = .ok (.iaload, 1) := by decide +kernel
theorem dL_areCodes_413 : decode cL_areCodes 413 = .ok (.aload 8, 2) := by decide +kernel
theorem dL_areCodes_415 : decode cL_areCodes 415 = .ok (.iload 17, 2) := by decide +kernel
theorem dL_areCodes_417 : decode cL_areCodes 417 = .ok (.iaload, 1) := by decide +kernel
theorem dL_areCodes_418 : decode cL_areCodes 418 = .ok (.invokestatic 26, 3) := by decide +kernel
theorem dL_areCodes_421 : decode cL_areCodes 421 = .ok (.ifCond .ne 5, 3) := by decide +kernel
theorem dL_areCodes_424 : decode cL_areCodes 424 = .ok (.iconst 0, 1) := by decide +kernel
theorem dL_areCodes_425 : decode cL_areCodes 425 = .ok (.ireturn, 1) := by decide +kernel
theorem dL_areCodes_426 : decode cL_areCodes 426 = .ok (.bipush 10, 2) := by decide +kernel
theorem dL_areCodes_428 : decode cL_areCodes 428 = .ok (.istore 19, 2) := by decide +kernel
theorem dL_areCodes_430 : decode cL_areCodes 430 = .ok (.iload 19, 2) := by decide +kernel
theorem dL_areCodes_432 : decode cL_areCodes 432 = .ok (.iload 11, 2) := by decide +kernel
theorem dL_areCodes_434 : decode cL_areCodes 434 = .ok (.if_icmp .ge 67, 3) := by decide +kernel
theorem dL_areCodes_437 : decode cL_areCodes 437 = .ok (.aload 8, 2) := by decide +kernel
theorem dL_areCodes_439 : decode cL_areCodes 439 = .ok (.iload 10, 2) := by decide +kernel
theorem dL_areCodes_441 : decode cL_areCodes 441 = .ok (.iload 19, 2) := by decide +kernel
theorem dL_areCodes_443 : decode cL_areCodes 443 = .ok (.iadd, 1) := by decide +kernel
theorem dL_areCodes_444 : decode cL_areCodes 444 = .ok (.bipush 10, 2) := by decide +kernel
theorem dL_areCodes_446 : decode cL_areCodes 446 = .ok (.isub, 1) := by decide +kernel
theorem dL_areCodes_447 : decode cL_areCodes 447 = .ok (.iaload, 1) := by decide +kernel
theorem dL_areCodes_448 : decode cL_areCodes 448 = .ok (.iconst 1, 1) := by decide +kernel
theorem dL_areCodes_449 : decode cL_areCodes 449 = .ok (.iadd, 1) := by decide +kernel
theorem dL_areCodes_450 : decode cL_areCodes 450 = .ok (.istore 20, 2) := by decide +kernel
theorem dL_areCodes_452 : decode cL_areCodes 452 = .ok (.iload 20, 2) := by decide +kernel
theorem dL_areCodes_454 : decode cL_areCodes 454 = .ok (.aload 8, 2) := by decide +kernel
theorem dL_areCodes_456 : decode cL_areCodes 456 = .ok (.iload 17, 2) := by decide +kernel
theorem dL_areCodes_458 : decode cL_areCodes 458 = .ok (.iaload, 1) := by decide +kernel
theorem dL_areCodes_459 : decode cL_areCodes 459 = .ok (.if_icmp .le 36, 3) := by decide +kernel
theorem dL_areCodes_462 : decode cL_areCodes 462 = .ok (.iload 9, 2) := by decide +kernel
theorem dL_areCodes_464 : decode cL_areCodes 464 = .ok (.iload 20, 2) := by decide +kernel
theorem dL_areCodes_466 : decode cL_areCodes 466 = .ok (.iadd, 1) := by decide +kernel
theorem dL_areCodes_467 : decode cL_areCodes 467 = .ok (.iload_n 2, 1) := by decide +kernel
theorem dL_areCodes_468 : decode cL_areCodes 468 = .ok (.if_icmp .gt 27, 3) := by decide +kernel
theorem dL_areCodes_471 : decode cL_areCodes 471 = .ok (.aload_n 0, 1) := by decide +kernel
theorem dL_areCodes_472 : decode cL_areCodes 472 = .ok (.iload 9, 2) := by decide +kernel
theorem dL_areCodes_474 : decode cL_areCodes 474 = .ok (.aload 7, 2) := by decide +kernel
theorem dL_areCodes_476 : decode cL_areCodes 476 = .ok (.iload 10, 2) := by decide +kernel
theorem dL_areCodes_478 : decode cL_areCodes 478 = .ok (.iload 19, 2) := by decide +kernel
theorem dL_areCodes_480 : decode cL_areCodes 480 = .ok (.iadd, 1) := by decide +kernel
theorem dL_areCodes_481 : decode cL_areCodes 481 = .ok (.bipush 10, 2) := by decide +kernel
theorem dL_areCodes_483 : decode cL_areCodes 483 = .ok (.isub, 1) := by decide +kernel
theorem dL_areCodes_484 : decode cL_areCodes 484 = .ok (.iaload, 1) := by decide +kernel
theorem dL_areCodes_485 : decode cL_areCodes 485 = .ok (.iload 20, 2) := by decide +kernel
theorem dL_areCodes_487 : decode cL_areCodes 487 = .ok (.invokestatic 26, 3) := by decide +kernel
theorem dL_areCodes_490 : decode cL_areCodes 490 = .ok (.ifCond .eq 5, 3) := by decide +kernel
theorem dL_areCodes_493 : decode cL_areCodes 493 = .ok (.iconst 0, 1) := by decide +kernel
theorem dL_areCodes_494 : decode cL_areCodes 494 = .ok (.ireturn, 1) := by decide +kernel
theorem dL_areCodes_495 : decode cL_areCodes 495 = .ok (.iinc 19 1, 3) := by decide +kernel
theorem dL_areCodes_498 : decode cL_areCodes 498 = .ok (.goto (-68), 3) := by decide +kernel
theorem dL_areCodes_501 : decode cL_areCodes 501 = .ok (.iload 9, 2) := by decide +kernel
theorem dL_areCodes_503 : decode cL_areCodes 503 = .ok (.aload 8, 2) := by decide +kernel
theorem dL_areCodes_505 : decode cL_areCodes 505 = .ok (.iload 17, 2) := by decide +kernel
theorem dL_areCodes_507 : decode cL_areCodes 507 = .ok (.iaload, 1) := by decide +kernel
theorem dL_areCodes_508 : decode cL_areCodes 508 = .ok (.iadd, 1) := by decide +kernel
theorem dL_areCodes_509 : decode cL_areCodes 509 = .ok (.istore 9, 2) := by decide +kernel
theorem dL_areCodes_511 : decode cL_areCodes 511 = .ok (.iload 9, 2) := by decide +kernel
theorem dL_areCodes_513 : decode cL_areCodes 513 = .ok (.iload_n 2, 1) := by decide +kernel
theorem dL_areCodes_514 : decode cL_areCodes 514 = .ok (.if_icmp .ge 175, 3) := by decide +kernel
theorem dL_areCodes_517 : decode cL_areCodes 517 = .ok (.iload 11, 2) := by decide +kernel
theorem dL_areCodes_519 : decode cL_areCodes 519 = .ok (.iload_n 3, 1) := by decide +kernel
theorem dL_areCodes_520 : decode cL_areCodes 520 = .ok (.if_icmp .ge 7, 3) := by decide +kernel
theorem dL_areCodes_523 : decode cL_areCodes 523 = .ok (.iconst 1, 1) := by decide +kernel
theorem dL_areCodes_524 : decode cL_areCodes 524 = .ok (.goto 4, 3) := by decide +kernel
theorem dL_areCodes_527 : decode cL_areCodes 527 = .ok (.iconst 0, 1) := by decide +kernel
theorem dL_areCodes_528 : decode cL_areCodes 528 = .ok (.istore 19, 2) := by decide +kernel
theorem dL_areCodes_530 : decode cL_areCodes 530 = .ok (.iload 11, 2) := by decide +kernel
theorem dL_areCodes_532 : decode cL_areCodes 532 = .ok (.iload 19, 2) := by decide +kernel
theorem dL_areCodes_534 : decode cL_areCodes 534 = .ok (.ifCond .eq 7, 3) := by decide +kernel
theorem dL_areCodes_537 : decode cL_areCodes 537 = .ok (.iconst 1, 1) := by decide +kernel
theorem dL_areCodes_538 : decode cL_areCodes 538 = .ok (.goto 4, 3) := by decide +kernel
theorem dL_areCodes_541 : decode cL_areCodes 541 = .ok (.iconst 0, 1) := by decide +kernel
theorem dL_areCodes_542 : decode cL_areCodes 542 = .ok (.iadd, 1) := by decide +kernel
theorem dL_areCodes_543 : decode cL_areCodes 543 = .ok (.istore 11, 2) := by decide +kernel
theorem dL_areCodes_545 : decode cL_areCodes 545 = .ok (.iload 19, 2) := by decide +kernel
theorem dL_areCodes_547 : decode cL_areCodes 547 = .ok (.ifCond .eq 25, 3) := by decide +kernel
theorem dL_areCodes_550 : decode cL_areCodes 550 = .ok (.aload 8, 2) := by decide +kernel
theorem dL_areCodes_552 : decode cL_areCodes 552 = .ok (.iload 17, 2) := by decide +kernel
theorem dL_areCodes_554 : decode cL_areCodes 554 = .ok (.iaload, 1) := by decide +kernel
theorem dL_areCodes_555 : decode cL_areCodes 555 = .ok (.iconst 1, 1) := by decide +kernel
theorem dL_areCodes_556 : decode cL_areCodes 556 = .ok (.iadd, 1) := by decide +kernel
theorem dL_areCodes_557 : decode cL_areCodes 557 = .ok (.iload 15, 2) := by decide +kernel
theorem dL_areCodes_559 : decode cL_areCodes 559 = .ok (.if_icmp .le 13, 3) := by decide +kernel
theorem dL_areCodes_562 : decode cL_areCodes 562 = .ok (.aload 8, 2) := by decide +kernel
theorem dL_areCodes_564 : decode cL_areCodes 564 = .ok (.iload 17, 2) := by decide +kernel
theorem dL_areCodes_566 : decode cL_areCodes 566 = .ok (.iaload, 1) := by decide +kernel
theorem dL_areCodes_567 : decode cL_areCodes 567 = .ok (.iconst 1, 1) := by decide +kernel
theorem dL_areCodes_568 : decode cL_areCodes 568 = .ok (.iadd, 1) := by decide +kernel
theorem dL_areCodes_569 : decode cL_areCodes 569 = .ok (.goto 5, 3) := by decide +kernel
theorem dL_areCodes_572 : decode cL_areCodes 572 = .ok (.iload 15, 2) := by decide +kernel
theorem dL_areCodes_574 : decode cL_areCodes 574 = .ok (.istore 15, 2) := by decide +kernel
theorem dL_areCodes_576 : decode cL_areCodes 576 = .ok (.iload 19, 2) := by decide +kernel
theorem dL_areCodes_578 : decode cL_areCodes 578 = .ok (.ifCond .eq 10, 3) := by decide +kernel
theorem dL_areCodes_581 : decode cL_areCodes 581 = .ok (.iload 17, 2) := by decide +kernel
theorem dL_areCodes_583 : decode cL_areCodes 583 = .ok (.iconst 1, 1) := by decide +kernel
theorem dL_areCodes_584 : decode cL_areCodes 584 = .ok (.iadd, 1) := by decide +kernel
theorem dL_areCodes_585 : decode cL_areCodes 585 = .ok (.goto 5, 3) := by decide +kernel
theorem dL_areCodes_588 : decode cL_areCodes 588 = .ok (.iload 12, 2) := by decide +kernel
theorem dL_areCodes_590 : decode cL_areCodes 590 = .ok (.istore 12, 2) := by decide +kernel
theorem dL_areCodes_592 : decode cL_areCodes 592 = .ok (.iconst 0, 1) := by decide +kernel
theorem dL_areCodes_593 : decode cL_areCodes 593 = .ok (.istore 20, 2) := by decide +kernel
theorem dL_areCodes_595 : decode cL_areCodes 595 = .ok (.iconst 0, 1) := by decide +kernel
theorem dL_areCodes_596 : decode cL_areCodes 596 = .ok (.istore 21, 2) := by decide +kernel
theorem dL_areCodes_598 : decode cL_areCodes 598 = .ok (.iconst 0, 1) := by decide +kernel
theorem dL_areCodes_599 : decode cL_areCodes 599 = .ok (.istore 22, 2) := by decide +kernel
theorem dL_areCodes_601 : decode cL_areCodes 601 = .ok (.iload 22, 2) := by decide +kernel
theorem dL_areCodes_603 : decode cL_areCodes 603 = .ok (.iload 5, 2) := by decide +kernel
theorem dL_areCodes_605 : decode cL_areCodes 605 = .ok (.if_icmp .ge 52, 3) := by decide +kernel
theorem dL_areCodes_608 : decode cL_areCodes 608 = .ok (.iload 17, 2) := by decide +kernel
theorem dL_areCodes_610 : decode cL_areCodes 610 = .ok (.iconst 1, 1) := by decide +kernel
theorem dL_areCodes_611 : decode cL_areCodes 611 = .ok (.iadd, 1) := by decide +kernel
theorem dL_areCodes_612 : decode cL_areCodes 612 = .ok (.iload 12, 2) := by decide +kernel
theorem dL_areCodes_614 : decode cL_areCodes 614 = .ok (.isub, 1) := by decide +kernel
theorem dL_areCodes_615 : decode cL_areCodes 615 = .ok (.iconst 2, 1) := by decide +kernel
theorem dL_areCodes_616 : decode cL_areCodes 616 = .ok (.iload 5, 2) := by decide +kernel
theorem dL_areCodes_618 : decode cL_areCodes 618 = .ok (.imul, 1) := by decide +kernel
theorem dL_areCodes_619 : decode cL_areCodes 619 = .ok (.if_icmp .lt 38, 3) := by decide +kernel
theorem dL_areCodes_622 : decode cL_areCodes 622 = .ok (.iload 20, 2) := by decide +kernel
theorem dL_areCodes_624 : decode cL_areCodes 624 = .ok (.aload 8, 2) := by decide +kernel
theorem dL_areCodes_626 : decode cL_areCodes 626 = .ok (.iload 17, 2) := by decide +kernel
theorem dL_areCodes_628 : decode cL_areCodes 628 = .ok (.iload 22, 2) := by decide +kernel
theorem dL_areCodes_630 : decode cL_areCodes 630 = .ok (.isub, 1) := by decide +kernel
theorem dL_areCodes_631 : decode cL_areCodes 631 = .ok (.iaload, 1) := by decide +kernel
theorem dL_areCodes_632 : decode cL_areCodes 632 = .ok (.iadd, 1) := by decide +kernel
theorem dL_areCodes_633 : decode cL_areCodes 633 = .ok (.istore 20, 2) := by decide +kernel
theorem dL_areCodes_635 : decode cL_areCodes 635 = .ok (.iload 21, 2) := by decide +kernel
theorem dL_areCodes_637 : decode cL_areCodes 637 = .ok (.aload 8, 2) := by decide +kernel
theorem dL_areCodes_639 : decode cL_areCodes 639 = .ok (.iload 17, 2) := by decide +kernel
theorem dL_areCodes_641 : decode cL_areCodes 641 = .ok (.iload 5, 2) := by decide +kernel
theorem dL_areCodes_643 : decode cL_areCodes 643 = .ok (.isub, 1) := by decide +kernel
theorem dL_areCodes_644 : decode cL_areCodes 644 = .ok (.iload 22, 2) := by decide +kernel
theorem dL_areCodes_646 : decode cL_areCodes 646 = .ok (.isub, 1) := by decide +kernel
theorem dL_areCodes_647 : decode cL_areCodes 647 = .ok (.iaload, 1) := by decide +kernel
theorem dL_areCodes_648 : decode cL_areCodes 648 = .ok (.iadd, 1) := by decide +kernel
theorem dL_areCodes_649 : decode cL_areCodes 649 = .ok (.istore 21, 2) := by decide +kernel
theorem dL_areCodes_651 : decode cL_areCodes 651 = .ok (.iinc 22 1, 3) := by decide +kernel
theorem dL_areCodes_654 : decode cL_areCodes 654 = .ok (.goto (-53), 3) := by decide +kernel
theorem dL_areCodes_657 : decode cL_areCodes 657 = .ok (.iload 11, 2) := by decide +kernel
theorem dL_areCodes_659 : decode cL_areCodes 659 = .ok (.iload_n 3, 1) := by decide +kernel
theorem dL_areCodes_660 : decode cL_areCodes 660 = .ok (.if_icmp .ne 26, 3) := by decide +kernel
theorem dL_areCodes_663 : decode cL_areCodes 663 = .ok (.iload 4, 2) := by decide +kernel
theorem dL_areCodes_665 : decode cL_areCodes 665 = .ok (.iconst 1, 1) := by decide +kernel
theorem dL_areCodes_666 : decode cL_areCodes 666 = .ok (.if_icmp .eq 16, 3) := by decide +kernel
theorem dL_areCodes_669 : decode cL_areCodes 669 = .ok (.iload 4, 2) := by decide +kernel
theorem dL_areCodes_671 : decode cL_areCodes 671 = .ok (.iconst 2, 1) := by decide +kernel
theorem dL_areCodes_672 : decode cL_areCodes 672 = .ok (.if_icmp .ne 14, 3) := by decide +kernel
theorem dL_areCodes_675 : decode cL_areCodes 675 = .ok (.iload 20, 2) := by decide +kernel
theorem dL_areCodes_677 : decode cL_areCodes 677 = .ok (.iload 21, 2) := by decide +kernel
theorem dL_areCodes_679 : decode cL_areCodes 679 = .ok (.if_icmp .ge 7, 3) := by decide +kernel
theorem dL_areCodes_682 : decode cL_areCodes 682 = .ok (.iconst 1, 1) := by decide +kernel
theorem dL_areCodes_683 : decode cL_areCodes 683 = .ok (.goto 4, 3) := by decide +kernel
theorem dL_areCodes_686 : decode cL_areCodes 686 = .ok (.iconst 0, 1) := by decide +kernel
theorem dL_areCodes_687 : decode cL_areCodes 687 = .ok (.istore 16, 2) := by decide +kernel
theorem dL_areCodes_689 : decode cL_areCodes 689 = .ok (.iinc 17 1, 3) := by decide +kernel
theorem dL_areCodes_692 : decode cL_areCodes 692 = .ok (.goto (-558), 3) := by decide +kernel
theorem dL_areCodes_695 : decode cL_areCodes 695 = .ok (.iload 9, 2) := by decide +kernel
theorem dL_areCodes_697 : decode cL_areCodes 697 = .ok (.iload_n 2, 1) := by decide +kernel
theorem dL_areCodes_698 : decode cL_areCodes 698 = .ok (.if_icmp .ne 57, 3) := by decide +kernel
theorem dL_areCodes_701 : decode cL_areCodes 701 = .ok (.aload_n 0, 1) := by decide +kernel
theorem dL_areCodes_702 : decode cL_areCodes 702 = .ok (.iconst 2, 1) := by decide +kernel
theorem dL_areCodes_703 : decode cL_areCodes 703 = .ok (.invokevirtual 8, 3) := by decide +kernel
theorem dL_areCodes_706 : decode cL_areCodes 706 = .ok (.iload 13, 2) := by decide +kernel
theorem dL_areCodes_708 : decode cL_areCodes 708 = .ok (.if_icmp .ne 47, 3) := by decide +kernel
theorem dL_areCodes_711 : decode cL_areCodes 711 = .ok (.aload_n 0, 1) := by decide +kernel
theorem dL_areCodes_712 : decode cL_areCodes 712 = .ok (.iconst 3, 1) := by decide +kernel
theorem dL_areCodes_713 : decode cL_areCodes 713 = .ok (.invokevirtual 8, 3) := by decide +kernel
theorem dL_areCodes_716 : decode cL_areCodes 716 = .ok (.iload 14, 2) := by decide +kernel
theorem dL_areCodes_718 : decode cL_areCodes 718 = .ok (.if_icmp .ne 37, 3) := by decide +kernel
theorem dL_areCodes_721 : decode cL_areCodes 721 = .ok (.aload_n 0, 1) := by decide +kernel
theorem dL_areCodes_722 : decode cL_areCodes 722 = .ok (.iconst 4, 1) := by decide +kernel
theorem dL_areCodes_723 : decode cL_areCodes 723 = .ok (.invokevirtual 8, 3) := by decide +kernel
theorem dL_areCodes_726 : decode cL_areCodes 726 = .ok (.iload 11, 2) := by decide +kernel
theorem dL_areCodes_728 : decode cL_areCodes 728 = .ok (.if_icmp .ne 27, 3) := by decide +kernel
theorem dL_areCodes_731 : decode cL_areCodes 731 = .ok (.aload_n 0, 1) := by decide +kernel
theorem dL_areCodes_732 : decode cL_areCodes 732 = .ok (.iconst 5, 1) := by decide +kernel
theorem dL_areCodes_733 : decode cL_areCodes 733 = .ok (.invokevirtual 8, 3) := by decide +kernel
theorem dL_areCodes_736 : decode cL_areCodes 736 = .ok (.iload 15, 2) := by decide +kernel
theorem dL_areCodes_738 : decode cL_areCodes 738 = .ok (.if_icmp .ne 17, 3) := by decide +kernel
theorem dL_areCodes_741 : decode cL_areCodes 741 = .ok (.aload_n 0, 1) := by decide +kernel
theorem dL_areCodes_742 : decode cL_areCodes 742 = .ok (.iload_n 1, 1) := by decide +kernel
theorem dL_areCodes_743 : decode cL_areCodes 743 = .ok (.iconst 0, 1) := by decide +kernel
theorem dL_areCodes_744 : decode cL_areCodes 744 = .ok (.invokevirtual 17, 3) := by decide +kernel
theorem dL_areCodes_747 : decode cL_areCodes 747 = .ok (.iconst (-1), 1) := by decide +kernel
theorem dL_areCodes_748 : decode cL_areCodes 748 = .ok (.if_icmp .ne 7, 3) := by decide +kernel
theorem dL_areCodes_751 : decode cL_areCodes 751 = .ok (.iconst 1, 1) := by decide +kernel
theorem dL_areCodes_752 : decode cL_areCodes 752 = .ok (.goto 4, 3) := by decide +kernel
theorem dL_areCodes_755 : decode cL_areCodes 755 = .ok (.iconst 0, 1) := by decide +kernel
theorem dL_areCodes_756 : decode cL_areCodes 756 = .ok (.ireturn, 1) := by decide +kernel
theorem dL_areEntries_0 : decode cL_areEntries 0 = .ok (.aload_n 0, 1) := by decide +kernel
theorem dL_areEntries_1 : decode cL_areEntries 1 = .ok (.iconst 1, 1) := by decide +kernel
theorem dL_areEntries_2 : decode cL_areEntries 2 = .ok (.invokevirtual 8, 3) := by decide +kernel
theorem dL_areEntries_5 : decode cL_areEntries 5 = .ok (.istore_n 1, 1) := by decide +kernel
theorem dL_areEntries_6 : decode cL_areEntries 6 = .ok (.iconst 0, 1) := by decide +kernel
theorem dL_areEntries_7 : decode cL_areEntries 7 = .ok (.istore_n 2, 1) := by decide +kernel
theorem dL_areEntries_8 : decode cL_areEntries 8 = .ok (.iconst 0, 1) := by decide +kernel
theorem dL_areEntries_9 : decode cL_areEntries 9 = .ok (.istore_n 3, 1) := by decide +kernel
theorem dL_areEntries_10 : decode cL_areEntries 10 = .ok (.iload_n 3, 1) := by decide +kernel
theorem dL_areEntries_11 : decode cL_areEntries 11 = .ok (.iload_n 1, 1) := by decide +kernel
theorem dL_areEntries_12 : decode cL_areEntries 12 = .ok (.if_icmp .ge 28, 3) := by decide +kernel
theorem dL_areEntries_15 : decode cL_areEntries 15 = .ok (.aload_n 0, 1) := by decide +kernel
theorem dL_areEntries_16 : decode cL_areEntries 16 = .ok (.iload_n 3, 1) := by decide +kernel
theorem dL_areEntries_17 : decode cL_areEntries 17 = .ok (.iconst 0, 1) := by decide +kernel
theorem dL_areEntries_18 : decode cL_areEntries 18 = .ok (.invokevirtual 17, 3) := by decide +kernel
theorem dL_areEntries_21 : decode cL_areEntries 21 = .ok (.bipush 8, 2) := by decide +kernel
theorem dL_areEntries_23 : decode cL_areEntries 23 = .ok (.if_icmp .ne 9, 3) := by decide +kernel
theorem dL_areEntries_26 : decode cL_areEntries 26 = .ok (.iload_n 3, 1) := by decide +kernel
theorem dL_areEntries_27 : decode cL_areEntries 27 = .ok (.iconst 1, 1) := by decide +kernel
theorem dL_areEntries_28 : decode cL_areEntries 28 = .ok (.iadd, 1) := by decide +kernel
theorem dL_areEntries_29 : decode cL_areEntries 29 = .ok (.goto 4, 3) := by decide +kernel
theorem dL_areEntries_32 : decode cL_areEntries 32 = .ok (.iload_n 2, 1) := by decide +kernel
theorem dL_areEntries_33 : decode cL_areEntries 33 = .ok (.istore_n 2, 1) := by decide +kernel
theorem dL_areEntries_34 : decode cL_areEntries 34 = .ok (.iinc 3 1, 3) := by decide +kernel
theorem dL_areEntries_37 : decode cL_areEntries 37 = .ok (.goto (-27), 3) := by decide +kernel
theorem dL_areEntries_40 : decode cL_areEntries 40 = .ok (.iconst 0, 1) := by decide +kernel
theorem dL_areEntries_41 : decode cL_areEntries 41 = .ok (.istore_n 3, 1) := by decide +kernel
theorem dL_areEntries_42 : decode cL_areEntries 42 = .ok (.iload_n 3, 1) := by decide +kernel
theorem dL_areEntries_43 : decode cL_areEntries 43 = .ok (.aload_n 0, 1) := by decide +kernel
theorem dL_areEntries_44 : decode cL_areEntries 44 = .ok (.iconst 4, 1) := by decide +kernel
theorem dL_areEntries_45 : decode cL_areEntries 45 = .ok (.invokevirtual 8, 3) := by decide +kernel
theorem dL_areEntries_48 : decode cL_areEntries 48 = .ok (.if_icmp .ge 143, 3) := by decide +kernel
theorem dL_areEntries_51 : decode cL_areEntries 51 = .ok (.aload_n 0, 1) := by decide +kernel
theorem dL_areEntries_52 : decode cL_areEntries 52 = .ok (.iload_n 3, 1) := by decide +kernel
theorem dL_areEntries_53 : decode cL_areEntries 53 = .ok (.iconst 0, 1) := by decide +kernel
theorem dL_areEntries_54 : decode cL_areEntries 54 = .ok (.invokevirtual 30, 3) := by decide +kernel
theorem dL_areEntries_57 : decode cL_areEntries 57 = .ok (.istore 4, 2) := by decide +kernel
theorem dL_areEntries_59 : decode cL_areEntries 59 = .ok (.iload_n 3, 1) := by decide +kernel
theorem dL_areEntries_60 : decode cL_areEntries 60 = .ok (.bipush 10, 2) := by decide +kernel
theorem dL_areEntries_62 : decode cL_areEntries 62 = .ok (.if_icmp .ge 54, 3) := by decide +kernel
theorem dL_areEntries_65 : decode cL_areEntries 65 = .ok (.iload 4, 2) := by decide +kernel
theorem dL_areEntries_67 : decode cL_areEntries 67 = .ok (.iload_n 3, 1) := by decide +kernel
theorem dL_areEntries_68 : decode cL_areEntries 68 = .ok (.bipush 8, 2) := by decide +kernel
theorem dL_areEntries_70 : decode cL_areEntries 70 = .ok (.if_icmp .ge 7, 3) := by decide +kernel
theorem dL_areEntries_73 : decode cL_areEntries 73 = .ok (.iconst 1, 1) := by decide +kernel
theorem dL_areEntries_74 : decode cL_areEntries 74 = .ok (.goto 4, 3) := by decide +kernel
theorem dL_areEntries_77 : decode cL_areEntries 77 = .ok (.iconst 0, 1) := by decide +kernel
theorem dL_areEntries_78 : decode cL_areEntries 78 = .ok (.if_icmp .ne 105, 3) := by decide +kernel
theorem dL_areEntries_81 : decode cL_areEntries 81 = .ok (.aload_n 0, 1) := by decide +kernel
theorem dL_areEntries_82 : decode cL_areEntries 82 = .ok (.iload_n 3, 1) := by decide +kernel
theorem dL_areEntries_83 : decode cL_areEntries 83 = .ok (.iconst 1, 1) := by decide +kernel
theorem dL_areEntries_84 : decode cL_areEntries 84 = .ok (.invokevirtual 30, 3) := by decide +kernel
theorem dL_areEntries_87 : decode cL_areEntries 87 = .ok (.iload_n 3, 1) := by decide +kernel
theorem dL_areEntries_88 : decode cL_areEntries 88 = .ok (.bipush 8, 2) := by decide +kernel
theorem dL_areEntries_90 : decode cL_areEntries 90 = .ok (.if_icmp .ge 7, 3) := by decide +kernel
theorem dL_areEntries_93 : decode cL_areEntries 93 = .ok (.iload_n 3, 1) := by decide +kernel
theorem dL_areEntries_94 : decode cL_areEntries 94 = .ok (.goto 5, 3) := by decide +kernel
theorem dL_areEntries_97 : decode cL_areEntries 97 = .ok (.bipush (-6), 2) := by decide +kernel
theorem dL_areEntries_99 : decode cL_areEntries 99 = .ok (.if_icmp .ne 84, 3) := by decide +kernel
theorem dL_areEntries_102 : decode cL_areEntries 102 = .ok (.aload_n 0, 1) := by decide +kernel
theorem dL_areEntries_103 : decode cL_areEntries 103 = .ok (.iload_n 3, 1) := by decide +kernel
theorem dL_areEntries_104 : decode cL_areEntries 104 = .ok (.iconst 2, 1) := by decide +kernel
theorem dL_areEntries_105 : decode cL_areEntries 105 = .ok (.invokevirtual 30, 3) := by decide +kernel
theorem dL_areEntries_108 : decode cL_areEntries 108 = .ok (.bipush (-6), 2) := by decide +kernel
theorem dL_areEntries_110 : decode cL_areEntries 110 = .ok (.if_icmp .eq 75, 3) := by decide +kernel
theorem dL_areEntries_113 : decode cL_areEntries 113 = .ok (.goto 70, 3) := by decide +kernel
theorem dL_areEntries_116 : decode cL_areEntries 116 = .ok (.iload 4, 2) := by decide +kernel
theorem dL_areEntries_118 : decode cL_areEntries 118 = .ok (.aload_n 0, 1) := by decide +kernel
theorem dL_areEntries_119 : decode cL_areEntries 119 = .ok (.iload_n 2, 1) := by decide +kernel
theorem dL_areEntries_120 : decode cL_areEntries 120 = .ok (.iload_n 3, 1) := by decide +kernel
theorem dL_areEntries_121 : decode cL_areEntries 121 = .ok (.iadd, 1) := by decide +kernel
theorem dL_areEntries_122 : decode cL_areEntries 122 = .ok (.bipush 10, 2) := by decide +kernel
theorem dL_areEntries_124 : decode cL_areEntries 124 = .ok (.isub, 1) := by decide +kernel
theorem dL_areEntries_125 : decode cL_areEntries 125 = .ok (.iconst 4, 1) := by decide +kernel
theorem dL_areEntries_126 : decode cL_areEntries 126 = .ok (.invokevirtual 17, 3) := by decide +kernel
theorem dL_areEntries_129 : decode cL_areEntries 129 = .ok (.iconst 1, 1) := by decide +kernel
theorem dL_areEntries_130 : decode cL_areEntries 130 = .ok (.iadd, 1) := by decide +kernel
theorem dL_areEntries_131 : decode cL_areEntries 131 = .ok (.if_icmp .ne 52, 3) := by decide +kernel
theorem dL_areEntries_134 : decode cL_areEntries 134 = .ok (.aload_n 0, 1) := by decide +kernel
theorem dL_areEntries_135 : decode cL_areEntries 135 = .ok (.iload_n 3, 1) := by decide +kernel
theorem dL_areEntries_136 : decode cL_areEntries 136 = .ok (.iconst 2, 1) := by decide +kernel
theorem dL_areEntries_137 : decode cL_areEntries 137 = .ok (.invokevirtual 30, 3) := by decide +kernel
theorem dL_areEntries_140 : decode cL_areEntries 140 = .ok (.aload_n 0, 1) := by decide +kernel
theorem dL_areEntries_141 : decode cL_areEntries 141 = .ok (.iload_n 2, 1) := by decide +kernel
theorem dL_areEntries_142 : decode cL_areEntries 142 = .ok (.iload_n 3, 1) := by decide +kernel
theorem dL_areEntries_143 : decode cL_areEntries 143 = .ok (.iadd, 1) := by decide +kernel
theorem dL_areEntries_144 : decode cL_areEntries 144 = .ok (.bipush 10, 2) := by decide +kernel
theorem dL_areEntries_146 : decode cL_areEntries 146 = .ok (.isub, 1) := by decide +kernel
theorem dL_areEntries_147 : decode cL_areEntries 147 = .ok (.iconst 0, 1) := by decide +kernel
theorem dL_areEntries_148 : decode cL_areEntries 148 = .ok (.invokevirtual 17, 3) := by decide +kernel
theorem dL_areEntries_151 : decode cL_areEntries 151 = .ok (.if_icmp .ne 32, 3) := by decide +kernel
theorem dL_areEntries_154 : decode cL_areEntries 154 = .ok (.aload_n 0, 1) := by decide +kernel
theorem dL_areEntries_155 : decode cL_areEntries 155 = .ok (.iload_n 3, 1) := by decide +kernel
theorem dL_areEntries_156 : decode cL_areEntries 156 = .ok (.iconst 1, 1) := by decide +kernel
theorem dL_areEntries_157 : decode cL_areEntries 157 = .ok (.invokevirtual 30, 3) := by decide +kernel
theorem dL_areEntries_160 : decode cL_areEntries 160 = .ok (.aload_n 0, 1) := by decide +kernel
theorem dL_areEntries_161 : decode cL_areEntries 161 = .ok (.aload_n 0, 1) := by decide +kernel
theorem dL_areEntries_162 : decode cL_areEntries 162 = .ok (.iload_n 2, 1) := by decide +kernel
theorem dL_areEntries_163 : decode cL_areEntries 163 = .ok (.iload_n 3, 1) := by decide +kernel
theorem dL_areEntries_164 : decode cL_areEntries 164 = .ok (.iadd, 1) := by decide +kernel
theorem dL_areEntries_165 : decode cL_areEntries 165 = .ok (.bipush 10, 2) := by decide +kernel
theorem dL_areEntries_167 : decode cL_areEntries 167 = .ok (.isub, 1) := by decide +kernel
theorem dL_areEntries_168 : decode cL_areEntries 168 = .ok (.iconst 3, 1) := by decide +kernel
theorem dL_areEntries_169 : decode cL_areEntries 169 = .ok (.invokevirtual 17, 3) := by decide +kernel
theorem dL_areEntries_172 : decode cL_areEntries 172 = .ok (.iload 4, 2) := by decide +kernel
theorem dL_areEntries_174 : decode cL_areEntries 174 = .ok (.iadd, 1) := by decide +kernel
theorem dL_areEntries_175 : decode cL_areEntries 175 = .ok (.iconst 1, 1) := by decide +kernel
theorem dL_areEntries_176 : decode cL_areEntries 176 = .ok (.isub, 1) := by decide +kernel
theorem dL_areEntries_177 : decode cL_areEntries 177 = .ok (.invokevirtual 14, 3) := by decide +kernel
theorem dL_areEntries_180 : decode cL_areEntries 180 = .ok (.if_icmp .eq 5, 3) := by decide +kernel
theorem dL_areEntries_183 : decode cL_areEntries 183 = .ok (.iconst 0, 1) := by decide +kernel
theorem dL_areEntries_184 : decode cL_areEntries 184 = .ok (.ireturn, 1) := by decide +kernel
theorem dL_areEntries_185 : decode cL_areEntries 185 = .ok (.iinc 3 1, 3) := by decide +kernel
theorem dL_areEntries_188 : decode cL_areEntries 188 = .ok (.goto (-146), 3) := by decide +kernel
theorem dL_areEntries_191 : decode cL_areEntries 191 = .ok (.aload_n 0, 1) := by decide +kernel
theorem dL_areEntries_192 : decode cL_areEntries 192 = .ok (.aload_n 0, 1) := by decide +kernel
theorem dL_areEntries_193 : decode cL_areEntries 193 = .ok (.iconst 4, 1) := by decide +kernel
theorem dL_areEntries_194 : decode cL_areEntries 194 = .ok (.invokevirtual 8, 3) := by decide +kernel
theorem dL_areEntries_197 : decode cL_areEntries 197 = .ok (.iconst 0, 1) := by decide +kernel
theorem dL_areEntries_198 : decode cL_areEntries 198 = .ok (.invokevirtual 30, 3) := by decide +kernel
theorem dL_areEntries_201 : decode cL_areEntries 201 = .ok (.iconst (-1), 1) := by decide +kernel
theorem dL_areEntries_202 : decode cL_areEntries 202 = .ok (.if_icmp .ne 7, 3) := by decide +kernel
theorem dL_areEntries_205 : decode cL_areEntries 205 = .ok (.iconst 1, 1) := by decide +kernel
theorem dL_areEntries_206 : decode cL_areEntries 206 = .ok (.goto 4, 3) := by decide +kernel
theorem dL_areEntries_209 : decode cL_areEntries 209 = .ok (.iconst 0, 1) := by decide +kernel
theorem dL_areEntries_210 : decode cL_areEntries 210 = .ok (.ireturn, 1) := by decide +kernel
theorem dL_isRead_0 : decode cL_isRead 0 = .ok (.aload_n 0, 1) := by decide +kernel
theorem dL_isRead_1 : decode cL_isRead 1 = .ok (.iconst 1, 1) := by decide +kernel
theorem dL_isRead_2 : decode cL_isRead 2 = .ok (.invokevirtual 8, 3) := by decide +kernel
theorem dL_isRead_5 : decode cL_isRead 5 = .ok (.istore_n 1, 1) := by decide +kernel
theorem dL_isRead_6 : decode cL_isRead 6 = .ok (.iconst 1, 1) := by decide +kernel
theorem dL_isRead_7 : decode cL_isRead 7 = .ok (.aload_n 0, 1) := by decide +kernel
theorem dL_isRead_8 : decode cL_isRead 8 = .ok (.bipush 9, 2) := by decide +kernel
theorem dL_isRead_10 : decode cL_isRead 10 = .ok (.invokevirtual 8, 3) := by decide +kernel
theorem dL_isRead_13 : decode cL_isRead 13 = .ok (.ishl, 1) := by decide +kernel
theorem dL_isRead_14 : decode cL_isRead 14 = .ok (.istore_n 2, 1) := by decide +kernel
theorem dL_isRead_15 : decode cL_isRead 15 = .ok (.bipush 64, 2) := by decide +kernel
theorem dL_isRead_17 : decode cL_isRead 17 = .ok (.newarray .int, 2) := by decide +kernel
theorem dL_isRead_19 : decode cL_isRead 19 = .ok (.astore_n 3, 1) := by decide +kernel
theorem dL_isRead_20 : decode cL_isRead 20 = .ok (.bipush 64, 2) := by decide +kernel
theorem dL_isRead_22 : decode cL_isRead 22 = .ok (.newarray .int, 2) := by decide +kernel
theorem dL_isRead_24 : decode cL_isRead 24 = .ok (.astore 4, 2) := by decide +kernel
theorem dL_isRead_26 : decode cL_isRead 26 = .ok (.bipush 10, 2) := by decide +kernel
theorem dL_isRead_28 : decode cL_isRead 28 = .ok (.istore 5, 2) := by decide +kernel
theorem dL_isRead_30 : decode cL_isRead 30 = .ok (.iconst 0, 1) := by decide +kernel
theorem dL_isRead_31 : decode cL_isRead 31 = .ok (.istore 6, 2) := by decide +kernel
theorem dL_isRead_33 : decode cL_isRead 33 = .ok (.iconst 0, 1) := by decide +kernel
theorem dL_isRead_34 : decode cL_isRead 34 = .ok (.istore 7, 2) := by decide +kernel
theorem dL_isRead_36 : decode cL_isRead 36 = .ok (.iconst 0, 1) := by decide +kernel
theorem dL_isRead_37 : decode cL_isRead 37 = .ok (.istore 8, 2) := by decide +kernel
theorem dL_isRead_39 : decode cL_isRead 39 = .ok (.iconst 0, 1) := by decide +kernel
theorem dL_isRead_40 : decode cL_isRead 40 = .ok (.istore 9, 2) := by decide +kernel
theorem dL_isRead_42 : decode cL_isRead 42 = .ok (.bipush (-6), 2) := by decide +kernel
theorem dL_isRead_44 : decode cL_isRead 44 = .ok (.istore 10, 2) := by decide +kernel
theorem dL_isRead_46 : decode cL_isRead 46 = .ok (.iconst 0, 1) := by decide +kernel
theorem dL_isRead_47 : decode cL_isRead 47 = .ok (.istore 11, 2) := by decide +kernel
theorem dL_isRead_49 : decode cL_isRead 49 = .ok (.iconst 0, 1) := by decide +kernel
theorem dL_isRead_50 : decode cL_isRead 50 = .ok (.istore 12, 2) := by decide +kernel
theorem dL_isRead_52 : decode cL_isRead 52 = .ok (.iconst 0, 1) := by decide +kernel
theorem dL_isRead_53 : decode cL_isRead 53 = .ok (.istore 13, 2) := by decide +kernel
theorem dL_isRead_55 : decode cL_isRead 55 = .ok (.iload 13, 2) := by decide +kernel
theorem dL_isRead_57 : decode cL_isRead 57 = .ok (.iload_n 1, 1) := by decide +kernel
theorem dL_isRead_58 : decode cL_isRead 58 = .ok (.if_icmp .ge 305, 3) := by decide +kernel
theorem dL_isRead_61 : decode cL_isRead 61 = .ok (.iload 11, 2) := by decide +kernel
theorem dL_isRead_63 : decode cL_isRead 63 = .ok (.ifCond .ne 300, 3) := by decide +kernel
theorem dL_isRead_66 : decode cL_isRead 66 = .ok (.aload_n 0, 1) := by decide +kernel
theorem dL_isRead_67 : decode cL_isRead 67 = .ok (.iload 13, 2) := by decide +kernel
theorem dL_isRead_69 : decode cL_isRead 69 = .ok (.iconst 1, 1) := by decide +kernel
theorem dL_isRead_70 : decode cL_isRead 70 = .ok (.invokevirtual 17, 3) := by decide +kernel
theorem dL_isRead_73 : decode cL_isRead 73 = .ok (.istore 14, 2) := by decide +kernel
theorem dL_isRead_75 : decode cL_isRead 75 = .ok (.iload 7, 2) := by decide +kernel
theorem dL_isRead_77 : decode cL_isRead 77 = .ok (.iload 6, 2) := by decide +kernel
theorem dL_isRead_79 : decode cL_isRead 79 = .ok (.if_icmp .le 7, 3) := by decide +kernel
theorem dL_isRead_82 : decode cL_isRead 82 = .ok (.iconst 1, 1) := by decide +kernel
theorem dL_isRead_83 : decode cL_isRead 83 = .ok (.goto 4, 3) := by decide +kernel
theorem dL_isRead_86 : decode cL_isRead 86 = .ok (.iconst 0, 1) := by decide +kernel
theorem dL_isRead_87 : decode cL_isRead 87 = .ok (.istore 15, 2) := by decide +kernel
theorem dL_isRead_89 : decode cL_isRead 89 = .ok (.iload 14, 2) := by decide +kernel
theorem dL_isRead_91 : decode cL_isRead 91 = .ok (.iload 5, 2) := by decide +kernel
theorem dL_isRead_93 : decode cL_isRead 93 = .ok (.if_icmp .ne 18, 3) := by decide +kernel
theorem dL_isRead_96 : decode cL_isRead 96 = .ok (.iload 15, 2) := by decide +kernel
theorem dL_isRead_98 : decode cL_isRead 98 = .ok (.ifCond .eq 13, 3) := by decide +kernel
theorem dL_isRead_101 : decode cL_isRead 101 = .ok (.iload 5, 2) := by decide +kernel
theorem dL_isRead_103 : decode cL_isRead 103 = .ok (.iload_n 2, 1) := by decide +kernel
theorem dL_isRead_104 : decode cL_isRead 104 = .ok (.if_icmp .ge 7, 3) := by decide +kernel
theorem dL_isRead_107 : decode cL_isRead 107 = .ok (.iconst 1, 1) := by decide +kernel
theorem dL_isRead_108 : decode cL_isRead 108 = .ok (.goto 4, 3) := by decide +kernel
theorem dL_isRead_111 : decode cL_isRead 111 = .ok (.iconst 0, 1) := by decide +kernel
theorem dL_isRead_112 : decode cL_isRead 112 = .ok (.istore 16, 2) := by decide +kernel
theorem dL_isRead_114 : decode cL_isRead 114 = .ok (.iload 12, 2) := by decide +kernel
theorem dL_isRead_116 : decode cL_isRead 116 = .ok (.ifCond .eq 13, 3) := by decide +kernel
theorem dL_isRead_119 : decode cL_isRead 119 = .ok (.iload 13, 2) := by decide +kernel
theorem dL_isRead_121 : decode cL_isRead 121 = .ok (.istore 10, 2) := by decide +kernel
theorem dL_isRead_123 : decode cL_isRead 123 = .ok (.iconst 3, 1) := by decide +kernel
theorem dL_isRead_124 : decode cL_isRead 124 = .ok (.istore 11, 2) := by decide +kernel
theorem dL_isRead_126 : decode cL_isRead 126 = .ok (.goto 231, 3) := by decide +kernel
theorem dL_isRead_129 : decode cL_isRead 129 = .ok (.iload 14, 2) := by decide +kernel
theorem dL_isRead_131 : decode cL_isRead 131 = .ok (.bipush 9, 2) := by decide +kernel
theorem dL_isRead_133 : decode cL_isRead 133 = .ok (.if_icmp .ne 9, 3) := by decide +kernel
theorem dL_isRead_136 : decode cL_isRead 136 = .ok (.iconst 1, 1) := by decide +kernel
theorem dL_isRead_137 : decode cL_isRead 137 = .ok (.istore 12, 2) := by decide +kernel
theorem dL_isRead_139 : decode cL_isRead 139 = .ok (.goto 218, 3) := by decide +kernel
theorem dL_isRead_142 : decode cL_isRead 142 = .ok (.iload 14, 2) := by decide +kernel
theorem dL_isRead_144 : decode cL_isRead 144 = .ok (.bipush 8, 2) := by decide +kernel
theorem dL_isRead_146 : decode cL_isRead 146 = .ok (.if_icmp .ne 14, 3) := by decide +kernel
theorem dL_isRead_149 : decode cL_isRead 149 = .ok (.iload 7, 2) := by decide +kernel
theorem dL_isRead_151 : decode cL_isRead 151 = .ok (.istore 6, 2) := by decide +kernel
theorem dL_isRead_153 : decode cL_isRead 153 = .ok (.bipush 10, 2) := by decide +kernel
theorem dL_isRead_155 : decode cL_isRead 155 = .ok (.istore 5, 2) := by decide +kernel
theorem dL_isRead_157 : decode cL_isRead 157 = .ok (.goto 200, 3) := by decide +kernel
theorem dL_isRead_160 : decode cL_isRead 160 = .ok (.iload 14, 2) := by decide +kernel
theorem dL_isRead_162 : decode cL_isRead 162 = .ok (.bipush 8, 2) := by decide +kernel
theorem dL_isRead_164 : decode cL_isRead 164 = .ok (.if_icmp .lt 15, 3) := by decide +kernel
theorem dL_isRead_167 : decode cL_isRead 167 = .ok (.iload 14, 2) := by decide +kernel
theorem dL_isRead_169 : decode cL_isRead 169 = .ok (.iload 5, 2) := by decide +kernel
theorem dL_isRead_171 : decode cL_isRead 171 = .ok (.if_icmp .lt 8, 3) := by decide +kernel
theorem dL_isRead_174 : decode cL_isRead 174 = .ok (.iload 16, 2) := by decide +kernel
theorem dL_isRead_176 : decode cL_isRead 176 = .ok (.ifCond .eq 174, 3) := by decide +kernel
theorem dL_isRead_179 : decode cL_isRead 179 = .ok (.iload 14, 2) := by decide +kernel
theorem dL_isRead_181 : decode cL_isRead 181 = .ok (.bipush 8, 2) := by decide +kernel
theorem dL_isRead_183 : decode cL_isRead 183 = .ok (.if_icmp .ge 8, 3) := by decide +kernel
theorem dL_isRead_186 : decode cL_isRead 186 = .ok (.iload 8, 2) := by decide +kernel
theorem dL_isRead_188 : decode cL_isRead 188 = .ok (.goto 13, 3) := by decide +kernel
theorem dL_isRead_191 : decode cL_isRead 191 = .ok (.aload_n 3, 1) := by decide +kernel
theorem dL_isRead_192 : decode cL_isRead 192 = .ok (.iload 6, 2) := by decide +kernel
theorem dL_isRead_194 : decode cL_isRead 194 = .ok (.iload 14, 2) := by decide +kernel
theorem dL_isRead_196 : decode cL_isRead 196 = .ok (.iadd, 1) := by decide +kernel
theorem dL_isRead_197 : decode cL_isRead 197 = .ok (.bipush 10, 2) := by decide +kernel
theorem dL_isRead_199 : decode cL_isRead 199 = .ok (.isub, 1) := by decide +kernel
theorem dL_isRead_200 : decode cL_isRead 200 = .ok (.iaload, 1) := by decide +kernel
theorem dL_isRead_201 : decode cL_isRead 201 = .ok (.istore 17, 2) := by decide +kernel
theorem dL_isRead_203 : decode cL_isRead 203 = .ok (.iload 14, 2) := by decide +kernel
theorem dL_isRead_205 : decode cL_isRead 205 = .ok (.bipush 8, 2) := by decide +kernel
theorem dL_isRead_207 : decode cL_isRead 207 = .ok (.if_icmp .ge 7, 3) := by decide +kernel
theorem dL_isRead_210 : decode cL_isRead 210 = .ok (.iconst 1, 1) := by decide +kernel
theorem dL_isRead_211 : decode cL_isRead 211 = .ok (.goto 16, 3) := by decide +kernel
theorem dL_isRead_214 : decode cL_isRead 214 = .ok (.aload 4, 2) := by decide +kernel
theorem dL_isRead_216 : decode cL_isRead 216 = .ok (.iload 6, 2) := by decide +kernel
theorem dL_isRead_218 : decode cL_isRead 218 = .ok (.iload 14, 2) := by decide +kernel
theorem dL_isRead_220 : decode cL_isRead 220 = .ok (.iadd, 1) := by decide +kernel
theorem dL_isRead_221 : decode cL_isRead 221 = .ok (.bipush 10, 2) := by decide +kernel
theorem dL_isRead_223 : decode cL_isRead 223 = .ok (.isub, 1) := by decide +kernel
theorem dL_isRead_224 : decode cL_isRead 224 = .ok (.iaload, 1) := by decide +kernel
theorem dL_isRead_225 : decode cL_isRead 225 = .ok (.iconst 1, 1) := by decide +kernel
theorem dL_isRead_226 : decode cL_isRead 226 = .ok (.iadd, 1) := by decide +kernel
theorem dL_isRead_227 : decode cL_isRead 227 = .ok (.istore 18, 2) := by decide +kernel
theorem dL_isRead_229 : decode cL_isRead 229 = .ok (.iload 14, 2) := by decide +kernel
theorem dL_isRead_231 : decode cL_isRead 231 = .ok (.bipush 8, 2) := by decide +kernel
theorem dL_isRead_233 : decode cL_isRead 233 = .ok (.if_icmp .ge 16, 3) := by decide +kernel
theorem dL_isRead_236 : decode cL_isRead 236 = .ok (.aload_n 0, 1) := by decide +kernel
theorem dL_isRead_237 : decode cL_isRead 237 = .ok (.iload 8, 2) := by decide +kernel
theorem dL_isRead_239 : decode cL_isRead 239 = .ok (.invokevirtual 33, 3) := by decide +kernel
theorem dL_isRead_242 : decode cL_isRead 242 = .ok (.iload 14, 2) := by decide +kernel
theorem dL_isRead_244 : decode cL_isRead 244 = .ok (.if_icmp .eq 5, 3) := by decide +kernel
theorem dL_isRead_247 : decode cL_isRead 247 = .ok (.iconst 0, 1) := by decide +kernel
theorem dL_isRead_248 : decode cL_isRead 248 = .ok (.ireturn, 1) := by decide +kernel
theorem dL_isRead_249 : decode cL_isRead 249 = .ok (.iconst 0, 1) := by decide +kernel
theorem dL_isRead_250 : decode cL_isRead 250 = .ok (.istore 19, 2) := by decide +kernel
theorem dL_isRead_252 : decode cL_isRead 252 = .ok (.iload 19, 2) := by decide +kernel
theorem dL_isRead_254 : decode cL_isRead 254 = .ok (.iload 18, 2) := by decide +kernel
theorem dL_isRead_256 : decode cL_isRead 256 = .ok (.if_icmp .ge 32, 3) := by decide +kernel
theorem dL_isRead_259 : decode cL_isRead 259 = .ok (.aload_n 0, 1) := by decide +kernel
theorem dL_isRead_260 : decode cL_isRead 260 = .ok (.iload 8, 2) := by decide +kernel
theorem dL_isRead_262 : decode cL_isRead 262 = .ok (.iload 19, 2) := by decide +kernel
theorem dL_isRead_264 : decode cL_isRead 264 = .ok (.iadd, 1) := by decide +kernel
theorem dL_isRead_265 : decode cL_isRead 265 = .ok (.invokevirtual 33, 3) := by decide +kernel
theorem dL_isRead_268 : decode cL_isRead 268 = .ok (.aload_n 0, 1) := by decide +kernel
theorem dL_isRead_269 : decode cL_isRead 269 = .ok (.iload 17, 2) := by decide +kernel
theorem dL_isRead_271 : decode cL_isRead 271 = .ok (.iload 19, 2) := by decide +kernel
theorem dL_isRead_273 : decode cL_isRead 273 = .ok (.iadd, 1) := by decide +kernel
theorem dL_isRead_274 : decode cL_isRead 274 = .ok (.invokevirtual 33, 3) := by decide +kernel
theorem dL_isRead_277 : decode cL_isRead 277 = .ok (.if_icmp .eq 5, 3) := by decide +kernel
theorem dL_isRead_280 : decode cL_isRead 280 = .ok (.iconst 0, 1) := by decide +kernel
theorem dL_isRead_281 : decode cL_isRead 281 = .ok (.ireturn, 1) := by decide +kernel
theorem dL_isRead_282 : decode cL_isRead 282 = .ok (.iinc 19 1, 3) := by decide +kernel
theorem dL_isRead_285 : decode cL_isRead 285 = .ok (.goto (-33), 3) := by decide +kernel
theorem dL_isRead_288 : decode cL_isRead 288 = .ok (.aload_n 3, 1) := by decide +kernel
theorem dL_isRead_289 : decode cL_isRead 289 = .ok (.iload 7, 2) := by decide +kernel
theorem dL_isRead_291 : decode cL_isRead 291 = .ok (.iload 8, 2) := by decide +kernel
theorem dL_isRead_293 : decode cL_isRead 293 = .ok (.iastore, 1) := by decide +kernel
theorem dL_isRead_294 : decode cL_isRead 294 = .ok (.aload 4, 2) := by decide +kernel
theorem dL_isRead_296 : decode cL_isRead 296 = .ok (.iload 7, 2) := by decide +kernel
theorem dL_isRead_298 : decode cL_isRead 298 = .ok (.iload 18, 2) := by decide +kernel
theorem dL_isRead_300 : decode cL_isRead 300 = .ok (.iastore, 1) := by decide +kernel
theorem dL_isRead_301 : decode cL_isRead 301 = .ok (.iinc 7 1, 3) := by decide +kernel
theorem dL_isRead_304 : decode cL_isRead 304 = .ok (.iload 8, 2) := by decide +kernel
theorem dL_isRead_306 : decode cL_isRead 306 = .ok (.iload 18, 2) := by decide +kernel
theorem dL_isRead_308 : decode cL_isRead 308 = .ok (.iadd, 1) := by decide +kernel
theorem dL_isRead_309 : decode cL_isRead 309 = .ok (.istore 8, 2) := by decide +kernel
theorem dL_isRead_311 : decode cL_isRead 311 = .ok (.iload 9, 2) := by decide +kernel
theorem dL_isRead_313 : decode cL_isRead 313 = .ok (.iload 16, 2) := by decide +kernel
theorem dL_isRead_315 : decode cL_isRead 315 = .ok (.ifCond .eq 7, 3) := by decide +kernel
theorem dL_isRead_318 : decode cL_isRead 318 = .ok (.iconst 1, 1) := by decide +kernel
theorem dL_isRead_319 : decode cL_isRead 319 = .ok (.goto 4, 3) := by decide +kernel
theorem dL_isRead_322 : decode cL_isRead 322 = .ok (.iconst 0, 1) := by decide +kernel
theorem dL_isRead_323 : decode cL_isRead 323 = .ok (.iadd, 1) := by decide +kernel
theorem dL_isRead_324 : decode cL_isRead 324 = .ok (.istore 9, 2) := by decide +kernel
theorem dL_isRead_326 : decode cL_isRead 326 = .ok (.iload 5, 2) := by decide +kernel
theorem dL_isRead_328 : decode cL_isRead 328 = .ok (.iload 15, 2) := by decide +kernel
theorem dL_isRead_330 : decode cL_isRead 330 = .ok (.ifCond .eq 13, 3) := by decide +kernel
theorem dL_isRead_333 : decode cL_isRead 333 = .ok (.iload 5, 2) := by decide +kernel
theorem dL_isRead_335 : decode cL_isRead 335 = .ok (.iload_n 2, 1) := by decide +kernel
theorem dL_isRead_336 : decode cL_isRead 336 = .ok (.if_icmp .ge 7, 3) := by decide +kernel
theorem dL_isRead_339 : decode cL_isRead 339 = .ok (.iconst 1, 1) := by decide +kernel
theorem dL_isRead_340 : decode cL_isRead 340 = .ok (.goto 4, 3) := by decide +kernel
theorem dL_isRead_343 : decode cL_isRead 343 = .ok (.iconst 0, 1) := by decide +kernel
theorem dL_isRead_344 : decode cL_isRead 344 = .ok (.iadd, 1) := by decide +kernel
theorem dL_isRead_345 : decode cL_isRead 345 = .ok (.istore 5, 2) := by decide +kernel
theorem dL_isRead_347 : decode cL_isRead 347 = .ok (.goto 10, 3) := by decide +kernel
theorem dL_isRead_350 : decode cL_isRead 350 = .ok (.iload 13, 2) := by decide +kernel
theorem dL_isRead_352 : decode cL_isRead 352 = .ok (.istore 10, 2) := by decide +kernel
theorem dL_isRead_354 : decode cL_isRead 354 = .ok (.iconst 1, 1) := by decide +kernel
theorem dL_isRead_355 : decode cL_isRead 355 = .ok (.istore 11, 2) := by decide +kernel
theorem dL_isRead_357 : decode cL_isRead 357 = .ok (.iinc 13 1, 3) := by decide +kernel
theorem dL_isRead_360 : decode cL_isRead 360 = .ok (.goto (-305), 3) := by decide +kernel
theorem dL_isRead_363 : decode cL_isRead 363 = .ok (.iload 11, 2) := by decide +kernel
theorem dL_isRead_365 : decode cL_isRead 365 = .ok (.ifCond .ne 14, 3) := by decide +kernel
theorem dL_isRead_368 : decode cL_isRead 368 = .ok (.iload 12, 2) := by decide +kernel
theorem dL_isRead_370 : decode cL_isRead 370 = .ok (.ifCond .ne 9, 3) := by decide +kernel
theorem dL_isRead_373 : decode cL_isRead 373 = .ok (.iload_n 1, 1) := by decide +kernel
theorem dL_isRead_374 : decode cL_isRead 374 = .ok (.istore 10, 2) := by decide +kernel
theorem dL_isRead_376 : decode cL_isRead 376 = .ok (.iconst 2, 1) := by decide +kernel
theorem dL_isRead_377 : decode cL_isRead 377 = .ok (.istore 11, 2) := by decide +kernel
theorem dL_isRead_379 : decode cL_isRead 379 = .ok (.iconst 0, 1) := by decide +kernel
theorem dL_isRead_380 : decode cL_isRead 380 = .ok (.istore 13, 2) := by decide +kernel
theorem dL_isRead_382 : decode cL_isRead 382 = .ok (.iload 13, 2) := by decide +kernel
theorem dL_isRead_384 : decode cL_isRead 384 = .ok (.iload 8, 2) := by decide +kernel
theorem dL_isRead_386 : decode cL_isRead 386 = .ok (.if_icmp .ge 34, 3) := by decide +kernel
theorem dL_isRead_389 : decode cL_isRead 389 = .ok (.iload 13, 2) := by decide +kernel
theorem dL_isRead_391 : decode cL_isRead 391 = .ok (.aload_n 0, 1) := by decide +kernel
theorem dL_isRead_392 : decode cL_isRead 392 = .ok (.iconst 0, 1) := by decide +kernel
theorem dL_isRead_393 : decode cL_isRead 393 = .ok (.invokevirtual 8, 3) := by decide +kernel
theorem dL_isRead_396 : decode cL_isRead 396 = .ok (.if_icmp .ge 24, 3) := by decide +kernel
theorem dL_isRead_399 : decode cL_isRead 399 = .ok (.aload_n 0, 1) := by decide +kernel
theorem dL_isRead_400 : decode cL_isRead 400 = .ok (.iload 13, 2) := by decide +kernel
theorem dL_isRead_402 : decode cL_isRead 402 = .ok (.invokevirtual 33, 3) := by decide +kernel
theorem dL_isRead_405 : decode cL_isRead 405 = .ok (.aload_n 0, 1) := by decide +kernel
theorem dL_isRead_406 : decode cL_isRead 406 = .ok (.iload 13, 2) := by decide +kernel
theorem dL_isRead_408 : decode cL_isRead 408 = .ok (.invokevirtual 14, 3) := by decide +kernel
theorem dL_isRead_411 : decode cL_isRead 411 = .ok (.if_icmp .ne 9, 3) := by decide +kernel
theorem dL_isRead_414 : decode cL_isRead 414 = .ok (.iinc 13 1, 3) := by decide +kernel
theorem dL_isRead_417 : decode cL_isRead 417 = .ok (.goto (-35), 3) := by decide +kernel
theorem dL_isRead_420 : decode cL_isRead 420 = .ok (.aload_n 0, 1) := by decide +kernel
theorem dL_isRead_421 : decode cL_isRead 421 = .ok (.iconst 0, 1) := by decide +kernel
theorem dL_isRead_422 : decode cL_isRead 422 = .ok (.invokevirtual 36, 3) := by decide +kernel
theorem dL_isRead_425 : decode cL_isRead 425 = .ok (.iload 8, 2) := by decide +kernel
theorem dL_isRead_427 : decode cL_isRead 427 = .ok (.if_icmp .ne 47, 3) := by decide +kernel
theorem dL_isRead_430 : decode cL_isRead 430 = .ok (.aload_n 0, 1) := by decide +kernel
theorem dL_isRead_431 : decode cL_isRead 431 = .ok (.iconst 1, 1) := by decide +kernel
theorem dL_isRead_432 : decode cL_isRead 432 = .ok (.invokevirtual 36, 3) := by decide +kernel
theorem dL_isRead_435 : decode cL_isRead 435 = .ok (.iload 10, 2) := by decide +kernel
theorem dL_isRead_437 : decode cL_isRead 437 = .ok (.if_icmp .ne 37, 3) := by decide +kernel
theorem dL_isRead_440 : decode cL_isRead 440 = .ok (.aload_n 0, 1) := by decide +kernel
theorem dL_isRead_441 : decode cL_isRead 441 = .ok (.iconst 2, 1) := by decide +kernel
theorem dL_isRead_442 : decode cL_isRead 442 = .ok (.invokevirtual 36, 3) := by decide +kernel
theorem dL_isRead_445 : decode cL_isRead 445 = .ok (.iload 11, 2) := by decide +kernel
theorem dL_isRead_447 : decode cL_isRead 447 = .ok (.if_icmp .ne 27, 3) := by decide +kernel
theorem dL_isRead_450 : decode cL_isRead 450 = .ok (.aload_n 0, 1) := by decide +kernel
theorem dL_isRead_451 : decode cL_isRead 451 = .ok (.iconst 3, 1) := by decide +kernel
theorem dL_isRead_452 : decode cL_isRead 452 = .ok (.invokevirtual 36, 3) := by decide +kernel
theorem dL_isRead_455 : decode cL_isRead 455 = .ok (.iload 5, 2) := by decide +kernel
theorem dL_isRead_457 : decode cL_isRead 457 = .ok (.if_icmp .ne 17, 3) := by decide +kernel
theorem dL_isRead_460 : decode cL_isRead 460 = .ok (.aload_n 0, 1) := by decide +kernel
theorem dL_isRead_461 : decode cL_isRead 461 = .ok (.iconst 4, 1) := by decide +kernel
theorem dL_isRead_462 : decode cL_isRead 462 = .ok (.invokevirtual 36, 3) := by decide +kernel
theorem dL_isRead_465 : decode cL_isRead 465 = .ok (.iload 9, 2) := by decide +kernel
theorem dL_isRead_467 : decode cL_isRead 467 = .ok (.if_icmp .ne 7, 3) := by decide +kernel
theorem dL_isRead_470 : decode cL_isRead 470 = .ok (.iconst 1, 1) := by decide +kernel
theorem dL_isRead_471 : decode cL_isRead 471 = .ok (.goto 4, 3) := by decide +kernel
theorem dL_isRead_474 : decode cL_isRead 474 = .ok (.iconst 0, 1) := by decide +kernel
theorem dL_isRead_475 : decode cL_isRead 475 = .ok (.istore 14, 2) := by decide +kernel
theorem dL_isRead_477 : decode cL_isRead 477 = .ok (.iload 14, 2) := by decide +kernel
theorem dL_isRead_479 : decode cL_isRead 479 = .ok (.ifCond .eq 58, 3) := by decide +kernel
theorem dL_isRead_482 : decode cL_isRead 482 = .ok (.aload_n 0, 1) := by decide +kernel
theorem dL_isRead_483 : decode cL_isRead 483 = .ok (.iconst 5, 1) := by decide +kernel
theorem dL_isRead_484 : decode cL_isRead 484 = .ok (.invokevirtual 36, 3) := by decide +kernel
theorem dL_isRead_487 : decode cL_isRead 487 = .ok (.iload 13, 2) := by decide +kernel
theorem dL_isRead_489 : decode cL_isRead 489 = .ok (.iload 8, 2) := by decide +kernel
theorem dL_isRead_491 : decode cL_isRead 491 = .ok (.if_icmp .ne 18, 3) := by decide +kernel
theorem dL_isRead_494 : decode cL_isRead 494 = .ok (.iload 8, 2) := by decide +kernel
theorem dL_isRead_496 : decode cL_isRead 496 = .ok (.aload_n 0, 1) := by decide +kernel
theorem dL_isRead_497 : decode cL_isRead 497 = .ok (.iconst 0, 1) := by decide +kernel
theorem dL_isRead_498 : decode cL_isRead 498 = .ok (.invokevirtual 8, 3) := by decide +kernel
theorem dL_isRead_501 : decode cL_isRead 501 = .ok (.if_icmp .ne 8, 3) := by decide +kernel
theorem dL_isRead_504 : decode cL_isRead 504 = .ok (.bipush (-6), 2) := by decide +kernel
theorem dL_isRead_506 : decode cL_isRead 506 = .ok (.goto 5, 3) := by decide +kernel
theorem dL_isRead_509 : decode cL_isRead 509 = .ok (.iload 13, 2) := by decide +kernel
theorem dL_isRead_511 : decode cL_isRead 511 = .ok (.if_icmp .ne 26, 3) := by decide +kernel
theorem dL_isRead_514 : decode cL_isRead 514 = .ok (.aload_n 0, 1) := by decide +kernel
theorem dL_isRead_515 : decode cL_isRead 515 = .ok (.iload 8, 2) := by decide +kernel
theorem dL_isRead_517 : decode cL_isRead 517 = .ok (.invokevirtual 33, 3) := by decide +kernel
theorem dL_isRead_520 : decode cL_isRead 520 = .ok (.iconst (-1), 1) := by decide +kernel
theorem dL_isRead_521 : decode cL_isRead 521 = .ok (.if_icmp .ne 16, 3) := by decide +kernel
theorem dL_isRead_524 : decode cL_isRead 524 = .ok (.aload_n 0, 1) := by decide +kernel
theorem dL_isRead_525 : decode cL_isRead 525 = .ok (.iconst (-1), 1) := by decide +kernel
theorem dL_isRead_526 : decode cL_isRead 526 = .ok (.invokevirtual 33, 3) := by decide +kernel
theorem dL_isRead_529 : decode cL_isRead 529 = .ok (.iconst (-1), 1) := by decide +kernel
theorem dL_isRead_530 : decode cL_isRead 530 = .ok (.if_icmp .ne 7, 3) := by decide +kernel
theorem dL_isRead_533 : decode cL_isRead 533 = .ok (.iconst 1, 1) := by decide +kernel
theorem dL_isRead_534 : decode cL_isRead 534 = .ok (.goto 4, 3) := by decide +kernel
theorem dL_isRead_537 : decode cL_isRead 537 = .ok (.iconst 0, 1) := by decide +kernel
theorem dL_isRead_538 : decode cL_isRead 538 = .ok (.ireturn, 1) := by decide +kernel
theorem dL_agree_0 : decode cL_agree 0 = .ok (.iconst 0, 1) := by decide +kernel
theorem dL_agree_1 : decode cL_agree 1 = .ok (.istore_n 1, 1) := by decide +kernel
theorem dL_agree_2 : decode cL_agree 2 = .ok (.iconst 0, 1) := by decide +kernel
theorem dL_agree_3 : decode cL_agree 3 = .ok (.istore_n 2, 1) := by decide +kernel
theorem dL_agree_4 : decode cL_agree 4 = .ok (.iload_n 2, 1) := by decide +kernel
theorem dL_agree_5 : decode cL_agree 5 = .ok (.aload_n 0, 1) := by decide +kernel
theorem dL_agree_6 : decode cL_agree 6 = .ok (.iconst 1, 1) := by decide +kernel
theorem dL_agree_7 : decode cL_agree 7 = .ok (.invokevirtual 8, 3) := by decide +kernel
theorem dL_agree_10 : decode cL_agree 10 = .ok (.if_icmp .ge 32, 3) := by decide +kernel
theorem dL_agree_13 : decode cL_agree 13 = .ok (.iload_n 1, 1) := by decide +kernel
theorem dL_agree_14 : decode cL_agree 14 = .ok (.aload_n 0, 1) := by decide +kernel
theorem dL_agree_15 : decode cL_agree 15 = .ok (.iload_n 2, 1) := by decide +kernel
theorem dL_agree_16 : decode cL_agree 16 = .ok (.iconst 0, 1) := by decide +kernel
theorem dL_agree_17 : decode cL_agree 17 = .ok (.invokevirtual 17, 3) := by decide +kernel
theorem dL_agree_20 : decode cL_agree 20 = .ok (.aload_n 0, 1) := by decide +kernel
theorem dL_agree_21 : decode cL_agree 21 = .ok (.iload_n 2, 1) := by decide +kernel
theorem dL_agree_22 : decode cL_agree 22 = .ok (.iconst 1, 1) := by decide +kernel
theorem dL_agree_23 : decode cL_agree 23 = .ok (.invokevirtual 17, 3) := by decide +kernel
theorem dL_agree_26 : decode cL_agree 26 = .ok (.if_icmp .eq 7, 3) := by decide +kernel
theorem dL_agree_29 : decode cL_agree 29 = .ok (.iconst 1, 1) := by decide +kernel
theorem dL_agree_30 : decode cL_agree 30 = .ok (.goto 4, 3) := by decide +kernel
theorem dL_agree_33 : decode cL_agree 33 = .ok (.iconst 0, 1) := by decide +kernel
theorem dL_agree_34 : decode cL_agree 34 = .ok (.iadd, 1) := by decide +kernel
theorem dL_agree_35 : decode cL_agree 35 = .ok (.istore_n 1, 1) := by decide +kernel
theorem dL_agree_36 : decode cL_agree 36 = .ok (.iinc 2 1, 3) := by decide +kernel
theorem dL_agree_39 : decode cL_agree 39 = .ok (.goto (-35), 3) := by decide +kernel
theorem dL_agree_42 : decode cL_agree 42 = .ok (.aload_n 0, 1) := by decide +kernel
theorem dL_agree_43 : decode cL_agree 43 = .ok (.bipush 6, 2) := by decide +kernel
theorem dL_agree_45 : decode cL_agree 45 = .ok (.invokevirtual 8, 3) := by decide +kernel
theorem dL_agree_48 : decode cL_agree 48 = .ok (.iload_n 1, 1) := by decide +kernel
theorem dL_agree_49 : decode cL_agree 49 = .ok (.if_icmp .ne 50, 3) := by decide +kernel
theorem dL_agree_52 : decode cL_agree 52 = .ok (.aload_n 0, 1) := by decide +kernel
theorem dL_agree_53 : decode cL_agree 53 = .ok (.invokestatic 39, 3) := by decide +kernel
theorem dL_agree_56 : decode cL_agree 56 = .ok (.ifCond .eq 43, 3) := by decide +kernel
theorem dL_agree_59 : decode cL_agree 59 = .ok (.aload_n 0, 1) := by decide +kernel
theorem dL_agree_60 : decode cL_agree 60 = .ok (.invokestatic 43, 3) := by decide +kernel
theorem dL_agree_63 : decode cL_agree 63 = .ok (.ifCond .eq 36, 3) := by decide +kernel
theorem dL_agree_66 : decode cL_agree 66 = .ok (.aload_n 0, 1) := by decide +kernel
theorem dL_agree_67 : decode cL_agree 67 = .ok (.invokestatic 46, 3) := by decide +kernel
theorem dL_agree_70 : decode cL_agree 70 = .ok (.ifCond .eq 29, 3) := by decide +kernel
theorem dL_agree_73 : decode cL_agree 73 = .ok (.iload_n 1, 1) := by decide +kernel
theorem dL_agree_74 : decode cL_agree 74 = .ok (.ifCond .gt 21, 3) := by decide +kernel
theorem dL_agree_77 : decode cL_agree 77 = .ok (.aload_n 0, 1) := by decide +kernel
theorem dL_agree_78 : decode cL_agree 78 = .ok (.iconst 5, 1) := by decide +kernel
theorem dL_agree_79 : decode cL_agree 79 = .ok (.invokevirtual 36, 3) := by decide +kernel
theorem dL_agree_82 : decode cL_agree 82 = .ok (.bipush (-6), 2) := by decide +kernel
theorem dL_agree_84 : decode cL_agree 84 = .ok (.if_icmp .ne 15, 3) := by decide +kernel
theorem dL_agree_87 : decode cL_agree 87 = .ok (.aload_n 0, 1) := by decide +kernel
theorem dL_agree_88 : decode cL_agree 88 = .ok (.iconst 2, 1) := by decide +kernel
theorem dL_agree_89 : decode cL_agree 89 = .ok (.invokevirtual 36, 3) := by decide +kernel
theorem dL_agree_92 : decode cL_agree 92 = .ok (.ifCond .ne 7, 3) := by decide +kernel
theorem dL_agree_95 : decode cL_agree 95 = .ok (.iconst 1, 1) := by decide +kernel
theorem dL_agree_96 : decode cL_agree 96 = .ok (.goto 4, 3) := by decide +kernel
theorem dL_agree_99 : decode cL_agree 99 = .ok (.iconst 0, 1) := by decide +kernel
theorem dL_agree_100 : decode cL_agree 100 = .ok (.ireturn, 1) := by decide +kernel
theorem dL_isSpoiled_0 : decode cL_isSpoiled 0 = .ok (.iload_n 1, 1) := by decide +kernel
theorem dL_isSpoiled_1 : decode cL_isSpoiled 1 = .ok (.aload_n 0, 1) := by decide +kernel
theorem dL_isSpoiled_2 : decode cL_isSpoiled 2 = .ok (.iconst 1, 1) := by decide +kernel
theorem dL_isSpoiled_3 : decode cL_isSpoiled 3 = .ok (.invokevirtual 8, 3) := by decide +kernel
theorem dL_isSpoiled_6 : decode cL_isSpoiled 6 = .ok (.if_icmp .ge 12, 3) := by decide +kernel
theorem dL_isSpoiled_9 : decode cL_isSpoiled 9 = .ok (.aload_n 0, 1) := by decide +kernel
theorem dL_isSpoiled_10 : decode cL_isSpoiled 10 = .ok (.iload_n 1, 1) := by decide +kernel
theorem dL_isSpoiled_11 : decode cL_isSpoiled 11 = .ok (.iconst 1, 1) := by decide +kernel
theorem dL_isSpoiled_12 : decode cL_isSpoiled 12 = .ok (.invokevirtual 17, 3) := by decide +kernel
theorem dL_isSpoiled_15 : decode cL_isSpoiled 15 = .ok (.goto 4, 3) := by decide +kernel
theorem dL_isSpoiled_18 : decode cL_isSpoiled 18 = .ok (.iconst (-1), 1) := by decide +kernel
theorem dL_isSpoiled_19 : decode cL_isSpoiled 19 = .ok (.istore_n 3, 1) := by decide +kernel
theorem dL_isSpoiled_20 : decode cL_isSpoiled 20 = .ok (.aload_n 0, 1) := by decide +kernel
theorem dL_isSpoiled_21 : decode cL_isSpoiled 21 = .ok (.iload_n 1, 1) := by decide +kernel
theorem dL_isSpoiled_22 : decode cL_isSpoiled 22 = .ok (.iload_n 2, 1) := by decide +kernel
theorem dL_isSpoiled_23 : decode cL_isSpoiled 23 = .ok (.invokevirtual 49, 3) := by decide +kernel
theorem dL_isSpoiled_26 : decode cL_isSpoiled 26 = .ok (.istore 4, 2) := by decide +kernel
theorem dL_isSpoiled_28 : decode cL_isSpoiled 28 = .ok (.iload_n 3, 1) := by decide +kernel
theorem dL_isSpoiled_29 : decode cL_isSpoiled 29 = .ok (.ifCond .ge 17, 3) := by decide +kernel
theorem dL_isSpoiled_32 : decode cL_isSpoiled 32 = .ok (.iload 4, 2) := by decide +kernel
theorem dL_isSpoiled_34 : decode cL_isSpoiled 34 = .ok (.iconst (-1), 1) := by decide +kernel
theorem dL_isSpoiled_35 : decode cL_isSpoiled 35 = .ok (.if_icmp .ne 7, 3) := by decide +kernel
theorem dL_isSpoiled_38 : decode cL_isSpoiled 38 = .ok (.iconst 1, 1) := by decide +kernel
theorem dL_isSpoiled_39 : decode cL_isSpoiled 39 = .ok (.goto 31, 3) := by decide +kernel
theorem dL_isSpoiled_42 : decode cL_isSpoiled 42 = .ok (.iconst 0, 1) := by decide +kernel
theorem dL_isSpoiled_43 : decode cL_isSpoiled 43 = .ok (.goto 27, 3) := by decide +kernel
theorem dL_isSpoiled_46 : decode cL_isSpoiled 46 = .ok (.iload 4, 2) := by decide +kernel
theorem dL_isSpoiled_48 : decode cL_isSpoiled 48 = .ok (.iload_n 3, 1) := by decide +kernel
theorem dL_isSpoiled_49 : decode cL_isSpoiled 49 = .ok (.iload_n 2, 1) := by decide +kernel
theorem dL_isSpoiled_50 : decode cL_isSpoiled 50 = .ok (.ixor, 1) := by decide +kernel
theorem dL_isSpoiled_51 : decode cL_isSpoiled 51 = .ok (.if_icmp .ne 18, 3) := by decide +kernel
theorem dL_isSpoiled_54 : decode cL_isSpoiled 54 = .ok (.aload_n 0, 1) := by decide +kernel
theorem dL_isSpoiled_55 : decode cL_isSpoiled 55 = .ok (.iload_n 1, 1) := by decide +kernel
theorem dL_isSpoiled_56 : decode cL_isSpoiled 56 = .ok (.iconst 1, 1) := by decide +kernel
theorem dL_isSpoiled_57 : decode cL_isSpoiled 57 = .ok (.invokevirtual 17, 3) := by decide +kernel
theorem dL_isSpoiled_60 : decode cL_isSpoiled 60 = .ok (.iload 4, 2) := by decide +kernel
theorem dL_isSpoiled_62 : decode cL_isSpoiled 62 = .ok (.if_icmp .ne 7, 3) := by decide +kernel
theorem dL_isSpoiled_65 : decode cL_isSpoiled 65 = .ok (.iconst 1, 1) := by decide +kernel
theorem dL_isSpoiled_66 : decode cL_isSpoiled 66 = .ok (.goto 4, 3) := by decide +kernel
theorem dL_isSpoiled_69 : decode cL_isSpoiled 69 = .ok (.iconst 0, 1) := by decide +kernel
theorem dL_isSpoiled_70 : decode cL_isSpoiled 70 = .ok (.ireturn, 1) := by decide +kernel
theorem dL_isAct_0 : decode cL_isAct 0 = .ok (.aload_n 0, 1) := by decide +kernel
theorem dL_isAct_1 : decode cL_isAct 1 = .ok (.iconst 0, 1) := by decide +kernel
theorem dL_isAct_2 : decode cL_isAct 2 = .ok (.invokevirtual 8, 3) := by decide +kernel
theorem dL_isAct_5 : decode cL_isAct 5 = .ok (.istore_n 3, 1) := by decide +kernel
theorem dL_isAct_6 : decode cL_isAct 6 = .ok (.aload_n 1, 1) := by decide +kernel
theorem dL_isAct_7 : decode cL_isAct 7 = .ok (.iload_n 2, 1) := by decide +kernel
theorem dL_isAct_8 : decode cL_isAct 8 = .ok (.bipush 10, 2) := by decide +kernel
theorem dL_isAct_10 : decode cL_isAct 10 = .ok (.invokestatic 52, 3) := by decide +kernel
theorem dL_isAct_13 : decode cL_isAct 13 = .ok (.tableswitch 280 0 4 #[35, 35, 35, 127, 170], 35) := by decide +kernel
theorem dL_isAct_48 : decode cL_isAct 48 = .ok (.aload_n 1, 1) := by decide +kernel
theorem dL_isAct_49 : decode cL_isAct 49 = .ok (.iload_n 2, 1) := by decide +kernel
theorem dL_isAct_50 : decode cL_isAct 50 = .ok (.iconst 1, 1) := by decide +kernel
theorem dL_isAct_51 : decode cL_isAct 51 = .ok (.iadd, 1) := by decide +kernel
theorem dL_isAct_52 : decode cL_isAct 52 = .ok (.aload_n 1, 1) := by decide +kernel
theorem dL_isAct_53 : decode cL_isAct 53 = .ok (.iload_n 2, 1) := by decide +kernel
theorem dL_isAct_54 : decode cL_isAct 54 = .ok (.iconst 2, 1) := by decide +kernel
theorem dL_isAct_55 : decode cL_isAct 55 = .ok (.iadd, 1) := by decide +kernel
theorem dL_isAct_56 : decode cL_isAct 56 = .ok (.iconst 3, 1) := by decide +kernel
theorem dL_isAct_57 : decode cL_isAct 57 = .ok (.invokestatic 52, 3) := by decide +kernel
theorem dL_isAct_60 : decode cL_isAct 60 = .ok (.ifCond .ne 8, 3) := by decide +kernel
theorem dL_isAct_63 : decode cL_isAct 63 = .ok (.bipush 8, 2) := by decide +kernel
theorem dL_isAct_65 : decode cL_isAct 65 = .ok (.goto 4, 3) := by decide +kernel
theorem dL_isAct_68 : decode cL_isAct 68 = .ok (.iconst 2, 1) := by decide +kernel
theorem dL_isAct_69 : decode cL_isAct 69 = .ok (.invokestatic 52, 3) := by decide +kernel
theorem dL_isAct_72 : decode cL_isAct 72 = .ok (.istore 4, 2) := by decide +kernel
theorem dL_isAct_74 : decode cL_isAct 74 = .ok (.iconst 1, 1) := by decide +kernel
theorem dL_isAct_75 : decode cL_isAct 75 = .ok (.aload_n 1, 1) := by decide +kernel
theorem dL_isAct_76 : decode cL_isAct 76 = .ok (.iload_n 2, 1) := by decide +kernel
theorem dL_isAct_77 : decode cL_isAct 77 = .ok (.iconst 3, 1) := by decide +kernel
theorem dL_isAct_78 : decode cL_isAct 78 = .ok (.iadd, 1) := by decide +kernel
theorem dL_isAct_79 : decode cL_isAct 79 = .ok (.iconst 3, 1) := by decide +kernel
theorem dL_isAct_80 : decode cL_isAct 80 = .ok (.invokestatic 52, 3) := by decide +kernel
theorem dL_isAct_83 : decode cL_isAct 83 = .ok (.iadd, 1) := by decide +kernel
theorem dL_isAct_84 : decode cL_isAct 84 = .ok (.istore 5, 2) := by decide +kernel
theorem dL_isAct_86 : decode cL_isAct 86 = .ok (.iload_n 3, 1) := by decide +kernel
theorem dL_isAct_87 : decode cL_isAct 87 = .ok (.iload 5, 2) := by decide +kernel
theorem dL_isAct_89 : decode cL_isAct 89 = .ok (.iadd, 1) := by decide +kernel
theorem dL_isAct_90 : decode cL_isAct 90 = .ok (.bipush 34, 2) := by decide +kernel
theorem dL_isAct_92 : decode cL_isAct 92 = .ok (.if_icmp .gt 42, 3) := by decide +kernel
theorem dL_isAct_95 : decode cL_isAct 95 = .ok (.aload_n 0, 1) := by decide +kernel
theorem dL_isAct_96 : decode cL_isAct 96 = .ok (.iload 4, 2) := by decide +kernel
theorem dL_isAct_98 : decode cL_isAct 98 = .ok (.iload 5, 2) := by decide +kernel
theorem dL_isAct_100 : decode cL_isAct 100 = .ok (.invokevirtual 56, 3) := by decide +kernel
theorem dL_isAct_103 : decode cL_isAct 103 = .ok (.iload_n 3, 1) := by decide +kernel
theorem dL_isAct_104 : decode cL_isAct 104 = .ok (.iload 5, 2) := by decide +kernel
theorem dL_isAct_106 : decode cL_isAct 106 = .ok (.iadd, 1) := by decide +kernel
theorem dL_isAct_107 : decode cL_isAct 107 = .ok (.if_icmp .ne 31, 3) := by decide +kernel
theorem dL_isAct_110 : decode cL_isAct 110 = .ok (.aload_n 0, 1) := by decide +kernel
theorem dL_isAct_111 : decode cL_isAct 111 = .ok (.iload_n 3, 1) := by decide +kernel
theorem dL_isAct_112 : decode cL_isAct 112 = .ok (.iload 5, 2) := by decide +kernel
theorem dL_isAct_114 : decode cL_isAct 114 = .ok (.iadd, 1) := by decide +kernel
theorem dL_isAct_115 : decode cL_isAct 115 = .ok (.iconst 1, 1) := by decide +kernel
theorem dL_isAct_116 : decode cL_isAct 116 = .ok (.isub, 1) := by decide +kernel
theorem dL_isAct_117 : decode cL_isAct 117 = .ok (.invokevirtual 14, 3) := by decide +kernel
theorem dL_isAct_120 : decode cL_isAct 120 = .ok (.iload 4, 2) := by decide +kernel
theorem dL_isAct_122 : decode cL_isAct 122 = .ok (.if_icmp .ne 16, 3) := by decide +kernel
theorem dL_isAct_125 : decode cL_isAct 125 = .ok (.aload_n 0, 1) := by decide +kernel
theorem dL_isAct_126 : decode cL_isAct 126 = .ok (.bipush 6, 2) := by decide +kernel
theorem dL_isAct_128 : decode cL_isAct 128 = .ok (.invokevirtual 8, 3) := by decide +kernel
theorem dL_isAct_131 : decode cL_isAct 131 = .ok (.ifCond .ne 7, 3) := by decide +kernel
theorem dL_isAct_134 : decode cL_isAct 134 = .ok (.iconst 1, 1) := by decide +kernel
theorem dL_isAct_135 : decode cL_isAct 135 = .ok (.goto 4, 3) := by decide +kernel
theorem dL_isAct_138 : decode cL_isAct 138 = .ok (.iconst 0, 1) := by decide +kernel
theorem dL_isAct_139 : decode cL_isAct 139 = .ok (.ireturn, 1) := by decide +kernel
theorem dL_isAct_140 : decode cL_isAct 140 = .ok (.iconst 1, 1) := by decide +kernel
theorem dL_isAct_141 : decode cL_isAct 141 = .ok (.aload_n 1, 1) := by decide +kernel
theorem dL_isAct_142 : decode cL_isAct 142 = .ok (.iload_n 2, 1) := by decide +kernel
theorem dL_isAct_143 : decode cL_isAct 143 = .ok (.iconst 1, 1) := by decide +kernel
theorem dL_isAct_144 : decode cL_isAct 144 = .ok (.iadd, 1) := by decide +kernel
theorem dL_isAct_145 : decode cL_isAct 145 = .ok (.bipush 12, 2) := by decide +kernel
theorem dL_isAct_147 : decode cL_isAct 147 = .ok (.invokestatic 52, 3) := by decide +kernel
theorem dL_isAct_150 : decode cL_isAct 150 = .ok (.iadd, 1) := by decide +kernel
theorem dL_isAct_151 : decode cL_isAct 151 = .ok (.istore 6, 2) := by decide +kernel
theorem dL_isAct_153 : decode cL_isAct 153 = .ok (.aload_n 0, 1) := by decide +kernel
theorem dL_isAct_154 : decode cL_isAct 154 = .ok (.iload 6, 2) := by decide +kernel
theorem dL_isAct_156 : decode cL_isAct 156 = .ok (.invokevirtual 59, 3) := by decide +kernel
theorem dL_isAct_159 : decode cL_isAct 159 = .ok (.iload 6, 2) := by decide +kernel
theorem dL_isAct_161 : decode cL_isAct 161 = .ok (.iload_n 3, 1) := by decide +kernel
theorem dL_isAct_162 : decode cL_isAct 162 = .ok (.if_icmp .le 8, 3) := by decide +kernel
theorem dL_isAct_165 : decode cL_isAct 165 = .ok (.bipush (-5), 2) := by decide +kernel
theorem dL_isAct_167 : decode cL_isAct 167 = .ok (.goto 7, 3) := by decide +kernel
theorem dL_isAct_170 : decode cL_isAct 170 = .ok (.iload_n 3, 1) := by decide +kernel
theorem dL_isAct_171 : decode cL_isAct 171 = .ok (.iload 6, 2) := by decide +kernel
theorem dL_isAct_173 : decode cL_isAct 173 = .ok (.isub, 1) := by decide +kernel
theorem dL_isAct_174 : decode cL_isAct 174 = .ok (.if_icmp .ne 7, 3) := by decide +kernel
theorem dL_isAct_177 : decode cL_isAct 177 = .ok (.iconst 1, 1) := by decide +kernel
theorem dL_isAct_178 : decode cL_isAct 178 = .ok (.goto 4, 3) := by decide +kernel
theorem dL_isAct_181 : decode cL_isAct 181 = .ok (.iconst 0, 1) := by decide +kernel
theorem dL_isAct_182 : decode cL_isAct 182 = .ok (.ireturn, 1) := by decide +kernel
theorem dL_isAct_183 : decode cL_isAct 183 = .ok (.aload_n 1, 1) := by decide +kernel
theorem dL_isAct_184 : decode cL_isAct 184 = .ok (.iload_n 2, 1) := by decide +kernel
theorem dL_isAct_185 : decode cL_isAct 185 = .ok (.iconst 1, 1) := by decide +kernel
theorem dL_isAct_186 : decode cL_isAct 186 = .ok (.iadd, 1) := by decide +kernel
theorem dL_isAct_187 : decode cL_isAct 187 = .ok (.iconst 3, 1) := by decide +kernel
theorem dL_isAct_188 : decode cL_isAct 188 = .ok (.invokestatic 52, 3) := by decide +kernel
theorem dL_isAct_191 : decode cL_isAct 191 = .ok (.istore 7, 2) := by decide +kernel
theorem dL_isAct_193 : decode cL_isAct 193 = .ok (.iload 7, 2) := by decide +kernel
theorem dL_isAct_195 : decode cL_isAct 195 = .ok (.ifCond .ne 16, 3) := by decide +kernel
theorem dL_isAct_198 : decode cL_isAct 198 = .ok (.iconst 4, 1) := by decide +kernel
theorem dL_isAct_199 : decode cL_isAct 199 = .ok (.aload_n 1, 1) := by decide +kernel
theorem dL_isAct_200 : decode cL_isAct 200 = .ok (.iload_n 2, 1) := by decide +kernel
theorem dL_isAct_201 : decode cL_isAct 201 = .ok (.iconst 2, 1) := by decide +kernel
theorem dL_isAct_202 : decode cL_isAct 202 = .ok (.iadd, 1) := by decide +kernel
theorem dL_isAct_203 : decode cL_isAct 203 = .ok (.iconst 3, 1) := by decide +kernel
theorem dL_isAct_204 : decode cL_isAct 204 = .ok (.invokestatic 52, 3) := by decide +kernel
theorem dL_isAct_207 : decode cL_isAct 207 = .ok (.iadd, 1) := by decide +kernel
theorem dL_isAct_208 : decode cL_isAct 208 = .ok (.goto 30, 3) := by decide +kernel
theorem dL_isAct_211 : decode cL_isAct 211 = .ok (.iload 7, 2) := by decide +kernel
theorem dL_isAct_213 : decode cL_isAct 213 = .ok (.iconst 1, 1) := by decide +kernel
theorem dL_isAct_214 : decode cL_isAct 214 = .ok (.if_icmp .ne 14, 3) := by decide +kernel
theorem dL_isAct_217 : decode cL_isAct 217 = .ok (.aload_n 1, 1) := by decide +kernel
theorem dL_isAct_218 : decode cL_isAct 218 = .ok (.iload_n 2, 1) := by decide +kernel
theorem dL_isAct_219 : decode cL_isAct 219 = .ok (.iconst 2, 1) := by decide +kernel
theorem dL_isAct_220 : decode cL_isAct 220 = .ok (.iadd, 1) := by decide +kernel
theorem dL_isAct_221 : decode cL_isAct 221 = .ok (.iconst 3, 1) := by decide +kernel
theorem dL_isAct_222 : decode cL_isAct 222 = .ok (.invokestatic 52, 3) := by decide +kernel
theorem dL_isAct_225 : decode cL_isAct 225 = .ok (.goto 13, 3) := by decide +kernel
theorem dL_isAct_228 : decode cL_isAct 228 = .ok (.iconst 4, 1) := by decide +kernel
theorem dL_isAct_229 : decode cL_isAct 229 = .ok (.aload_n 1, 1) := by decide +kernel
theorem dL_isAct_230 : decode cL_isAct 230 = .ok (.iload_n 2, 1) := by decide +kernel
theorem dL_isAct_231 : decode cL_isAct 231 = .ok (.iconst 2, 1) := by decide +kernel
theorem dL_isAct_232 : decode cL_isAct 232 = .ok (.iadd, 1) := by decide +kernel
theorem dL_isAct_233 : decode cL_isAct 233 = .ok (.iconst 3, 1) := by decide +kernel
theorem dL_isAct_234 : decode cL_isAct 234 = .ok (.invokestatic 52, 3) := by decide +kernel
theorem dL_isAct_237 : decode cL_isAct 237 = .ok (.iadd, 1) := by decide +kernel
theorem dL_isAct_238 : decode cL_isAct 238 = .ok (.istore 8, 2) := by decide +kernel
theorem dL_isAct_240 : decode cL_isAct 240 = .ok (.aload_n 0, 1) := by decide +kernel
theorem dL_isAct_241 : decode cL_isAct 241 = .ok (.bipush 9, 2) := by decide +kernel
theorem dL_isAct_243 : decode cL_isAct 243 = .ok (.iload 7, 2) := by decide +kernel
theorem dL_isAct_245 : decode cL_isAct 245 = .ok (.iadd, 1) := by decide +kernel
theorem dL_isAct_246 : decode cL_isAct 246 = .ok (.invokevirtual 8, 3) := by decide +kernel
theorem dL_isAct_249 : decode cL_isAct 249 = .ok (.istore 9, 2) := by decide +kernel
theorem dL_isAct_251 : decode cL_isAct 251 = .ok (.aload_n 0, 1) := by decide +kernel
theorem dL_isAct_252 : decode cL_isAct 252 = .ok (.iload 7, 2) := by decide +kernel
theorem dL_isAct_254 : decode cL_isAct 254 = .ok (.iload 8, 2) := by decide +kernel
theorem dL_isAct_256 : decode cL_isAct 256 = .ok (.invokevirtual 62, 3) := by decide +kernel
theorem dL_isAct_259 : decode cL_isAct 259 = .ok (.iload 9, 2) := by decide +kernel
theorem dL_isAct_261 : decode cL_isAct 261 = .ok (.if_icmp .ne 30, 3) := by decide +kernel
theorem dL_isAct_264 : decode cL_isAct 264 = .ok (.aload_n 0, 1) := by decide +kernel
theorem dL_isAct_265 : decode cL_isAct 265 = .ok (.bipush 9, 2) := by decide +kernel
theorem dL_isAct_267 : decode cL_isAct 267 = .ok (.iload 7, 2) := by decide +kernel
theorem dL_isAct_269 : decode cL_isAct 269 = .ok (.iadd, 1) := by decide +kernel
theorem dL_isAct_270 : decode cL_isAct 270 = .ok (.invokevirtual 8, 3) := by decide +kernel
theorem dL_isAct_273 : decode cL_isAct 273 = .ok (.iload 8, 2) := by decide +kernel
theorem dL_isAct_275 : decode cL_isAct 275 = .ok (.if_icmp .ne 16, 3) := by decide +kernel
theorem dL_isAct_278 : decode cL_isAct 278 = .ok (.aload_n 0, 1) := by decide +kernel
theorem dL_isAct_279 : decode cL_isAct 279 = .ok (.bipush 6, 2) := by decide +kernel
theorem dL_isAct_281 : decode cL_isAct 281 = .ok (.invokevirtual 8, 3) := by decide +kernel
theorem dL_isAct_284 : decode cL_isAct 284 = .ok (.ifCond .ne 7, 3) := by decide +kernel
theorem dL_isAct_287 : decode cL_isAct 287 = .ok (.iconst 1, 1) := by decide +kernel
theorem dL_isAct_288 : decode cL_isAct 288 = .ok (.goto 4, 3) := by decide +kernel
theorem dL_isAct_291 : decode cL_isAct 291 = .ok (.iconst 0, 1) := by decide +kernel
theorem dL_isAct_292 : decode cL_isAct 292 = .ok (.ireturn, 1) := by decide +kernel
theorem dL_isAct_293 : decode cL_isAct 293 = .ok (.aload_n 0, 1) := by decide +kernel
theorem dL_isAct_294 : decode cL_isAct 294 = .ok (.aload_n 1, 1) := by decide +kernel
theorem dL_isAct_295 : decode cL_isAct 295 = .ok (.iload_n 2, 1) := by decide +kernel
theorem dL_isAct_296 : decode cL_isAct 296 = .ok (.iconst 1, 1) := by decide +kernel
theorem dL_isAct_297 : decode cL_isAct 297 = .ok (.iadd, 1) := by decide +kernel
theorem dL_isAct_298 : decode cL_isAct 298 = .ok (.aload_n 0, 1) := by decide +kernel
theorem dL_isAct_299 : decode cL_isAct 299 = .ok (.iconst 1, 1) := by decide +kernel
theorem dL_isAct_300 : decode cL_isAct 300 = .ok (.invokevirtual 8, 3) := by decide +kernel
theorem dL_isAct_303 : decode cL_isAct 303 = .ok (.iconst 1, 1) := by decide +kernel
theorem dL_isAct_304 : decode cL_isAct 304 = .ok (.iadd, 1) := by decide +kernel
theorem dL_isAct_305 : decode cL_isAct 305 = .ok (.invokestatic 52, 3) := by decide +kernel
theorem dL_isAct_308 : decode cL_isAct 308 = .ok (.aload_n 1, 1) := by decide +kernel
theorem dL_isAct_309 : decode cL_isAct 309 = .ok (.iload_n 2, 1) := by decide +kernel
theorem dL_isAct_310 : decode cL_isAct 310 = .ok (.iconst 2, 1) := by decide +kernel
theorem dL_isAct_311 : decode cL_isAct 311 = .ok (.iadd, 1) := by decide +kernel
theorem dL_isAct_312 : decode cL_isAct 312 = .ok (.iconst 3, 1) := by decide +kernel
theorem dL_isAct_313 : decode cL_isAct 313 = .ok (.invokestatic 52, 3) := by decide +kernel
theorem dL_isAct_316 : decode cL_isAct 316 = .ok (.ifCond .ne 18, 3) := by decide +kernel
theorem dL_isAct_319 : decode cL_isAct 319 = .ok (.iconst 1, 1) := by decide +kernel
theorem dL_isAct_320 : decode cL_isAct 320 = .ok (.aload_n 1, 1) := by decide +kernel
theorem dL_isAct_321 : decode cL_isAct 321 = .ok (.iload_n 2, 1) := by decide +kernel
theorem dL_isAct_322 : decode cL_isAct 322 = .ok (.iconst 3, 1) := by decide +kernel
theorem dL_isAct_323 : decode cL_isAct 323 = .ok (.iadd, 1) := by decide +kernel
theorem dL_isAct_324 : decode cL_isAct 324 = .ok (.sipush 511, 3) := by decide +kernel
theorem dL_isAct_327 : decode cL_isAct 327 = .ok (.invokestatic 52, 3) := by decide +kernel
theorem dL_isAct_330 : decode cL_isAct 330 = .ok (.iadd, 1) := by decide +kernel
theorem dL_isAct_331 : decode cL_isAct 331 = .ok (.goto 13, 3) := by decide +kernel
theorem dL_isAct_334 : decode cL_isAct 334 = .ok (.iconst 1, 1) := by decide +kernel
theorem dL_isAct_335 : decode cL_isAct 335 = .ok (.aload_n 1, 1) := by decide +kernel
theorem dL_isAct_336 : decode cL_isAct 336 = .ok (.iload_n 2, 1) := by decide +kernel
theorem dL_isAct_337 : decode cL_isAct 337 = .ok (.iconst 3, 1) := by decide +kernel
theorem dL_isAct_338 : decode cL_isAct 338 = .ok (.iadd, 1) := by decide +kernel
theorem dL_isAct_339 : decode cL_isAct 339 = .ok (.iconst 5, 1) := by decide +kernel
theorem dL_isAct_340 : decode cL_isAct 340 = .ok (.invokestatic 52, 3) := by decide +kernel
theorem dL_isAct_343 : decode cL_isAct 343 = .ok (.ishl, 1) := by decide +kernel
theorem dL_isAct_344 : decode cL_isAct 344 = .ok (.invokestatic 65, 3) := by decide +kernel
theorem dL_isAct_347 : decode cL_isAct 347 = .ok (.ireturn, 1) := by decide +kernel
theorem dL_law_0 : decode cL_law 0 = .ok (.new 9, 3) := by decide +kernel
theorem dL_law_3 : decode cL_law 3 = .ok (.dup, 1) := by decide +kernel
theorem dL_law_4 : decode cL_law 4 = .ok (.invokespecial 69, 3) := by decide +kernel
theorem dL_law_7 : decode cL_law 7 = .ok (.astore_n 1, 1) := by decide +kernel
theorem dL_law_8 : decode cL_law 8 = .ok (.aload_n 1, 1) := by decide +kernel
theorem dL_law_9 : decode cL_law 9 = .ok (.iconst 0, 1) := by decide +kernel
theorem dL_law_10 : decode cL_law 10 = .ok (.iconst 4, 1) := by decide +kernel
theorem dL_law_11 : decode cL_law 11 = .ok (.aload_n 0, 1) := by decide +kernel
theorem dL_law_12 : decode cL_law 12 = .ok (.iconst 0, 1) := by decide +kernel
theorem dL_law_13 : decode cL_law 13 = .ok (.iconst 3, 1) := by decide +kernel
theorem dL_law_14 : decode cL_law 14 = .ok (.invokestatic 52, 3) := by decide +kernel
theorem dL_law_17 : decode cL_law 17 = .ok (.iadd, 1) := by decide +kernel
theorem dL_law_18 : decode cL_law 18 = .ok (.invokevirtual 62, 3) := by decide +kernel
theorem dL_law_21 : decode cL_law 21 = .ok (.pop, 1) := by decide +kernel
theorem dL_law_22 : decode cL_law 22 = .ok (.aload_n 1, 1) := by decide +kernel
theorem dL_law_23 : decode cL_law 23 = .ok (.iconst 1, 1) := by decide +kernel
theorem dL_law_24 : decode cL_law 24 = .ok (.aload_n 0, 1) := by decide +kernel
theorem dL_law_25 : decode cL_law 25 = .ok (.iconst 1, 1) := by decide +kernel
theorem dL_law_26 : decode cL_law 26 = .ok (.iconst 3, 1) := by decide +kernel
theorem dL_law_27 : decode cL_law 27 = .ok (.invokestatic 52, 3) := by decide +kernel
theorem dL_law_30 : decode cL_law 30 = .ok (.invokevirtual 62, 3) := by decide +kernel
theorem dL_law_33 : decode cL_law 33 = .ok (.pop, 1) := by decide +kernel
theorem dL_law_34 : decode cL_law 34 = .ok (.aload_n 1, 1) := by decide +kernel
theorem dL_law_35 : decode cL_law 35 = .ok (.iconst 2, 1) := by decide +kernel
theorem dL_law_36 : decode cL_law 36 = .ok (.iconst 4, 1) := by decide +kernel
theorem dL_law_37 : decode cL_law 37 = .ok (.invokevirtual 62, 3) := by decide +kernel
theorem dL_law_40 : decode cL_law 40 = .ok (.pop, 1) := by decide +kernel
theorem dL_law_41 : decode cL_law 41 = .ok (.iconst 2, 1) := by decide +kernel
theorem dL_law_42 : decode cL_law 42 = .ok (.aload_n 0, 1) := by decide +kernel
theorem dL_law_43 : decode cL_law 43 = .ok (.iconst 2, 1) := by decide +kernel
theorem dL_law_44 : decode cL_law 44 = .ok (.iconst 3, 1) := by decide +kernel
theorem dL_law_45 : decode cL_law 45 = .ok (.invokestatic 52, 3) := by decide +kernel
theorem dL_law_48 : decode cL_law 48 = .ok (.iadd, 1) := by decide +kernel
theorem dL_law_49 : decode cL_law 49 = .ok (.istore_n 2, 1) := by decide +kernel
theorem dL_law_50 : decode cL_law 50 = .ok (.iconst 0, 1) := by decide +kernel
theorem dL_law_51 : decode cL_law 51 = .ok (.istore_n 3, 1) := by decide +kernel
theorem dL_law_52 : decode cL_law 52 = .ok (.iload_n 3, 1) := by decide +kernel
theorem dL_law_53 : decode cL_law 53 = .ok (.bipush 24, 2) := by decide +kernel
theorem dL_law_55 : decode cL_law 55 = .ok (.if_icmp .ge 30, 3) := by decide +kernel
theorem dL_law_58 : decode cL_law 58 = .ok (.aload_n 1, 1) := by decide +kernel
theorem dL_law_59 : decode cL_law 59 = .ok (.aload_n 0, 1) := by decide +kernel
theorem dL_law_60 : decode cL_law 60 = .ok (.iconst 3, 1) := by decide +kernel
theorem dL_law_61 : decode cL_law 61 = .ok (.iload_n 3, 1) := by decide +kernel
theorem dL_law_62 : decode cL_law 62 = .ok (.iadd, 1) := by decide +kernel
theorem dL_law_63 : decode cL_law 63 = .ok (.iload_n 2, 1) := by decide +kernel
theorem dL_law_64 : decode cL_law 64 = .ok (.invokestatic 52, 3) := by decide +kernel
theorem dL_law_67 : decode cL_law 67 = .ok (.iconst 1, 1) := by decide +kernel
theorem dL_law_68 : decode cL_law 68 = .ok (.invokevirtual 56, 3) := by decide +kernel
theorem dL_law_71 : decode cL_law 71 = .ok (.iload_n 3, 1) := by decide +kernel
theorem dL_law_72 : decode cL_law 72 = .ok (.iconst 1, 1) := by decide +kernel
theorem dL_law_73 : decode cL_law 73 = .ok (.iadd, 1) := by decide +kernel
theorem dL_law_74 : decode cL_law 74 = .ok (.if_icmp .eq 5, 3) := by decide +kernel
theorem dL_law_77 : decode cL_law 77 = .ok (.iconst 0, 1) := by decide +kernel
theorem dL_law_78 : decode cL_law 78 = .ok (.ireturn, 1) := by decide +kernel
theorem dL_law_79 : decode cL_law 79 = .ok (.iinc 3 1, 3) := by decide +kernel
theorem dL_law_82 : decode cL_law 82 = .ok (.goto (-30), 3) := by decide +kernel
theorem dL_law_85 : decode cL_law 85 = .ok (.iconst 0, 1) := by decide +kernel
theorem dL_law_86 : decode cL_law 86 = .ok (.istore_n 3, 1) := by decide +kernel
theorem dL_law_87 : decode cL_law 87 = .ok (.iload_n 3, 1) := by decide +kernel
theorem dL_law_88 : decode cL_law 88 = .ok (.bipush 22, 2) := by decide +kernel
theorem dL_law_90 : decode cL_law 90 = .ok (.if_icmp .ge 32, 3) := by decide +kernel
theorem dL_law_93 : decode cL_law 93 = .ok (.aload_n 1, 1) := by decide +kernel
theorem dL_law_94 : decode cL_law 94 = .ok (.invokestatic 70, 3) := by decide +kernel
theorem dL_law_97 : decode cL_law 97 = .ok (.ifCond .eq 17, 3) := by decide +kernel
theorem dL_law_100 : decode cL_law 100 = .ok (.aload_n 1, 1) := by decide +kernel
theorem dL_law_101 : decode cL_law 101 = .ok (.aload_n 0, 1) := by decide +kernel
theorem dL_law_102 : decode cL_law 102 = .ok (.bipush 30, 2) := by decide +kernel
theorem dL_law_104 : decode cL_law 104 = .ok (.iconst 4, 1) := by decide +kernel
theorem dL_law_105 : decode cL_law 105 = .ok (.iload_n 3, 1) := by decide +kernel
theorem dL_law_106 : decode cL_law 106 = .ok (.imul, 1) := by decide +kernel
theorem dL_law_107 : decode cL_law 107 = .ok (.iadd, 1) := by decide +kernel
theorem dL_law_108 : decode cL_law 108 = .ok (.invokestatic 73, 3) := by decide +kernel
theorem dL_law_111 : decode cL_law 111 = .ok (.ifCond .ne 5, 3) := by decide +kernel
theorem dL_law_114 : decode cL_law 114 = .ok (.iconst 0, 1) := by decide +kernel
theorem dL_law_115 : decode cL_law 115 = .ok (.ireturn, 1) := by decide +kernel
theorem dL_law_116 : decode cL_law 116 = .ok (.iinc 3 1, 3) := by decide +kernel
theorem dL_law_119 : decode cL_law 119 = .ok (.goto (-32), 3) := by decide +kernel
theorem dL_law_122 : decode cL_law 122 = .ok (.aload_n 1, 1) := by decide +kernel
theorem dL_law_123 : decode cL_law 123 = .ok (.invokestatic 70, 3) := by decide +kernel
theorem dL_law_126 : decode cL_law 126 = .ok (.ireturn, 1) := by decide +kernel
abbrev vwCl : List vw_C := [(RX0, TX0, 5), (RX1, TX1, 3), (RX2, TX2, 5), (RX3, TX3, 11), (RX4, TX4, 4), (RX5, TX5, 12), (RX6, TX6, 11)]
end
section
/-! the store: tag, instance, place -/
abbrev xSt : Type := Nat → Nat → Nat → Int32
abbrev xR : Type := xSt × Option Value
def xua (S : xSt) (t o : Nat) (f : Nat → Int32) : xSt := fun t' o' => if t' = t ∧ o' = o then f else S t' o'
def xup (S : xSt) (t o i : Nat) (v : Int32) : xSt := xua S t o (upd (S t o) i v)
theorem xua_s (S : xSt) (t o : Nat) (f : Nat → Int32) : xua S t o f t o = f := by simp [xua]
theorem xua_n (S : xSt) {t o t' o' : Nat} (f : Nat → Int32) (h : ¬ (t' = t ∧ o' = o)) : xua S t o f t' o' = S t' o' := by simp only [xua, if_neg h]
def xbI (x : Option xR) (k : xSt → Int32 → Option xR) : Option xR := match x with
  | some (S, some (.int r)) => k S r
  | _ => none
def xbV (x : Option xR) (k : xSt → Option xR) : Option xR := match x with
  | some (S, none) => k S
  | _ => none
def xat (i : Int32) (n : Nat) (k : Nat → Option xR) : Option xR := if ¬ (i < 0 ∨ n ≤ i.toNatClampNeg) then k i.toNatClampNeg else none
def xlet (v : xSt) (k : xSt → Option xR) : Option xR := k v
def xne (c : Prop) [Decidable c] (k : Option xR) : Option xR := if c then k else none
theorem xbI_inv {x : Option xR} {k : xSt → Int32 → Option xR} {y : xR} (h : xbI x k = some y) : ∃ S r, x = some (S, some (.int r)) ∧ k S r = some y := by
  unfold xbI at h
  split at h
  · exact ⟨_, _, rfl, h⟩
  · cases h
theorem xbV_inv {x : Option xR} {k : xSt → Option xR} {y : xR} (h : xbV x k = some y) : ∃ S, x = some (S, none) ∧ k S = some y := by
  unfold xbV at h
  split at h
  · exact ⟨_, rfl, h⟩
  · cases h
theorem xat_inv {i : Int32} {n : Nat} {k : Nat → Option xR} {y : xR} (h : xat i n k = some y) : vp_in i n ∧ k i.toNatClampNeg = some y := by
  unfold xat at h
  split at h
  · exact ⟨by assumption, h⟩
  · cases h
theorem xlet_inv {v : xSt} {k : xSt → Option xR} {y : xR} (h : xlet v k = some y) : ∃ S, v = S ∧ k S = some y := ⟨v, rfl, h⟩
theorem xne_inv {c : Prop} [Decidable c] {k : Option xR} {y : xR} (h : xne c k = some y) : c ∧ k = some y := by
  unfold xne at h
  split at h
  · exact ⟨by assumption, h⟩
  · cases h
theorem xif_t {c : Prop} [Decidable c] {α : Type} {a b : α} {y : α} (hc : c) (h : (if c then a else b) = y) : a = y := by rw [if_pos hc] at h; exact h
theorem xif_f {c : Prop} [Decidable c] {α : Type} {a b : α} {y : α} (hc : ¬ c) (h : (if c then a else b) = y) : b = y := by rw [if_neg hc] at h; exact h
/-! the world: D, addresses, which (tag, instance) there are, classes of the arrays (int, boolean, byte, State), the static rows -/
abbrev xK : Type := va_G × (Nat → Nat → Nat) × List (Nat × Nat) × (Nat → ClassId) × (Nat → Nat) × (Nat → Int32)
def xad (K : xK) : Nat → Nat → Nat := K.2.1
def xvl (K : xK) : List (Nat × Nat) := K.2.2.1
def xcy (K : xK) : Nat → ClassId := K.2.2.2.1
def xsa (K : xK) : Nat → Nat := K.2.2.2.2.1
/-- the script: at xsa K 3, xsa K 4 ints -/
def xxs (K : xK) : Nat → Int32 := K.2.2.2.2.2
def xr (K : xK) (t o : Nat) : Value := .ref (xad K t o)
def xrs (K : xK) (k : Nat) : Value := .ref (xsa K k)
def xfs (K : xK) (f : Nat → Int32) (t o : Nat) : List Value := match t with
  | 0 => [xr K 10 o, xr K 11 o, xr K 12 o, xr K 13 o, .int (f 4)]
  | 1 => [xr K 14 o, .int (f 1), .int (f 2)]
  | 2 => [xr K 15 o, xr K 16 o, xr K 17 o, xr K 18 o, .int (f 4)]
  | 3 => [xr K 19 o, .int (f 1), .int (f 2), .int (f 3), .int (f 4), .int (f 5), xr K 20 o, xr K 21 o, .int (f 8), .int (f 9), .int (f 10)]
  | 4 => [xr K 22 o, xr K 23 o, xr K 24 o, .int (f 3)]
  | 5 => [xr K 0 o, xr K 25 o, xr K 26 o, xr K 27 o, xr K 28 o, xr K 29 o, .int (f 6), .int (f 7), .int (f 8), .int (f 9), .int (f 10), .int (f 11)]
  | 6 => [xr K 4 0, xr K 1 0, xr K 30 0, xr K 31 0, xr K 2 0, xr K 5 0, xr K 3 0, xr K 32 0, xr K 5 1, xr K 3 1, xr K 32 1]
  | 7 => []
  | _ => []
def xE (K : xK) (f : Nat → Int32) (t o : Nat) : va_E := match t with
  | 0 => .inr (0, xfs K f 0 o)
  | 1 => .inr (1, xfs K f 1 o)
  | 2 => .inr (2, xfs K f 2 o)
  | 3 => .inr (3, xfs K f 3 o)
  | 4 => .inr (4, xfs K f 4 o)
  | 5 => .inr (5, xfs K f 5 o)
  | 6 => .inr (6, xfs K f 6 o)
  | 7 => .inr (7, xfs K f 7 o)
  | 10 => .inl (xcy K 0, 512, .inl f)
  | 11 => .inl (xcy K 0, 512, .inl f)
  | 12 => .inl (xcy K 0, 512, .inl f)
  | 13 => .inl (xcy K 0, 4096, .inl f)
  | 14 => .inl (xcy K 3, 6, .inr (.inr (.inr (.inr (fun i => some (xad K 4 (1 + i)))))))
  | 15 => .inl (xcy K 0, 80, .inl f)
  | 16 => .inl (xcy K 0, 240, .inl f)
  | 17 => .inl (xcy K 0, 3, .inl f)
  | 18 => .inl (xcy K 0, 3, .inl f)
  | 19 => .inl (xcy K 0, 39621, .inl f)
  | 20 => .inl (xcy K 0, 512, .inl f)
  | 21 => .inl (xcy K 0, 512, .inl f)
  | 22 => .inl (xcy K 0, 3, .inl f)
  | 23 => .inl (xcy K 0, 240, .inl f)
  | 24 => .inl (xcy K 0, 281, .inl f)
  | 25 => .inl (xcy K 0, 281, .inl f)
  | 26 => .inl (xcy K 0, 281, .inl f)
  | 27 => .inl (xcy K 0, 281, .inl f)
  | 28 => .inl (xcy K 0, 281, .inl f)
  | 29 => .inl (xcy K 0, 281, .inl f)
  | 30 => .inl (xcy K 3, 2, .inr (.inr (.inr (.inr (fun i => some (xad K 4 (7 + i)))))))
  | 31 => .inl (xcy K 1, 2, .inl f)
  | 32 => .inl (xcy K 0, 281, .inl f)
  | 33 => .inl (xcy K 0, 64, .inl f)
  | _ => .inl (xcy K 0, 0, .inl f)
def xws (K : xK) (S : xSt) : va_W := (xvl K).map fun q => (xad K q.1 q.2, xE K (S q.1 q.2) q.1 q.2)
def xtys (K : xK) : List (ClassId × FieldType) := [(xcy K 0, .int), (xcy K 1, .boolean), (xcy K 2, .byte), (xcy K 3, .object "GrowingBook$State")]
def xWd (K : xK) (S : xSt) (U : State) (H : Heap) : Prop := va_P K.1 vwCl (xws K S) H ∧ va_K K.1 vwCl (xtys K) U ∧ va_D (fun _ => True) (xws K S)
def xA (K : xK) : Nat → Prop := fun q => ∃ t o, (t, o) ∈ xvl K ∧ q = xad K t o
def xLO (i : Nat) : Int32 := if i = 0 then 4 else if i = 1 then 0 else 4
def xHI (i : Nat) : Int32 := if i = 0 then 9 else if i = 1 then 2 else 32
def xFI0 (i : Nat) : Int32 := if i = 0 then 6 else if i = 1 then 1 else 8
def xStt (K : xK) (A : Nat → Prop) (U : State) (H : Heap) : Prop :=
  va_Z "GrowingBook" "LOWEST" "[I" (xrs K 0) A U H ∧ va_T .int (xsa K 0) 3 (fun i => .int (xLO i)) A U H ∧
  va_Z "GrowingBook" "HIGHEST" "[I" (xrs K 1) A U H ∧ va_T .int (xsa K 1) 3 (fun i => .int (xHI i)) A U H ∧
  va_Z "GrowingBook" "FIRST" "[I" (xrs K 2) A U H ∧ va_T .int (xsa K 2) 3 (fun i => .int (xFI0 i)) A U H ∧ va_T .int (xsa K 3) (xsa K 4) (fun i => .int (xxs K i)) A U H
def xTB : List Cond := lw_tbl.filter goodWord
theorem xtb {w : Cond} (i : Nat) (h : lw_tbl[i]? = some w) (g : goodWord w = true) : w ∈ xTB := List.mem_filter.mpr ⟨List.mem_of_getElem? h, g⟩
/-- the words of nest mates: not among those that a contract may carry -/
def xnest : Cond → Bool
  | .fieldLinkNest _ _ _ _ _ _ => true
  | .methodLinkNest _ _ _ _ => true
  | _ => false
def xNL : List Cond := lw_tbl.filter xnest
theorem xnl {w : Cond} (i : Nat) (h : lw_tbl[i]? = some w) (g : xnest w = true) : w ∈ xNL := List.mem_filter.mpr ⟨List.mem_of_getElem? h, g⟩
def xNw (U : State) : Prop := ∀ w ∈ xNL, va_Nw w U
theorem xNw_warm {s U : State} (hW : s.WarmedH U.vm) (h : xNw s) : xNw U := by
  intro w hw
  have h1 := h w hw
  have h2 := (List.mem_filter.mp hw).2
  cases w with
  | fieldLinkNest => exact va_Nw.warmF hW h1
  | methodLinkNest => exact va_Nw.warmM hW h1
  | _ => cases h2
theorem xNw_same {u U : State} (hvm : u.vm = U.vm) (h : xNw u) : xNw U := by
  intro w hw
  have h1 := h w hw
  have h2 := (List.mem_filter.mp hw).2
  cases w with
  | fieldLinkNest => exact va_Nw.same rfl hvm h1
  | methodLinkNest => exact va_Nw.same rfl hvm h1
  | _ => cases h2
theorem xNw_use {U : State} {w : Cond} (h : xNw U) (hw : w ∈ xNL) (A : Array Value) : w.before A U = true := by
  have h1 := h w hw
  have h2 := (List.mem_filter.mp hw).2
  cases w with
  | fieldLinkNest => exact va_Nw.use rfl h1
  | methodLinkNest => exact va_Nw.use rfl h1
  | _ => cases h2
/-- which cells belong to which -/
def xVC (vl : List (Nat × Nat)) : Prop := (∀ o, (0, o) ∈ vl → (10, o) ∈ vl) ∧ (∀ o, (0, o) ∈ vl → (11, o) ∈ vl) ∧ (∀ o, (0, o) ∈ vl → (12, o) ∈ vl) ∧ (∀ o, (0, o) ∈ vl → (13, o) ∈ vl) ∧ (∀ o, (1, o) ∈ vl → (14, o) ∈ vl) ∧ (∀ o, (2, o) ∈ vl → (15, o) ∈ vl) ∧ (∀ o, (2, o) ∈ vl → (16, o) ∈ vl) ∧ (∀ o, (2, o) ∈ vl → (17, o) ∈ vl) ∧ (∀ o, (2, o) ∈ vl → (18, o) ∈ vl) ∧ (∀ o, (3, o) ∈ vl → (19, o) ∈ vl) ∧ (∀ o, (3, o) ∈ vl → (20, o) ∈ vl) ∧ (∀ o, (3, o) ∈ vl → (21, o) ∈ vl) ∧ (∀ o, (4, o) ∈ vl → (22, o) ∈ vl) ∧ (∀ o, (4, o) ∈ vl → (23, o) ∈ vl) ∧ (∀ o, (4, o) ∈ vl → (24, o) ∈ vl) ∧ (∀ o, (5, o) ∈ vl → (0, o) ∈ vl) ∧ (∀ o, (5, o) ∈ vl → (25, o) ∈ vl) ∧ (∀ o, (5, o) ∈ vl → (26, o) ∈ vl) ∧ (∀ o, (5, o) ∈ vl → (27, o) ∈ vl) ∧ (∀ o, (5, o) ∈ vl → (28, o) ∈ vl) ∧ (∀ o, (5, o) ∈ vl → (29, o) ∈ vl) ∧ ((6, 0) ∈ vl → (4, 0) ∈ vl) ∧ ((6, 0) ∈ vl → (1, 0) ∈ vl) ∧ ((6, 0) ∈ vl → (30, 0) ∈ vl) ∧ ((6, 0) ∈ vl → (31, 0) ∈ vl) ∧ ((6, 0) ∈ vl → (2, 0) ∈ vl) ∧ ((6, 0) ∈ vl → (5, 0) ∈ vl) ∧ ((6, 0) ∈ vl → (3, 0) ∈ vl) ∧ ((6, 0) ∈ vl → (32, 0) ∈ vl) ∧ ((6, 0) ∈ vl → (5, 1) ∈ vl) ∧ ((6, 0) ∈ vl → (3, 1) ∈ vl) ∧ ((6, 0) ∈ vl → (32, 1) ∈ vl) ∧ (∀ i, i < 6 → (14, 0) ∈ vl → (4, 1 + i) ∈ vl) ∧ (∀ i, i < 2 → (30, 0) ∈ vl → (4, 7 + i) ∈ vl)
theorem xvc_0_0 {vl : List (Nat × Nat)} (h : xVC vl) {o : Nat} (hv : (0, o) ∈ vl) : (10, o) ∈ vl := h.1 o hv
theorem xvc_0_1 {vl : List (Nat × Nat)} (h : xVC vl) {o : Nat} (hv : (0, o) ∈ vl) : (11, o) ∈ vl := h.2.1 o hv
theorem xvc_0_2 {vl : List (Nat × Nat)} (h : xVC vl) {o : Nat} (hv : (0, o) ∈ vl) : (12, o) ∈ vl := h.2.2.1 o hv
theorem xvc_0_3 {vl : List (Nat × Nat)} (h : xVC vl) {o : Nat} (hv : (0, o) ∈ vl) : (13, o) ∈ vl := h.2.2.2.1 o hv
theorem xvc_1_0 {vl : List (Nat × Nat)} (h : xVC vl) {o : Nat} (hv : (1, o) ∈ vl) : (14, o) ∈ vl := h.2.2.2.2.1 o hv
theorem xvc_2_0 {vl : List (Nat × Nat)} (h : xVC vl) {o : Nat} (hv : (2, o) ∈ vl) : (15, o) ∈ vl := h.2.2.2.2.2.1 o hv
theorem xvc_2_1 {vl : List (Nat × Nat)} (h : xVC vl) {o : Nat} (hv : (2, o) ∈ vl) : (16, o) ∈ vl := h.2.2.2.2.2.2.1 o hv
theorem xvc_2_2 {vl : List (Nat × Nat)} (h : xVC vl) {o : Nat} (hv : (2, o) ∈ vl) : (17, o) ∈ vl := h.2.2.2.2.2.2.2.1 o hv
theorem xvc_2_3 {vl : List (Nat × Nat)} (h : xVC vl) {o : Nat} (hv : (2, o) ∈ vl) : (18, o) ∈ vl := h.2.2.2.2.2.2.2.2.1 o hv
theorem xvc_3_0 {vl : List (Nat × Nat)} (h : xVC vl) {o : Nat} (hv : (3, o) ∈ vl) : (19, o) ∈ vl := h.2.2.2.2.2.2.2.2.2.1 o hv
theorem xvc_3_6 {vl : List (Nat × Nat)} (h : xVC vl) {o : Nat} (hv : (3, o) ∈ vl) : (20, o) ∈ vl := h.2.2.2.2.2.2.2.2.2.2.1 o hv
theorem xvc_3_7 {vl : List (Nat × Nat)} (h : xVC vl) {o : Nat} (hv : (3, o) ∈ vl) : (21, o) ∈ vl := h.2.2.2.2.2.2.2.2.2.2.2.1 o hv
theorem xvc_4_0 {vl : List (Nat × Nat)} (h : xVC vl) {o : Nat} (hv : (4, o) ∈ vl) : (22, o) ∈ vl := h.2.2.2.2.2.2.2.2.2.2.2.2.1 o hv
theorem xvc_4_1 {vl : List (Nat × Nat)} (h : xVC vl) {o : Nat} (hv : (4, o) ∈ vl) : (23, o) ∈ vl := h.2.2.2.2.2.2.2.2.2.2.2.2.2.1 o hv
theorem xvc_4_2 {vl : List (Nat × Nat)} (h : xVC vl) {o : Nat} (hv : (4, o) ∈ vl) : (24, o) ∈ vl := h.2.2.2.2.2.2.2.2.2.2.2.2.2.2.1 o hv
theorem xvc_5_0 {vl : List (Nat × Nat)} (h : xVC vl) {o : Nat} (hv : (5, o) ∈ vl) : (0, o) ∈ vl := h.2.2.2.2.2.2.2.2.2.2.2.2.2.2.2.1 o hv
theorem xvc_5_1 {vl : List (Nat × Nat)} (h : xVC vl) {o : Nat} (hv : (5, o) ∈ vl) : (25, o) ∈ vl := h.2.2.2.2.2.2.2.2.2.2.2.2.2.2.2.2.1 o hv
theorem xvc_5_2 {vl : List (Nat × Nat)} (h : xVC vl) {o : Nat} (hv : (5, o) ∈ vl) : (26, o) ∈ vl := h.2.2.2.2.2.2.2.2.2.2.2.2.2.2.2.2.2.1 o hv
theorem xvc_5_3 {vl : List (Nat × Nat)} (h : xVC vl) {o : Nat} (hv : (5, o) ∈ vl) : (27, o) ∈ vl := h.2.2.2.2.2.2.2.2.2.2.2.2.2.2.2.2.2.2.1 o hv
theorem xvc_5_4 {vl : List (Nat × Nat)} (h : xVC vl) {o : Nat} (hv : (5, o) ∈ vl) : (28, o) ∈ vl := h.2.2.2.2.2.2.2.2.2.2.2.2.2.2.2.2.2.2.2.1 o hv
theorem xvc_5_5 {vl : List (Nat × Nat)} (h : xVC vl) {o : Nat} (hv : (5, o) ∈ vl) : (29, o) ∈ vl := h.2.2.2.2.2.2.2.2.2.2.2.2.2.2.2.2.2.2.2.2.1 o hv
theorem xvc_6_0 {vl : List (Nat × Nat)} (h : xVC vl) (hv : (6, 0) ∈ vl) : (4, 0) ∈ vl := h.2.2.2.2.2.2.2.2.2.2.2.2.2.2.2.2.2.2.2.2.2.1 hv
theorem xvc_6_1 {vl : List (Nat × Nat)} (h : xVC vl) (hv : (6, 0) ∈ vl) : (1, 0) ∈ vl := h.2.2.2.2.2.2.2.2.2.2.2.2.2.2.2.2.2.2.2.2.2.2.1 hv
theorem xvc_6_2 {vl : List (Nat × Nat)} (h : xVC vl) (hv : (6, 0) ∈ vl) : (30, 0) ∈ vl := h.2.2.2.2.2.2.2.2.2.2.2.2.2.2.2.2.2.2.2.2.2.2.2.1 hv
theorem xvc_6_3 {vl : List (Nat × Nat)} (h : xVC vl) (hv : (6, 0) ∈ vl) : (31, 0) ∈ vl := h.2.2.2.2.2.2.2.2.2.2.2.2.2.2.2.2.2.2.2.2.2.2.2.2.1 hv
theorem xvc_6_4 {vl : List (Nat × Nat)} (h : xVC vl) (hv : (6, 0) ∈ vl) : (2, 0) ∈ vl := h.2.2.2.2.2.2.2.2.2.2.2.2.2.2.2.2.2.2.2.2.2.2.2.2.2.1 hv
theorem xvc_6_5 {vl : List (Nat × Nat)} (h : xVC vl) (hv : (6, 0) ∈ vl) : (5, 0) ∈ vl := h.2.2.2.2.2.2.2.2.2.2.2.2.2.2.2.2.2.2.2.2.2.2.2.2.2.2.1 hv
theorem xvc_6_6 {vl : List (Nat × Nat)} (h : xVC vl) (hv : (6, 0) ∈ vl) : (3, 0) ∈ vl := h.2.2.2.2.2.2.2.2.2.2.2.2.2.2.2.2.2.2.2.2.2.2.2.2.2.2.2.1 hv
theorem xvc_6_7 {vl : List (Nat × Nat)} (h : xVC vl) (hv : (6, 0) ∈ vl) : (32, 0) ∈ vl := h.2.2.2.2.2.2.2.2.2.2.2.2.2.2.2.2.2.2.2.2.2.2.2.2.2.2.2.2.1 hv
theorem xvc_6_8 {vl : List (Nat × Nat)} (h : xVC vl) (hv : (6, 0) ∈ vl) : (5, 1) ∈ vl := h.2.2.2.2.2.2.2.2.2.2.2.2.2.2.2.2.2.2.2.2.2.2.2.2.2.2.2.2.2.1 hv
theorem xvc_6_9 {vl : List (Nat × Nat)} (h : xVC vl) (hv : (6, 0) ∈ vl) : (3, 1) ∈ vl := h.2.2.2.2.2.2.2.2.2.2.2.2.2.2.2.2.2.2.2.2.2.2.2.2.2.2.2.2.2.2.1 hv
theorem xvc_6_10 {vl : List (Nat × Nat)} (h : xVC vl) (hv : (6, 0) ∈ vl) : (32, 1) ∈ vl := h.2.2.2.2.2.2.2.2.2.2.2.2.2.2.2.2.2.2.2.2.2.2.2.2.2.2.2.2.2.2.2.1 hv
theorem xvc_s14 {vl : List (Nat × Nat)} (h : xVC vl) (hv : (14, 0) ∈ vl) {i : Nat} (hi : i < 6) : (4, 1 + i) ∈ vl := h.2.2.2.2.2.2.2.2.2.2.2.2.2.2.2.2.2.2.2.2.2.2.2.2.2.2.2.2.2.2.2.2.1 i hi hv
theorem xvc_s30 {vl : List (Nat × Nat)} (h : xVC vl) (hv : (30, 0) ∈ vl) {i : Nat} (hi : i < 2) : (4, 7 + i) ∈ vl := h.2.2.2.2.2.2.2.2.2.2.2.2.2.2.2.2.2.2.2.2.2.2.2.2.2.2.2.2.2.2.2.2.2 i hi hv
/-! the goal -/
abbrev xX : Type := Program × Launch × Env × Room × State × MethodId × Array Value × List Frame × Method × Code × Nat × Nat × (State → Prop) × (Nat → Prop)
def xG (K : xK) (X : xX) (S : xSt) (pc : Nat) (lv : List (Nat × Value)) (st : List Value) : Prop := match X with
  | (p, l, e, R, s, m, args, below, meth, c, ce, sl, Q, A) => ∀ (H : Heap) (locs : List Loc) (ls : Array Slot), xWd K S s H → va_S A s.heap H locs → lv_has ls c.maxLocals lv → W p l e R s m args below meth c H locs ce sl Q (F0 m pc ls st)
def xOK (K : xK) (X : xX) (own : String) (cc : ByteArray) (nL : Nat) : Prop := match X with
  | (p, l, e, R, s, m, args, below, meth, c, ce, sl, Q, A) => p.tables.exec = Jvm.exec ∧ c.code = cc ∧ c.maxLocals = nL ∧ s.vm.findClass own = some m.cls ∧ (∀ w ∈ xTB, w.before args s = true) ∧ (∀ t o, (t, o) ∈ xvl K → A (xad K t o)) ∧ xStt K A s s.heap ∧ xVC (xvl K) ∧ xNw s
theorem xOK.vc {K : xK} {X : xX} {own : String} {cc : ByteArray} {nL : Nat} (h : xOK K X own cc nL) : xVC (xvl K) := by
  obtain ⟨p, l, e, R, s, m, args, below, meth, c, ce, sl, Q, A⟩ := X
  exact h.2.2.2.2.2.2.2.1

section XG
variable {K : xK} {X : xX} {own : String} {cc : ByteArray} {nL : Nat} {S : xSt} {pc : Nat} {lv : List (Nat × Value)} {st : List Value}
theorem g_iconst {n : Int} {v : Int32} (hX : xOK K X own cc nL) (d : decode cc pc = .ok (.iconst n, 1)) (hv9 : Int32.ofInt n = v) (kk : xG K X S (pc + 1) lv (.int v :: st)) : xG K X S pc lv st := by
  obtain ⟨p, l, e, R, s, m, args, below, meth, c, ce, sl, Q, A⟩ := X
  obtain ⟨hx, hb, hml, hown, hts, hA, hst, hvc⟩ := hX
  intro H locs ls wd hS hv
  exact lv_iconst hx hb d hv9 (kk H locs ls wd hS hv)
theorem g_bipush {n : Int} {v : Int32} (hX : xOK K X own cc nL) (d : decode cc pc = .ok (.bipush n, 2)) (hv9 : (Int8.ofInt n).toInt32 = v) (kk : xG K X S (pc + 2) lv (.int v :: st)) : xG K X S pc lv st := by
  obtain ⟨p, l, e, R, s, m, args, below, meth, c, ce, sl, Q, A⟩ := X
  obtain ⟨hx, hb, hml, hown, hts, hA, hst, hvc⟩ := hX
  intro H locs ls wd hS hv
  exact lv_bipush hx hb d hv9 (kk H locs ls wd hS hv)
theorem g_sipush {n : Int} {v : Int32} (hX : xOK K X own cc nL) (d : decode cc pc = .ok (.sipush n, 3)) (hv9 : (Int16.ofInt n).toInt32 = v) (kk : xG K X S (pc + 3) lv (.int v :: st)) : xG K X S pc lv st := by
  obtain ⟨p, l, e, R, s, m, args, below, meth, c, ce, sl, Q, A⟩ := X
  obtain ⟨hx, hb, hml, hown, hts, hA, hst, hvc⟩ := hX
  intro H locs ls wd hS hv
  exact lv_sipush hx hb d hv9 (kk H locs ls wd hS hv)
theorem g_lconst {n : Fin 2} {v : Int64} (hX : xOK K X own cc nL) (d : decode cc pc = .ok (.lconst n, 1)) (hv9 : Int64.ofNat (n : Nat) = v) (kk : xG K X S (pc + 1) lv (.long v :: st)) : xG K X S pc lv st := by
  obtain ⟨p, l, e, R, s, m, args, below, meth, c, ce, sl, Q, A⟩ := X
  obtain ⟨hx, hb, hml, hown, hts, hA, hst, hvc⟩ := hX
  intro H locs ls wd hS hv
  exact lv_lconst hx hb d hv9 (kk H locs ls wd hS hv)
theorem g_iload_n {k : Fin 4} {i : Nat} {x : Int32} (hX : xOK K X own cc nL) (d : decode cc pc = .ok (.iload_n k, 1)) (hi : (k : Nat) = i) (q : Nat) (hl : lv[q]? = some (i, .int x)) (kk : xG K X S (pc + 1) lv (.int x :: st)) : xG K X S pc lv st := by
  obtain ⟨p, l, e, R, s, m, args, below, meth, c, ce, sl, Q, A⟩ := X
  obtain ⟨hx, hb, hml, hown, hts, hA, hst, hvc⟩ := hX
  intro H locs ls wd hS hv
  exact lv_iload_n hx hb d hi (lv_at hv q hl) (kk H locs ls wd hS hv)
theorem g_iload {i : Nat} {x : Int32} (hX : xOK K X own cc nL) (d : decode cc pc = .ok (.iload i, 2)) (q : Nat) (hl : lv[q]? = some (i, .int x)) (kk : xG K X S (pc + 2) lv (.int x :: st)) : xG K X S pc lv st := by
  obtain ⟨p, l, e, R, s, m, args, below, meth, c, ce, sl, Q, A⟩ := X
  obtain ⟨hx, hb, hml, hown, hts, hA, hst, hvc⟩ := hX
  intro H locs ls wd hS hv
  exact lv_iload hx hb d (lv_at hv q hl) (kk H locs ls wd hS hv)
theorem g_lload_n {k : Fin 4} {i : Nat} {x : Int64} (hX : xOK K X own cc nL) (d : decode cc pc = .ok (.lload_n k, 1)) (hi : (k : Nat) = i) (q : Nat) (hl : lv[q]? = some (i, .long x)) (kk : xG K X S (pc + 1) lv (.long x :: st)) : xG K X S pc lv st := by
  obtain ⟨p, l, e, R, s, m, args, below, meth, c, ce, sl, Q, A⟩ := X
  obtain ⟨hx, hb, hml, hown, hts, hA, hst, hvc⟩ := hX
  intro H locs ls wd hS hv
  exact lv_lload_n hx hb d hi (lv_at hv q hl) (kk H locs ls wd hS hv)
theorem g_lload {i : Nat} {x : Int64} (hX : xOK K X own cc nL) (d : decode cc pc = .ok (.lload i, 2)) (q : Nat) (hl : lv[q]? = some (i, .long x)) (kk : xG K X S (pc + 2) lv (.long x :: st)) : xG K X S pc lv st := by
  obtain ⟨p, l, e, R, s, m, args, below, meth, c, ce, sl, Q, A⟩ := X
  obtain ⟨hx, hb, hml, hown, hts, hA, hst, hvc⟩ := hX
  intro H locs ls wd hS hv
  exact lv_lload hx hb d (lv_at hv q hl) (kk H locs ls wd hS hv)
theorem g_aload_n {k : Fin 4} {i t o : Nat} (hX : xOK K X own cc nL) (d : decode cc pc = .ok (.aload_n k, 1)) (hi : (k : Nat) = i) (q : Nat) (hl : lv[q]? = some (i, xr K t o)) (kk : xG K X S (pc + 1) lv (xr K t o :: st)) : xG K X S pc lv st := by
  obtain ⟨p, l, e, R, s, m, args, below, meth, c, ce, sl, Q, A⟩ := X
  obtain ⟨hx, hb, hml, hown, hts, hA, hst, hvc⟩ := hX
  intro H locs ls wd hS hv
  exact lv_aload_n hx hb d hi (lv_at hv q hl) (kk H locs ls wd hS hv)
theorem g_aload {i t o : Nat} (hX : xOK K X own cc nL) (d : decode cc pc = .ok (.aload i, 2)) (q : Nat) (hl : lv[q]? = some (i, xr K t o)) (kk : xG K X S (pc + 2) lv (xr K t o :: st)) : xG K X S pc lv st := by
  obtain ⟨p, l, e, R, s, m, args, below, meth, c, ce, sl, Q, A⟩ := X
  obtain ⟨hx, hb, hml, hown, hts, hA, hst, hvc⟩ := hX
  intro H locs ls wd hS hv
  exact lv_aload hx hb d (lv_at hv q hl) (kk H locs ls wd hS hv)
theorem g_istore_n {k : Fin 4} {i : Nat} {x : Int32} {lv2 : List (Nat × Value)} (hX : xOK K X own cc nL) (d : decode cc pc = .ok (.istore_n k, 1)) (hi : (k : Nat) = i) (hn : i < nL) (hl : (i, Value.int x) :: lv.filter (fun q => !(q.1 == i) && !(q.1 + 1 == i && q.2.category == 2)) = lv2) (kk : xG K X S (pc + 1) lv2 st) : xG K X S pc lv (.int x :: st) := by
  obtain ⟨p, l, e, R, s, m, args, below, meth, c, ce, sl, Q, A⟩ := X
  obtain ⟨hx, hb, hml, hown, hts, hA, hst, hvc⟩ := hX
  intro H locs ls wd hS hv
  exact lv_istore_n hx hb d hi hv (by rw [hml]; exact hn) hl (fun ls2 hv2 => kk H locs ls2 wd hS hv2)
theorem g_istore {i : Nat} {x : Int32} {lv2 : List (Nat × Value)} (hX : xOK K X own cc nL) (d : decode cc pc = .ok (.istore i, 2)) (hn : i < nL) (hl : (i, Value.int x) :: lv.filter (fun q => !(q.1 == i) && !(q.1 + 1 == i && q.2.category == 2)) = lv2) (kk : xG K X S (pc + 2) lv2 st) : xG K X S pc lv (.int x :: st) := by
  obtain ⟨p, l, e, R, s, m, args, below, meth, c, ce, sl, Q, A⟩ := X
  obtain ⟨hx, hb, hml, hown, hts, hA, hst, hvc⟩ := hX
  intro H locs ls wd hS hv
  exact lv_istore hx hb d hv (by rw [hml]; exact hn) hl (fun ls2 hv2 => kk H locs ls2 wd hS hv2)
theorem g_lstore_n {k : Fin 4} {i : Nat} {x : Int64} {lv2 : List (Nat × Value)} (hX : xOK K X own cc nL) (d : decode cc pc = .ok (.lstore_n k, 1)) (hi : (k : Nat) = i) (hn : i + 1 < nL) (hl : (i, Value.long x) :: lv.filter (fun q => !(q.1 == i) && (!(q.1 == i + 1) && !(q.1 + 1 == i && q.2.category == 2))) = lv2) (kk : xG K X S (pc + 1) lv2 st) : xG K X S pc lv (.long x :: st) := by
  obtain ⟨p, l, e, R, s, m, args, below, meth, c, ce, sl, Q, A⟩ := X
  obtain ⟨hx, hb, hml, hown, hts, hA, hst, hvc⟩ := hX
  intro H locs ls wd hS hv
  exact lv_lstore_n hx hb d hi hv (by rw [hml]; exact hn) hl (fun ls2 hv2 => kk H locs ls2 wd hS hv2)
theorem g_lstore {i : Nat} {x : Int64} {lv2 : List (Nat × Value)} (hX : xOK K X own cc nL) (d : decode cc pc = .ok (.lstore i, 2)) (hn : i + 1 < nL) (hl : (i, Value.long x) :: lv.filter (fun q => !(q.1 == i) && (!(q.1 == i + 1) && !(q.1 + 1 == i && q.2.category == 2))) = lv2) (kk : xG K X S (pc + 2) lv2 st) : xG K X S pc lv (.long x :: st) := by
  obtain ⟨p, l, e, R, s, m, args, below, meth, c, ce, sl, Q, A⟩ := X
  obtain ⟨hx, hb, hml, hown, hts, hA, hst, hvc⟩ := hX
  intro H locs ls wd hS hv
  exact lv_lstore hx hb d hv (by rw [hml]; exact hn) hl (fun ls2 hv2 => kk H locs ls2 wd hS hv2)
theorem g_astore {i t o : Nat} {lv2 : List (Nat × Value)} (hX : xOK K X own cc nL) (d : decode cc pc = .ok (.astore i, 2)) (hn : i < nL) (hl : (i, xr K t o) :: lv.filter (fun q => !(q.1 == i) && !(q.1 + 1 == i && q.2.category == 2)) = lv2) (kk : xG K X S (pc + 2) lv2 st) : xG K X S pc lv (xr K t o :: st) := by
  obtain ⟨p, l, e, R, s, m, args, below, meth, c, ce, sl, Q, A⟩ := X
  obtain ⟨hx, hb, hml, hown, hts, hA, hst, hvc⟩ := hX
  intro H locs ls wd hS hv
  exact lv_astore hx hb d hv (by rw [hml]; exact hn) hl (fun ls2 hv2 => kk H locs ls2 wd hS hv2)
theorem g_astore_n {k : Fin 4} {i t o : Nat} {lv2 : List (Nat × Value)} (hX : xOK K X own cc nL) (d : decode cc pc = .ok (.astore_n k, 1)) (hi : (k : Nat) = i) (hn : i < nL) (hl : (i, xr K t o) :: lv.filter (fun q => !(q.1 == i) && !(q.1 + 1 == i && q.2.category == 2)) = lv2) (kk : xG K X S (pc + 1) lv2 st) : xG K X S pc lv (xr K t o :: st) := by
  obtain ⟨p, l, e, R, s, m, args, below, meth, c, ce, sl, Q, A⟩ := X
  obtain ⟨hx, hb, hml, hown, hts, hA, hst, hvc⟩ := hX
  intro H locs ls wd hS hv
  exact lv_astore_n hx hb d hi hv (by rw [hml]; exact hn) hl (fun ls2 hv2 => kk H locs ls2 wd hS hv2)
theorem g_iinc {i : Nat} {n : Int} {x v : Int32} {lv2 : List (Nat × Value)} (hX : xOK K X own cc nL) (d : decode cc pc = .ok (.iinc i n, 3)) (q : Nat) (hq : lv[q]? = some (i, .int x)) (hv9 : x + Int32.ofInt n = v) (hn : i < nL) (hl : (i, Value.int v) :: lv.filter (fun q => !(q.1 == i) && !(q.1 + 1 == i && q.2.category == 2)) = lv2) (kk : xG K X S (pc + 3) lv2 st) : xG K X S pc lv st := by
  obtain ⟨p, l, e, R, s, m, args, below, meth, c, ce, sl, Q, A⟩ := X
  obtain ⟨hx, hb, hml, hown, hts, hA, hst, hvc⟩ := hX
  intro H locs ls wd hS hv
  exact lv_iinc hx hb d hv hq hv9 (by rw [hml]; exact hn) hl (fun ls2 hv2 => kk H locs ls2 wd hS hv2)
theorem g_iadd {x y : Int32} (hX : xOK K X own cc nL) (d : decode cc pc = .ok (.iadd, 1))  (kk : xG K X S (pc + 1) lv (.int (x + y) :: st)) : xG K X S pc lv (.int y :: .int x :: st) := by
  obtain ⟨p, l, e, R, s, m, args, below, meth, c, ce, sl, Q, A⟩ := X
  obtain ⟨hx, hb, hml, hown, hts, hA, hst, hvc⟩ := hX
  intro H locs ls wd hS hv
  exact lv_iadd hx hb d  (kk H locs ls wd hS hv)
theorem g_isub {x y : Int32} (hX : xOK K X own cc nL) (d : decode cc pc = .ok (.isub, 1))  (kk : xG K X S (pc + 1) lv (.int (x - y) :: st)) : xG K X S pc lv (.int y :: .int x :: st) := by
  obtain ⟨p, l, e, R, s, m, args, below, meth, c, ce, sl, Q, A⟩ := X
  obtain ⟨hx, hb, hml, hown, hts, hA, hst, hvc⟩ := hX
  intro H locs ls wd hS hv
  exact lv_isub hx hb d  (kk H locs ls wd hS hv)
theorem g_imul {x y : Int32} (hX : xOK K X own cc nL) (d : decode cc pc = .ok (.imul, 1))  (kk : xG K X S (pc + 1) lv (.int (x * y) :: st)) : xG K X S pc lv (.int y :: .int x :: st) := by
  obtain ⟨p, l, e, R, s, m, args, below, meth, c, ce, sl, Q, A⟩ := X
  obtain ⟨hx, hb, hml, hown, hts, hA, hst, hvc⟩ := hX
  intro H locs ls wd hS hv
  exact lv_imul hx hb d  (kk H locs ls wd hS hv)
theorem g_iand {x y : Int32} (hX : xOK K X own cc nL) (d : decode cc pc = .ok (.iand, 1))  (kk : xG K X S (pc + 1) lv (.int (x &&& y) :: st)) : xG K X S pc lv (.int y :: .int x :: st) := by
  obtain ⟨p, l, e, R, s, m, args, below, meth, c, ce, sl, Q, A⟩ := X
  obtain ⟨hx, hb, hml, hown, hts, hA, hst, hvc⟩ := hX
  intro H locs ls wd hS hv
  exact lv_iand hx hb d  (kk H locs ls wd hS hv)
theorem g_ixor {x y : Int32} (hX : xOK K X own cc nL) (d : decode cc pc = .ok (.ixor, 1))  (kk : xG K X S (pc + 1) lv (.int (x ^^^ y) :: st)) : xG K X S pc lv (.int y :: .int x :: st) := by
  obtain ⟨p, l, e, R, s, m, args, below, meth, c, ce, sl, Q, A⟩ := X
  obtain ⟨hx, hb, hml, hown, hts, hA, hst, hvc⟩ := hX
  intro H locs ls wd hS hv
  exact lv_ixor hx hb d  (kk H locs ls wd hS hv)
theorem g_ishl {x y : Int32} (hX : xOK K X own cc nL) (d : decode cc pc = .ok (.ishl, 1))  (kk : xG K X S (pc + 1) lv (.int (x <<< (y &&& 31)) :: st)) : xG K X S pc lv (.int y :: .int x :: st) := by
  obtain ⟨p, l, e, R, s, m, args, below, meth, c, ce, sl, Q, A⟩ := X
  obtain ⟨hx, hb, hml, hown, hts, hA, hst, hvc⟩ := hX
  intro H locs ls wd hS hv
  exact lv_ishl hx hb d  (kk H locs ls wd hS hv)
theorem g_ishr {x y : Int32} (hX : xOK K X own cc nL) (d : decode cc pc = .ok (.ishr, 1))  (kk : xG K X S (pc + 1) lv (.int (x >>> (y &&& 31)) :: st)) : xG K X S pc lv (.int y :: .int x :: st) := by
  obtain ⟨p, l, e, R, s, m, args, below, meth, c, ce, sl, Q, A⟩ := X
  obtain ⟨hx, hb, hml, hown, hts, hA, hst, hvc⟩ := hX
  intro H locs ls wd hS hv
  exact lv_ishr hx hb d  (kk H locs ls wd hS hv)
theorem g_land {x y : Int64} (hX : xOK K X own cc nL) (d : decode cc pc = .ok (.land, 1))  (kk : xG K X S (pc + 1) lv (.long (x &&& y) :: st)) : xG K X S pc lv (.long y :: .long x :: st) := by
  obtain ⟨p, l, e, R, s, m, args, below, meth, c, ce, sl, Q, A⟩ := X
  obtain ⟨hx, hb, hml, hown, hts, hA, hst, hvc⟩ := hX
  intro H locs ls wd hS hv
  exact lv_land hx hb d  (kk H locs ls wd hS hv)
theorem g_lor {x y : Int64} (hX : xOK K X own cc nL) (d : decode cc pc = .ok (.lor, 1))  (kk : xG K X S (pc + 1) lv (.long (x ||| y) :: st)) : xG K X S pc lv (.long y :: .long x :: st) := by
  obtain ⟨p, l, e, R, s, m, args, below, meth, c, ce, sl, Q, A⟩ := X
  obtain ⟨hx, hb, hml, hown, hts, hA, hst, hvc⟩ := hX
  intro H locs ls wd hS hv
  exact lv_lor hx hb d  (kk H locs ls wd hS hv)
theorem g_idiv {x y : Int32} (hX : xOK K X own cc nL) (d : decode cc pc = .ok (.idiv, 1)) (hne : ¬ y = 0) (kk : xG K X S (pc + 1) lv (.int (x / y) :: st)) : xG K X S pc lv (.int y :: .int x :: st) := by
  obtain ⟨p, l, e, R, s, m, args, below, meth, c, ce, sl, Q, A⟩ := X
  obtain ⟨hx, hb, hml, hown, hts, hA, hst, hvc⟩ := hX
  intro H locs ls wd hS hv
  exact lv_idiv hx hb d hne (kk H locs ls wd hS hv)
theorem g_irem {x y : Int32} (hX : xOK K X own cc nL) (d : decode cc pc = .ok (.irem, 1)) (hne : ¬ y = 0) (kk : xG K X S (pc + 1) lv (.int (x - x / y * y) :: st)) : xG K X S pc lv (.int y :: .int x :: st) := by
  obtain ⟨p, l, e, R, s, m, args, below, meth, c, ce, sl, Q, A⟩ := X
  obtain ⟨hx, hb, hml, hown, hts, hA, hst, hvc⟩ := hX
  intro H locs ls wd hS hv
  exact lv_irem hx hb d hne (kk H locs ls wd hS hv)
theorem g_lshl {x : Int64} {y : Int32} (hX : xOK K X own cc nL) (d : decode cc pc = .ok (.lshl, 1))  (kk : xG K X S (pc + 1) lv (.long (x <<< (y.toInt64 &&& 63)) :: st)) : xG K X S pc lv (.int y :: .long x :: st) := by
  obtain ⟨p, l, e, R, s, m, args, below, meth, c, ce, sl, Q, A⟩ := X
  obtain ⟨hx, hb, hml, hown, hts, hA, hst, hvc⟩ := hX
  intro H locs ls wd hS hv
  exact lv_lshl hx hb d rfl (kk H locs ls wd hS hv)
theorem g_lushr {x : Int64} {y : Int32} (hX : xOK K X own cc nL) (d : decode cc pc = .ok (.lushr, 1))  (kk : xG K X S (pc + 1) lv (.long (x.toUInt64 >>> (y.toInt64.toUInt64 &&& Int64.toUInt64 63)).toInt64 :: st)) : xG K X S pc lv (.int y :: .long x :: st) := by
  obtain ⟨p, l, e, R, s, m, args, below, meth, c, ce, sl, Q, A⟩ := X
  obtain ⟨hx, hb, hml, hown, hts, hA, hst, hvc⟩ := hX
  intro H locs ls wd hS hv
  exact lv_lushr hx hb d rfl (kk H locs ls wd hS hv)
theorem g_i2l {x : Int32} (hX : xOK K X own cc nL) (d : decode cc pc = .ok (.i2l, 1))  (kk : xG K X S (pc + 1) lv (.long x.toInt64 :: st)) : xG K X S pc lv (.int x :: st) := by
  obtain ⟨p, l, e, R, s, m, args, below, meth, c, ce, sl, Q, A⟩ := X
  obtain ⟨hx, hb, hml, hown, hts, hA, hst, hvc⟩ := hX
  intro H locs ls wd hS hv
  exact lv_i2l hx hb d rfl (kk H locs ls wd hS hv)
theorem g_l2i {x : Int64} (hX : xOK K X own cc nL) (d : decode cc pc = .ok (.l2i, 1))  (kk : xG K X S (pc + 1) lv (.int x.toInt32 :: st)) : xG K X S pc lv (.long x :: st) := by
  obtain ⟨p, l, e, R, s, m, args, below, meth, c, ce, sl, Q, A⟩ := X
  obtain ⟨hx, hb, hml, hown, hts, hA, hst, hvc⟩ := hX
  intro H locs ls wd hS hv
  exact lv_l2i hx hb d rfl (kk H locs ls wd hS hv)
theorem g_i2b {x : Int32} (hX : xOK K X own cc nL) (d : decode cc pc = .ok (.i2b, 1))  (kk : xG K X S (pc + 1) lv (.int x.toInt8.toInt32 :: st)) : xG K X S pc lv (.int x :: st) := by
  obtain ⟨p, l, e, R, s, m, args, below, meth, c, ce, sl, Q, A⟩ := X
  obtain ⟨hx, hb, hml, hown, hts, hA, hst, hvc⟩ := hX
  intro H locs ls wd hS hv
  exact lv_i2b hx hb d rfl (kk H locs ls wd hS hv)
theorem g_lcmp {x y : Int64} (hX : xOK K X own cc nL) (d : decode cc pc = .ok (.lcmp, 1))  (kk : xG K X S (pc + 1) lv (.int (lg_cmp x y) :: st)) : xG K X S pc lv (.long y :: .long x :: st) := by
  obtain ⟨p, l, e, R, s, m, args, below, meth, c, ce, sl, Q, A⟩ := X
  obtain ⟨hx, hb, hml, hown, hts, hA, hst, hvc⟩ := hX
  intro H locs ls wd hS hv
  exact W.lcmp hx hb d  (kk H locs ls wd hS hv)
theorem g_dup {va : Value} (hX : xOK K X own cc nL) (d : decode cc pc = .ok (.dup, 1)) (hva : va.category = 1) (kk : xG K X S (pc + 1) lv (va :: va :: st)) : xG K X S pc lv (va :: st) := by
  obtain ⟨p, l, e, R, s, m, args, below, meth, c, ce, sl, Q, A⟩ := X
  obtain ⟨hx, hb, hml, hown, hts, hA, hst, hvc⟩ := hX
  intro H locs ls wd hS hv
  exact lv_dup hx hb d hva (kk H locs ls wd hS hv)
theorem g_dup2 {va vb : Value} (hX : xOK K X own cc nL) (d : decode cc pc = .ok (.dup2, 1)) (hva : va.category = 1) (hvb : vb.category = 1) (kk : xG K X S (pc + 1) lv (va :: vb :: va :: vb :: st)) : xG K X S pc lv (va :: vb :: st) := by
  obtain ⟨p, l, e, R, s, m, args, below, meth, c, ce, sl, Q, A⟩ := X
  obtain ⟨hx, hb, hml, hown, hts, hA, hst, hvc⟩ := hX
  intro H locs ls wd hS hv
  exact lv_dup2_11 hx hb d hva hvb (kk H locs ls wd hS hv)
theorem g_pop {va : Value} (hX : xOK K X own cc nL) (d : decode cc pc = .ok (.pop, 1)) (hva : va.category = 1) (kk : xG K X S (pc + 1) lv st) : xG K X S pc lv (va :: st) := by
  obtain ⟨p, l, e, R, s, m, args, below, meth, c, ce, sl, Q, A⟩ := X
  obtain ⟨hx, hb, hml, hown, hts, hA, hst, hvc⟩ := hX
  intro H locs ls wd hS hv
  exact lv_pop hx hb d hva (kk H locs ls wd hS hv)
theorem g_aloads_n {k : Fin 4} {i n : Nat} (hX : xOK K X own cc nL) (d : decode cc pc = .ok (.aload_n k, 1)) (hi : (k : Nat) = i) (q : Nat) (hl : lv[q]? = some (i, xrs K n)) (kk : xG K X S (pc + 1) lv (xrs K n :: st)) : xG K X S pc lv st := by
  obtain ⟨p, l, e, R, s, m, args, below, meth, c, ce, sl, Q, A⟩ := X
  obtain ⟨hx, hb, hml, hown, hts, hA, hst, hvc⟩ := hX
  intro H locs ls wd hS hv
  exact lv_aload_n hx hb d hi (lv_at hv q hl) (kk H locs ls wd hS hv)
theorem g_ldc {index : Nat} {v : Int32} (hX : xOK K X own cc nL) (d : decode cc pc = .ok (.ldc index, 2)) (hc : Cond.constant own index v ∈ xTB) (kk : xG K X S (pc + 2) lv (.int v :: st)) : xG K X S pc lv st := by
  obtain ⟨p, l, e, R, s, m, args, below, meth, c, ce, sl, Q, A⟩ := X
  obtain ⟨hx, hb, hml, hown, hts, hA, hst, hvc⟩ := hX
  intro H locs ls wd hS hv
  exact lv_ldc hx hb hown (hts _ hc) d (kk H locs ls wd hS hv)
theorem g_ldc2 {index : Nat} {v : Int64} (hX : xOK K X own cc nL) (d : decode cc pc = .ok (.ldc2_w index, 3)) (hc : Cond.constantLong own index v ∈ xTB) (kk : xG K X S (pc + 3) lv (.long v :: st)) : xG K X S pc lv st := by
  obtain ⟨p, l, e, R, s, m, args, below, meth, c, ce, sl, Q, A⟩ := X
  obtain ⟨hx, hb, hml, hown, hts, hA, hst, hvc⟩ := hX
  intro H locs ls wd hS hv
  exact lv_ldc2 hx hb hown (hts _ hc) d (kk H locs ls wd hS hv)
theorem g_goto {off : Int} (hX : xOK K X own cc nL) (tgt : Nat) (d : decode cc pc = .ok (.goto off, 3)) (ht : (pc : Int) + off = (tgt : Int)) (kk : xG K X S tgt lv st) : xG K X S pc lv st := by
  obtain ⟨p, l, e, R, s, m, args, below, meth, c, ce, sl, Q, A⟩ := X
  obtain ⟨hx, hb, hml, hown, hts, hA, hst, hvc⟩ := hX
  intro H locs ls wd hS hv
  exact lv_goto hx hb d ht (kk H locs ls wd hS hv)
theorem g_icmp_eq {x y : Int32} {off : Int} (hX : xOK K X own cc nL) (tgt : Nat) (d : decode cc pc = .ok (.if_icmp .eq off, 3)) (ht : (pc : Int) + off = (tgt : Int)) (kt : x = y → xG K X S tgt lv st) (kf : ¬ x = y → xG K X S (pc + 3) lv st) : xG K X S pc lv (.int y :: .int x :: st) := by
  obtain ⟨p, l, e, R, s, m, args, below, meth, c, ce, sl, Q, A⟩ := X
  obtain ⟨hx, hb, hml, hown, hts, hA, hst, hvc⟩ := hX
  intro H locs ls wd hS hv
  exact lv_icmp_eq hx hb d ht (fun h => kt h H locs ls wd hS hv) (fun h => kf h H locs ls wd hS hv)
theorem g_icmp_ne {x y : Int32} {off : Int} (hX : xOK K X own cc nL) (tgt : Nat) (d : decode cc pc = .ok (.if_icmp .ne off, 3)) (ht : (pc : Int) + off = (tgt : Int)) (kt : ¬ x = y → xG K X S tgt lv st) (kf : x = y → xG K X S (pc + 3) lv st) : xG K X S pc lv (.int y :: .int x :: st) := by
  obtain ⟨p, l, e, R, s, m, args, below, meth, c, ce, sl, Q, A⟩ := X
  obtain ⟨hx, hb, hml, hown, hts, hA, hst, hvc⟩ := hX
  intro H locs ls wd hS hv
  exact lv_icmp_ne hx hb d ht (fun h => kt h H locs ls wd hS hv) (fun h => kf h H locs ls wd hS hv)
theorem g_icmp_lt {x y : Int32} {off : Int} (hX : xOK K X own cc nL) (tgt : Nat) (d : decode cc pc = .ok (.if_icmp .lt off, 3)) (ht : (pc : Int) + off = (tgt : Int)) (kt : x < y → xG K X S tgt lv st) (kf : ¬ x < y → xG K X S (pc + 3) lv st) : xG K X S pc lv (.int y :: .int x :: st) := by
  obtain ⟨p, l, e, R, s, m, args, below, meth, c, ce, sl, Q, A⟩ := X
  obtain ⟨hx, hb, hml, hown, hts, hA, hst, hvc⟩ := hX
  intro H locs ls wd hS hv
  exact lv_icmp_lt hx hb d ht (fun h => kt h H locs ls wd hS hv) (fun h => kf h H locs ls wd hS hv)
theorem g_icmp_ge {x y : Int32} {off : Int} (hX : xOK K X own cc nL) (tgt : Nat) (d : decode cc pc = .ok (.if_icmp .ge off, 3)) (ht : (pc : Int) + off = (tgt : Int)) (kt : y ≤ x → xG K X S tgt lv st) (kf : ¬ y ≤ x → xG K X S (pc + 3) lv st) : xG K X S pc lv (.int y :: .int x :: st) := by
  obtain ⟨p, l, e, R, s, m, args, below, meth, c, ce, sl, Q, A⟩ := X
  obtain ⟨hx, hb, hml, hown, hts, hA, hst, hvc⟩ := hX
  intro H locs ls wd hS hv
  exact lv_icmp_ge hx hb d ht (fun h => kt h H locs ls wd hS hv) (fun h => kf h H locs ls wd hS hv)
theorem g_icmp_gt {x y : Int32} {off : Int} (hX : xOK K X own cc nL) (tgt : Nat) (d : decode cc pc = .ok (.if_icmp .gt off, 3)) (ht : (pc : Int) + off = (tgt : Int)) (kt : y < x → xG K X S tgt lv st) (kf : ¬ y < x → xG K X S (pc + 3) lv st) : xG K X S pc lv (.int y :: .int x :: st) := by
  obtain ⟨p, l, e, R, s, m, args, below, meth, c, ce, sl, Q, A⟩ := X
  obtain ⟨hx, hb, hml, hown, hts, hA, hst, hvc⟩ := hX
  intro H locs ls wd hS hv
  exact lv_icmp_gt hx hb d ht (fun h => kt h H locs ls wd hS hv) (fun h => kf h H locs ls wd hS hv)
theorem g_icmp_le {x y : Int32} {off : Int} (hX : xOK K X own cc nL) (tgt : Nat) (d : decode cc pc = .ok (.if_icmp .le off, 3)) (ht : (pc : Int) + off = (tgt : Int)) (kt : x ≤ y → xG K X S tgt lv st) (kf : ¬ x ≤ y → xG K X S (pc + 3) lv st) : xG K X S pc lv (.int y :: .int x :: st) := by
  obtain ⟨p, l, e, R, s, m, args, below, meth, c, ce, sl, Q, A⟩ := X
  obtain ⟨hx, hb, hml, hown, hts, hA, hst, hvc⟩ := hX
  intro H locs ls wd hS hv
  exact lv_icmp_le hx hb d ht (fun h => kt h H locs ls wd hS hv) (fun h => kf h H locs ls wd hS hv)
theorem g_if_eq {x : Int32} {off : Int} (hX : xOK K X own cc nL) (tgt : Nat) (d : decode cc pc = .ok (.ifCond .eq off, 3)) (ht : (pc : Int) + off = (tgt : Int)) (kt : x = 0 → xG K X S tgt lv st) (kf : ¬ x = 0 → xG K X S (pc + 3) lv st) : xG K X S pc lv (.int x :: st) := by
  obtain ⟨p, l, e, R, s, m, args, below, meth, c, ce, sl, Q, A⟩ := X
  obtain ⟨hx, hb, hml, hown, hts, hA, hst, hvc⟩ := hX
  intro H locs ls wd hS hv
  exact lv_if_eq hx hb d ht (fun h => kt h H locs ls wd hS hv) (fun h => kf h H locs ls wd hS hv)
theorem g_if_ne {x : Int32} {off : Int} (hX : xOK K X own cc nL) (tgt : Nat) (d : decode cc pc = .ok (.ifCond .ne off, 3)) (ht : (pc : Int) + off = (tgt : Int)) (kt : ¬ x = 0 → xG K X S tgt lv st) (kf : x = 0 → xG K X S (pc + 3) lv st) : xG K X S pc lv (.int x :: st) := by
  obtain ⟨p, l, e, R, s, m, args, below, meth, c, ce, sl, Q, A⟩ := X
  obtain ⟨hx, hb, hml, hown, hts, hA, hst, hvc⟩ := hX
  intro H locs ls wd hS hv
  exact lv_if_ne hx hb d ht (fun h => kt h H locs ls wd hS hv) (fun h => kf h H locs ls wd hS hv)
theorem g_if_lt {x : Int32} {off : Int} (hX : xOK K X own cc nL) (tgt : Nat) (d : decode cc pc = .ok (.ifCond .lt off, 3)) (ht : (pc : Int) + off = (tgt : Int)) (kt : x < 0 → xG K X S tgt lv st) (kf : ¬ x < 0 → xG K X S (pc + 3) lv st) : xG K X S pc lv (.int x :: st) := by
  obtain ⟨p, l, e, R, s, m, args, below, meth, c, ce, sl, Q, A⟩ := X
  obtain ⟨hx, hb, hml, hown, hts, hA, hst, hvc⟩ := hX
  intro H locs ls wd hS hv
  exact lv_if_lt hx hb d ht (fun h => kt h H locs ls wd hS hv) (fun h => kf h H locs ls wd hS hv)
theorem g_if_ge {x : Int32} {off : Int} (hX : xOK K X own cc nL) (tgt : Nat) (d : decode cc pc = .ok (.ifCond .ge off, 3)) (ht : (pc : Int) + off = (tgt : Int)) (kt : 0 ≤ x → xG K X S tgt lv st) (kf : ¬ 0 ≤ x → xG K X S (pc + 3) lv st) : xG K X S pc lv (.int x :: st) := by
  obtain ⟨p, l, e, R, s, m, args, below, meth, c, ce, sl, Q, A⟩ := X
  obtain ⟨hx, hb, hml, hown, hts, hA, hst, hvc⟩ := hX
  intro H locs ls wd hS hv
  exact lv_if_ge hx hb d ht (fun h => kt h H locs ls wd hS hv) (fun h => kf h H locs ls wd hS hv)
theorem g_if_gt {x : Int32} {off : Int} (hX : xOK K X own cc nL) (tgt : Nat) (d : decode cc pc = .ok (.ifCond .gt off, 3)) (ht : (pc : Int) + off = (tgt : Int)) (kt : 0 < x → xG K X S tgt lv st) (kf : ¬ 0 < x → xG K X S (pc + 3) lv st) : xG K X S pc lv (.int x :: st) := by
  obtain ⟨p, l, e, R, s, m, args, below, meth, c, ce, sl, Q, A⟩ := X
  obtain ⟨hx, hb, hml, hown, hts, hA, hst, hvc⟩ := hX
  intro H locs ls wd hS hv
  exact lv_if_gt hx hb d ht (fun h => kt h H locs ls wd hS hv) (fun h => kf h H locs ls wd hS hv)
theorem g_if_le {x : Int32} {off : Int} (hX : xOK K X own cc nL) (tgt : Nat) (d : decode cc pc = .ok (.ifCond .le off, 3)) (ht : (pc : Int) + off = (tgt : Int)) (kt : x ≤ 0 → xG K X S tgt lv st) (kf : ¬ x ≤ 0 → xG K X S (pc + 3) lv st) : xG K X S pc lv (.int x :: st) := by
  obtain ⟨p, l, e, R, s, m, args, below, meth, c, ce, sl, Q, A⟩ := X
  obtain ⟨hx, hb, hml, hown, hts, hA, hst, hvc⟩ := hX
  intro H locs ls wd hS hv
  exact lv_if_le hx hb d ht (fun h => kt h H locs ls wd hS hv) (fun h => kf h H locs ls wd hS hv)
theorem g_ifnonnull {off : Int} {t o : Nat} (hX : xOK K X own cc nL) (tgt : Nat) (d : decode cc pc = .ok (.ifnonnull off, 3)) (ht : (pc : Int) + off = (tgt : Int)) (kk : xG K X S tgt lv st) : xG K X S pc lv (xr K t o :: st) := by
  obtain ⟨p, l, e, R, s, m, args, below, meth, c, ce, sl, Q, A⟩ := X
  obtain ⟨hx, hb, hml, hown, hts, hA, hst, hvc⟩ := hX
  intro H locs ls wd hS hv
  exact lv_ifnonnull hx hb d ht (kk H locs ls wd hS hv)
theorem g_ifnull {off : Int} {t o : Nat} (hX : xOK K X own cc nL) (d : decode cc pc = .ok (.ifnull off, 3)) (kk : xG K X S (pc + 3) lv st) : xG K X S pc lv (xr K t o :: st) := by
  obtain ⟨p, l, e, R, s, m, args, below, meth, c, ce, sl, Q, A⟩ := X
  obtain ⟨hx, hb, hml, hown, hts, hA, hst, hvc⟩ := hX
  intro H locs ls wd hS hv
  exact lv_ifnull hx hb d (kk H locs ls wd hS hv)
theorem g_tsOut {dflt lo hi : Int} {offs : Array Int} {len : Nat} {x : Int32} (hX : xOK K X own cc nL) (tgt : Nat) (d : decode cc pc = .ok (.tableswitch dflt lo hi offs, len)) (h : x.toInt < lo ∨ hi < x.toInt) (ht : (pc : Int) + dflt = (tgt : Int)) (kk : xG K X S tgt lv st) : xG K X S pc lv (.int x :: st) := by
  obtain ⟨p, l, e, R, s, m, args, below, meth, c, ce, sl, Q, A⟩ := X
  obtain ⟨hx, hb, hml, hown, hts, hA, hst, hvc⟩ := hX
  intro H locs ls wd hS hv
  exact lv_tableOut hx hb d h ht (kk H locs ls wd hS hv)
theorem g_tsIn {dflt lo hi : Int} {offs : Array Int} {len : Nat} {x : Int32} {off : Int} (hX : xOK K X own cc nL) (tgt : Nat) (d : decode cc pc = .ok (.tableswitch dflt lo hi offs, len)) (h : ¬ (x.toInt < lo ∨ hi < x.toInt)) (n : Nat) (hn : (x.toInt - lo).toNat = n) (ho : offs[n]? = some off) (ht : (pc : Int) + off = (tgt : Int)) (kk : xG K X S tgt lv st) : xG K X S pc lv (.int x :: st) := by
  obtain ⟨p, l, e, R, s, m, args, below, meth, c, ce, sl, Q, A⟩ := X
  obtain ⟨hx, hb, hml, hown, hts, hA, hst, hvc⟩ := hX
  intro H locs ls wd hS hv
  exact lv_tableIn hx hb d (fun q => h (Or.inl q)) (fun q => h (Or.inr q)) (by rw [hn]; exact ho) ht (kk H locs ls wd hS hv)
theorem g_sub {lv2 : List (Nat × Value)} (ks : List Nat) (hl : lv_pick lv ks = lv2) (kk : xG K X S pc lv2 st) : xG K X S pc lv st := by
  obtain ⟨p, l, e, R, s, m, args, below, meth, c, ce, sl, Q, A⟩ := X
  intro H locs ls wd hS hv
  exact kk H locs ls wd hS (lv_sub hv ks hl)
theorem g_pc {pc2 : Nat} (h : pc = pc2) (kk : xG K X S pc2 lv st) : xG K X S pc lv st := by subst h; exact kk
end XG

/-! rows over the world -/
theorem xws_at {K : xK} {S : xSt} {t o : Nat} (h : (t, o) ∈ xvl K) : ∃ k : Nat, (xvl K)[k]? = some (t, o) ∧ (xws K S)[k]? = some (xad K t o, xE K (S t o) t o) := by
  obtain ⟨k, hk⟩ := List.getElem?_of_mem h
  exact ⟨k, hk, by rw [xws, List.getElem?_map, hk]; rfl⟩
theorem xws_set {K : xK} {S : xSt} {t o k : Nat} {B : Nat → Prop} (hD : va_D B (xws K S)) (hk : (xvl K)[k]? = some (t, o)) (f : Nat → Int32) : (xws K S).set k (xad K t o, xE K f t o) = xws K (xua S t o f) := by
  apply List.ext_getElem?
  intro i
  rw [List.getElem?_set]
  by_cases hi : k = i
  · subst hi
    have hlt : k < (xws K S).length := by
      rw [xws, List.length_map]
      exact (List.getElem?_eq_some_iff.mp hk).1
    rw [if_pos rfl, if_pos hlt, xws, List.getElem?_map, hk]
    simp only [Option.map_some, xua_s]
  · rw [if_neg hi, xws, xws, List.getElem?_map, List.getElem?_map]
    cases hq : (xvl K)[i]? with
    | none => rfl
    | some q =>
      simp only [Option.map_some]
      by_cases he : q.1 = t ∧ q.2 = o
      · exfalso
        apply hi
        refine hD.1 k i (xad K t o, xE K (S t o) t o) (xad K t o, xE K (S t o) t o) ?_ ?_ rfl
        · rw [xws, List.getElem?_map, hk]; rfl
        · rw [xws, List.getElem?_map, hq]
          obtain ⟨q1, q2⟩ := q
          obtain ⟨e1, e2⟩ := he
          subst e1; subst e2; rfl
      · rw [xua_n _ _ he]
theorem xWd_A {K : xK} {S : xSt} {A : Nat → Prop} (h : va_D (fun _ => True) (xws K S)) (hA : ∀ t o, (t, o) ∈ xvl K → A (xad K t o)) : va_D A (xws K S) := by
  refine ⟨h.1, fun k q hk => ?_⟩
  rw [xws, List.getElem?_map] at hk
  cases hq : (xvl K)[k]? with
  | none => rw [hq] at hk; cases hk
  | some z =>
    rw [hq] at hk
    cases hk
    exact hA _ _ (List.mem_of_getElem? hq)
/-- what the tables say of a field of class t at place idx of own's pool: slot j, an int -/
def xFB (own : String) (idx t j : Nat) : Prop := ∃ (C : String) (T : u_T) (N : Nat) (ty0 : Nat → FieldType), vwCl[t]? = some (C, T, N) ∧ j < N ∧ (∀ w ∈ u_ws C T N, w ∈ xTB) ∧ (∀ k, k < N → parseFieldDescriptor (T k).2.2.1 = some (ty0 k)) ∧ (∀ a, a < N → ∀ b, b < N → a ≠ b → (T a).2.1 ≠ (T b).2.1) ∧ (Cond.fieldLink own idx (T j).1 (T j).2.1 (T j).2.2.1 ∈ xTB ∨ ∃ host, Cond.fieldLinkNest own idx (T j).1 (T j).2.1 (T j).2.2.1 host ∈ xNL) ∧
  (∀ (K : xK) (f : Nat → Int32) (o : Nat), (xfs K f t o).length = N ∧ xE K f t o = .inr (t, xfs K f t o))
def xFI (own : String) (idx t j : Nat) : Prop := xFB own idx t j ∧ (∃ (C : String) (T : u_T) (N : Nat), vwCl[t]? = some (C, T, N) ∧ (T j).2.2.2 = false ∧ parseFieldDescriptor (T j).2.2.1 = some .int) ∧
  (∀ (K : xK) (f : Nat → Int32) (o : Nat), (xfs K f t o)[j]? = some (.int (f j))) ∧ (∀ (K : xK) (f : Nat → Int32) (o : Nat) (v : Int32), xfs K (upd f j v) t o = (xfs K f t o).set j (.int v))
def xFR (own : String) (idx t j o t2 o2 : Nat) : Prop := xFB own idx t j ∧ ∀ (K : xK) (f : Nat → Int32), (xfs K f t o)[j]? = some (xr K t2 o2)
section XW
variable {K : xK} {X : xX} {own : String} {cc : ByteArray} {nL : Nat} {S : xSt} {pc : Nat} {lv : List (Nat × Value)} {st : List Value}
theorem g_getV {t o j idx : Nat} {v : Value} (hX : xOK K X own cc nL) (hV : (t, o) ∈ xvl K) (hF : xFB own idx t j) (hf : (xfs K (S t o) t o)[j]? = some v) (d : decode cc pc = .ok (.getfield idx, 3)) (kk : xG K X S (pc + 3) lv (v :: st)) : xG K X S pc lv (xr K t o :: st) := by
  obtain ⟨p, l, e, R, s, m, args, below, meth, c, ce, sl, Q, A⟩ := X
  obtain ⟨hx, hb, hml, hown, hts, hA, hst, hvc⟩ := hX
  intro H locs ls wd hS hv
  obtain ⟨C, T, N, ty0, h1, h2, h3, h4, h5, h6, h7⟩ := hF
  obtain ⟨k, hk, he⟩ := xws_at (S := S) hV
  rw [(h7 K (S t o) o).2] at he
  rcases h6 with h6 | ⟨host, h6⟩
  · exact va_get hx hb hts h3 hown wd.2.1 wd.1 k he h1 j h2 (hts _ h6) (fun _ h9 => h9) hf d (kk H locs ls wd hS hv)
  · exact va_getN hx hb hts h3 hown wd.2.1 wd.1 k he h1 j h2 (xNw_use hvc.2 h6 _) (fun _ h9 => h9) hf d (kk H locs ls wd hS hv)
theorem g_getI {t o j idx : Nat} (hX : xOK K X own cc nL) (hV : (t, o) ∈ xvl K) (hF : xFI own idx t j) (d : decode cc pc = .ok (.getfield idx, 3)) (kk : xG K X S (pc + 3) lv (.int (S t o j) :: st)) : xG K X S pc lv (xr K t o :: st) := g_getV hX hV hF.1 (hF.2.2.1 K (S t o) o) d kk
theorem g_getR {t o j idx t2 o2 : Nat} (hX : xOK K X own cc nL) (hV : (t, o) ∈ xvl K) (hF : xFR own idx t j o t2 o2) (d : decode cc pc = .ok (.getfield idx, 3)) (kk : xG K X S (pc + 3) lv (xr K t2 o2 :: st)) : xG K X S pc lv (xr K t o :: st) := g_getV hX hV hF.1 (hF.2 K (S t o)) d kk
theorem g_putI {t o j idx : Nat} {v : Int32} {S1 : xSt} (hX : xOK K X own cc nL) (hV : (t, o) ∈ xvl K) (hF : xFI own idx t j) (d : decode cc pc = .ok (.putfield idx, 3)) (e9 : xup S t o j v = S1) (kk : xG K X S1 (pc + 3) lv st) : xG K X S pc lv (.int v :: xr K t o :: st) := by
  obtain ⟨p, l, e, R, s, m, args, below, meth, c, ce, sl, Q, A⟩ := X
  obtain ⟨hx, hb, hml, hown, hts, hA, hst, hvc⟩ := hX
  intro H locs ls wd hS hv
  obtain ⟨⟨C, T, N, ty0, h1, h2, h3, h4, h5, h6, h7⟩, ⟨C', T', N', g1, g2, g3⟩, g4, g5⟩ := hF
  cases h1.symm.trans g1
  obtain ⟨k, hk, he⟩ := xws_at (S := S) hV
  rw [(h7 K (S t o) o).2] at he
  have hset : (xws K S).set k (xad K t o, .inr (t, (xfs K (S t o) t o).set j (.int v))) = xws K S1 := by
    rw [← g5 K (S t o) o v, ← (h7 K (upd (S t o) j v) o).2, ← e9]
    exact xws_set wd.2.2 hk _
  have hlen : j < (xfs K (S t o) t o).length := by rw [(h7 K (S t o) o).1]; exact h2
  have go : ∀ (H1 : Heap) (locs1 : List Loc), va_P K.1 vwCl ((xws K S).set k (xad K t o, .inr (t, (xfs K (S t o) t o).set j (.int v)))) H1 → va_D A ((xws K S).set k (xad K t o, .inr (t, (xfs K (S t o) t o).set j (.int v)))) → va_S A s.heap H1 locs1 → W p l e R s m args below meth c H1 locs1 ce sl Q (F0 m (pc + 3) ls st) := by
    intro H1 locs1 hP hD hS1
    rw [hset] at hP hD
    exact kk H1 locs1 ls ⟨hP, wd.2.1, ⟨hD.1, fun _ _ _ => trivial⟩⟩ hS1 hv
  rcases h6 with h6 | ⟨host, h6⟩
  · exact va_put hx hb hts h3 ty0 h4 h5 hown wd.2.1 wd.1 (xWd_A wd.2.2 hA) hS k he h1 j h2 (hts _ h6) (fun _ h9 => h9) g2 g3 rfl rfl hlen d go
  · exact va_putN hx hb hts h3 ty0 h4 h5 hown wd.2.1 wd.1 (xWd_A wd.2.2 hA) hS k he h1 j h2 (xNw_use hvc.2 h6 _) (fun _ h9 => h9) g2 g3 rfl rfl hlen d go
/-- rows of ints -/
theorem g_iald {t o n : Nat} {i : Int32} (hX : xOK K X own cc nL) (hV : (t, o) ∈ xvl K) (hE : xE K (S t o) t o = .inl (xcy K 0, n, .inl (S t o))) (hin : vp_in i n) (d : decode cc pc = .ok (.iaload, 1)) (kk : xG K X S (pc + 1) lv (.int (S t o i.toNatClampNeg) :: st)) : xG K X S pc lv (.int i :: xr K t o :: st) := by
  obtain ⟨p, l, e, R, s, m, args, below, meth, c, ce, sl, Q, A⟩ := X
  obtain ⟨hx, hb, hml, hown, hts, hA, hst, hvc⟩ := hX
  intro H locs ls wd hS hv
  obtain ⟨k, hk, he⟩ := xws_at (S := S) hV
  rw [hE] at he
  exact va_iald hx hb wd.2.1 wd.1 k 0 he rfl hin d (kk H locs ls wd hS hv)
theorem g_iast {t o n : Nat} {i x : Int32} {S1 : xSt} (hX : xOK K X own cc nL) (hV : (t, o) ∈ xvl K) (hE : ∀ f, xE K f t o = .inl (xcy K 0, n, .inl f)) (hin : vp_in i n) (d : decode cc pc = .ok (.iastore, 1)) (e9 : xup S t o i.toNatClampNeg x = S1) (kk : xG K X S1 (pc + 1) lv st) : xG K X S pc lv (.int x :: .int i :: xr K t o :: st) := by
  obtain ⟨p, l, e, R, s, m, args, below, meth, c, ce, sl, Q, A⟩ := X
  obtain ⟨hx, hb, hml, hown, hts, hA, hst, hvc⟩ := hX
  intro H locs ls wd hS hv
  obtain ⟨k, hk, he⟩ := xws_at (S := S) hV
  rw [hE] at he
  refine va_iast hx hb wd.2.1 wd.1 (xWd_A wd.2.2 hA) hS k 0 he rfl hin d (fun H1 locs1 hP hD hS1 => ?_)
  rw [← hE, xws_set wd.2.2 hk] at hP hD
  have e9 : xua S t o (upd (S t o) i.toNatClampNeg x) = S1 := e9
  rw [e9] at hP hD
  exact kk H1 locs1 ls ⟨hP, wd.2.1, ⟨hD.1, fun _ _ _ => trivial⟩⟩ hS1 hv
/-- rows of booleans, of bytes -/
theorem g_zald {t o n : Nat} {i : Int32} (hX : xOK K X own cc nL) (hV : (t, o) ∈ xvl K) (hE : xE K (S t o) t o = .inl (xcy K 1, n, .inl (S t o))) (hin : vp_in i n) (d : decode cc pc = .ok (.baload, 1)) (kk : xG K X S (pc + 1) lv (.int (S t o i.toNatClampNeg) :: st)) : xG K X S pc lv (.int i :: xr K t o :: st) := by
  obtain ⟨p, l, e, R, s, m, args, below, meth, c, ce, sl, Q, A⟩ := X
  obtain ⟨hx, hb, hml, hown, hts, hA, hst, hvc⟩ := hX
  intro H locs ls wd hS hv
  obtain ⟨k, hk, he⟩ := xws_at (S := S) hV
  rw [hE] at he
  exact va_zald hx hb wd.2.1 wd.1 k 1 he rfl hin d (kk H locs ls wd hS hv)
theorem g_bald {t o n : Nat} {i : Int32} (hX : xOK K X own cc nL) (hV : (t, o) ∈ xvl K) (hE : xE K (S t o) t o = .inl (xcy K 2, n, .inl (S t o))) (hin : vp_in i n) (d : decode cc pc = .ok (.baload, 1)) (kk : xG K X S (pc + 1) lv (.int (S t o i.toNatClampNeg) :: st)) : xG K X S pc lv (.int i :: xr K t o :: st) := by
  obtain ⟨p, l, e, R, s, m, args, below, meth, c, ce, sl, Q, A⟩ := X
  obtain ⟨hx, hb, hml, hown, hts, hA, hst, hvc⟩ := hX
  intro H locs ls wd hS hv
  obtain ⟨k, hk, he⟩ := xws_at (S := S) hV
  rw [hE] at he
  exact va_bald hx hb wd.2.1 wd.1 k 2 he rfl hin d (kk H locs ls wd hS hv)
theorem g_zast {t o n : Nat} {i x : Int32} {S1 : xSt} (hX : xOK K X own cc nL) (hV : (t, o) ∈ xvl K) (hE : ∀ f, xE K f t o = .inl (xcy K 1, n, .inl f)) (hin : vp_in i n) (d : decode cc pc = .ok (.bastore, 1)) (e9 : xup S t o i.toNatClampNeg (vp_nar .boolean x) = S1) (kk : xG K X S1 (pc + 1) lv st) : xG K X S pc lv (.int x :: .int i :: xr K t o :: st) := by
  obtain ⟨p, l, e, R, s, m, args, below, meth, c, ce, sl, Q, A⟩ := X
  obtain ⟨hx, hb, hml, hown, hts, hA, hst, hvc⟩ := hX
  intro H locs ls wd hS hv
  obtain ⟨k, hk, he⟩ := xws_at (S := S) hV
  rw [hE] at he
  refine va_zast hx hb wd.2.1 wd.1 (xWd_A wd.2.2 hA) hS k 1 he rfl hin d (fun H1 locs1 hP hD hS1 => ?_)
  rw [← hE, xws_set wd.2.2 hk] at hP hD
  have e9 : xua S t o (upd (S t o) i.toNatClampNeg (vp_nar .boolean x)) = S1 := e9
  rw [e9] at hP hD
  exact kk H1 locs1 ls ⟨hP, wd.2.1, ⟨hD.1, fun _ _ _ => trivial⟩⟩ hS1 hv
theorem g_bast {t o n : Nat} {i x : Int32} {S1 : xSt} (hX : xOK K X own cc nL) (hV : (t, o) ∈ xvl K) (hE : ∀ f, xE K f t o = .inl (xcy K 2, n, .inl f)) (hin : vp_in i n) (d : decode cc pc = .ok (.bastore, 1)) (e9 : xup S t o i.toNatClampNeg (vp_nar .byte x) = S1) (kk : xG K X S1 (pc + 1) lv st) : xG K X S pc lv (.int x :: .int i :: xr K t o :: st) := by
  obtain ⟨p, l, e, R, s, m, args, below, meth, c, ce, sl, Q, A⟩ := X
  obtain ⟨hx, hb, hml, hown, hts, hA, hst, hvc⟩ := hX
  intro H locs ls wd hS hv
  obtain ⟨k, hk, he⟩ := xws_at (S := S) hV
  rw [hE] at he
  refine va_bast hx hb wd.2.1 wd.1 (xWd_A wd.2.2 hA) hS k 2 he rfl hin d (fun H1 locs1 hP hD hS1 => ?_)
  rw [← hE, xws_set wd.2.2 hk] at hP hD
  have e9 : xua S t o (upd (S t o) i.toNatClampNeg (vp_nar .byte x)) = S1 := e9
  rw [e9] at hP hD
  exact kk H1 locs1 ls ⟨hP, wd.2.1, ⟨hD.1, fun _ _ _ => trivial⟩⟩ hS1 hv
/-- rows of States -/
theorem g_aald {t o n b : Nat} {i : Int32} (hX : xOK K X own cc nL) (hV : (t, o) ∈ xvl K) (hE : xE K (S t o) t o = .inl (xcy K 3, n, .inr (.inr (.inr (.inr (fun i => some (xad K 4 (b + i)))))))) (hin : vp_in i n) (d : decode cc pc = .ok (.aaload, 1)) (kk : xG K X S (pc + 1) lv (xr K 4 (b + i.toNatClampNeg) :: st)) : xG K X S pc lv (.int i :: xr K t o :: st) := by
  obtain ⟨p, l, e, R, s, m, args, below, meth, c, ce, sl, Q, A⟩ := X
  obtain ⟨hx, hb, hml, hown, hts, hA, hst, hvc⟩ := hX
  intro H locs ls wd hS hv
  obtain ⟨k, hk, he⟩ := xws_at (S := S) hV
  rw [hE] at he
  exact va_aldq hx hb wd.2.1 wd.1 k 3 he rfl hin d (kk H locs ls wd hS hv)
theorem g_alen {t o : Nat} {x : vp_A} {q : Nat} {v : Int32} (hX : xOK K X own cc nL) (hV : (t, o) ∈ xvl K) {cA : ClassId} {ty : FieldType} (hE : xE K (S t o) t o = .inl (cA, x)) (hq : (xtys K)[q]? = some (cA, ty)) (hv9 : Int32.ofNat x.1 = v) (d : decode cc pc = .ok (.arraylength, 1)) (kk : xG K X S (pc + 1) lv (.int v :: st)) : xG K X S pc lv (xr K t o :: st) := by
  obtain ⟨p, l, e, R, s, m, args, below, meth, c, ce, sl, Q, A⟩ := X
  obtain ⟨hx, hb, hml, hown, hts, hA, hst, hvc⟩ := hX
  intro H locs ls wd hS hv
  obtain ⟨k, hk, he⟩ := xws_at (S := S) hV
  rw [hE] at he
  exact va_alen hx hb wd.2.1 wd.1 k q he hq hv9 d (kk H locs ls wd hS hv)
/-- the static rows -/
def xSL (own : String) (idx : Nat) (n : String) : Prop := Cond.fieldLink own idx "GrowingBook" n "[I" ∈ xTB ∨ ∃ host, Cond.fieldLinkNest own idx "GrowingBook" n "[I" host ∈ xNL
def xSn (k : Nat) : String := if k = 0 then "LOWEST" else if k = 1 then "HIGHEST" else "FIRST"
def xSf (k : Nat) : Nat → Int32 := if k = 0 then xLO else if k = 1 then xHI else xFI0
theorem xStt_Z {K : xK} {A : Nat → Prop} {U : State} {H : Heap} (h : xStt K A U H) (k : Nat) (hk : k < 3) : va_Z "GrowingBook" (xSn k) "[I" (xrs K k) A U H ∧ va_T .int (xsa K k) 3 (fun i => .int (xSf k i)) A U H := by
  obtain ⟨a1, a2, b1, b2, c1, c2, -⟩ := h
  rcases (show k = 0 ∨ k = 1 ∨ k = 2 by omega) with rfl | rfl | rfl
  · exact ⟨a1, a2⟩
  · exact ⟨b1, b2⟩
  · exact ⟨c1, c2⟩
theorem g_gets {k idx : Nat} (hX : xOK K X own cc nL) (hk : k < 3) (hF : xSL own idx (xSn k)) (d : decode cc pc = .ok (.getstatic idx, 3)) (kk : xG K X S (pc + 3) lv (xrs K k :: st)) : xG K X S pc lv st := by
  obtain ⟨p, l, e, R, s, m, args, below, meth, c, ce, sl, Q, A⟩ := X
  obtain ⟨hx, hb, hml, hown, hts, hA, hst, hvc⟩ := hX
  intro H locs ls wd hS hv
  rcases hF with hF | ⟨host, hF⟩
  · exact va_gets hx hb (xStt_Z hst k hk).1 hS hown (hts _ hF) (fun _ h9 => h9) d (kk H locs ls wd hS hv)
  · exact va_getsN hx hb (xStt_Z hst k hk).1 hS hown (xNw_use hvc.2 hF _) (fun _ h9 => h9) d (kk H locs ls wd hS hv)
theorem g_ialdS {k : Nat} {i : Int32} (hX : xOK K X own cc nL) (hk : k < 3) (hin : vp_in i 3) (d : decode cc pc = .ok (.iaload, 1)) (kk : xG K X S (pc + 1) lv (.int (xSf k i.toNatClampNeg) :: st)) : xG K X S pc lv (.int i :: xrs K k :: st) := by
  obtain ⟨p, l, e, R, s, m, args, below, meth, c, ce, sl, Q, A⟩ := X
  obtain ⟨hx, hb, hml, hown, hts, hA, hst, hvc⟩ := hX
  intro H locs ls wd hS hv
  exact va_ti hx hb (xStt_Z hst k hk).2 hS hin rfl d (kk H locs ls wd hS hv)
/-- the script -/
theorem g_ialdx {i : Int32} {L : Nat} {xs : Nat → Int32} (hX : xOK K X own cc nL) (hL : xsa K 4 = L) (hxs : xxs K = xs) (hin : vp_in i L) (d : decode cc pc = .ok (.iaload, 1)) (kk : xG K X S (pc + 1) lv (.int (xs i.toNatClampNeg) :: st)) : xG K X S pc lv (.int i :: xrs K 3 :: st) := by
  obtain ⟨p, l, e, R, s, m, args, below, meth, c, ce, sl, Q, A⟩ := X
  obtain ⟨hx, hb, hml, hown, hts, hA, hst, hvc⟩ := hX
  intro H locs ls wd hS hv
  subst hL
  subst hxs
  exact va_ti hx hb hst.2.2.2.2.2.2 hS hin rfl d (kk H locs ls wd hS hv)
theorem g_slenx {L : Nat} (hX : xOK K X own cc nL) (hL : xsa K 4 = L) (d : decode cc pc = .ok (.arraylength, 1)) (kk : xG K X S (pc + 1) lv (.int (nI L) :: st)) : xG K X S pc lv (xrs K 3 :: st) := by
  obtain ⟨p, l, e, R, s, m, args, below, meth, c, ce, sl, Q, A⟩ := X
  obtain ⟨hx, hb, hml, hown, hts, hA, hst, hvc⟩ := hX
  intro H locs ls wd hS hv
  subst hL
  exact va_tlen hx hb hst.2.2.2.2.2.2 hS rfl d (kk H locs ls wd hS hv)
end XW
end
section
/-! contracts, calls, returns -/
def xQ (K : xK) (out : xR) : Array Value → State → Outcome → State → Prop := fun _ st oc t => oc = .returned out.2 ∧ xWd K out.1 t t.heap ∧ va_F (xA K) st t
def xPre (K : xK) (S : xSt) (U : State) : Prop := xWd K S U U.heap ∧ xStt K (xA K) U U.heap ∧ xNw U
def xMet (l : Launch) (K : xK) (y : MethodName) (b : ByteArray) (maxL : Nat) (ret : Option FieldType) (fr lo : Nat) (S : xSt) (args : List Value) (out : xR) : Prop :=
  Met l y (Cond.code y b maxL ret :: xTB) ({ frames := fr, cells := 0, slots := 0, locals := lo }) (va_Pc args (xPre K S)) (xQ K out) 0 0 (xA K)
def xM (K : xK) (X : xX) (out : xR) (rt : Option FieldType) : Prop := match X with
  | (p, l, e, R, s, m, args, below, meth, c, ce, sl, Q, A) => Q = MQ below (xQ K out) args s 0 0 (xA K) ∧ ce = 0 ∧ sl = 0 ∧ A = xA K ∧ meth.sig.returnType = rt ∧ meth.locks = false
def xRm (X : xX) (fr lo : Nat) : Prop := match X with
  | (p, l, e, R, s, m, args, below, meth, c, ce, sl, Q, A) => fr ≤ R.frames ∧ lo ≤ R.locals ∧ ce ≤ R.cells ∧ sl ≤ R.slots
theorem xStt_moved {K : xK} {A : Nat → Prop} {u U : State} {H : Heap} (hvm : u.vm.Alike U.vm) (h : xStt K A u H) : xStt K A U H := by
  obtain ⟨a1, a2, b1, b2, c1, c2, c3⟩ := h
  exact ⟨va_Z.moved hvm a1, va_T.moved hvm a2, va_Z.moved hvm b1, va_T.moved hvm b2, va_Z.moved hvm c1, va_T.moved hvm c2, va_T.moved hvm c3⟩
theorem xStt_kept {K : xK} {A : Nat → Prop} {U : State} {H H1 : Heap} (h : xStt K A U H) (hq : ∀ a : Nat, a < H.size → ¬ A a → H1[a]? = H[a]?) : xStt K A U H1 := by
  obtain ⟨a1, a2, b1, b2, c1, c2, c3⟩ := h
  exact ⟨a1.kept hq, a2.kept hq, b1.kept hq, b2.kept hq, c1.kept hq, c2.kept hq, c3.kept hq⟩
theorem xStt_narrow {K : xK} {A B : Nat → Prop} {U : State} {H : Heap} (h : xStt K A U H) (hAB : ∀ q, B q → A q) : xStt K B U H := by
  obtain ⟨a1, a2, b1, b2, c1, c2, c3⟩ := h
  exact ⟨a1.narrow hAB, a2.narrow hAB, b1.narrow hAB, b2.narrow hAB, c1.narrow hAB, c2.narrow hAB, c3.narrow hAB⟩
theorem xWd_moved {K : xK} {S : xSt} {u U : State} {H : Heap} (hvm : u.vm.Alike U.vm) (h : xWd K S u H) : xWd K S U H := ⟨h.1, va_K.moved hvm h.2.1, h.2.2⟩
theorem xPre_blind {K : xK} {S : xSt} {args : List Value} : FrameBlind (va_Pc args (xPre K S)) := by
  intro a U g mk h
  exact ⟨h.1, ⟨xWd_moved (u := U) (U := U.calling g mk a) (Vm.Alike.refl U.vm) h.2.1, xStt_moved (u := U) (U := U.calling g mk a) (Vm.Alike.refl U.vm) h.2.2.1, xNw_same (u := U) (U := U.calling g mk a) rfl h.2.2.2⟩⟩
theorem xMet_of {l : Launch} {K : xK} {y : MethodName} {b : ByteArray} {maxL : Nat} {ret : Option FieldType} {fr lo : Nat} {S : xSt} {args : List Value} {out : xR} (own : String) (hy : plainName y.cls = true) (hown : y.cls = own) (hvc : xVC (xvl K)) (hargs : (lg_sl args).length ≤ maxL)
    (body : ∀ X, xOK K X own b maxL → xM K X out ret → xRm X fr lo → xG K X S 0 (lv_args 0 args) []) : xMet l K y b maxL ret fr lo S args out := by
  refine Met.ofW (cc := b) (maxL := maxL) (ret := ret) hy rfl ?_
  intro p e s m args' below meth c s₁ B hml hv
  obtain ⟨rfl, hwd, hst, hnw⟩ := hv
  have hts := atoms_spec (ws := Cond.code y b maxL ret :: xTB) B.pre
  have hown2 : s.vm.findClass y.cls = some m.cls := findClass_of_methodNamed B.named
  rw [hown] at hown2
  rw [lg_entry_eq]
  exact body (p, l, e, _, s, m, args.toArray, below, meth, c, 0, 0, MQ below (xQ K out) args.toArray s 0 0 (xA K), xA K) ⟨B.exec, B.bytes, hml, hown2, fun w hw => hts w (List.mem_cons_of_mem _ hw), fun t o h => ⟨t, o, h, rfl⟩, hst, hvc, hnw⟩ ⟨rfl, rfl, rfl, rfl, B.returns, B.notSynchronized⟩ ⟨Nat.le_refl _, Nat.le_refl _, Nat.le_refl _, Nat.le_refl _⟩ s.heap [] _ hwd va_S.rf (by rw [hml]; exact lv_entry args hargs)
/-- what the tables say of a call -/
def xCB (own : String) (idx : Nat) (y : MethodName) (b : ByteArray) (maxL : Nat) (ret : Option FieldType) (n : Nat) : Prop :=
  (Cond.methodLink own idx y ∈ xTB ∨ ∃ host, Cond.methodLinkNest own idx y host ∈ xNL) ∧ Cond.initialized y.cls ∈ xTB ∧ Cond.code y b maxL ret ∈ xTB ∧ y.cls ≠ "java/lang/invoke/MethodHandle" ∧ y.cls ≠ "java/lang/invoke/VarHandle" ∧ (parseMethodDescriptor y.desc).map (fun d => d.parameters.length) = some n
def xCV (own : String) (idx t : Nat) (y : MethodName) (b : ByteArray) (maxL : Nat) (ret : Option FieldType) (n : Nat) : Prop :=
  xCB own idx y b maxL ret n ∧ Cond.instanceMethod y ∈ xTB ∧ Cond.selects y.cls y y ∈ xTB ∧ (∃ T N, vwCl[t]? = some (y.cls, T, N)) ∧ ∀ (K : xK) (f : Nat → Int32) (o : Nat), xE K f t o = .inr (t, xfs K f t o)
def xCS (own : String) (idx : Nat) (y : MethodName) (b : ByteArray) (maxL : Nat) (ret : Option FieldType) (n : Nat) : Prop :=
  xCB own idx y b maxL ret n ∧ Cond.static y ∈ xTB
theorem xTB_good {w : Cond} (h : w ∈ xTB) : goodWord w = true := (List.mem_filter.mp h).2
theorem xTB_in {y : MethodName} {b : ByteArray} {maxL : Nat} {ret : Option FieldType} (h : Cond.code y b maxL ret ∈ xTB) : GoodIn xTB (Cond.code y b maxL ret :: xTB) := by
  intro w hw
  rcases List.mem_cons.mp hw with rfl | hw
  · exact ⟨h, good_of_word (xTB_good h)⟩
  · exact ⟨hw, good_of_word (xTB_good hw)⟩
theorem x_call {p : Program} {l : Launch} {e : Env} {R : Room} {s : State} {m : MethodId} {args : Array Value} {below : List Frame} {meth : Method} {c : Code} {H : Heap} {locs : List Loc} {ce sl : Nat} {Q : State → Prop} {A0 : Nat → Prop} {K : xK} {S1 : xSt} {v : Option Value} {pc : Nat} {ls : Array Slot} {st0 rest : List Value} {a : Array Value}
    (hr : va_Run p l e R s m args below meth c H locs ce sl 0 0 (F0 m pc ls st0) rest (xQ K (S1, v) a) (xA K)) (hS : va_S A0 s.heap H locs) (hA : ∀ t o, (t, o) ∈ xvl K → A0 (xad K t o))
    (kk : ∀ (H1 : Heap) (locs1 : List Loc), xWd K S1 s H1 → va_S A0 s.heap H1 locs1 → W p l e R s m args below meth c H1 locs1 ce sl Q (F0 m (pc + 3) ls (v.toList ++ rest))) : W p l e R s m args below meth c H locs ce sl Q (F0 m pc ls st0) := by
  intro T hT X
  obtain ⟨v', st₀, t, T', L, h0, X', hL, e1, e2, ⟨hv, hw, hz, hk⟩, st⟩ := hr T hT X
  cases hv
  rw [h0] at hz hk
  have hAA : ∀ q, xA K q → A0 q := by rintro q ⟨t, o, h, rfl⟩; exact hA t o h
  have hal : s.vm.Alike t.vm := by rw [← e2]; exact X'.warmed.alike
  obtain ⟨t2, a1, b1⟩ := kk T'.heap (locs ++ L) (by rw [e1]; exact xWd_moved hal.symm hw)
    ⟨Nat.le_trans hS.1 (by rw [e1]; exact hz), fun q h1 h2 => by rw [e1, hk q (Nat.lt_of_lt_of_le h1 hS.1) (fun z => h2 (hAA q z))]; exact hS.2.1 q h1 h2, fun q hq => by
      rcases List.mem_append.mp hq with h | h
      · exact hS.2.2 q h
      · exact hAA _ (hL q h)⟩ T' rfl X'
  exact ⟨t2, st t2 a1, b1⟩
theorem x_pre {K : xK} {S : xSt} {A : Nat → Prop} {s : State} {H : Heap} {locs : List Loc} (wd : xWd K S s H) (hS : va_S A s.heap H locs) (hA : ∀ t o, (t, o) ∈ xvl K → A (xad K t o)) (hst : xStt K A s s.heap) (hnw : xNw s) (As : List Value) : ∀ U : State, U.heap = H → s.WarmedH U.vm → va_Pc As (xPre K S) As.toArray U := by
  intro U hU hW
  refine ⟨rfl, by rw [hU]; exact xWd_moved hW.alike wd, ?_, xNw_warm hW hnw⟩
  rw [hU]
  exact xStt_moved hW.alike (xStt_narrow (xStt_kept hst (fun a ha hn => hS.2.1 a ha hn)) (by rintro q ⟨t, o, h, rfl⟩; exact hA t o h))
section XC
variable {K : xK} {X : xX} {own : String} {cc : ByteArray} {nL : Nat} {S : xSt} {pc : Nat} {lv : List (Nat × Value)} {st : List Value}
theorem g_callV {y : MethodName} {bytes : ByteArray} {maxL fr lo n idx t o : Nat} {ret : Option FieldType} {As stk st2 : List Value} {S1 : xSt} {v : Option Value} (hX : xOK K X own cc nL) {fr0 lo0 : Nat} (hR : xRm X fr0 lo0) (hV : (t, o) ∈ xvl K) (hM : ∀ l, xMet l K y bytes maxL ret fr lo S (xr K t o :: As) (S1, v)) (hC : xCV own idx t y bytes maxL ret n)
    (hn : As.length = n) (hfl : fr + 1 ≤ fr0 ∧ 8 + (maxL + 11) + lo ≤ lo0) (hstk : stk = As.reverse ++ xr K t o :: st) (hst2 : v.toList ++ st = st2) (hW : (st.map fun v => v.category).sum ≤ 8) (d : decode cc pc = .ok (.invokevirtual idx, 3)) (kk : xG K X S1 (pc + 3) lv st2) : xG K X S pc lv stk := by
  obtain ⟨p, l, e, R, s, m, args, below, meth, c, ce, sl, Q, A⟩ := X
  obtain ⟨hx, hb, hml, hown, hts, hA, hst, hvc⟩ := hX
  obtain ⟨r1, r2, r3, r4⟩ := hR
  obtain ⟨⟨c1, c2, c3, c4, c5, c6⟩, c7, c8, ⟨T, N, c9⟩, c10⟩ := hC
  intro H locs ls wd hS hv
  subst hstk
  subst hst2
  have hRR : fr + 1 ≤ R.frames ∧ 8 + (maxL + 11) + lo ≤ R.locals := ⟨by omega, by omega⟩
  obtain ⟨k, hk, he⟩ := xws_at (S := S) hV
  rw [c10 K (S t o) o] at he
  have hpv : PreV s H y.cls (xad K t o) (va_Pc (xr K t o :: As) (xPre K S)) As := ⟨xPre_blind, va_recv wd.2.1 wd.1 c9 he, x_pre wd hS hA hst hvc.2 (xr K t o :: As)⟩
  refine x_call (v := v) (S1 := S1) (a := (Value.ref (xad K t o) :: As).toArray) ?_ hS hA (fun H1 locs1 w1 hS1 => kk H1 locs1 ls w1 hS1 hv)
  rcases c1 with c1 | ⟨host, c1⟩
  · exact va_runV (ws := Cond.code y bytes maxL ret :: xTB) (As := As) ⟨hx, hb, hml, hown, hts⟩ (hM l) ⟨callB_of n hts (xTB_in c3) rfl rfl rfl (hts _ c2) (hts _ c1) ⟨c4, c5, c6⟩ hRR, hts _ c7, hts _ c8⟩ hpv rfl hn (by rw [hv.1, hml]) rfl (by show 2 * 0 + _ ≤ 8; omega) d ⟨r3, r4⟩
  · exact va_runVN (ws := Cond.code y bytes maxL ret :: xTB) (As := As) ⟨hx, hb, hml, hown, hts⟩ (hM l) ⟨va_cnB n hts (xTB_in c3) rfl rfl rfl (hvc.2 _ c1) (hts _ c2) ⟨c4, c5, c6⟩ hRR, hts _ c7, hts _ c8⟩ hpv rfl hn (by rw [hv.1, hml]) rfl (by show 2 * 0 + _ ≤ 8; omega) d ⟨r3, r4⟩
theorem g_callS {y : MethodName} {bytes : ByteArray} {maxL fr lo n idx : Nat} {ret : Option FieldType} {As stk st2 : List Value} {S1 : xSt} {v : Option Value} (hX : xOK K X own cc nL) {fr0 lo0 : Nat} (hR : xRm X fr0 lo0) (hM : ∀ l, xMet l K y bytes maxL ret fr lo S As (S1, v)) (hC : xCS own idx y bytes maxL ret n)
    (hn : As.length = n) (hfl : fr + 1 ≤ fr0 ∧ 8 + (maxL + 11) + lo ≤ lo0) (hstk : stk = As.reverse ++ st) (hst2 : v.toList ++ st = st2) (hW : (st.map fun v => v.category).sum ≤ 8) (d : decode cc pc = .ok (.invokestatic idx, 3)) (kk : xG K X S1 (pc + 3) lv st2) : xG K X S pc lv stk := by
  obtain ⟨p, l, e, R, s, m, args, below, meth, c, ce, sl, Q, A⟩ := X
  obtain ⟨hx, hb, hml, hown, hts, hA, hst, hvc⟩ := hX
  obtain ⟨r1, r2, r3, r4⟩ := hR
  obtain ⟨⟨c1, c2, c3, c4, c5, c6⟩, c7⟩ := hC
  intro H locs ls wd hS hv
  subst hstk
  subst hst2
  have hRR : fr + 1 ≤ R.frames ∧ 8 + (maxL + 11) + lo ≤ R.locals := ⟨by omega, by omega⟩
  have hpv : PreS s H (va_Pc As (xPre K S)) As := ⟨xPre_blind, x_pre wd hS hA hst hvc.2 As⟩
  refine x_call (v := v) (S1 := S1) (a := As.toArray) ?_ hS hA (fun H1 locs1 w1 hS1 => kk H1 locs1 ls w1 hS1 hv)
  rcases c1 with c1 | ⟨host, c1⟩
  · exact va_runS (ws := Cond.code y bytes maxL ret :: xTB) (As := As) ⟨hx, hb, hml, hown, hts⟩ (hM l) ⟨callB_of n hts (xTB_in c3) rfl rfl rfl (hts _ c2) (hts _ c1) ⟨c4, c5, c6⟩ hRR, hts _ c7⟩ hpv rfl hn (by rw [hv.1, hml]) rfl (by show 2 * 0 + _ ≤ 8; omega) d ⟨r3, r4⟩
  · exact va_runSN (ws := Cond.code y bytes maxL ret :: xTB) (As := As) ⟨hx, hb, hml, hown, hts⟩ (hM l) ⟨va_cnB n hts (xTB_in c3) rfl rfl rfl (hvc.2 _ c1) (hts _ c2) ⟨c4, c5, c6⟩ hRR, hts _ c7, trivial⟩ hpv rfl hn (by rw [hv.1, hml]) rfl (by show 2 * 0 + _ ≤ 8; omega) d ⟨r3, r4⟩
/-- returns -/
theorem g_iret {out : xR} {v : Int32} (hX : xOK K X own cc nL) (hM : xM K X out (some .int)) (e9 : (S, some (Value.int v)) = out) (d : decode cc pc = .ok (.ireturn, 1)) : xG K X S pc lv [.int v] := by
  obtain ⟨p, l, e, R, s, m, args, below, meth, c, ce, sl, Q, A⟩ := X
  obtain ⟨hx, hb, hml, hown, hts, hA, hst, hvc⟩ := hX
  obtain ⟨rfl, rfl, rfl, rfl, hrt, hlk⟩ := hM
  intro H locs ls wd hS hv
  subst e9
  exact W.iret hx hb hrt (fun t ht hW => ⟨rfl, by rw [ht]; exact xWd_moved hW.alike wd, hS.F ht⟩) hS.2.2 d hlk
theorem g_zret {out : xR} {v : Int32} (hX : xOK K X own cc nL) (hM : xM K X out (some .boolean)) (hz : v &&& 1 = v) (e9 : (S, some (Value.int v)) = out) (d : decode cc pc = .ok (.ireturn, 1)) : xG K X S pc lv [.int v] := by
  obtain ⟨p, l, e, R, s, m, args, below, meth, c, ce, sl, Q, A⟩ := X
  obtain ⟨hx, hb, hml, hown, hts, hA, hst, hvc⟩ := hX
  obtain ⟨rfl, rfl, rfl, rfl, hrt, hlk⟩ := hM
  intro H locs ls wd hS hv
  subst e9
  exact W.zret hx hb hrt (by show Value.int (v &&& 1) = _; rw [hz]) (fun t ht hW => ⟨rfl, by rw [ht]; exact xWd_moved hW.alike wd, hS.F ht⟩) hS.2.2 d hlk
theorem g_vret {out : xR} (hX : xOK K X own cc nL) (hM : xM K X out none) (e9 : (S, (none : Option Value)) = out) (d : decode cc pc = .ok (.return_, 1)) : xG K X S pc lv [] := by
  obtain ⟨p, l, e, R, s, m, args, below, meth, c, ce, sl, Q, A⟩ := X
  obtain ⟨hx, hb, hml, hown, hts, hA, hst, hvc⟩ := hX
  obtain ⟨rfl, rfl, rfl, rfl, hrt, hlk⟩ := hM
  intro H locs ls wd hS hv
  subst e9
  exact W.vret hx hb hrt (fun t ht hW => ⟨rfl, by rw [ht]; exact xWd_moved hW.alike wd, hS.F ht⟩) hS.2.2 d hlk
/-- Math.max, Math.min, System.arraycopy over two rows of ints -/
theorem g_max {idx : Nat} {x y : Int32} (hX : xOK K X own cc nL) {fr0 lo0 : Nat} (hR : xRm X fr0 lo0) (h1 : 1 ≤ fr0) (h2 : (st.map fun v => v.category).sum + 13 ≤ lo0) (hl : Cond.methodLink own idx Lib.Math.max.name ∈ xTB) (hs : Cond.static Lib.Math.max.name ∈ xTB) (hi : Cond.initialized "java/lang/Math" ∈ xTB) (hc : Cond.code Lib.Math.max.name Lib.Math.max.code 2 (some .int) ∈ xTB) (d : decode cc pc = .ok (.invokestatic idx, 3)) (kk : xG K X S (pc + 3) lv (.int (if x < y then y else x) :: st)) : xG K X S pc lv (.int y :: .int x :: st) := by
  obtain ⟨p, l, e, R, s, m, args, below, meth, c, ce, sl, Q, A⟩ := X
  obtain ⟨hx, hb, hml, hown, hts, hA, hst, hvc⟩ := hX
  obtain ⟨r1, r2, r3, r4⟩ := hR
  intro H locs ls wd hS hv
  exact va_mmax hx hb hv.1.symm hown (hts _ hl) (hts _ hs) (hts _ hi) (hts _ hc) (by omega) (by omega) r3 r4 d (kk H locs ls wd hS hv)
theorem g_min {idx : Nat} {x y : Int32} (hX : xOK K X own cc nL) {fr0 lo0 : Nat} (hR : xRm X fr0 lo0) (h1 : 1 ≤ fr0) (h2 : (st.map fun v => v.category).sum + 13 ≤ lo0) (hl : Cond.methodLink own idx Lib.Math.min.name ∈ xTB) (hs : Cond.static Lib.Math.min.name ∈ xTB) (hi : Cond.initialized "java/lang/Math" ∈ xTB) (hc : Cond.code Lib.Math.min.name Lib.Math.min.code 2 (some .int) ∈ xTB) (d : decode cc pc = .ok (.invokestatic idx, 3)) (kk : xG K X S (pc + 3) lv (.int (if y < x then y else x) :: st)) : xG K X S pc lv (.int y :: .int x :: st) := by
  obtain ⟨p, l, e, R, s, m, args, below, meth, c, ce, sl, Q, A⟩ := X
  obtain ⟨hx, hb, hml, hown, hts, hA, hst, hvc⟩ := hX
  obtain ⟨r1, r2, r3, r4⟩ := hR
  intro H locs ls wd hS hv
  exact va_mmin hx hb hv.1.symm hown (hts _ hl) (hts _ hs) (hts _ hi) (hts _ hc) (by omega) (by omega) r3 r4 d (kk H locs ls wd hS hv)
/-- what arraycopy asks -/
abbrev xcpok (sp dp n : Int32) (n0 n1 : Nat) : Prop := ¬ sp < 0 ∧ ¬ dp < 0 ∧ ¬ n < 0 ∧ sp.toNatClampNeg + n.toNatClampNeg ≤ n0 ∧ dp.toNatClampNeg + n.toNatClampNeg ≤ n1
theorem g_copy {idx t0 o0 t1 o1 n0 n1 : Nat} {sp dp n : Int32} {S1 : xSt} (hX : xOK K X own cc nL) {fr0 lo0 : Nat} (hR : xRm X fr0 lo0) (h1 : 1 ≤ fr0) (h2 : (st.map fun v => v.category).sum + (nativeFrameWords "java/lang/System" "arraycopy" 5 + 11) ≤ lo0) (hl : Cond.methodLink own idx arraycopyName ∈ xTB) (hnt : Cond.native arraycopyName ∈ xTB) (hs : Cond.static arraycopyName ∈ xTB) (hi : Cond.initialized "java/lang/System" ∈ xTB)
    (hV0 : (t0, o0) ∈ xvl K) (hV1 : (t1, o1) ∈ xvl K) (hE0 : ∀ f, xE K f t0 o0 = .inl (xcy K 0, n0, .inl f)) (hE1 : ∀ f, xE K f t1 o1 = .inl (xcy K 0, n1, .inl f)) (hok : xcpok sp dp n n0 n1) (d : decode cc pc = .ok (.invokestatic idx, 3)) (e9 : xua S t1 o1 (va_cpy (S t0 o0) (S t1 o1) sp.toNatClampNeg dp.toNatClampNeg n.toNatClampNeg) = S1) (kk : xG K X S1 (pc + 3) lv st) : xG K X S pc lv (.int n :: .int dp :: xr K t1 o1 :: .int sp :: xr K t0 o0 :: st) := by
  obtain ⟨p, l, e, R, s, m, args, below, meth, c, ce, sl, Q, A⟩ := X
  obtain ⟨hx, hb, hml, hown, hts, hA, hst, hvc⟩ := hX
  obtain ⟨r1, r2, r3, r4⟩ := hR
  intro H locs ls wd hS hv
  obtain ⟨k0, hk0, he0⟩ := xws_at (S := S) hV0
  obtain ⟨k1, hk1, he1⟩ := xws_at (S := S) hV1
  rw [hE0] at he0
  rw [hE1] at he1
  refine va_copyi hx hb hv.1.symm hown (hts _ hl) (hts _ hnt) (hts _ hs) (hts _ hi) wd.2.1 wd.1 (xWd_A wd.2.2 hA) hS k0 k1 0 0 he0 he1 rfl rfl rfl hok.1 hok.2.1 hok.2.2.1 hok.2.2.2.1 hok.2.2.2.2 (fun _ _ => rfl) (by omega) (by omega) d (fun H1 locs1 hP hD hS1 => ?_)
  rw [← hE1, xws_set wd.2.2 hk1, e9] at hP hD
  exact kk H1 locs1 ls ⟨hP, wd.2.1, ⟨hD.1, fun _ _ _ => trivial⟩⟩ hS1 hv
end XC
end
section
/-! rows of ints that a method makes for itself: the world grows -/
theorem W_weaken {p : Program} {l : Launch} {e : Env} {R : Room} {s : State} {m : MethodId} {args : Array Value} {below : List Frame} {meth : Method} {c : Code} {H : Heap} {locs locs2 : List Loc} {ce sl : Nat} {Q : State → Prop} {g : JFrame} (h : ∀ y ∈ locs, y.base < s.heap.size → y ∈ locs2) (kk : W p l e R s m args below meth c H locs2 ce sl Q g) : W p l e R s m args below meth c H locs ce sl Q g :=
  fun T hT X => kk T hT { X with same := X.same.weaken h (Nat.le_refl _) (Nat.le_refl _) }
def xEx (K K1 : xK) (j : Nat) : Prop := K1.1 = K.1 ∧ xcy K1 = xcy K ∧ xsa K1 = xsa K ∧ xxs K1 = xxs K ∧ xvl K1 = xvl K ++ [(33, j)] ∧ ∀ t o, ¬ (t = 33 ∧ o = j) → xad K1 t o = xad K t o
theorem xEx_r {K K1 : xK} {j t o : Nat} (h : xEx K K1 j) (ht : ¬ (t = 33 ∧ o = j)) : xr K t o = xr K1 t o := by
  show Value.ref _ = Value.ref _
  rw [h.2.2.2.2.2 t o ht]
theorem xEx_in {K K1 : xK} {j t o : Nat} (h : xEx K K1 j) (hv : (t, o) ∈ xvl K) : (t, o) ∈ xvl K1 := by
  rw [h.2.2.2.2.1]
  exact List.mem_append_left _ hv
theorem xEx_new {K K1 : xK} {j : Nat} (h : xEx K K1 j) : (33, j) ∈ xvl K1 := by
  rw [h.2.2.2.2.1]
  exact List.mem_append_right _ List.mem_cons_self
theorem xEx_no {K K1 : xK} {j i : Nat} (h : xEx K K1 j) (hn : (33, i) ∉ xvl K) (hi : ¬ i = j) : (33, i) ∉ xvl K1 := by
  rw [h.2.2.2.2.1]
  intro q
  rcases List.mem_append.mp q with q | q
  · exact hn q
  · have := List.mem_singleton.mp q
    exact hi (congrArg Prod.snd this)
theorem xE_ex {K K1 : xK} {j : Nat} (h : xEx K K1 j) (f : Nat → Int32) (t o : Nat) : xE K1 f t o = xE K f t o := by
  obtain ⟨-, hc, -, -, -, ha⟩ := h
  have hd : ∀ t o, ¬ t = 33 → xr K1 t o = xr K t o := fun t o q => by
    show Value.ref _ = Value.ref _
    rw [ha t o (fun z => q z.1)]
  have hs : ∀ o, xad K1 4 o = xad K 4 o := fun o => ha 4 o (fun z => absurd z.1 (by decide))
  match t with
  | 0 => simp only [xE, xfs, hd 10 _ (by decide), hd 11 _ (by decide), hd 12 _ (by decide), hd 13 _ (by decide)]
  | 1 => simp only [xE, xfs, hd 14 _ (by decide)]
  | 2 => simp only [xE, xfs, hd 15 _ (by decide), hd 16 _ (by decide), hd 17 _ (by decide), hd 18 _ (by decide)]
  | 3 => simp only [xE, xfs, hd 19 _ (by decide), hd 20 _ (by decide), hd 21 _ (by decide)]
  | 4 => simp only [xE, xfs, hd 22 _ (by decide), hd 23 _ (by decide), hd 24 _ (by decide)]
  | 5 => simp only [xE, xfs, hd 0 _ (by decide), hd 25 _ (by decide), hd 26 _ (by decide), hd 27 _ (by decide), hd 28 _ (by decide), hd 29 _ (by decide)]
  | 6 => simp only [xE, xfs, hd 1 _ (by decide), hd 2 _ (by decide), hd 3 _ (by decide), hd 4 _ (by decide), hd 5 _ (by decide), hd 30 _ (by decide), hd 31 _ (by decide), hd 32 _ (by decide)]
  | 7 => simp only [xE, xfs]
  | 8 => simp only [xE, hc]
  | 9 => simp only [xE, hc]
  | 10 => simp only [xE, hc]
  | 11 => simp only [xE, hc]
  | 12 => simp only [xE, hc]
  | 13 => simp only [xE, hc]
  | 14 => simp only [xE, hc, hs]
  | 15 => simp only [xE, hc]
  | 16 => simp only [xE, hc]
  | 17 => simp only [xE, hc]
  | 18 => simp only [xE, hc]
  | 19 => simp only [xE, hc]
  | 20 => simp only [xE, hc]
  | 21 => simp only [xE, hc]
  | 22 => simp only [xE, hc]
  | 23 => simp only [xE, hc]
  | 24 => simp only [xE, hc]
  | 25 => simp only [xE, hc]
  | 26 => simp only [xE, hc]
  | 27 => simp only [xE, hc]
  | 28 => simp only [xE, hc]
  | 29 => simp only [xE, hc]
  | 30 => simp only [xE, hc, hs]
  | 31 => simp only [xE, hc]
  | 32 => simp only [xE, hc]
  | 33 => simp only [xE, hc]
  | n + 34 => simp only [xE, hc]
theorem xVC_app {vl : List (Nat × Nat)} {j : Nat} (h : xVC vl) : xVC (vl ++ [(33, j)]) := by
  obtain ⟨h0, h1, h2, h3, h4, h5, h6, h7, h8, h9, h10, h11, h12, h13, h14, h15, h16, h17, h18, h19, h20, h21, h22, h23, h24, h25, h26, h27, h28, h29, h30, h31, h32, h33⟩ := h
  have hx : ∀ {t o : Nat}, (t, o) ∈ vl ++ [(33, j)] → ¬ t = 33 → (t, o) ∈ vl := by
    intro t o q ht
    rcases List.mem_append.mp q with q | q
    · exact q
    · exact absurd (congrArg Prod.fst (List.mem_singleton.mp q)) ht
  exact ⟨fun o q => List.mem_append_left _ (h0 o (hx q (by decide))), fun o q => List.mem_append_left _ (h1 o (hx q (by decide))), fun o q => List.mem_append_left _ (h2 o (hx q (by decide))), fun o q => List.mem_append_left _ (h3 o (hx q (by decide))), fun o q => List.mem_append_left _ (h4 o (hx q (by decide))), fun o q => List.mem_append_left _ (h5 o (hx q (by decide))), fun o q => List.mem_append_left _ (h6 o (hx q (by decide))), fun o q => List.mem_append_left _ (h7 o (hx q (by decide))), fun o q => List.mem_append_left _ (h8 o (hx q (by decide))), fun o q => List.mem_append_left _ (h9 o (hx q (by decide))), fun o q => List.mem_append_left _ (h10 o (hx q (by decide))), fun o q => List.mem_append_left _ (h11 o (hx q (by decide))), fun o q => List.mem_append_left _ (h12 o (hx q (by decide))), fun o q => List.mem_append_left _ (h13 o (hx q (by decide))), fun o q => List.mem_append_left _ (h14 o (hx q (by decide))), fun o q => List.mem_append_left _ (h15 o (hx q (by decide))), fun o q => List.mem_append_left _ (h16 o (hx q (by decide))), fun o q => List.mem_append_left _ (h17 o (hx q (by decide))), fun o q => List.mem_append_left _ (h18 o (hx q (by decide))), fun o q => List.mem_append_left _ (h19 o (hx q (by decide))), fun o q => List.mem_append_left _ (h20 o (hx q (by decide))), fun q => List.mem_append_left _ (h21 (hx q (by decide))), fun q => List.mem_append_left _ (h22 (hx q (by decide))), fun q => List.mem_append_left _ (h23 (hx q (by decide))), fun q => List.mem_append_left _ (h24 (hx q (by decide))), fun q => List.mem_append_left _ (h25 (hx q (by decide))), fun q => List.mem_append_left _ (h26 (hx q (by decide))), fun q => List.mem_append_left _ (h27 (hx q (by decide))), fun q => List.mem_append_left _ (h28 (hx q (by decide))), fun q => List.mem_append_left _ (h29 (hx q (by decide))), fun q => List.mem_append_left _ (h30 (hx q (by decide))), fun q => List.mem_append_left _ (h31 (hx q (by decide))), fun i hi q => List.mem_append_left _ (h32 i hi (hx q (by decide))), fun i hi q => List.mem_append_left _ (h33 i hi (hx q (by decide)))⟩
theorem xws_ex {K K1 : xK} {j : Nat} (h : xEx K K1 j) (hn : (33, j) ∉ xvl K) (S : xSt) : xws K1 S = xws K S ++ [(xad K1 33 j, .inl (xcy K 0, 64, .inl (S 33 j)))] := by
  unfold xws
  rw [h.2.2.2.2.1, List.map_append]
  congr 1
  · refine List.map_congr_left (fun q hq => ?_)
    rw [xE_ex h, h.2.2.2.2.2 q.1 q.2 (fun z => hn (by
      obtain ⟨a, b⟩ := q
      obtain ⟨z1, z2⟩ := z
      cases z1
      cases z2
      exact hq))]
  · show [(xad K1 33 j, xE K1 (S 33 j) 33 j)] = _
    rw [xE_ex h]
    rfl
theorem xtys_ex {K K1 : xK} {j : Nat} (h : xEx K K1 j) : xtys K1 = xtys K := by unfold xtys; rw [h.2.1]
theorem xWd_ex {K K1 : xK} {j : Nat} (h : xEx K K1 j) (hn : (33, j) ∉ xvl K) {S : xSt} {U : State} {H : Heap} (w : xWd K1 S U H) : xWd K S U H := by
  obtain ⟨w1, w2, w3⟩ := w
  rw [xws_ex h hn] at w1 w3
  rw [h.1] at w1
  rw [h.1, xtys_ex h] at w2
  have hap : ∀ (k : Nat) (q : Nat × va_E), (xws K S)[k]? = some q → (xws K S ++ [(xad K1 33 j, .inl (xcy K 0, 64, .inl (S 33 j)))])[k]? = some q := fun k q hk => by
    rw [List.getElem?_append_left (List.getElem?_eq_some_iff.mp hk).1]
    exact hk
  exact ⟨fun k q hk => w1 k q (hap k q hk), w2, ⟨fun i k p q hi hk => w3.1 i k p q (hap i p hi) (hap k q hk), fun _ _ _ => trivial⟩⟩
/-- the store that a caller sees: rows that were made for a call are gone -/
def xrst (S0 S : xSt) : xSt := fun t o => if t = 33 then S0 t o else S t o
theorem xrst_Wd {K : xK} (hn : ∀ o, (33, o) ∉ xvl K) (S0 S : xSt) {U : State} {H : Heap} (w : xWd K S U H) : xWd K (xrst S0 S) U H := by
  have he : xws K (xrst S0 S) = xws K S := by
    unfold xws
    refine List.map_congr_left (fun q hq => ?_)
    have : xrst S0 S q.1 q.2 = S q.1 q.2 := if_neg (fun z => hn q.2 (by
      obtain ⟨a, b⟩ := q
      cases z
      exact hq))
    rw [this]
  obtain ⟨w1, w2, w3⟩ := w
  exact ⟨by rw [he]; exact w1, w2, by rw [he]; exact w3⟩
def xMN (K0 K : xK) (ρ : xSt → xSt) (X : xX) (out : xR) (rt : Option FieldType) (rc rs : Nat) : Prop := match X with
  | (p, l, e, R, s, m, args, below, meth, c, ce, sl, Q, A) => (∃ mc ms, Q = MQ below (xQ K0 out) args s mc ms (xA K0) ∧ ce + rc ≤ mc ∧ sl + rs ≤ ms ∧ mc ≤ R.cells ∧ ms ≤ R.slots) ∧ A = (fun q => xA K0 q ∨ s.heap.size ≤ q) ∧ meth.sig.returnType = rt ∧ meth.locks = false ∧ ∀ S U H, xWd K S U H → xWd K0 (ρ S) U H
def kA (X : xX) (k n : Nat) : xX := match X with
  | (p, l, e, R, s, m, args, below, meth, c, ce, sl, Q, A) => (p, l, e, R, s, m, args, below, meth, c, ce + k, sl + n, Q, A)
theorem xOK_kA {K : xK} {X : xX} {own : String} {cc : ByteArray} {nL : Nat} (k n : Nat) (h : xOK K X own cc nL) : xOK K (kA X k n) own cc nL := by
  obtain ⟨p, l, e, R, s, m, args, below, meth, c, ce, sl, Q, A⟩ := X
  exact h
theorem xMN_kA {K0 K : xK} {ρ : xSt → xSt} {X : xX} {out : xR} {rt : Option FieldType} {rc rs k n rc2 rs2 : Nat} (h : xMN K0 K ρ X out rt rc rs) (h1 : k + rc2 ≤ rc) (h2 : n + rs2 ≤ rs) : xMN K0 K ρ (kA X k n) out rt rc2 rs2 := by
  obtain ⟨p, l, e, R, s, m, args, below, meth, c, ce, sl, Q, A⟩ := X
  obtain ⟨⟨mc, ms, a1, a2, a3, a4, a5⟩, h9⟩ := h
  exact ⟨⟨mc, ms, a1, by omega, by omega, a4, a5⟩, h9⟩
theorem xRm_kA {K0 K : xK} {ρ : xSt → xSt} {X : xX} {out : xR} {rt : Option FieldType} {rc rs k n fr lo : Nat} (hM : xMN K0 K ρ X out rt rc rs) (hR : xRm X fr lo) (h1 : k ≤ rc) (h2 : n ≤ rs) : xRm (kA X k n) fr lo := by
  obtain ⟨p, l, e, R, s, m, args, below, meth, c, ce, sl, Q, A⟩ := X
  obtain ⟨⟨mc, ms, a1, a2, a3, a4, a5⟩, h9⟩ := hM
  obtain ⟨r1, r2, r3, r4⟩ := hR
  exact ⟨r1, r2, show ce + k ≤ R.cells by omega, show sl + n ≤ R.slots by omega⟩
def xMetN (l : Launch) (K : xK) (y : MethodName) (b : ByteArray) (maxL : Nat) (ret : Option FieldType) (fr lo mc ms : Nat) (S : xSt) (args : List Value) (out : xR) : Prop :=
  Met l y (Cond.code y b maxL ret :: xTB) ({ frames := fr, cells := mc, slots := ms, locals := lo }) (va_Pc args (xPre K S)) (xQ K out) mc ms (xA K)
theorem va_Z_new {C n d : String} {v : Value} {A : Nat → Prop} {U : State} {H : Heap} (h : va_Z C n d v A U H) : va_Z C n d v (fun q => A q ∨ H.size ≤ q) U H := by
  obtain ⟨cf, kf, fi, f, a, cell, h1, h2, h3, h4, h5, h6, h7, h8⟩ := h
  exact ⟨cf, kf, fi, f, a, cell, h1, h2, h3, h4, h5, h6, h7, fun z => z.elim h8 (fun q => absurd (Array.getElem?_eq_some_iff.mp h5).1 (Nat.not_lt.mpr q))⟩
theorem va_T_new {ty : FieldType} {t N : Nat} {f : Nat → Value} {A : Nat → Prop} {U : State} {H : Heap} (h : va_T ty t N f A U H) : va_T ty t N f (fun q => A q ∨ H.size ≤ q) U H := by
  obtain ⟨cell, h1, h2, h3, h4, h5, h6, h7⟩ := h
  exact ⟨cell, h1, h2, h3, h4, h5, h6, fun z => z.elim h7 (fun q => absurd (Array.getElem?_eq_some_iff.mp h1).1 (Nat.not_lt.mpr q))⟩
theorem xStt_new {K : xK} {A : Nat → Prop} {U : State} {H : Heap} (h : xStt K A U H) : xStt K (fun q => A q ∨ H.size ≤ q) U H := by
  obtain ⟨a1, a2, b1, b2, c1, c2, c3⟩ := h
  exact ⟨va_Z_new a1, va_T_new a2, va_Z_new b1, va_T_new b2, va_Z_new c1, va_T_new c2, va_T_new c3⟩
theorem xMetN_of {l : Launch} {K : xK} {y : MethodName} {b : ByteArray} {maxL : Nat} {ret : Option FieldType} {fr lo mc ms : Nat} {S : xSt} {args : List Value} {out : xR} (own : String) (ρ : xSt → xSt) (hy : plainName y.cls = true) (hown : y.cls = own) (hvc : xVC (xvl K)) (hρ : ∀ S U H, xWd K S U H → xWd K (ρ S) U H) (hargs : (lg_sl args).length ≤ maxL)
    (body : ∀ X, xOK K X own b maxL → xMN K K ρ X out ret mc ms → xRm X fr lo → xG K X S 0 (lv_args 0 args) []) : xMetN l K y b maxL ret fr lo mc ms S args out := by
  refine Met.ofW (cc := b) (maxL := maxL) (ret := ret) hy rfl ?_
  intro p e s m args' below meth c s₁ B hml hv
  obtain ⟨rfl, hwd, hst, hnw⟩ := hv
  have hts := atoms_spec (ws := Cond.code y b maxL ret :: xTB) B.pre
  have hown2 : s.vm.findClass y.cls = some m.cls := findClass_of_methodNamed B.named
  rw [hown] at hown2
  rw [lg_entry_eq]
  exact body (p, l, e, _, s, m, args.toArray, below, meth, c, 0, 0, MQ below (xQ K out) args.toArray s mc ms (xA K), fun q => xA K q ∨ s.heap.size ≤ q) ⟨B.exec, B.bytes, hml, hown2, fun w hw => hts w (List.mem_cons_of_mem _ hw), fun t o h => Or.inl ⟨t, o, h, rfl⟩, xStt_new hst, hvc, hnw⟩ ⟨⟨mc, ms, rfl, by omega, by omega, Nat.le_refl _, Nat.le_refl _⟩, rfl, B.returns, B.notSynchronized, hρ⟩ ⟨Nat.le_refl _, Nat.le_refl _, Nat.zero_le _, Nat.zero_le _⟩ s.heap [] _ hwd va_S.rf (by rw [hml]; exact lv_entry args hargs)
theorem x_callN {p : Program} {l : Launch} {e : Env} {R : Room} {s : State} {m : MethodId} {args : Array Value} {below : List Frame} {meth : Method} {c : Code} {H : Heap} {locs : List Loc} {ce sl mc ms : Nat} {Q : State → Prop} {A0 : Nat → Prop} {K : xK} {S1 : xSt} {v : Option Value} {pc : Nat} {ls : Array Slot} {st0 rest : List Value} {a : Array Value}
    (hr : va_Run p l e R s m args below meth c H locs ce sl mc ms (F0 m pc ls st0) rest (xQ K (S1, v) a) (xA K)) (hS : va_S A0 s.heap H locs) (hA : ∀ t o, (t, o) ∈ xvl K → A0 (xad K t o))
    (kk : ∀ (H1 : Heap) (locs1 : List Loc), xWd K S1 s H1 → va_S A0 s.heap H1 locs1 → W p l e R s m args below meth c H1 locs1 (ce + mc) (sl + ms) Q (F0 m (pc + 3) ls (v.toList ++ rest))) : W p l e R s m args below meth c H locs ce sl Q (F0 m pc ls st0) := by
  intro T hT X
  obtain ⟨v', st₀, t, T', L, h0, X', hL, e1, e2, ⟨hv, hw, hz, hk⟩, st⟩ := hr T hT X
  cases hv
  rw [h0] at hz hk
  have hAA : ∀ q, xA K q → A0 q := by rintro q ⟨t, o, h, rfl⟩; exact hA t o h
  have hal : s.vm.Alike t.vm := by rw [← e2]; exact X'.warmed.alike
  obtain ⟨t2, a1, b1⟩ := kk T'.heap (locs ++ L) (by rw [e1]; exact xWd_moved hal.symm hw)
    ⟨Nat.le_trans hS.1 (by rw [e1]; exact hz), fun q h1 h2 => by rw [e1, hk q (Nat.lt_of_lt_of_le h1 hS.1) (fun z => h2 (hAA q z))]; exact hS.2.1 q h1 h2, fun q hq => by
      rcases List.mem_append.mp hq with h | h
      · exact hS.2.2 q h
      · exact hAA _ (hL q h)⟩ T' rfl X'
  exact ⟨t2, st t2 a1, b1⟩
section XN
variable {K K0 : xK} {X : xX} {own : String} {cc : ByteArray} {nL : Nat} {S : xSt} {pc : Nat} {lv : List (Nat × Value)} {st : List Value}
theorem g_callN {y : MethodName} {bytes : ByteArray} {maxL fr lo mc ms n idx : Nat} {ret : Option FieldType} {As stk st2 : List Value} {S1 : xSt} {v : Option Value} (hX : xOK K X own cc nL) {fr0 lo0 : Nat} (hR : xRm X fr0 lo0) (hR2 : xRm (kA X mc ms) fr0 lo0) (hM : ∀ l, xMetN l K y bytes maxL ret fr lo mc ms S As (S1, v)) (hC : xCS own idx y bytes maxL ret n)
    (hn : As.length = n) (hfl : fr + 1 ≤ fr0 ∧ 8 + (maxL + 11) + lo ≤ lo0) (hstk : stk = As.reverse ++ st) (hst2 : v.toList ++ st = st2) (hW : (st.map fun v => v.category).sum ≤ 8) (d : decode cc pc = .ok (.invokestatic idx, 3)) (kk : xG K (kA X mc ms) S1 (pc + 3) lv st2) : xG K X S pc lv stk := by
  obtain ⟨p, l, e, R, s, m, args, below, meth, c, ce, sl, Q, A⟩ := X
  obtain ⟨hx, hb, hml, hown, hts, hA, hst, hvc⟩ := hX
  obtain ⟨r1, r2, r3, r4⟩ := hR
  obtain ⟨-, -, r5, r6⟩ := hR2
  obtain ⟨⟨c1, c2, c3, c4, c5, c6⟩, c7⟩ := hC
  intro H locs ls wd hS hv
  subst hstk
  subst hst2
  have hRR : fr + 1 ≤ R.frames ∧ 8 + (maxL + 11) + lo ≤ R.locals := ⟨by omega, by omega⟩
  have hpv : PreS s H (va_Pc As (xPre K S)) As := ⟨xPre_blind, x_pre wd hS hA hst hvc.2 As⟩
  refine x_callN (v := v) (S1 := S1) (mc := mc) (ms := ms) (a := As.toArray) ?_ hS hA (fun H1 locs1 w1 hS1 => kk H1 locs1 ls w1 hS1 hv)
  rcases c1 with c1 | ⟨host, c1⟩
  · exact va_runS (ws := Cond.code y bytes maxL ret :: xTB) (As := As) ⟨hx, hb, hml, hown, hts⟩ (hM l) ⟨callB_of n hts (xTB_in c3) rfl rfl rfl (hts _ c2) (hts _ c1) ⟨c4, c5, c6⟩ hRR, hts _ c7⟩ hpv rfl hn (by rw [hv.1, hml]) rfl (by show 2 * 0 + _ ≤ 8; omega) d ⟨r5, r6⟩
  · exact va_runSN (ws := Cond.code y bytes maxL ret :: xTB) (As := As) ⟨hx, hb, hml, hown, hts⟩ (hM l) ⟨va_cnB n hts (xTB_in c3) rfl rfl rfl (hvc.2 _ c1) (hts _ c2) ⟨c4, c5, c6⟩ hRR, hts _ c7, trivial⟩ hpv rfl hn (by rw [hv.1, hml]) rfl (by show 2 * 0 + _ ≤ 8; omega) d ⟨r5, r6⟩
theorem g_newa {j : Nat} {ρ : xSt → xSt} {out : xR} {rt : Option FieldType} {rc rs fr lo : Nat} {S1 : xSt} (rc2 rs2 : Nat) (hX : xOK K X own cc nL) (hM : xMN K0 K ρ X out rt rc rs) (hR : xRm X fr lo) (hn : (33, j) ∉ xvl K) (h1 : 1 + rc2 ≤ rc) (h2 : 64 + rs2 ≤ rs) (harr : Cond.arrayClass .int ∈ xTB) (e9 : xua S 33 j (fun _ => 0) = S1) (d : decode cc pc = .ok (.newarray .int, 2))
    (kk : ∀ (K1 : xK), xEx K K1 j → xOK K1 (kA X 1 64) own cc nL → xMN K0 K1 ρ (kA X 1 64) out rt rc2 rs2 → xRm (kA X 1 64) fr lo → xG K1 (kA X 1 64) S1 (pc + 2) lv (xr K1 33 j :: st)) : xG K X S pc lv (.int 64 :: st) := by
  have hM2 := xMN_kA (k := 1) (n := 64) (rc2 := rc2) (rs2 := rs2) hM h1 h2
  have hR2 := xRm_kA (k := 1) (n := 64) hM hR (by omega) (by omega)
  obtain ⟨p, l, e, R, s, m, args, below, meth, c, ce, sl, Q, A⟩ := X
  obtain ⟨hx, hb, hml, hown, hts, hA, hst, hvc⟩ := hX
  obtain ⟨hQ, hA0, hr1, hr2, hρ⟩ := hM2
  obtain ⟨r1, r2, r3, r4⟩ := hR2
  have r3 : ce + 1 ≤ R.cells := r3
  have r4 : sl + 64 ≤ R.slots := r4
  have hAn : ∀ q, s.heap.size ≤ q → A q := fun q hq => by rw [hA0]; exact Or.inr hq
  intro H locs ls wd hS hv
  refine va_newa (atype := .int) (ty := .int) hx hb (hts _ harr) rfl wd.2.1 wd.1 (xWd_A wd.2.2 hA) hS hAn (a0 := (64, .inl (fun _ => 0))) (fun cA => by rw [vp_cell_i]; rfl) (by decide) (N' := 64) rfl (by decide) r3 r4 d (fun q cA H1 hK1 hP1 hD1 hS1 => ?_)
  have e1 : (xtys K ++ [(cA, FieldType.int)])[(xtys K).length]? = some (cA, FieldType.int) := by simp
  have f1 : s.vm.findClass ("[" ++ FieldType.int.toString) = some cA := (hK1.2 _ _ e1).2
  have f2 : s.vm.findClass ("[" ++ FieldType.int.toString) = some (xcy K 0) := (wd.2.1.2 0 _ rfl).2
  cases f1.symm.trans f2
  obtain ⟨K1, hK1e⟩ : ∃ K1 : xK, K1 = (K.1, fun t o => if t = 33 ∧ o = j then q else xad K t o, xvl K ++ [(33, j)], xcy K, xsa K, xxs K) := ⟨_, rfl⟩
  have hE : xEx K K1 j := by
    subst hK1e
    exact ⟨rfl, rfl, rfl, rfl, rfl, fun t o z => if_neg z⟩
  have hq : xad K1 33 j = q := by
    subst hK1e
    exact if_pos ⟨rfl, rfl⟩
  have hws : xws K S ++ [(q, .inl (xcy K 0, 64, .inl (fun _ => 0)))] = xws K1 S1 := by
    rw [xws_ex hE hn, hq, ← e9, xua_s]
    congr 1
    unfold xws
    refine List.map_congr_left (fun z hz => ?_)
    rw [xua_n _ _ (fun c => hn (by
      obtain ⟨a, b⟩ := z
      obtain ⟨c1, c2⟩ := c
      cases c1
      cases c2
      exact hz))]
  rw [hws] at hP1 hD1
  have hOK1 : xOK K1 (p, l, e, R, s, m, args, below, meth, c, ce + 1, sl + 64, Q, A) own cc nL := by
    refine ⟨hx, hb, hml, hown, hts, fun t o hto => ?_, ?_, ?_, hvc.2⟩
    · obtain ⟨k, -, hk2⟩ := xws_at (S := S1) hto
      exact hD1.2 k _ hk2
    · unfold xStt xrs at hst ⊢
      rw [hE.2.2.1, hE.2.2.2.1]
      exact hst
    · rw [hE.2.2.2.2.1]
      exact xVC_app hvc.1
  have hgo := kk K1 hE hOK1 ⟨hQ, hA0, hr1, hr2, fun S9 U9 H9 w9 => hρ S9 U9 H9 (xWd_ex hE hn w9)⟩ ⟨r1, r2, r3, r4⟩ H1 locs ls ⟨by rw [hE.1]; exact hP1, by rw [hE.1, xtys_ex hE]; exact wd.2.1, ⟨hD1.1, fun _ _ _ => trivial⟩⟩ hS1 hv
  have hrq : xr K1 33 j = Value.ref q := by
    show Value.ref _ = Value.ref _
    rw [hq]
  rw [hrq] at hgo
  exact hgo
theorem g_zretN {out : xR} {v : Int32} {ρ : xSt → xSt} {rc rs : Nat} (hX : xOK K X own cc nL) (hM : xMN K0 K ρ X out (some .boolean) rc rs) (hz : v &&& 1 = v) (e9 : (ρ S, some (Value.int v)) = out) (d : decode cc pc = .ok (.ireturn, 1)) : xG K X S pc lv [.int v] := by
  obtain ⟨p, l, e, R, s, m, args, below, meth, c, ce, sl, Q, A⟩ := X
  obtain ⟨hx, hb, hml, hown, hts, hA, hst, hvc⟩ := hX
  obtain ⟨⟨mc, ms, rfl, a2, a3, a4, a5⟩, rfl, hrt, hlk, hρ⟩ := hM
  intro H locs ls wd hS hv
  subst e9
  refine W_weaken (locs2 := locs.filter (fun y => decide (y.base < s.heap.size))) (fun y hy hlt => List.mem_filter.mpr ⟨hy, by simpa using hlt⟩) ?_
  refine W.widen (k := mc) (n := ms) (by omega) (by omega) ?_
  refine W.zret hx hb hrt (by show Value.int (v &&& 1) = _; rw [hz]) (fun t ht hW => ⟨rfl, by rw [ht]; exact xWd_moved hW.alike (hρ _ _ _ wd), ⟨by rw [ht]; exact hS.1, fun q hq hn => by rw [ht]; exact hS.2.1 q hq (fun z => z.elim hn (fun q2 => absurd hq (Nat.not_lt.mpr q2)))⟩⟩) (fun q hq => ?_) d hlk
  obtain ⟨h1, h2⟩ := List.mem_filter.mp hq
  have h2 : q.base < s.heap.size := by simpa using h2
  exact (hS.2.2 q h1).elim id (fun z => absurd h2 (Nat.not_lt.mpr z))
end XN
end
