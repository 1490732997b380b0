section
-- ===== PART A: goes FIRST, ahead of the names: the tables' words, and 'selects' of the private methods out of them =====
/-- a private method of a class that the tables say can be made, by its rows of tables_1 -/
def lw_okq (q : MethodName × Nat) : Prop := (q.1.cls ≠ "java/lang/invoke/MethodHandle" ∧ q.1.cls ≠ "java/lang/invoke/VarHandle") ∧ Cond.instantiable q.1.cls q.2 ∈ tables_1 ∧ Cond.privateMethod q.1 ∈ tables_1 ∧ Cond.instanceMethod q.1 ∈ tables_1
theorem lw_p0 : lw_okq (⟨"GrowingBook", "refresh", "()V"⟩, 11) := ⟨⟨by decide +kernel, by decide +kernel⟩, List.mem_of_getElem? (i := 12) (by decide +kernel), List.mem_of_getElem? (i := 223) (by decide +kernel), List.mem_of_getElem? (i := 224) (by decide +kernel)⟩
theorem lw_p1 : lw_okq (⟨"GrowingBook$Writer", "begin", "(I)V"⟩, 12) := ⟨⟨by decide +kernel, by decide +kernel⟩, List.mem_of_getElem? (i := 95) (by decide +kernel), List.mem_of_getElem? (i := 231) (by decide +kernel), List.mem_of_getElem? (i := 232) (by decide +kernel)⟩
theorem lw_p2 : lw_okq (⟨"GrowingBook$Writer", "writeCode", "(III)V"⟩, 12) := ⟨⟨by decide +kernel, by decide +kernel⟩, List.mem_of_getElem? (i := 95) (by decide +kernel), List.mem_of_getElem? (i := 249) (by decide +kernel), List.mem_of_getElem? (i := 250) (by decide +kernel)⟩
theorem lw_p3 : lw_okq (⟨"GrowingBook$Writer", "grow", "(II)V"⟩, 12) := ⟨⟨by decide +kernel, by decide +kernel⟩, List.mem_of_getElem? (i := 95) (by decide +kernel), List.mem_of_getElem? (i := 260) (by decide +kernel), List.mem_of_getElem? (i := 261) (by decide +kernel)⟩
theorem lw_p4 : lw_okq (⟨"GrowingBook$Writer", "mustClear", "(II)Z"⟩, 12) := ⟨⟨by decide +kernel, by decide +kernel⟩, List.mem_of_getElem? (i := 95) (by decide +kernel), List.mem_of_getElem? (i := 271) (by decide +kernel), List.mem_of_getElem? (i := 272) (by decide +kernel)⟩
theorem lw_p5 : lw_okq (⟨"GrowingBook$Writer", "losesBy", "(I)Z"⟩, 12) := ⟨⟨by decide +kernel, by decide +kernel⟩, List.mem_of_getElem? (i := 95) (by decide +kernel), List.mem_of_getElem? (i := 275) (by decide +kernel), List.mem_of_getElem? (i := 276) (by decide +kernel)⟩
theorem lw_p6 : lw_okq (⟨"GrowingBook$Writer", "signsOf", "(II)I"⟩, 12) := ⟨⟨by decide +kernel, by decide +kernel⟩, List.mem_of_getElem? (i := 95) (by decide +kernel), List.mem_of_getElem? (i := 279) (by decide +kernel), List.mem_of_getElem? (i := 280) (by decide +kernel)⟩
theorem lw_p7 : lw_okq (⟨"GrowingBook$Reader", "begin", "(I)V"⟩, 11) := ⟨⟨by decide +kernel, by decide +kernel⟩, List.mem_of_getElem? (i := 176) (by decide +kernel), List.mem_of_getElem? (i := 287) (by decide +kernel), List.mem_of_getElem? (i := 288) (by decide +kernel)⟩
theorem lw_p8 : lw_okq (⟨"GrowingBook$Reader", "dropPhrases", "()V"⟩, 11) := ⟨⟨by decide +kernel, by decide +kernel⟩, List.mem_of_getElem? (i := 176) (by decide +kernel), List.mem_of_getElem? (i := 291) (by decide +kernel), List.mem_of_getElem? (i := 292) (by decide +kernel)⟩
theorem lw_p9 : lw_okq (⟨"GrowingBook$Reader", "noteFault", "(II)V"⟩, 11) := ⟨⟨by decide +kernel, by decide +kernel⟩, List.mem_of_getElem? (i := 176) (by decide +kernel), List.mem_of_getElem? (i := 295) (by decide +kernel), List.mem_of_getElem? (i := 296) (by decide +kernel)⟩
theorem lw_p10 : lw_okq (⟨"GrowingBook$Reader", "canStand", "(I)Z"⟩, 11) := ⟨⟨by decide +kernel, by decide +kernel⟩, List.mem_of_getElem? (i := 176) (by decide +kernel), List.mem_of_getElem? (i := 299) (by decide +kernel), List.mem_of_getElem? (i := 300) (by decide +kernel)⟩
theorem lw_p11 : lw_okq (⟨"GrowingBook$Reader", "canGrow", "()Z"⟩, 11) := ⟨⟨by decide +kernel, by decide +kernel⟩, List.mem_of_getElem? (i := 176) (by decide +kernel), List.mem_of_getElem? (i := 303) (by decide +kernel), List.mem_of_getElem? (i := 304) (by decide +kernel)⟩
theorem lw_p12 : lw_okq (⟨"GrowingBook$Reader", "readEntry", "(I)V"⟩, 11) := ⟨⟨by decide +kernel, by decide +kernel⟩, List.mem_of_getElem? (i := 176) (by decide +kernel), List.mem_of_getElem? (i := 307) (by decide +kernel), List.mem_of_getElem? (i := 308) (by decide +kernel)⟩
theorem lw_p13 : lw_okq (⟨"GrowingBook$Reader", "readSign", "(I)V"⟩, 11) := ⟨⟨by decide +kernel, by decide +kernel⟩, List.mem_of_getElem? (i := 176) (by decide +kernel), List.mem_of_getElem? (i := 311) (by decide +kernel), List.mem_of_getElem? (i := 312) (by decide +kernel)⟩
theorem lw_p14 : lw_okq (⟨"GrowingBook$Reader", "readPhrase", "(II)V"⟩, 11) := ⟨⟨by decide +kernel, by decide +kernel⟩, List.mem_of_getElem? (i := 176) (by decide +kernel), List.mem_of_getElem? (i := 315) (by decide +kernel), List.mem_of_getElem? (i := 316) (by decide +kernel)⟩
theorem lw_p15 : lw_okq (⟨"GrowingBook", "isCode", "(I)Z"⟩, 11) := ⟨⟨by decide +kernel, by decide +kernel⟩, List.mem_of_getElem? (i := 12) (by decide +kernel), List.mem_of_getElem? (i := 406) (by decide +kernel), List.mem_of_getElem? (i := 407) (by decide +kernel)⟩
def lw_privs_1 : List (MethodName × Nat) := [(⟨"GrowingBook", "refresh", "()V"⟩, 11), (⟨"GrowingBook$Writer", "begin", "(I)V"⟩, 12), (⟨"GrowingBook$Writer", "writeCode", "(III)V"⟩, 12), (⟨"GrowingBook$Writer", "grow", "(II)V"⟩, 12), (⟨"GrowingBook$Writer", "mustClear", "(II)Z"⟩, 12), (⟨"GrowingBook$Writer", "losesBy", "(I)Z"⟩, 12), (⟨"GrowingBook$Writer", "signsOf", "(II)I"⟩, 12), (⟨"GrowingBook$Reader", "begin", "(I)V"⟩, 11), (⟨"GrowingBook$Reader", "dropPhrases", "()V"⟩, 11), (⟨"GrowingBook$Reader", "noteFault", "(II)V"⟩, 11), (⟨"GrowingBook$Reader", "canStand", "(I)Z"⟩, 11), (⟨"GrowingBook$Reader", "canGrow", "()Z"⟩, 11), (⟨"GrowingBook$Reader", "readEntry", "(I)V"⟩, 11), (⟨"GrowingBook$Reader", "readSign", "(I)V"⟩, 11), (⟨"GrowingBook$Reader", "readPhrase", "(II)V"⟩, 11), (⟨"GrowingBook", "isCode", "(I)Z"⟩, 11)]
theorem lw_r1 : ∀ q ∈ lw_privs_1, lw_okq q := List.forall_mem_cons.mpr ⟨lw_p0, List.forall_mem_cons.mpr ⟨lw_p1, List.forall_mem_cons.mpr ⟨lw_p2, List.forall_mem_cons.mpr ⟨lw_p3, List.forall_mem_cons.mpr ⟨lw_p4, List.forall_mem_cons.mpr ⟨lw_p5, List.forall_mem_cons.mpr ⟨lw_p6, List.forall_mem_cons.mpr ⟨lw_p7, List.forall_mem_cons.mpr ⟨lw_p8, List.forall_mem_cons.mpr ⟨lw_p9, List.forall_mem_cons.mpr ⟨lw_p10, List.forall_mem_cons.mpr ⟨lw_p11, List.forall_mem_cons.mpr ⟨lw_p12, List.forall_mem_cons.mpr ⟨lw_p13, List.forall_mem_cons.mpr ⟨lw_p14, List.forall_mem_cons.mpr ⟨lw_p15, fun _ h => absurd h List.not_mem_nil⟩⟩⟩⟩⟩⟩⟩⟩⟩⟩⟩⟩⟩⟩⟩⟩
def lw_privs : List (MethodName × Nat) := lw_privs_1
def lw_tbl : List Cond := k2_sels lw_privs ++ tables_1
theorem lw_privs_ok : ∀ q ∈ lw_privs, lw_okq q := lw_r1
-- ===== end of PART A
def RX0 : String := "GrowingBook$Book"
def TX0 : u_T := fun k => match k with
  | 0 => ("GrowingBook$Book", "shorter", "[I", true)
  | 1 => ("GrowingBook$Book", "lastSigns", "[I", true)
  | 2 => ("GrowingBook$Book", "lengths", "[I", true)
  | 3 => ("GrowingBook$Book", "longer", "[I", true)
  | _ => ("GrowingBook$Book", "entries", "I", false)
def tyX0 : Nat → FieldType := fun k => match k with
  | 0 => .array .int
  | 1 => .array .int
  | 2 => .array .int
  | 3 => .array .int
  | _ => .int
theorem nmX0 : ∀ a, a < 5 → ∀ b, b < 5 → a ≠ b → (TX0 a).2.1 ≠ (TX0 b).2.1 := by decide +kernel
theorem tyX0_ok : ∀ k, k < 5 → parseFieldDescriptor (TX0 k).2.2.1 = some (tyX0 k) := by decide +kernel
abbrev cX0_init : ByteArray := prog_2_method_1_code
def yX0_init : MethodName := ⟨RX0, "<init>", "()V"⟩
abbrev cX0_dropPhrases : ByteArray := prog_2_method_2_code
def yX0_dropPhrases : MethodName := ⟨RX0, "dropPhrases", "()V"⟩
abbrev cX0_addPhrase : ByteArray := prog_2_method_3_code
def yX0_addPhrase : MethodName := ⟨RX0, "addPhrase", "(II)V"⟩
abbrev cX0_longestAt : ByteArray := prog_2_method_4_code
def yX0_longestAt : MethodName := ⟨RX0, "longestAt", "([III)I"⟩
def RX1 : String := "GrowingBook$History"
def TX1 : u_T := fun k => match k with
  | 0 => ("GrowingBook$History", "states", "[LGrowingBook$State;", true)
  | 1 => ("GrowingBook$History", "latest", "I", false)
  | _ => ("GrowingBook$History", "held", "I", false)
def tyX1 : Nat → FieldType := fun k => match k with
  | 0 => .array (.object "GrowingBook$State")
  | 1 => .int
  | _ => .int
theorem nmX1 : ∀ a, a < 3 → ∀ b, b < 3 → a ≠ b → (TX1 a).2.1 ≠ (TX1 b).2.1 := by decide +kernel
theorem tyX1_ok : ∀ k, k < 3 → parseFieldDescriptor (TX1 k).2.2.1 = some (tyX1 k) := by decide +kernel
abbrev cX1_init : ByteArray := prog_3_method_1_code
def yX1_init : MethodName := ⟨RX1, "<init>", "()V"⟩
abbrev cX1_record : ByteArray := prog_3_method_2_code
def yX1_record : MethodName := ⟨RX1, "record", "(LGrowingBook$State;)V"⟩
def RX2 : String := "GrowingBook$Pad"
def TX2 : u_T := fun k => match k with
  | 0 => ("GrowingBook$Pad", "characters", "[I", true)
  | 1 => ("GrowingBook$Pad", "spelled", "[I", true)
  | 2 => ("GrowingBook$Pad", "begins", "[I", true)
  | 3 => ("GrowingBook$Pad", "times", "[I", true)
  | _ => ("GrowingBook$Pad", "length", "I", false)
def tyX2 : Nat → FieldType := fun k => match k with
  | 0 => .array .int
  | 1 => .array .int
  | 2 => .array .int
  | 3 => .array .int
  | _ => .int
theorem nmX2 : ∀ a, a < 5 → ∀ b, b < 5 → a ≠ b → (TX2 a).2.1 ≠ (TX2 b).2.1 := by decide +kernel
theorem tyX2_ok : ∀ k, k < 5 → parseFieldDescriptor (TX2 k).2.2.1 = some (tyX2 k) := by decide +kernel
abbrev cX2_init : ByteArray := prog_4_method_1_code
def yX2_init : MethodName := ⟨RX2, "<init>", "()V"⟩
def RX3 : String := "GrowingBook$Reader"
def TX3 : u_T := fun k => match k with
  | 0 => ("GrowingBook$Reader", "signs", "[I", true)
  | 1 => ("GrowingBook$Reader", "many", "I", false)
  | 2 => ("GrowingBook$Reader", "entries", "I", false)
  | 3 => ("GrowingBook$Reader", "early", "I", false)
  | 4 => ("GrowingBook$Reader", "faultPlace", "I", false)
  | 5 => ("GrowingBook$Reader", "reason", "I", false)
  | 6 => ("GrowingBook$Reader", "begins", "[I", true)
  | 7 => ("GrowingBook$Reader", "lengths", "[I", true)
  | 8 => ("GrowingBook$Reader", "full", "I", false)
  | 9 => ("GrowingBook$Reader", "aheadBegin", "I", false)
  | _ => ("GrowingBook$Reader", "aheadLength", "I", false)
def tyX3 : Nat → FieldType := fun k => match k with
  | 0 => .array .int
  | 1 => .int
  | 2 => .int
  | 3 => .int
  | 4 => .int
  | 5 => .int
  | 6 => .array .int
  | 7 => .array .int
  | 8 => .int
  | 9 => .int
  | _ => .int
theorem nmX3 : ∀ a, a < 11 → ∀ b, b < 11 → a ≠ b → (TX3 a).2.1 ≠ (TX3 b).2.1 := by decide +kernel
theorem tyX3_ok : ∀ k, k < 11 → parseFieldDescriptor (TX3 k).2.2.1 = some (tyX3 k) := by decide +kernel
abbrev cX3_init : ByteArray := prog_5_method_1_code
def yX3_init : MethodName := ⟨RX3, "<init>", "()V"⟩
abbrev cX3_readAll : ByteArray := prog_5_method_2_code
def yX3_readAll : MethodName := ⟨RX3, "readAll", "([III)V"⟩
abbrev cX3_begin : ByteArray := prog_5_method_3_code
def yX3_begin : MethodName := ⟨RX3, "begin", "(I)V"⟩
abbrev cX3_dropPhrases : ByteArray := prog_5_method_4_code
def yX3_dropPhrases : MethodName := ⟨RX3, "dropPhrases", "()V"⟩
abbrev cX3_noteFault : ByteArray := prog_5_method_5_code
def yX3_noteFault : MethodName := ⟨RX3, "noteFault", "(II)V"⟩
abbrev cX3_canGrow : ByteArray := prog_5_method_6_code
def yX3_canGrow : MethodName := ⟨RX3, "canGrow", "()Z"⟩
abbrev cX3_canStand : ByteArray := prog_5_method_7_code
def yX3_canStand : MethodName := ⟨RX3, "canStand", "(I)Z"⟩
abbrev cX3_readEntry : ByteArray := prog_5_method_8_code
def yX3_readEntry : MethodName := ⟨RX3, "readEntry", "(I)V"⟩
abbrev cX3_readPhrase : ByteArray := prog_5_method_9_code
def yX3_readPhrase : MethodName := ⟨RX3, "readPhrase", "(II)V"⟩
abbrev cX3_readSign : ByteArray := prog_5_method_10_code
def yX3_readSign : MethodName := ⟨RX3, "readSign", "(I)V"⟩
abbrev cX3_firstDifference : ByteArray := prog_5_method_11_code
def yX3_firstDifference : MethodName := ⟨RX3, "firstDifference", "([II)I"⟩
def RX4 : String := "GrowingBook$State"
def TX4 : u_T := fun k => match k with
  | 0 => ("GrowingBook$State", "settings", "[I", true)
  | 1 => ("GrowingBook$State", "signs", "[I", true)
  | 2 => ("GrowingBook$State", "turned", "[I", true)
  | _ => ("GrowingBook$State", "length", "I", false)
def tyX4 : Nat → FieldType := fun k => match k with
  | 0 => .array .int
  | 1 => .array .int
  | 2 => .array .int
  | _ => .int
theorem nmX4 : ∀ a, a < 4 → ∀ b, b < 4 → a ≠ b → (TX4 a).2.1 ≠ (TX4 b).2.1 := by decide +kernel
theorem tyX4_ok : ∀ k, k < 4 → parseFieldDescriptor (TX4 k).2.2.1 = some (tyX4 k) := by decide +kernel
abbrev cX4_init : ByteArray := prog_6_method_1_code
def yX4_init : MethodName := ⟨RX4, "<init>", "()V"⟩
abbrev cX4_mendCodes : ByteArray := prog_6_method_2_code
def yX4_mendCodes : MethodName := ⟨RX4, "mendCodes", "()V"⟩
abbrev cX4_countSpoiled : ByteArray := prog_6_method_3_code
def yX4_countSpoiled : MethodName := ⟨RX4, "countSpoiled", "()I"⟩
def RX5 : String := "GrowingBook$Writer"
def TX5 : u_T := fun k => match k with
  | 0 => ("GrowingBook$Writer", "book", "LGrowingBook$Book;", true)
  | 1 => ("GrowingBook$Writer", "numbers", "[I", true)
  | 2 => ("GrowingBook$Writer", "widths", "[I", true)
  | 3 => ("GrowingBook$Writer", "places", "[I", true)
  | 4 => ("GrowingBook$Writer", "lengths", "[I", true)
  | 5 => ("GrowingBook$Writer", "books", "[I", true)
  | 6 => ("GrowingBook$Writer", "codes", "I", false)
  | 7 => ("GrowingBook$Writer", "bits", "I", false)
  | 8 => ("GrowingBook$Writer", "clears", "I", false)
  | 9 => ("GrowingBook$Writer", "longest", "I", false)
  | 10 => ("GrowingBook$Writer", "full", "I", false)
  | _ => ("GrowingBook$Writer", "firstSinceFull", "I", false)
def tyX5 : Nat → FieldType := fun k => match k with
  | 0 => .object "GrowingBook$Book"
  | 1 => .array .int
  | 2 => .array .int
  | 3 => .array .int
  | 4 => .array .int
  | 5 => .array .int
  | 6 => .int
  | 7 => .int
  | 8 => .int
  | 9 => .int
  | 10 => .int
  | _ => .int
theorem nmX5 : ∀ a, a < 12 → ∀ b, b < 12 → a ≠ b → (TX5 a).2.1 ≠ (TX5 b).2.1 := by decide +kernel
theorem tyX5_ok : ∀ k, k < 12 → parseFieldDescriptor (TX5 k).2.2.1 = some (tyX5 k) := by decide +kernel
abbrev cX5_init : ByteArray := prog_7_method_1_code
def yX5_init : MethodName := ⟨RX5, "<init>", "()V"⟩
abbrev cX5_writeOut : ByteArray := prog_7_method_2_code
def yX5_writeOut : MethodName := ⟨RX5, "writeOut", "([IIIII)V"⟩
abbrev cX5_begin : ByteArray := prog_7_method_3_code
def yX5_begin : MethodName := ⟨RX5, "begin", "(I)V"⟩
abbrev cX5_writeCode : ByteArray := prog_7_method_4_code
def yX5_writeCode : MethodName := ⟨RX5, "writeCode", "(III)V"⟩
abbrev cX5_bitsOf : ByteArray := prog_7_method_5_code
def yX5_bitsOf : MethodName := ⟨RX5, "bitsOf", "(I)I"⟩
abbrev cX5_grow : ByteArray := prog_7_method_6_code
def yX5_grow : MethodName := ⟨RX5, "grow", "(II)V"⟩
abbrev cX5_mustClear : ByteArray := prog_7_method_7_code
def yX5_mustClear : MethodName := ⟨RX5, "mustClear", "(II)Z"⟩
abbrev cX5_losesBy : ByteArray := prog_7_method_8_code
def yX5_losesBy : MethodName := ⟨RX5, "losesBy", "(I)Z"⟩
abbrev cX5_signsOf : ByteArray := prog_7_method_9_code
def yX5_signsOf : MethodName := ⟨RX5, "signsOf", "(II)I"⟩
def RX6 : String := "GrowingBook"
def TX6 : u_T := fun k => match k with
  | 0 => ("GrowingBook", "now", "LGrowingBook$State;", true)
  | 1 => ("GrowingBook", "history", "LGrowingBook$History;", true)
  | 2 => ("GrowingBook", "slots", "[LGrowingBook$State;", true)
  | 3 => ("GrowingBook", "saved", "[Z", true)
  | 4 => ("GrowingBook", "pad", "LGrowingBook$Pad;", true)
  | 5 => ("GrowingBook", "writer", "LGrowingBook$Writer;", true)
  | 6 => ("GrowingBook", "reader", "LGrowingBook$Reader;", true)
  | 7 => ("GrowingBook", "coming", "[I", true)
  | 8 => ("GrowingBook", "trialWriter", "LGrowingBook$Writer;", true)
  | 9 => ("GrowingBook", "trialReader", "LGrowingBook$Reader;", true)
  | _ => ("GrowingBook", "trialCodes", "[I", true)
def tyX6 : Nat → FieldType := fun k => match k with
  | 0 => .object "GrowingBook$State"
  | 1 => .object "GrowingBook$History"
  | 2 => .array (.object "GrowingBook$State")
  | 3 => .array .boolean
  | 4 => .object "GrowingBook$Pad"
  | 5 => .object "GrowingBook$Writer"
  | 6 => .object "GrowingBook$Reader"
  | 7 => .array .int
  | 8 => .object "GrowingBook$Writer"
  | 9 => .object "GrowingBook$Reader"
  | _ => .array .int
theorem nmX6 : ∀ a, a < 11 → ∀ b, b < 11 → a ≠ b → (TX6 a).2.1 ≠ (TX6 b).2.1 := by decide +kernel
theorem tyX6_ok : ∀ k, k < 11 → parseFieldDescriptor (TX6 k).2.2.1 = some (tyX6 k) := by decide +kernel
abbrev cX6_init : ByteArray := prog_1_method_1_code
def yX6_init : MethodName := ⟨RX6, "<init>", "()V"⟩
abbrev cX6_set : ByteArray := prog_1_method_2_code
def yX6_set : MethodName := ⟨RX6, "set", "(II)I"⟩
abbrev cX6_add : ByteArray := prog_1_method_3_code
def yX6_add : MethodName := ⟨RX6, "add", "(II)I"⟩
abbrev cX6_cut : ByteArray := prog_1_method_4_code
def yX6_cut : MethodName := ⟨RX6, "cut", "(I)I"⟩
abbrev cX6_spoil : ByteArray := prog_1_method_5_code
def yX6_spoil : MethodName := ⟨RX6, "spoil", "(II)I"⟩
abbrev cX6_sign : ByteArray := prog_1_method_10_code
def yX6_sign : MethodName := ⟨RX6, "sign", "(I)I"⟩
abbrev cX6_ofCode : ByteArray := prog_1_method_11_code
def yX6_ofCode : MethodName := ⟨RX6, "ofCode", "(II)I"⟩
abbrev cX6_count : ByteArray := prog_1_method_12_code
def yX6_count : MethodName := ⟨RX6, "count", "(I)I"⟩
abbrev cX6_entry : ByteArray := prog_1_method_13_code
def yX6_entry : MethodName := ⟨RX6, "entry", "(II)I"⟩
abbrev cX6_reading : ByteArray := prog_1_method_14_code
def yX6_reading : MethodName := ⟨RX6, "reading", "(I)I"⟩
abbrev cX6_read : ByteArray := prog_1_method_15_code
def yX6_read : MethodName := ⟨RX6, "read", "(I)I"⟩
abbrev cX6_isSetting : ByteArray := prog_1_method_23_code
def yX6_isSetting : MethodName := ⟨RX6, "isSetting", "(II)Z"⟩
abbrev cX6_isCode : ByteArray := prog_1_method_24_code
def yX6_isCode : MethodName := ⟨RX6, "isCode", "(I)Z"⟩
abbrev cX6_refresh : ByteArray := prog_1_method_25_code
def yX6_refresh : MethodName := ⟨RX6, "refresh", "()V"⟩
abbrev cX6_copyState : ByteArray := prog_1_method_28_code
def yX6_copyState : MethodName := ⟨RX6, "copyState", "(LGrowingBook$State;LGrowingBook$State;)V"⟩
def RX7 : String := "GrowingBookModel"
def TX7 : u_T := fun k => match k with
  | _ => ("", "", "", false)
def tyX7 : Nat → FieldType := fun k => match k with
  | _ => .int
theorem nmX7 : ∀ a, a < 0 → ∀ b, b < 0 → a ≠ b → (TX7 a).2.1 ≠ (TX7 b).2.1 := by decide +kernel
theorem tyX7_ok : ∀ k, k < 0 → parseFieldDescriptor (TX7 k).2.2.1 = some (tyX7 k) := by decide +kernel
def RJx8e188 : String := "java/lang/Cloneable"
def TJx8e188 : u_T := fun k => match k with
  | _ => ("", "", "", false)
def tyJx8e188 : Nat → FieldType := fun k => match k with
  | _ => .int
theorem nmJx8e188 : ∀ a, a < 0 → ∀ b, b < 0 → a ≠ b → (TJx8e188 a).2.1 ≠ (TJx8e188 b).2.1 := by decide +kernel
theorem tyJx8e188_ok : ∀ k, k < 0 → parseFieldDescriptor (TJx8e188 k).2.2.1 = some (tyJx8e188 k) := by decide +kernel
def RJ9 : String := "java/lang/Math"
def TJ9 : u_T := fun k => match k with
  | _ => ("", "", "", false)
def tyJ9 : Nat → FieldType := fun k => match k with
  | _ => .int
theorem nmJ9 : ∀ a, a < 0 → ∀ b, b < 0 → a ≠ b → (TJ9 a).2.1 ≠ (TJ9 b).2.1 := by decide +kernel
theorem tyJ9_ok : ∀ k, k < 0 → parseFieldDescriptor (TJ9 k).2.2.1 = some (tyJ9 k) := by decide +kernel
abbrev cJ9_max_7cf53 : ByteArray := prog_11_method_65_code
def yJ9_max_7cf53 : MethodName := ⟨RJ9, "max", "(II)I"⟩
abbrev cJ9_min_7cf53 : ByteArray := prog_11_method_69_code
def yJ9_min_7cf53 : MethodName := ⟨RJ9, "min", "(II)I"⟩
def RJ10 : String := "java/lang/System"
def TJ10 : u_T := fun k => match k with
  | _ => ("", "", "", false)
def tyJ10 : Nat → FieldType := fun k => match k with
  | _ => .int
theorem nmJ10 : ∀ a, a < 0 → ∀ b, b < 0 → a ≠ b → (TJ10 a).2.1 ≠ (TJ10 b).2.1 := by decide +kernel
theorem tyJ10_ok : ∀ k, k < 0 → parseFieldDescriptor (TJ10 k).2.2.1 = some (tyJ10 k) := by decide +kernel
def RJ7 : String := "java/util/Arrays"
def TJ7 : u_T := fun k => match k with
  | _ => ("", "", "", false)
def tyJ7 : Nat → FieldType := fun k => match k with
  | _ => .int
theorem nmJ7 : ∀ a, a < 0 → ∀ b, b < 0 → a ≠ b → (TJ7 a).2.1 ≠ (TJ7 b).2.1 := by decide +kernel
theorem tyJ7_ok : ∀ k, k < 0 → parseFieldDescriptor (TJ7 k).2.2.1 = some (tyJ7 k) := by decide +kernel
abbrev cJ7_rangeCheck_23922 : ByteArray := prog_13_method_30_code
def yJ7_rangeCheck_23922 : MethodName := ⟨RJ7, "rangeCheck", "(III)V"⟩
abbrev cJ7_fill_53178 : ByteArray := prog_13_method_103_code
def yJ7_fill_53178 : MethodName := ⟨RJ7, "fill", "([II)V"⟩
abbrev cJ7_fill_fda19 : ByteArray := prog_13_method_104_code
def yJ7_fill_fda19 : MethodName := ⟨RJ7, "fill", "([IIII)V"⟩
def RL : String := "GrowingBookLaw"
abbrev cL_cell : ByteArray := method_2_code
def yL_cell : MethodName := ⟨RL, "cell", "([III)I"⟩
abbrev cL_bits : ByteArray := method_3_code
def yL_bits : MethodName := ⟨RL, "bits", "(I)I"⟩
abbrev cL_isAlike : ByteArray := method_4_code
def yL_isAlike : MethodName := ⟨RL, "isAlike", "(LGrowingBook;III)Z"⟩
abbrev cL_areCodes : ByteArray := method_5_code
def yL_areCodes : MethodName := ⟨RL, "areCodes", "(LGrowingBook;)Z"⟩
abbrev cL_areEntries : ByteArray := method_6_code
def yL_areEntries : MethodName := ⟨RL, "areEntries", "(LGrowingBook;)Z"⟩
abbrev cL_isRead : ByteArray := method_7_code
def yL_isRead : MethodName := ⟨RL, "isRead", "(LGrowingBook;)Z"⟩
abbrev cL_agree : ByteArray := method_8_code
def yL_agree : MethodName := ⟨RL, "agree", "(LGrowingBook;)Z"⟩
abbrev cL_isSpoiled : ByteArray := method_9_code
def yL_isSpoiled : MethodName := ⟨RL, "isSpoiled", "(LGrowingBook;II)Z"⟩
abbrev cL_isAct : ByteArray := method_10_code
def yL_isAct : MethodName := ⟨RL, "isAct", "(LGrowingBook;[II)Z"⟩
abbrev cL_law : ByteArray := code
def yL_law : MethodName := ⟨RL, "law", "([I)Z"⟩
theorem dX0_init_0 : decode cX0_init 0 = .ok (.aload_n 0, 1) := by decide +kernel
theorem dX0_init_1 : decode cX0_init 1 = .ok (.invokespecial 3, 3) := by decide +kernel
theorem dX0_init_4 : decode cX0_init 4 = .ok (.aload_n 0, 1) := by decide +kernel
theorem dX0_init_5 : decode cX0_init 5 = .ok (.sipush 512, 3) := by decide +kernel
theorem dX0_init_8 : decode cX0_init 8 = .ok (.newarray .int, 2) := by decide +kernel
theorem dX0_init_10 : decode cX0_init 10 = .ok (.putfield 9, 3) := by decide +kernel
theorem dX0_init_13 : decode cX0_init 13 = .ok (.aload_n 0, 1) := by decide +kernel
theorem dX0_init_14 : decode cX0_init 14 = .ok (.sipush 512, 3) := by decide +kernel
theorem dX0_init_17 : decode cX0_init 17 = .ok (.newarray .int, 2) := by decide +kernel
theorem dX0_init_19 : decode cX0_init 19 = .ok (.putfield 15, 3) := by decide +kernel
theorem dX0_init_22 : decode cX0_init 22 = .ok (.aload_n 0, 1) := by decide +kernel
theorem dX0_init_23 : decode cX0_init 23 = .ok (.sipush 512, 3) := by decide +kernel
theorem dX0_init_26 : decode cX0_init 26 = .ok (.newarray .int, 2) := by decide +kernel
theorem dX0_init_28 : decode cX0_init 28 = .ok (.putfield 18, 3) := by decide +kernel
theorem dX0_init_31 : decode cX0_init 31 = .ok (.aload_n 0, 1) := by decide +kernel
theorem dX0_init_32 : decode cX0_init 32 = .ok (.sipush 4096, 3) := by decide +kernel
theorem dX0_init_35 : decode cX0_init 35 = .ok (.newarray .int, 2) := by decide +kernel
theorem dX0_init_37 : decode cX0_init 37 = .ok (.putfield 21, 3) := by decide +kernel
theorem dX0_init_40 : decode cX0_init 40 = .ok (.iconst 0, 1) := by decide +kernel
theorem dX0_init_41 : decode cX0_init 41 = .ok (.istore_n 1, 1) := by decide +kernel
theorem dX0_init_42 : decode cX0_init 42 = .ok (.iload_n 1, 1) := by decide +kernel
theorem dX0_init_43 : decode cX0_init 43 = .ok (.bipush 10, 2) := by decide +kernel
theorem dX0_init_45 : decode cX0_init 45 = .ok (.if_icmp .ge 52, 3) := by decide +kernel
theorem dX0_init_48 : decode cX0_init 48 = .ok (.aload_n 0, 1) := by decide +kernel
theorem dX0_init_49 : decode cX0_init 49 = .ok (.getfield 9, 3) := by decide +kernel
theorem dX0_init_52 : decode cX0_init 52 = .ok (.iload_n 1, 1) := by decide +kernel
theorem dX0_init_53 : decode cX0_init 53 = .ok (.bipush (-6), 2) := by decide +kernel
theorem dX0_init_55 : decode cX0_init 55 = .ok (.iastore, 1) := by decide +kernel
theorem dX0_init_56 : decode cX0_init 56 = .ok (.aload_n 0, 1) := by decide +kernel
theorem dX0_init_57 : decode cX0_init 57 = .ok (.getfield 15, 3) := by decide +kernel
theorem dX0_init_60 : decode cX0_init 60 = .ok (.iload_n 1, 1) := by decide +kernel
theorem dX0_init_61 : decode cX0_init 61 = .ok (.iload_n 1, 1) := by decide +kernel
theorem dX0_init_62 : decode cX0_init 62 = .ok (.bipush 8, 2) := by decide +kernel
theorem dX0_init_64 : decode cX0_init 64 = .ok (.if_icmp .ge 7, 3) := by decide +kernel
theorem dX0_init_67 : decode cX0_init 67 = .ok (.iload_n 1, 1) := by decide +kernel
theorem dX0_init_68 : decode cX0_init 68 = .ok (.goto 5, 3) := by decide +kernel
theorem dX0_init_71 : decode cX0_init 71 = .ok (.bipush (-6), 2) := by decide +kernel
theorem dX0_init_73 : decode cX0_init 73 = .ok (.iastore, 1) := by decide +kernel
theorem dX0_init_74 : decode cX0_init 74 = .ok (.aload_n 0, 1) := by decide +kernel
theorem dX0_init_75 : decode cX0_init 75 = .ok (.getfield 18, 3) := by decide +kernel
theorem dX0_init_78 : decode cX0_init 78 = .ok (.iload_n 1, 1) := by decide +kernel
theorem dX0_init_79 : decode cX0_init 79 = .ok (.iload_n 1, 1) := by decide +kernel
theorem dX0_init_80 : decode cX0_init 80 = .ok (.bipush 8, 2) := by decide +kernel
theorem dX0_init_82 : decode cX0_init 82 = .ok (.if_icmp .ge 7, 3) := by decide +kernel
theorem dX0_init_85 : decode cX0_init 85 = .ok (.iconst 1, 1) := by decide +kernel
theorem dX0_init_86 : decode cX0_init 86 = .ok (.goto 4, 3) := by decide +kernel
theorem dX0_init_89 : decode cX0_init 89 = .ok (.iconst 0, 1) := by decide +kernel
theorem dX0_init_90 : decode cX0_init 90 = .ok (.iastore, 1) := by decide +kernel
theorem dX0_init_91 : decode cX0_init 91 = .ok (.iinc 1 1, 3) := by decide +kernel
theorem dX0_init_94 : decode cX0_init 94 = .ok (.goto (-52), 3) := by decide +kernel
theorem dX0_init_97 : decode cX0_init 97 = .ok (.aload_n 0, 1) := by decide +kernel
theorem dX0_init_98 : decode cX0_init 98 = .ok (.bipush 10, 2) := by decide +kernel
theorem dX0_init_100 : decode cX0_init 100 = .ok (.putfield 24, 3) := by decide +kernel
theorem dX0_init_103 : decode cX0_init 103 = .ok (.return_, 1) := by decide +kernel
theorem dX0_dropPhrases_0 : decode cX0_dropPhrases 0 = .ok (.aload_n 0, 1) := by decide +kernel
theorem dX0_dropPhrases_1 : decode cX0_dropPhrases 1 = .ok (.bipush 10, 2) := by decide +kernel
theorem dX0_dropPhrases_3 : decode cX0_dropPhrases 3 = .ok (.putfield 24, 3) := by decide +kernel
theorem dX0_dropPhrases_6 : decode cX0_dropPhrases 6 = .ok (.aload_n 0, 1) := by decide +kernel
theorem dX0_dropPhrases_7 : decode cX0_dropPhrases 7 = .ok (.getfield 21, 3) := by decide +kernel
theorem dX0_dropPhrases_10 : decode cX0_dropPhrases 10 = .ok (.iconst 0, 1) := by decide +kernel
theorem dX0_dropPhrases_11 : decode cX0_dropPhrases 11 = .ok (.bipush 80, 2) := by decide +kernel
theorem dX0_dropPhrases_13 : decode cX0_dropPhrases 13 = .ok (.iconst 0, 1) := by decide +kernel
theorem dX0_dropPhrases_14 : decode cX0_dropPhrases 14 = .ok (.invokestatic 28, 3) := by decide +kernel
theorem dX0_dropPhrases_17 : decode cX0_dropPhrases 17 = .ok (.return_, 1) := by decide +kernel
theorem dX0_addPhrase_0 : decode cX0_addPhrase 0 = .ok (.aload_n 0, 1) := by decide +kernel
theorem dX0_addPhrase_1 : decode cX0_addPhrase 1 = .ok (.getfield 24, 3) := by decide +kernel
theorem dX0_addPhrase_4 : decode cX0_addPhrase 4 = .ok (.sipush 512, 3) := by decide +kernel
theorem dX0_addPhrase_7 : decode cX0_addPhrase 7 = .ok (.if_icmp .lt 4, 3) := by decide +kernel
theorem dX0_addPhrase_10 : decode cX0_addPhrase 10 = .ok (.return_, 1) := by decide +kernel
theorem dX0_addPhrase_11 : decode cX0_addPhrase 11 = .ok (.aload_n 0, 1) := by decide +kernel
theorem dX0_addPhrase_12 : decode cX0_addPhrase 12 = .ok (.getfield 9, 3) := by decide +kernel
theorem dX0_addPhrase_15 : decode cX0_addPhrase 15 = .ok (.aload_n 0, 1) := by decide +kernel
theorem dX0_addPhrase_16 : decode cX0_addPhrase 16 = .ok (.getfield 24, 3) := by decide +kernel
theorem dX0_addPhrase_19 : decode cX0_addPhrase 19 = .ok (.iload_n 1, 1) := by decide +kernel
theorem dX0_addPhrase_20 : decode cX0_addPhrase 20 = .ok (.iastore, 1) := by decide +kernel
theorem dX0_addPhrase_21 : decode cX0_addPhrase 21 = .ok (.aload_n 0, 1) := by decide +kernel
theorem dX0_addPhrase_22 : decode cX0_addPhrase 22 = .ok (.getfield 15, 3) := by decide +kernel
theorem dX0_addPhrase_25 : decode cX0_addPhrase 25 = .ok (.aload_n 0, 1) := by decide +kernel
theorem dX0_addPhrase_26 : decode cX0_addPhrase 26 = .ok (.getfield 24, 3) := by decide +kernel
theorem dX0_addPhrase_29 : decode cX0_addPhrase 29 = .ok (.iload_n 2, 1) := by decide +kernel
theorem dX0_addPhrase_30 : decode cX0_addPhrase 30 = .ok (.iastore, 1) := by decide +kernel
theorem dX0_addPhrase_31 : decode cX0_addPhrase 31 = .ok (.aload_n 0, 1) := by decide +kernel
theorem dX0_addPhrase_32 : decode cX0_addPhrase 32 = .ok (.getfield 18, 3) := by decide +kernel
theorem dX0_addPhrase_35 : decode cX0_addPhrase 35 = .ok (.aload_n 0, 1) := by decide +kernel
theorem dX0_addPhrase_36 : decode cX0_addPhrase 36 = .ok (.getfield 24, 3) := by decide +kernel
theorem dX0_addPhrase_39 : decode cX0_addPhrase 39 = .ok (.aload_n 0, 1) := by decide +kernel
theorem dX0_addPhrase_40 : decode cX0_addPhrase 40 = .ok (.getfield 18, 3) := by decide +kernel
theorem dX0_addPhrase_43 : decode cX0_addPhrase 43 = .ok (.iload_n 1, 1) := by decide +kernel
theorem dX0_addPhrase_44 : decode cX0_addPhrase 44 = .ok (.iaload, 1) := by decide +kernel
theorem dX0_addPhrase_45 : decode cX0_addPhrase 45 = .ok (.iconst 1, 1) := by decide +kernel
theorem dX0_addPhrase_46 : decode cX0_addPhrase 46 = .ok (.iadd, 1) := by decide +kernel
theorem dX0_addPhrase_47 : decode cX0_addPhrase 47 = .ok (.iastore, 1) := by decide +kernel
theorem dX0_addPhrase_48 : decode cX0_addPhrase 48 = .ok (.aload_n 0, 1) := by decide +kernel
theorem dX0_addPhrase_49 : decode cX0_addPhrase 49 = .ok (.getfield 21, 3) := by decide +kernel
theorem dX0_addPhrase_52 : decode cX0_addPhrase 52 = .ok (.iload_n 1, 1) := by decide +kernel
theorem dX0_addPhrase_53 : decode cX0_addPhrase 53 = .ok (.bipush 8, 2) := by decide +kernel
theorem dX0_addPhrase_55 : decode cX0_addPhrase 55 = .ok (.imul, 1) := by decide +kernel
theorem dX0_addPhrase_56 : decode cX0_addPhrase 56 = .ok (.iload_n 2, 1) := by decide +kernel
theorem dX0_addPhrase_57 : decode cX0_addPhrase 57 = .ok (.iadd, 1) := by decide +kernel
theorem dX0_addPhrase_58 : decode cX0_addPhrase 58 = .ok (.aload_n 0, 1) := by decide +kernel
theorem dX0_addPhrase_59 : decode cX0_addPhrase 59 = .ok (.getfield 24, 3) := by decide +kernel
theorem dX0_addPhrase_62 : decode cX0_addPhrase 62 = .ok (.iastore, 1) := by decide +kernel
theorem dX0_addPhrase_63 : decode cX0_addPhrase 63 = .ok (.aload_n 0, 1) := by decide +kernel
theorem dX0_addPhrase_64 : decode cX0_addPhrase 64 = .ok (.getfield 21, 3) := by decide +kernel
theorem dX0_addPhrase_67 : decode cX0_addPhrase 67 = .ok (.aload_n 0, 1) := by decide +kernel
theorem dX0_addPhrase_68 : decode cX0_addPhrase 68 = .ok (.getfield 24, 3) := by decide +kernel
theorem dX0_addPhrase_71 : decode cX0_addPhrase 71 = .ok (.bipush 8, 2) := by decide +kernel
theorem dX0_addPhrase_73 : decode cX0_addPhrase 73 = .ok (.imul, 1) := by decide +kernel
theorem dX0_addPhrase_74 : decode cX0_addPhrase 74 = .ok (.aload_n 0, 1) := by decide +kernel
theorem dX0_addPhrase_75 : decode cX0_addPhrase 75 = .ok (.getfield 24, 3) := by decide +kernel
theorem dX0_addPhrase_78 : decode cX0_addPhrase 78 = .ok (.iconst 1, 1) := by decide +kernel
theorem dX0_addPhrase_79 : decode cX0_addPhrase 79 = .ok (.iadd, 1) := by decide +kernel
theorem dX0_addPhrase_80 : decode cX0_addPhrase 80 = .ok (.bipush 8, 2) := by decide +kernel
theorem dX0_addPhrase_82 : decode cX0_addPhrase 82 = .ok (.imul, 1) := by decide +kernel
theorem dX0_addPhrase_83 : decode cX0_addPhrase 83 = .ok (.iconst 0, 1) := by decide +kernel
theorem dX0_addPhrase_84 : decode cX0_addPhrase 84 = .ok (.invokestatic 28, 3) := by decide +kernel
theorem dX0_addPhrase_87 : decode cX0_addPhrase 87 = .ok (.aload_n 0, 1) := by decide +kernel
theorem dX0_addPhrase_88 : decode cX0_addPhrase 88 = .ok (.dup, 1) := by decide +kernel
theorem dX0_addPhrase_89 : decode cX0_addPhrase 89 = .ok (.getfield 24, 3) := by decide +kernel
theorem dX0_addPhrase_92 : decode cX0_addPhrase 92 = .ok (.iconst 1, 1) := by decide +kernel
theorem dX0_addPhrase_93 : decode cX0_addPhrase 93 = .ok (.iadd, 1) := by decide +kernel
theorem dX0_addPhrase_94 : decode cX0_addPhrase 94 = .ok (.putfield 24, 3) := by decide +kernel
theorem dX0_addPhrase_97 : decode cX0_addPhrase 97 = .ok (.return_, 1) := by decide +kernel
theorem dX0_longestAt_0 : decode cX0_longestAt 0 = .ok (.aload_n 1, 1) := by decide +kernel
theorem dX0_longestAt_1 : decode cX0_longestAt 1 = .ok (.iload_n 2, 1) := by decide +kernel
theorem dX0_longestAt_2 : decode cX0_longestAt 2 = .ok (.iaload, 1) := by decide +kernel
theorem dX0_longestAt_3 : decode cX0_longestAt 3 = .ok (.istore 4, 2) := by decide +kernel
theorem dX0_longestAt_5 : decode cX0_longestAt 5 = .ok (.iload_n 2, 1) := by decide +kernel
theorem dX0_longestAt_6 : decode cX0_longestAt 6 = .ok (.iconst 1, 1) := by decide +kernel
theorem dX0_longestAt_7 : decode cX0_longestAt 7 = .ok (.iadd, 1) := by decide +kernel
theorem dX0_longestAt_8 : decode cX0_longestAt 8 = .ok (.istore 5, 2) := by decide +kernel
theorem dX0_longestAt_10 : decode cX0_longestAt 10 = .ok (.iload 5, 2) := by decide +kernel
theorem dX0_longestAt_12 : decode cX0_longestAt 12 = .ok (.iload_n 3, 1) := by decide +kernel
theorem dX0_longestAt_13 : decode cX0_longestAt 13 = .ok (.if_icmp .ge 38, 3) := by decide +kernel
theorem dX0_longestAt_16 : decode cX0_longestAt 16 = .ok (.aload_n 0, 1) := by decide +kernel
theorem dX0_longestAt_17 : decode cX0_longestAt 17 = .ok (.getfield 21, 3) := by decide +kernel
theorem dX0_longestAt_20 : decode cX0_longestAt 20 = .ok (.iload 4, 2) := by decide +kernel
theorem dX0_longestAt_22 : decode cX0_longestAt 22 = .ok (.bipush 8, 2) := by decide +kernel
theorem dX0_longestAt_24 : decode cX0_longestAt 24 = .ok (.imul, 1) := by decide +kernel
theorem dX0_longestAt_25 : decode cX0_longestAt 25 = .ok (.aload_n 1, 1) := by decide +kernel
theorem dX0_longestAt_26 : decode cX0_longestAt 26 = .ok (.iload 5, 2) := by decide +kernel
theorem dX0_longestAt_28 : decode cX0_longestAt 28 = .ok (.iaload, 1) := by decide +kernel
theorem dX0_longestAt_29 : decode cX0_longestAt 29 = .ok (.iadd, 1) := by decide +kernel
theorem dX0_longestAt_30 : decode cX0_longestAt 30 = .ok (.iaload, 1) := by decide +kernel
theorem dX0_longestAt_31 : decode cX0_longestAt 31 = .ok (.istore 6, 2) := by decide +kernel
theorem dX0_longestAt_33 : decode cX0_longestAt 33 = .ok (.iload 6, 2) := by decide +kernel
theorem dX0_longestAt_35 : decode cX0_longestAt 35 = .ok (.ifCond .ne 6, 3) := by decide +kernel
theorem dX0_longestAt_38 : decode cX0_longestAt 38 = .ok (.iload 4, 2) := by decide +kernel
theorem dX0_longestAt_40 : decode cX0_longestAt 40 = .ok (.ireturn, 1) := by decide +kernel
theorem dX0_longestAt_41 : decode cX0_longestAt 41 = .ok (.iload 6, 2) := by decide +kernel
theorem dX0_longestAt_43 : decode cX0_longestAt 43 = .ok (.istore 4, 2) := by decide +kernel
theorem dX0_longestAt_45 : decode cX0_longestAt 45 = .ok (.iinc 5 1, 3) := by decide +kernel
theorem dX0_longestAt_48 : decode cX0_longestAt 48 = .ok (.goto (-38), 3) := by decide +kernel
theorem dX0_longestAt_51 : decode cX0_longestAt 51 = .ok (.iload 4, 2) := by decide +kernel
theorem dX0_longestAt_53 : decode cX0_longestAt 53 = .ok (.ireturn, 1) := by decide +kernel
theorem dX1_init_0 : decode cX1_init 0 = .ok (.aload_n 0, 1) := by decide +kernel
theorem dX1_init_1 : decode cX1_init 1 = .ok (.invokespecial 3, 3) := by decide +kernel
theorem dX1_init_4 : decode cX1_init 4 = .ok (.aload_n 0, 1) := by decide +kernel
theorem dX1_init_5 : decode cX1_init 5 = .ok (.bipush 6, 2) := by decide +kernel
theorem dX1_init_7 : decode cX1_init 7 = .ok (.anewarray 9, 3) := by decide +kernel
theorem dX1_init_10 : decode cX1_init 10 = .ok (.putfield 11, 3) := by decide +kernel
theorem dX1_init_13 : decode cX1_init 13 = .ok (.iconst 0, 1) := by decide +kernel
theorem dX1_init_14 : decode cX1_init 14 = .ok (.istore_n 1, 1) := by decide +kernel
theorem dX1_init_15 : decode cX1_init 15 = .ok (.iload_n 1, 1) := by decide +kernel
theorem dX1_init_16 : decode cX1_init 16 = .ok (.bipush 6, 2) := by decide +kernel
theorem dX1_init_18 : decode cX1_init 18 = .ok (.if_icmp .ge 22, 3) := by decide +kernel
theorem dX1_init_21 : decode cX1_init 21 = .ok (.aload_n 0, 1) := by decide +kernel
theorem dX1_init_22 : decode cX1_init 22 = .ok (.getfield 11, 3) := by decide +kernel
theorem dX1_init_25 : decode cX1_init 25 = .ok (.iload_n 1, 1) := by decide +kernel
theorem dX1_init_26 : decode cX1_init 26 = .ok (.new 9, 3) := by decide +kernel
theorem dX1_init_29 : decode cX1_init 29 = .ok (.dup, 1) := by decide +kernel
theorem dX1_init_30 : decode cX1_init 30 = .ok (.invokespecial 17, 3) := by decide +kernel
theorem dX1_init_33 : decode cX1_init 33 = .ok (.aastore, 1) := by decide +kernel
theorem dX1_init_34 : decode cX1_init 34 = .ok (.iinc 1 1, 3) := by decide +kernel
theorem dX1_init_37 : decode cX1_init 37 = .ok (.goto (-22), 3) := by decide +kernel
theorem dX1_init_40 : decode cX1_init 40 = .ok (.return_, 1) := by decide +kernel
theorem dX1_record_0 : decode cX1_record 0 = .ok (.aload_n 0, 1) := by decide +kernel
theorem dX1_record_1 : decode cX1_record 1 = .ok (.aload_n 0, 1) := by decide +kernel
theorem dX1_record_2 : decode cX1_record 2 = .ok (.getfield 18, 3) := by decide +kernel
theorem dX1_record_5 : decode cX1_record 5 = .ok (.iconst 5, 1) := by decide +kernel
theorem dX1_record_6 : decode cX1_record 6 = .ok (.if_icmp .lt 7, 3) := by decide +kernel
theorem dX1_record_9 : decode cX1_record 9 = .ok (.iconst 0, 1) := by decide +kernel
theorem dX1_record_10 : decode cX1_record 10 = .ok (.goto 9, 3) := by decide +kernel
theorem dX1_record_13 : decode cX1_record 13 = .ok (.aload_n 0, 1) := by decide +kernel
theorem dX1_record_14 : decode cX1_record 14 = .ok (.getfield 18, 3) := by decide +kernel
theorem dX1_record_17 : decode cX1_record 17 = .ok (.iconst 1, 1) := by decide +kernel
theorem dX1_record_18 : decode cX1_record 18 = .ok (.iadd, 1) := by decide +kernel
theorem dX1_record_19 : decode cX1_record 19 = .ok (.putfield 18, 3) := by decide +kernel
theorem dX1_record_22 : decode cX1_record 22 = .ok (.aload_n 0, 1) := by decide +kernel
theorem dX1_record_23 : decode cX1_record 23 = .ok (.aload_n 0, 1) := by decide +kernel
theorem dX1_record_24 : decode cX1_record 24 = .ok (.getfield 22, 3) := by decide +kernel
theorem dX1_record_27 : decode cX1_record 27 = .ok (.iconst 1, 1) := by decide +kernel
theorem dX1_record_28 : decode cX1_record 28 = .ok (.iadd, 1) := by decide +kernel
theorem dX1_record_29 : decode cX1_record 29 = .ok (.bipush 6, 2) := by decide +kernel
theorem dX1_record_31 : decode cX1_record 31 = .ok (.invokestatic 25, 3) := by decide +kernel
theorem dX1_record_34 : decode cX1_record 34 = .ok (.putfield 22, 3) := by decide +kernel
theorem dX1_record_37 : decode cX1_record 37 = .ok (.aload_n 1, 1) := by decide +kernel
theorem dX1_record_38 : decode cX1_record 38 = .ok (.aload_n 0, 1) := by decide +kernel
theorem dX1_record_39 : decode cX1_record 39 = .ok (.getfield 11, 3) := by decide +kernel
theorem dX1_record_42 : decode cX1_record 42 = .ok (.aload_n 0, 1) := by decide +kernel
theorem dX1_record_43 : decode cX1_record 43 = .ok (.getfield 18, 3) := by decide +kernel
theorem dX1_record_46 : decode cX1_record 46 = .ok (.aaload, 1) := by decide +kernel
theorem dX1_record_47 : decode cX1_record 47 = .ok (.invokestatic 31, 3) := by decide +kernel
theorem dX1_record_50 : decode cX1_record 50 = .ok (.return_, 1) := by decide +kernel
theorem dX2_init_0 : decode cX2_init 0 = .ok (.aload_n 0, 1) := by decide +kernel
theorem dX2_init_1 : decode cX2_init 1 = .ok (.invokespecial 3, 3) := by decide +kernel
theorem dX2_init_4 : decode cX2_init 4 = .ok (.aload_n 0, 1) := by decide +kernel
theorem dX2_init_5 : decode cX2_init 5 = .ok (.bipush 80, 2) := by decide +kernel
theorem dX2_init_7 : decode cX2_init 7 = .ok (.newarray .int, 2) := by decide +kernel
theorem dX2_init_9 : decode cX2_init 9 = .ok (.putfield 9, 3) := by decide +kernel
theorem dX2_init_12 : decode cX2_init 12 = .ok (.aload_n 0, 1) := by decide +kernel
theorem dX2_init_13 : decode cX2_init 13 = .ok (.sipush 240, 3) := by decide +kernel
theorem dX2_init_16 : decode cX2_init 16 = .ok (.newarray .int, 2) := by decide +kernel
theorem dX2_init_18 : decode cX2_init 18 = .ok (.putfield 15, 3) := by decide +kernel
theorem dX2_init_21 : decode cX2_init 21 = .ok (.aload_n 0, 1) := by decide +kernel
theorem dX2_init_22 : decode cX2_init 22 = .ok (.iconst 3, 1) := by decide +kernel
theorem dX2_init_23 : decode cX2_init 23 = .ok (.newarray .int, 2) := by decide +kernel
theorem dX2_init_25 : decode cX2_init 25 = .ok (.putfield 18, 3) := by decide +kernel
theorem dX2_init_28 : decode cX2_init 28 = .ok (.aload_n 0, 1) := by decide +kernel
theorem dX2_init_29 : decode cX2_init 29 = .ok (.iconst 3, 1) := by decide +kernel
theorem dX2_init_30 : decode cX2_init 30 = .ok (.newarray .int, 2) := by decide +kernel
theorem dX2_init_32 : decode cX2_init 32 = .ok (.putfield 21, 3) := by decide +kernel
theorem dX2_init_35 : decode cX2_init 35 = .ok (.return_, 1) := by decide +kernel
theorem dX3_init_0 : decode cX3_init 0 = .ok (.aload_n 0, 1) := by decide +kernel
theorem dX3_init_1 : decode cX3_init 1 = .ok (.invokespecial 3, 3) := by decide +kernel
theorem dX3_init_4 : decode cX3_init 4 = .ok (.aload_n 0, 1) := by decide +kernel
theorem dX3_init_5 : decode cX3_init 5 = .ok (.ldc 9, 2) := by decide +kernel
theorem dX3_init_7 : decode cX3_init 7 = .ok (.newarray .int, 2) := by decide +kernel
theorem dX3_init_9 : decode cX3_init 9 = .ok (.putfield 10, 3) := by decide +kernel
theorem dX3_init_12 : decode cX3_init 12 = .ok (.aload_n 0, 1) := by decide +kernel
theorem dX3_init_13 : decode cX3_init 13 = .ok (.sipush 512, 3) := by decide +kernel
theorem dX3_init_16 : decode cX3_init 16 = .ok (.newarray .int, 2) := by decide +kernel
theorem dX3_init_18 : decode cX3_init 18 = .ok (.putfield 16, 3) := by decide +kernel
theorem dX3_init_21 : decode cX3_init 21 = .ok (.aload_n 0, 1) := by decide +kernel
theorem dX3_init_22 : decode cX3_init 22 = .ok (.sipush 512, 3) := by decide +kernel
theorem dX3_init_25 : decode cX3_init 25 = .ok (.newarray .int, 2) := by decide +kernel
theorem dX3_init_27 : decode cX3_init 27 = .ok (.putfield 19, 3) := by decide +kernel
theorem dX3_init_30 : decode cX3_init 30 = .ok (.return_, 1) := by decide +kernel
theorem dX3_readAll_0 : decode cX3_readAll 0 = .ok (.aload_n 0, 1) := by decide +kernel
theorem dX3_readAll_1 : decode cX3_readAll 1 = .ok (.iload_n 3, 1) := by decide +kernel
theorem dX3_readAll_2 : decode cX3_readAll 2 = .ok (.invokevirtual 22, 3) := by decide +kernel
theorem dX3_readAll_5 : decode cX3_readAll 5 = .ok (.iconst 0, 1) := by decide +kernel
theorem dX3_readAll_6 : decode cX3_readAll 6 = .ok (.istore 4, 2) := by decide +kernel
theorem dX3_readAll_8 : decode cX3_readAll 8 = .ok (.iload 4, 2) := by decide +kernel
theorem dX3_readAll_10 : decode cX3_readAll 10 = .ok (.iload_n 2, 1) := by decide +kernel
theorem dX3_readAll_11 : decode cX3_readAll 11 = .ok (.if_icmp .ge 80, 3) := by decide +kernel
theorem dX3_readAll_14 : decode cX3_readAll 14 = .ok (.aload_n 1, 1) := by decide +kernel
theorem dX3_readAll_15 : decode cX3_readAll 15 = .ok (.iload 4, 2) := by decide +kernel
theorem dX3_readAll_17 : decode cX3_readAll 17 = .ok (.iaload, 1) := by decide +kernel
theorem dX3_readAll_18 : decode cX3_readAll 18 = .ok (.istore 5, 2) := by decide +kernel
theorem dX3_readAll_20 : decode cX3_readAll 20 = .ok (.iload 5, 2) := by decide +kernel
theorem dX3_readAll_22 : decode cX3_readAll 22 = .ok (.bipush 9, 2) := by decide +kernel
theorem dX3_readAll_24 : decode cX3_readAll 24 = .ok (.if_icmp .ne 21, 3) := by decide +kernel
theorem dX3_readAll_27 : decode cX3_readAll 27 = .ok (.iload 4, 2) := by decide +kernel
theorem dX3_readAll_29 : decode cX3_readAll 29 = .ok (.iconst 1, 1) := by decide +kernel
theorem dX3_readAll_30 : decode cX3_readAll 30 = .ok (.iadd, 1) := by decide +kernel
theorem dX3_readAll_31 : decode cX3_readAll 31 = .ok (.iload_n 2, 1) := by decide +kernel
theorem dX3_readAll_32 : decode cX3_readAll 32 = .ok (.if_icmp .ge 12, 3) := by decide +kernel
theorem dX3_readAll_35 : decode cX3_readAll 35 = .ok (.aload_n 0, 1) := by decide +kernel
theorem dX3_readAll_36 : decode cX3_readAll 36 = .ok (.iload 4, 2) := by decide +kernel
theorem dX3_readAll_38 : decode cX3_readAll 38 = .ok (.iconst 1, 1) := by decide +kernel
theorem dX3_readAll_39 : decode cX3_readAll 39 = .ok (.iadd, 1) := by decide +kernel
theorem dX3_readAll_40 : decode cX3_readAll 40 = .ok (.iconst 3, 1) := by decide +kernel
theorem dX3_readAll_41 : decode cX3_readAll 41 = .ok (.invokevirtual 26, 3) := by decide +kernel
theorem dX3_readAll_44 : decode cX3_readAll 44 = .ok (.return_, 1) := by decide +kernel
theorem dX3_readAll_45 : decode cX3_readAll 45 = .ok (.iload 5, 2) := by decide +kernel
theorem dX3_readAll_47 : decode cX3_readAll 47 = .ok (.bipush 8, 2) := by decide +kernel
theorem dX3_readAll_49 : decode cX3_readAll 49 = .ok (.if_icmp .ne 10, 3) := by decide +kernel
theorem dX3_readAll_52 : decode cX3_readAll 52 = .ok (.aload_n 0, 1) := by decide +kernel
theorem dX3_readAll_53 : decode cX3_readAll 53 = .ok (.invokevirtual 30, 3) := by decide +kernel
theorem dX3_readAll_56 : decode cX3_readAll 56 = .ok (.goto 29, 3) := by decide +kernel
theorem dX3_readAll_59 : decode cX3_readAll 59 = .ok (.aload_n 0, 1) := by decide +kernel
theorem dX3_readAll_60 : decode cX3_readAll 60 = .ok (.iload 5, 2) := by decide +kernel
theorem dX3_readAll_62 : decode cX3_readAll 62 = .ok (.invokevirtual 33, 3) := by decide +kernel
theorem dX3_readAll_65 : decode cX3_readAll 65 = .ok (.ifCond .eq 12, 3) := by decide +kernel
theorem dX3_readAll_68 : decode cX3_readAll 68 = .ok (.aload_n 0, 1) := by decide +kernel
theorem dX3_readAll_69 : decode cX3_readAll 69 = .ok (.iload 5, 2) := by decide +kernel
theorem dX3_readAll_71 : decode cX3_readAll 71 = .ok (.invokevirtual 37, 3) := by decide +kernel
theorem dX3_readAll_74 : decode cX3_readAll 74 = .ok (.goto 11, 3) := by decide +kernel
theorem dX3_readAll_77 : decode cX3_readAll 77 = .ok (.aload_n 0, 1) := by decide +kernel
theorem dX3_readAll_78 : decode cX3_readAll 78 = .ok (.iload 4, 2) := by decide +kernel
theorem dX3_readAll_80 : decode cX3_readAll 80 = .ok (.iconst 1, 1) := by decide +kernel
theorem dX3_readAll_81 : decode cX3_readAll 81 = .ok (.invokevirtual 26, 3) := by decide +kernel
theorem dX3_readAll_84 : decode cX3_readAll 84 = .ok (.return_, 1) := by decide +kernel
theorem dX3_readAll_85 : decode cX3_readAll 85 = .ok (.iinc 4 1, 3) := by decide +kernel
theorem dX3_readAll_88 : decode cX3_readAll 88 = .ok (.goto (-80), 3) := by decide +kernel
theorem dX3_readAll_91 : decode cX3_readAll 91 = .ok (.aload_n 0, 1) := by decide +kernel
theorem dX3_readAll_92 : decode cX3_readAll 92 = .ok (.iload_n 2, 1) := by decide +kernel
theorem dX3_readAll_93 : decode cX3_readAll 93 = .ok (.iconst 2, 1) := by decide +kernel
theorem dX3_readAll_94 : decode cX3_readAll 94 = .ok (.invokevirtual 26, 3) := by decide +kernel
theorem dX3_readAll_97 : decode cX3_readAll 97 = .ok (.return_, 1) := by decide +kernel
theorem dX3_begin_0 : decode cX3_begin 0 = .ok (.aload_n 0, 1) := by decide +kernel
theorem dX3_begin_1 : decode cX3_begin 1 = .ok (.iconst 1, 1) := by decide +kernel
theorem dX3_begin_2 : decode cX3_begin 2 = .ok (.iload_n 1, 1) := by decide +kernel
theorem dX3_begin_3 : decode cX3_begin 3 = .ok (.ishl, 1) := by decide +kernel
theorem dX3_begin_4 : decode cX3_begin 4 = .ok (.putfield 40, 3) := by decide +kernel
theorem dX3_begin_7 : decode cX3_begin 7 = .ok (.aload_n 0, 1) := by decide +kernel
theorem dX3_begin_8 : decode cX3_begin 8 = .ok (.iconst 0, 1) := by decide +kernel
theorem dX3_begin_9 : decode cX3_begin 9 = .ok (.putfield 44, 3) := by decide +kernel
theorem dX3_begin_12 : decode cX3_begin 12 = .ok (.aload_n 0, 1) := by decide +kernel
theorem dX3_begin_13 : decode cX3_begin 13 = .ok (.iconst 0, 1) := by decide +kernel
theorem dX3_begin_14 : decode cX3_begin 14 = .ok (.putfield 47, 3) := by decide +kernel
theorem dX3_begin_17 : decode cX3_begin 17 = .ok (.aload_n 0, 1) := by decide +kernel
theorem dX3_begin_18 : decode cX3_begin 18 = .ok (.bipush (-6), 2) := by decide +kernel
theorem dX3_begin_20 : decode cX3_begin 20 = .ok (.putfield 50, 3) := by decide +kernel
theorem dX3_begin_23 : decode cX3_begin 23 = .ok (.aload_n 0, 1) := by decide +kernel
theorem dX3_begin_24 : decode cX3_begin 24 = .ok (.iconst 0, 1) := by decide +kernel
theorem dX3_begin_25 : decode cX3_begin 25 = .ok (.putfield 53, 3) := by decide +kernel
theorem dX3_begin_28 : decode cX3_begin 28 = .ok (.aload_n 0, 1) := by decide +kernel
theorem dX3_begin_29 : decode cX3_begin 29 = .ok (.invokevirtual 30, 3) := by decide +kernel
theorem dX3_begin_32 : decode cX3_begin 32 = .ok (.return_, 1) := by decide +kernel
theorem dX3_dropPhrases_0 : decode cX3_dropPhrases 0 = .ok (.aload_n 0, 1) := by decide +kernel
theorem dX3_dropPhrases_1 : decode cX3_dropPhrases 1 = .ok (.bipush 10, 2) := by decide +kernel
theorem dX3_dropPhrases_3 : decode cX3_dropPhrases 3 = .ok (.putfield 56, 3) := by decide +kernel
theorem dX3_dropPhrases_6 : decode cX3_dropPhrases 6 = .ok (.aload_n 0, 1) := by decide +kernel
theorem dX3_dropPhrases_7 : decode cX3_dropPhrases 7 = .ok (.iconst 0, 1) := by decide +kernel
theorem dX3_dropPhrases_8 : decode cX3_dropPhrases 8 = .ok (.putfield 59, 3) := by decide +kernel
theorem dX3_dropPhrases_11 : decode cX3_dropPhrases 11 = .ok (.return_, 1) := by decide +kernel
theorem dX3_noteFault_0 : decode cX3_noteFault 0 = .ok (.aload_n 0, 1) := by decide +kernel
theorem dX3_noteFault_1 : decode cX3_noteFault 1 = .ok (.iload_n 1, 1) := by decide +kernel
theorem dX3_noteFault_2 : decode cX3_noteFault 2 = .ok (.putfield 50, 3) := by decide +kernel
theorem dX3_noteFault_5 : decode cX3_noteFault 5 = .ok (.aload_n 0, 1) := by decide +kernel
theorem dX3_noteFault_6 : decode cX3_noteFault 6 = .ok (.iload_n 2, 1) := by decide +kernel
theorem dX3_noteFault_7 : decode cX3_noteFault 7 = .ok (.putfield 53, 3) := by decide +kernel
theorem dX3_noteFault_10 : decode cX3_noteFault 10 = .ok (.return_, 1) := by decide +kernel
theorem dX3_canGrow_0 : decode cX3_canGrow 0 = .ok (.aload_n 0, 1) := by decide +kernel
theorem dX3_canGrow_1 : decode cX3_canGrow 1 = .ok (.getfield 59, 3) := by decide +kernel
theorem dX3_canGrow_4 : decode cX3_canGrow 4 = .ok (.ifCond .le 28, 3) := by decide +kernel
theorem dX3_canGrow_7 : decode cX3_canGrow 7 = .ok (.aload_n 0, 1) := by decide +kernel
theorem dX3_canGrow_8 : decode cX3_canGrow 8 = .ok (.getfield 56, 3) := by decide +kernel
theorem dX3_canGrow_11 : decode cX3_canGrow 11 = .ok (.aload_n 0, 1) := by decide +kernel
theorem dX3_canGrow_12 : decode cX3_canGrow 12 = .ok (.getfield 40, 3) := by decide +kernel
theorem dX3_canGrow_15 : decode cX3_canGrow 15 = .ok (.if_icmp .ge 17, 3) := by decide +kernel
theorem dX3_canGrow_18 : decode cX3_canGrow 18 = .ok (.aload_n 0, 1) := by decide +kernel
theorem dX3_canGrow_19 : decode cX3_canGrow 19 = .ok (.getfield 56, 3) := by decide +kernel
theorem dX3_canGrow_22 : decode cX3_canGrow 22 = .ok (.sipush 512, 3) := by decide +kernel
theorem dX3_canGrow_25 : decode cX3_canGrow 25 = .ok (.if_icmp .ge 7, 3) := by decide +kernel
theorem dX3_canGrow_28 : decode cX3_canGrow 28 = .ok (.iconst 1, 1) := by decide +kernel
theorem dX3_canGrow_29 : decode cX3_canGrow 29 = .ok (.goto 4, 3) := by decide +kernel
theorem dX3_canGrow_32 : decode cX3_canGrow 32 = .ok (.iconst 0, 1) := by decide +kernel
theorem dX3_canGrow_33 : decode cX3_canGrow 33 = .ok (.ireturn, 1) := by decide +kernel
theorem dX3_canStand_0 : decode cX3_canStand 0 = .ok (.iload_n 1, 1) := by decide +kernel
theorem dX3_canStand_1 : decode cX3_canStand 1 = .ok (.ifCond .lt 30, 3) := by decide +kernel
theorem dX3_canStand_4 : decode cX3_canStand 4 = .ok (.iload_n 1, 1) := by decide +kernel
theorem dX3_canStand_5 : decode cX3_canStand 5 = .ok (.aload_n 0, 1) := by decide +kernel
theorem dX3_canStand_6 : decode cX3_canStand 6 = .ok (.getfield 56, 3) := by decide +kernel
theorem dX3_canStand_9 : decode cX3_canStand 9 = .ok (.if_icmp .lt 18, 3) := by decide +kernel
theorem dX3_canStand_12 : decode cX3_canStand 12 = .ok (.iload_n 1, 1) := by decide +kernel
theorem dX3_canStand_13 : decode cX3_canStand 13 = .ok (.aload_n 0, 1) := by decide +kernel
theorem dX3_canStand_14 : decode cX3_canStand 14 = .ok (.getfield 56, 3) := by decide +kernel
theorem dX3_canStand_17 : decode cX3_canStand 17 = .ok (.if_icmp .ne 14, 3) := by decide +kernel
theorem dX3_canStand_20 : decode cX3_canStand 20 = .ok (.aload_n 0, 1) := by decide +kernel
theorem dX3_canStand_21 : decode cX3_canStand 21 = .ok (.invokevirtual 62, 3) := by decide +kernel
theorem dX3_canStand_24 : decode cX3_canStand 24 = .ok (.ifCond .eq 7, 3) := by decide +kernel
theorem dX3_canStand_27 : decode cX3_canStand 27 = .ok (.iconst 1, 1) := by decide +kernel
theorem dX3_canStand_28 : decode cX3_canStand 28 = .ok (.goto 4, 3) := by decide +kernel
theorem dX3_canStand_31 : decode cX3_canStand 31 = .ok (.iconst 0, 1) := by decide +kernel
theorem dX3_canStand_32 : decode cX3_canStand 32 = .ok (.ireturn, 1) := by decide +kernel
theorem dX3_readEntry_0 : decode cX3_readEntry 0 = .ok (.aload_n 0, 1) := by decide +kernel
theorem dX3_readEntry_1 : decode cX3_readEntry 1 = .ok (.dup, 1) := by decide +kernel
theorem dX3_readEntry_2 : decode cX3_readEntry 2 = .ok (.getfield 47, 3) := by decide +kernel
theorem dX3_readEntry_5 : decode cX3_readEntry 5 = .ok (.iload_n 1, 1) := by decide +kernel
theorem dX3_readEntry_6 : decode cX3_readEntry 6 = .ok (.aload_n 0, 1) := by decide +kernel
theorem dX3_readEntry_7 : decode cX3_readEntry 7 = .ok (.getfield 56, 3) := by decide +kernel
theorem dX3_readEntry_10 : decode cX3_readEntry 10 = .ok (.if_icmp .ne 7, 3) := by decide +kernel
theorem dX3_readEntry_13 : decode cX3_readEntry 13 = .ok (.iconst 1, 1) := by decide +kernel
theorem dX3_readEntry_14 : decode cX3_readEntry 14 = .ok (.goto 4, 3) := by decide +kernel
theorem dX3_readEntry_17 : decode cX3_readEntry 17 = .ok (.iconst 0, 1) := by decide +kernel
theorem dX3_readEntry_18 : decode cX3_readEntry 18 = .ok (.iadd, 1) := by decide +kernel
theorem dX3_readEntry_19 : decode cX3_readEntry 19 = .ok (.putfield 47, 3) := by decide +kernel
theorem dX3_readEntry_22 : decode cX3_readEntry 22 = .ok (.aload_n 0, 1) := by decide +kernel
theorem dX3_readEntry_23 : decode cX3_readEntry 23 = .ok (.invokevirtual 62, 3) := by decide +kernel
theorem dX3_readEntry_26 : decode cX3_readEntry 26 = .ok (.ifCond .eq 41, 3) := by decide +kernel
theorem dX3_readEntry_29 : decode cX3_readEntry 29 = .ok (.aload_n 0, 1) := by decide +kernel
theorem dX3_readEntry_30 : decode cX3_readEntry 30 = .ok (.getfield 16, 3) := by decide +kernel
theorem dX3_readEntry_33 : decode cX3_readEntry 33 = .ok (.aload_n 0, 1) := by decide +kernel
theorem dX3_readEntry_34 : decode cX3_readEntry 34 = .ok (.getfield 56, 3) := by decide +kernel
theorem dX3_readEntry_37 : decode cX3_readEntry 37 = .ok (.aload_n 0, 1) := by decide +kernel
theorem dX3_readEntry_38 : decode cX3_readEntry 38 = .ok (.getfield 66, 3) := by decide +kernel
theorem dX3_readEntry_41 : decode cX3_readEntry 41 = .ok (.iastore, 1) := by decide +kernel
theorem dX3_readEntry_42 : decode cX3_readEntry 42 = .ok (.aload_n 0, 1) := by decide +kernel
theorem dX3_readEntry_43 : decode cX3_readEntry 43 = .ok (.getfield 19, 3) := by decide +kernel
theorem dX3_readEntry_46 : decode cX3_readEntry 46 = .ok (.aload_n 0, 1) := by decide +kernel
theorem dX3_readEntry_47 : decode cX3_readEntry 47 = .ok (.getfield 56, 3) := by decide +kernel
theorem dX3_readEntry_50 : decode cX3_readEntry 50 = .ok (.aload_n 0, 1) := by decide +kernel
theorem dX3_readEntry_51 : decode cX3_readEntry 51 = .ok (.getfield 59, 3) := by decide +kernel
theorem dX3_readEntry_54 : decode cX3_readEntry 54 = .ok (.iconst 1, 1) := by decide +kernel
theorem dX3_readEntry_55 : decode cX3_readEntry 55 = .ok (.iadd, 1) := by decide +kernel
theorem dX3_readEntry_56 : decode cX3_readEntry 56 = .ok (.iastore, 1) := by decide +kernel
theorem dX3_readEntry_57 : decode cX3_readEntry 57 = .ok (.aload_n 0, 1) := by decide +kernel
theorem dX3_readEntry_58 : decode cX3_readEntry 58 = .ok (.dup, 1) := by decide +kernel
theorem dX3_readEntry_59 : decode cX3_readEntry 59 = .ok (.getfield 56, 3) := by decide +kernel
theorem dX3_readEntry_62 : decode cX3_readEntry 62 = .ok (.iconst 1, 1) := by decide +kernel
theorem dX3_readEntry_63 : decode cX3_readEntry 63 = .ok (.iadd, 1) := by decide +kernel
theorem dX3_readEntry_64 : decode cX3_readEntry 64 = .ok (.putfield 56, 3) := by decide +kernel
theorem dX3_readEntry_67 : decode cX3_readEntry 67 = .ok (.aload_n 0, 1) := by decide +kernel
theorem dX3_readEntry_68 : decode cX3_readEntry 68 = .ok (.aload_n 0, 1) := by decide +kernel
theorem dX3_readEntry_69 : decode cX3_readEntry 69 = .ok (.getfield 44, 3) := by decide +kernel
theorem dX3_readEntry_72 : decode cX3_readEntry 72 = .ok (.putfield 66, 3) := by decide +kernel
theorem dX3_readEntry_75 : decode cX3_readEntry 75 = .ok (.iload_n 1, 1) := by decide +kernel
theorem dX3_readEntry_76 : decode cX3_readEntry 76 = .ok (.bipush 8, 2) := by decide +kernel
theorem dX3_readEntry_78 : decode cX3_readEntry 78 = .ok (.if_icmp .ge 16, 3) := by decide +kernel
theorem dX3_readEntry_81 : decode cX3_readEntry 81 = .ok (.aload_n 0, 1) := by decide +kernel
theorem dX3_readEntry_82 : decode cX3_readEntry 82 = .ok (.iconst 1, 1) := by decide +kernel
theorem dX3_readEntry_83 : decode cX3_readEntry 83 = .ok (.putfield 59, 3) := by decide +kernel
theorem dX3_readEntry_86 : decode cX3_readEntry 86 = .ok (.aload_n 0, 1) := by decide +kernel
theorem dX3_readEntry_87 : decode cX3_readEntry 87 = .ok (.iload_n 1, 1) := by decide +kernel
theorem dX3_readEntry_88 : decode cX3_readEntry 88 = .ok (.invokevirtual 69, 3) := by decide +kernel
theorem dX3_readEntry_91 : decode cX3_readEntry 91 = .ok (.goto 29, 3) := by decide +kernel
theorem dX3_readEntry_94 : decode cX3_readEntry 94 = .ok (.aload_n 0, 1) := by decide +kernel
theorem dX3_readEntry_95 : decode cX3_readEntry 95 = .ok (.aload_n 0, 1) := by decide +kernel
theorem dX3_readEntry_96 : decode cX3_readEntry 96 = .ok (.getfield 19, 3) := by decide +kernel
theorem dX3_readEntry_99 : decode cX3_readEntry 99 = .ok (.iload_n 1, 1) := by decide +kernel
theorem dX3_readEntry_100 : decode cX3_readEntry 100 = .ok (.iaload, 1) := by decide +kernel
theorem dX3_readEntry_101 : decode cX3_readEntry 101 = .ok (.putfield 59, 3) := by decide +kernel
theorem dX3_readEntry_104 : decode cX3_readEntry 104 = .ok (.aload_n 0, 1) := by decide +kernel
theorem dX3_readEntry_105 : decode cX3_readEntry 105 = .ok (.aload_n 0, 1) := by decide +kernel
theorem dX3_readEntry_106 : decode cX3_readEntry 106 = .ok (.getfield 16, 3) := by decide +kernel
theorem dX3_readEntry_109 : decode cX3_readEntry 109 = .ok (.iload_n 1, 1) := by decide +kernel
theorem dX3_readEntry_110 : decode cX3_readEntry 110 = .ok (.iaload, 1) := by decide +kernel
theorem dX3_readEntry_111 : decode cX3_readEntry 111 = .ok (.aload_n 0, 1) := by decide +kernel
theorem dX3_readEntry_112 : decode cX3_readEntry 112 = .ok (.getfield 19, 3) := by decide +kernel
theorem dX3_readEntry_115 : decode cX3_readEntry 115 = .ok (.iload_n 1, 1) := by decide +kernel
theorem dX3_readEntry_116 : decode cX3_readEntry 116 = .ok (.iaload, 1) := by decide +kernel
theorem dX3_readEntry_117 : decode cX3_readEntry 117 = .ok (.invokevirtual 72, 3) := by decide +kernel
theorem dX3_readEntry_120 : decode cX3_readEntry 120 = .ok (.return_, 1) := by decide +kernel
theorem dX3_readPhrase_0 : decode cX3_readPhrase 0 = .ok (.iload_n 1, 1) := by decide +kernel
theorem dX3_readPhrase_1 : decode cX3_readPhrase 1 = .ok (.istore_n 3, 1) := by decide +kernel
theorem dX3_readPhrase_2 : decode cX3_readPhrase 2 = .ok (.iload_n 3, 1) := by decide +kernel
theorem dX3_readPhrase_3 : decode cX3_readPhrase 3 = .ok (.iload_n 1, 1) := by decide +kernel
theorem dX3_readPhrase_4 : decode cX3_readPhrase 4 = .ok (.iload_n 2, 1) := by decide +kernel
theorem dX3_readPhrase_5 : decode cX3_readPhrase 5 = .ok (.iadd, 1) := by decide +kernel
theorem dX3_readPhrase_6 : decode cX3_readPhrase 6 = .ok (.if_icmp .ge 27, 3) := by decide +kernel
theorem dX3_readPhrase_9 : decode cX3_readPhrase 9 = .ok (.iload_n 3, 1) := by decide +kernel
theorem dX3_readPhrase_10 : decode cX3_readPhrase 10 = .ok (.aload_n 0, 1) := by decide +kernel
theorem dX3_readPhrase_11 : decode cX3_readPhrase 11 = .ok (.getfield 44, 3) := by decide +kernel
theorem dX3_readPhrase_14 : decode cX3_readPhrase 14 = .ok (.if_icmp .ge 19, 3) := by decide +kernel
theorem dX3_readPhrase_17 : decode cX3_readPhrase 17 = .ok (.aload_n 0, 1) := by decide +kernel
theorem dX3_readPhrase_18 : decode cX3_readPhrase 18 = .ok (.aload_n 0, 1) := by decide +kernel
theorem dX3_readPhrase_19 : decode cX3_readPhrase 19 = .ok (.getfield 10, 3) := by decide +kernel
theorem dX3_readPhrase_22 : decode cX3_readPhrase 22 = .ok (.iload_n 3, 1) := by decide +kernel
theorem dX3_readPhrase_23 : decode cX3_readPhrase 23 = .ok (.iaload, 1) := by decide +kernel
theorem dX3_readPhrase_24 : decode cX3_readPhrase 24 = .ok (.invokevirtual 69, 3) := by decide +kernel
theorem dX3_readPhrase_27 : decode cX3_readPhrase 27 = .ok (.iinc 3 1, 3) := by decide +kernel
theorem dX3_readPhrase_30 : decode cX3_readPhrase 30 = .ok (.goto (-28), 3) := by decide +kernel
theorem dX3_readPhrase_33 : decode cX3_readPhrase 33 = .ok (.return_, 1) := by decide +kernel
theorem dX3_readSign_0 : decode cX3_readSign 0 = .ok (.aload_n 0, 1) := by decide +kernel
theorem dX3_readSign_1 : decode cX3_readSign 1 = .ok (.getfield 44, 3) := by decide +kernel
theorem dX3_readSign_4 : decode cX3_readSign 4 = .ok (.ldc 9, 2) := by decide +kernel
theorem dX3_readSign_6 : decode cX3_readSign 6 = .ok (.if_icmp .ge 23, 3) := by decide +kernel
theorem dX3_readSign_9 : decode cX3_readSign 9 = .ok (.aload_n 0, 1) := by decide +kernel
theorem dX3_readSign_10 : decode cX3_readSign 10 = .ok (.getfield 10, 3) := by decide +kernel
theorem dX3_readSign_13 : decode cX3_readSign 13 = .ok (.aload_n 0, 1) := by decide +kernel
theorem dX3_readSign_14 : decode cX3_readSign 14 = .ok (.getfield 44, 3) := by decide +kernel
theorem dX3_readSign_17 : decode cX3_readSign 17 = .ok (.iload_n 1, 1) := by decide +kernel
theorem dX3_readSign_18 : decode cX3_readSign 18 = .ok (.iastore, 1) := by decide +kernel
theorem dX3_readSign_19 : decode cX3_readSign 19 = .ok (.aload_n 0, 1) := by decide +kernel
theorem dX3_readSign_20 : decode cX3_readSign 20 = .ok (.dup, 1) := by decide +kernel
theorem dX3_readSign_21 : decode cX3_readSign 21 = .ok (.getfield 44, 3) := by decide +kernel
theorem dX3_readSign_24 : decode cX3_readSign 24 = .ok (.iconst 1, 1) := by decide +kernel
theorem dX3_readSign_25 : decode cX3_readSign 25 = .ok (.iadd, 1) := by decide +kernel
theorem dX3_readSign_26 : decode cX3_readSign 26 = .ok (.putfield 44, 3) := by decide +kernel
theorem dX3_readSign_29 : decode cX3_readSign 29 = .ok (.return_, 1) := by decide +kernel
theorem dX3_firstDifference_0 : decode cX3_firstDifference 0 = .ok (.aload_n 0, 1) := by decide +kernel
theorem dX3_firstDifference_1 : decode cX3_firstDifference 1 = .ok (.getfield 44, 3) := by decide +kernel
theorem dX3_firstDifference_4 : decode cX3_firstDifference 4 = .ok (.iload_n 2, 1) := by decide +kernel
theorem dX3_firstDifference_5 : decode cX3_firstDifference 5 = .ok (.invokestatic 75, 3) := by decide +kernel
theorem dX3_firstDifference_8 : decode cX3_firstDifference 8 = .ok (.istore_n 3, 1) := by decide +kernel
theorem dX3_firstDifference_9 : decode cX3_firstDifference 9 = .ok (.iconst 0, 1) := by decide +kernel
theorem dX3_firstDifference_10 : decode cX3_firstDifference 10 = .ok (.istore 4, 2) := by decide +kernel
theorem dX3_firstDifference_12 : decode cX3_firstDifference 12 = .ok (.iload 4, 2) := by decide +kernel
theorem dX3_firstDifference_14 : decode cX3_firstDifference 14 = .ok (.iload_n 3, 1) := by decide +kernel
theorem dX3_firstDifference_15 : decode cX3_firstDifference 15 = .ok (.if_icmp .ge 26, 3) := by decide +kernel
theorem dX3_firstDifference_18 : decode cX3_firstDifference 18 = .ok (.aload_n 0, 1) := by decide +kernel
theorem dX3_firstDifference_19 : decode cX3_firstDifference 19 = .ok (.getfield 10, 3) := by decide +kernel
theorem dX3_firstDifference_22 : decode cX3_firstDifference 22 = .ok (.iload 4, 2) := by decide +kernel
theorem dX3_firstDifference_24 : decode cX3_firstDifference 24 = .ok (.iaload, 1) := by decide +kernel
theorem dX3_firstDifference_25 : decode cX3_firstDifference 25 = .ok (.aload_n 1, 1) := by decide +kernel
theorem dX3_firstDifference_26 : decode cX3_firstDifference 26 = .ok (.iload 4, 2) := by decide +kernel
theorem dX3_firstDifference_28 : decode cX3_firstDifference 28 = .ok (.iaload, 1) := by decide +kernel
theorem dX3_firstDifference_29 : decode cX3_firstDifference 29 = .ok (.if_icmp .eq 6, 3) := by decide +kernel
theorem dX3_firstDifference_32 : decode cX3_firstDifference 32 = .ok (.iload 4, 2) := by decide +kernel
theorem dX3_firstDifference_34 : decode cX3_firstDifference 34 = .ok (.ireturn, 1) := by decide +kernel
theorem dX3_firstDifference_35 : decode cX3_firstDifference 35 = .ok (.iinc 4 1, 3) := by decide +kernel
theorem dX3_firstDifference_38 : decode cX3_firstDifference 38 = .ok (.goto (-26), 3) := by decide +kernel
theorem dX3_firstDifference_41 : decode cX3_firstDifference 41 = .ok (.aload_n 0, 1) := by decide +kernel
theorem dX3_firstDifference_42 : decode cX3_firstDifference 42 = .ok (.getfield 44, 3) := by decide +kernel
theorem dX3_firstDifference_45 : decode cX3_firstDifference 45 = .ok (.iload_n 2, 1) := by decide +kernel
theorem dX3_firstDifference_46 : decode cX3_firstDifference 46 = .ok (.if_icmp .ne 8, 3) := by decide +kernel
theorem dX3_firstDifference_49 : decode cX3_firstDifference 49 = .ok (.bipush (-6), 2) := by decide +kernel
theorem dX3_firstDifference_51 : decode cX3_firstDifference 51 = .ok (.goto 4, 3) := by decide +kernel
theorem dX3_firstDifference_54 : decode cX3_firstDifference 54 = .ok (.iload_n 3, 1) := by decide +kernel
theorem dX3_firstDifference_55 : decode cX3_firstDifference 55 = .ok (.ireturn, 1) := by decide +kernel
theorem dX4_init_0 : decode cX4_init 0 = .ok (.aload_n 0, 1) := by decide +kernel
theorem dX4_init_1 : decode cX4_init 1 = .ok (.invokespecial 3, 3) := by decide +kernel
theorem dX4_init_4 : decode cX4_init 4 = .ok (.aload_n 0, 1) := by decide +kernel
theorem dX4_init_5 : decode cX4_init 5 = .ok (.getstatic 9, 3) := by decide +kernel
theorem dX4_init_8 : decode cX4_init 8 = .ok (.invokevirtual 13, 3) := by decide +kernel
theorem dX4_init_11 : decode cX4_init 11 = .ok (.checkcast 14, 3) := by decide +kernel
theorem dX4_init_14 : decode cX4_init 14 = .ok (.putfield 18, 3) := by decide +kernel
theorem dX4_init_17 : decode cX4_init 17 = .ok (.aload_n 0, 1) := by decide +kernel
theorem dX4_init_18 : decode cX4_init 18 = .ok (.sipush 240, 3) := by decide +kernel
theorem dX4_init_21 : decode cX4_init 21 = .ok (.newarray .int, 2) := by decide +kernel
theorem dX4_init_23 : decode cX4_init 23 = .ok (.putfield 23, 3) := by decide +kernel
theorem dX4_init_26 : decode cX4_init 26 = .ok (.aload_n 0, 1) := by decide +kernel
theorem dX4_init_27 : decode cX4_init 27 = .ok (.sipush 281, 3) := by decide +kernel
theorem dX4_init_30 : decode cX4_init 30 = .ok (.newarray .int, 2) := by decide +kernel
theorem dX4_init_32 : decode cX4_init 32 = .ok (.putfield 26, 3) := by decide +kernel
theorem dX4_init_35 : decode cX4_init 35 = .ok (.return_, 1) := by decide +kernel
theorem dX4_mendCodes_0 : decode cX4_mendCodes 0 = .ok (.aload_n 0, 1) := by decide +kernel
theorem dX4_mendCodes_1 : decode cX4_mendCodes 1 = .ok (.getfield 26, 3) := by decide +kernel
theorem dX4_mendCodes_4 : decode cX4_mendCodes 4 = .ok (.iconst 0, 1) := by decide +kernel
theorem dX4_mendCodes_5 : decode cX4_mendCodes 5 = .ok (.invokestatic 29, 3) := by decide +kernel
theorem dX4_mendCodes_8 : decode cX4_mendCodes 8 = .ok (.return_, 1) := by decide +kernel
theorem dX4_countSpoiled_0 : decode cX4_countSpoiled 0 = .ok (.iconst 0, 1) := by decide +kernel
theorem dX4_countSpoiled_1 : decode cX4_countSpoiled 1 = .ok (.istore_n 1, 1) := by decide +kernel
theorem dX4_countSpoiled_2 : decode cX4_countSpoiled 2 = .ok (.iconst 0, 1) := by decide +kernel
theorem dX4_countSpoiled_3 : decode cX4_countSpoiled 3 = .ok (.istore_n 2, 1) := by decide +kernel
theorem dX4_countSpoiled_4 : decode cX4_countSpoiled 4 = .ok (.iload_n 2, 1) := by decide +kernel
theorem dX4_countSpoiled_5 : decode cX4_countSpoiled 5 = .ok (.sipush 281, 3) := by decide +kernel
theorem dX4_countSpoiled_8 : decode cX4_countSpoiled 8 = .ok (.if_icmp .ge 26, 3) := by decide +kernel
theorem dX4_countSpoiled_11 : decode cX4_countSpoiled 11 = .ok (.iload_n 1, 1) := by decide +kernel
theorem dX4_countSpoiled_12 : decode cX4_countSpoiled 12 = .ok (.aload_n 0, 1) := by decide +kernel
theorem dX4_countSpoiled_13 : decode cX4_countSpoiled 13 = .ok (.getfield 26, 3) := by decide +kernel
theorem dX4_countSpoiled_16 : decode cX4_countSpoiled 16 = .ok (.iload_n 2, 1) := by decide +kernel
theorem dX4_countSpoiled_17 : decode cX4_countSpoiled 17 = .ok (.iaload, 1) := by decide +kernel
theorem dX4_countSpoiled_18 : decode cX4_countSpoiled 18 = .ok (.ifCond .eq 7, 3) := by decide +kernel
theorem dX4_countSpoiled_21 : decode cX4_countSpoiled 21 = .ok (.iconst 1, 1) := by decide +kernel
theorem dX4_countSpoiled_22 : decode cX4_countSpoiled 22 = .ok (.goto 4, 3) := by decide +kernel
theorem dX4_countSpoiled_25 : decode cX4_countSpoiled 25 = .ok (.iconst 0, 1) := by decide +kernel
theorem dX4_countSpoiled_26 : decode cX4_countSpoiled 26 = .ok (.iadd, 1) := by decide +kernel
theorem dX4_countSpoiled_27 : decode cX4_countSpoiled 27 = .ok (.istore_n 1, 1) := by decide +kernel
theorem dX4_countSpoiled_28 : decode cX4_countSpoiled 28 = .ok (.iinc 2 1, 3) := by decide +kernel
theorem dX4_countSpoiled_31 : decode cX4_countSpoiled 31 = .ok (.goto (-27), 3) := by decide +kernel
theorem dX4_countSpoiled_34 : decode cX4_countSpoiled 34 = .ok (.iload_n 1, 1) := by decide +kernel
theorem dX4_countSpoiled_35 : decode cX4_countSpoiled 35 = .ok (.ireturn, 1) := by decide +kernel
theorem dX5_init_0 : decode cX5_init 0 = .ok (.aload_n 0, 1) := by decide +kernel
theorem dX5_init_1 : decode cX5_init 1 = .ok (.invokespecial 3, 3) := by decide +kernel
theorem dX5_init_4 : decode cX5_init 4 = .ok (.aload_n 0, 1) := by decide +kernel
theorem dX5_init_5 : decode cX5_init 5 = .ok (.new 9, 3) := by decide +kernel
theorem dX5_init_8 : decode cX5_init 8 = .ok (.dup, 1) := by decide +kernel
theorem dX5_init_9 : decode cX5_init 9 = .ok (.invokespecial 11, 3) := by decide +kernel
theorem dX5_init_12 : decode cX5_init 12 = .ok (.putfield 12, 3) := by decide +kernel
theorem dX5_init_15 : decode cX5_init 15 = .ok (.aload_n 0, 1) := by decide +kernel
theorem dX5_init_16 : decode cX5_init 16 = .ok (.sipush 281, 3) := by decide +kernel
theorem dX5_init_19 : decode cX5_init 19 = .ok (.newarray .int, 2) := by decide +kernel
theorem dX5_init_21 : decode cX5_init 21 = .ok (.putfield 18, 3) := by decide +kernel
theorem dX5_init_24 : decode cX5_init 24 = .ok (.aload_n 0, 1) := by decide +kernel
theorem dX5_init_25 : decode cX5_init 25 = .ok (.sipush 281, 3) := by decide +kernel
theorem dX5_init_28 : decode cX5_init 28 = .ok (.newarray .int, 2) := by decide +kernel
theorem dX5_init_30 : decode cX5_init 30 = .ok (.putfield 22, 3) := by decide +kernel
theorem dX5_init_33 : decode cX5_init 33 = .ok (.aload_n 0, 1) := by decide +kernel
theorem dX5_init_34 : decode cX5_init 34 = .ok (.sipush 281, 3) := by decide +kernel
theorem dX5_init_37 : decode cX5_init 37 = .ok (.newarray .int, 2) := by decide +kernel
theorem dX5_init_39 : decode cX5_init 39 = .ok (.putfield 25, 3) := by decide +kernel
theorem dX5_init_42 : decode cX5_init 42 = .ok (.aload_n 0, 1) := by decide +kernel
theorem dX5_init_43 : decode cX5_init 43 = .ok (.sipush 281, 3) := by decide +kernel
theorem dX5_init_46 : decode cX5_init 46 = .ok (.newarray .int, 2) := by decide +kernel
theorem dX5_init_48 : decode cX5_init 48 = .ok (.putfield 28, 3) := by decide +kernel
theorem dX5_init_51 : decode cX5_init 51 = .ok (.aload_n 0, 1) := by decide +kernel
theorem dX5_init_52 : decode cX5_init 52 = .ok (.sipush 281, 3) := by decide +kernel
theorem dX5_init_55 : decode cX5_init 55 = .ok (.newarray .int, 2) := by decide +kernel
theorem dX5_init_57 : decode cX5_init 57 = .ok (.putfield 31, 3) := by decide +kernel
theorem dX5_init_60 : decode cX5_init 60 = .ok (.return_, 1) := by decide +kernel
theorem dX5_writeOut_0 : decode cX5_writeOut 0 = .ok (.aload_n 0, 1) := by decide +kernel
theorem dX5_writeOut_1 : decode cX5_writeOut 1 = .ok (.iload_n 3, 1) := by decide +kernel
theorem dX5_writeOut_2 : decode cX5_writeOut 2 = .ok (.invokevirtual 34, 3) := by decide +kernel
theorem dX5_writeOut_5 : decode cX5_writeOut 5 = .ok (.iconst 0, 1) := by decide +kernel
theorem dX5_writeOut_6 : decode cX5_writeOut 6 = .ok (.istore 6, 2) := by decide +kernel
theorem dX5_writeOut_8 : decode cX5_writeOut 8 = .ok (.iconst 0, 1) := by decide +kernel
theorem dX5_writeOut_9 : decode cX5_writeOut 9 = .ok (.istore 7, 2) := by decide +kernel
theorem dX5_writeOut_11 : decode cX5_writeOut 11 = .ok (.iload 7, 2) := by decide +kernel
theorem dX5_writeOut_13 : decode cX5_writeOut 13 = .ok (.sipush 240, 3) := by decide +kernel
theorem dX5_writeOut_16 : decode cX5_writeOut 16 = .ok (.if_icmp .ge 114, 3) := by decide +kernel
theorem dX5_writeOut_19 : decode cX5_writeOut 19 = .ok (.iload 6, 2) := by decide +kernel
theorem dX5_writeOut_21 : decode cX5_writeOut 21 = .ok (.iload_n 2, 1) := by decide +kernel
theorem dX5_writeOut_22 : decode cX5_writeOut 22 = .ok (.if_icmp .ge 108, 3) := by decide +kernel
theorem dX5_writeOut_25 : decode cX5_writeOut 25 = .ok (.aload_n 0, 1) := by decide +kernel
theorem dX5_writeOut_26 : decode cX5_writeOut 26 = .ok (.getfield 12, 3) := by decide +kernel
theorem dX5_writeOut_29 : decode cX5_writeOut 29 = .ok (.aload_n 1, 1) := by decide +kernel
theorem dX5_writeOut_30 : decode cX5_writeOut 30 = .ok (.iload 6, 2) := by decide +kernel
theorem dX5_writeOut_32 : decode cX5_writeOut 32 = .ok (.iload_n 2, 1) := by decide +kernel
theorem dX5_writeOut_33 : decode cX5_writeOut 33 = .ok (.invokevirtual 38, 3) := by decide +kernel
theorem dX5_writeOut_36 : decode cX5_writeOut 36 = .ok (.istore 8, 2) := by decide +kernel
theorem dX5_writeOut_38 : decode cX5_writeOut 38 = .ok (.aload_n 0, 1) := by decide +kernel
theorem dX5_writeOut_39 : decode cX5_writeOut 39 = .ok (.iload 8, 2) := by decide +kernel
theorem dX5_writeOut_41 : decode cX5_writeOut 41 = .ok (.iload 6, 2) := by decide +kernel
theorem dX5_writeOut_43 : decode cX5_writeOut 43 = .ok (.aload_n 0, 1) := by decide +kernel
theorem dX5_writeOut_44 : decode cX5_writeOut 44 = .ok (.getfield 12, 3) := by decide +kernel
theorem dX5_writeOut_47 : decode cX5_writeOut 47 = .ok (.getfield 42, 3) := by decide +kernel
theorem dX5_writeOut_50 : decode cX5_writeOut 50 = .ok (.iload 8, 2) := by decide +kernel
theorem dX5_writeOut_52 : decode cX5_writeOut 52 = .ok (.iaload, 1) := by decide +kernel
theorem dX5_writeOut_53 : decode cX5_writeOut 53 = .ok (.invokevirtual 43, 3) := by decide +kernel
theorem dX5_writeOut_56 : decode cX5_writeOut 56 = .ok (.iload 6, 2) := by decide +kernel
theorem dX5_writeOut_58 : decode cX5_writeOut 58 = .ok (.aload_n 0, 1) := by decide +kernel
theorem dX5_writeOut_59 : decode cX5_writeOut 59 = .ok (.getfield 12, 3) := by decide +kernel
theorem dX5_writeOut_62 : decode cX5_writeOut 62 = .ok (.getfield 42, 3) := by decide +kernel
theorem dX5_writeOut_65 : decode cX5_writeOut 65 = .ok (.iload 8, 2) := by decide +kernel
theorem dX5_writeOut_67 : decode cX5_writeOut 67 = .ok (.iaload, 1) := by decide +kernel
theorem dX5_writeOut_68 : decode cX5_writeOut 68 = .ok (.iadd, 1) := by decide +kernel
theorem dX5_writeOut_69 : decode cX5_writeOut 69 = .ok (.istore 6, 2) := by decide +kernel
theorem dX5_writeOut_71 : decode cX5_writeOut 71 = .ok (.iload 6, 2) := by decide +kernel
theorem dX5_writeOut_73 : decode cX5_writeOut 73 = .ok (.iload_n 2, 1) := by decide +kernel
theorem dX5_writeOut_74 : decode cX5_writeOut 74 = .ok (.if_icmp .ge 50, 3) := by decide +kernel
theorem dX5_writeOut_77 : decode cX5_writeOut 77 = .ok (.aload_n 0, 1) := by decide +kernel
theorem dX5_writeOut_78 : decode cX5_writeOut 78 = .ok (.iload 8, 2) := by decide +kernel
theorem dX5_writeOut_80 : decode cX5_writeOut 80 = .ok (.aload_n 1, 1) := by decide +kernel
theorem dX5_writeOut_81 : decode cX5_writeOut 81 = .ok (.iload 6, 2) := by decide +kernel
theorem dX5_writeOut_83 : decode cX5_writeOut 83 = .ok (.iaload, 1) := by decide +kernel
theorem dX5_writeOut_84 : decode cX5_writeOut 84 = .ok (.invokevirtual 47, 3) := by decide +kernel
theorem dX5_writeOut_87 : decode cX5_writeOut 87 = .ok (.aload_n 0, 1) := by decide +kernel
theorem dX5_writeOut_88 : decode cX5_writeOut 88 = .ok (.iload 4, 2) := by decide +kernel
theorem dX5_writeOut_90 : decode cX5_writeOut 90 = .ok (.iload 5, 2) := by decide +kernel
theorem dX5_writeOut_92 : decode cX5_writeOut 92 = .ok (.invokevirtual 51, 3) := by decide +kernel
theorem dX5_writeOut_95 : decode cX5_writeOut 95 = .ok (.ifCond .eq 29, 3) := by decide +kernel
theorem dX5_writeOut_98 : decode cX5_writeOut 98 = .ok (.aload_n 0, 1) := by decide +kernel
theorem dX5_writeOut_99 : decode cX5_writeOut 99 = .ok (.bipush 8, 2) := by decide +kernel
theorem dX5_writeOut_101 : decode cX5_writeOut 101 = .ok (.bipush (-6), 2) := by decide +kernel
theorem dX5_writeOut_103 : decode cX5_writeOut 103 = .ok (.iconst 0, 1) := by decide +kernel
theorem dX5_writeOut_104 : decode cX5_writeOut 104 = .ok (.invokevirtual 43, 3) := by decide +kernel
theorem dX5_writeOut_107 : decode cX5_writeOut 107 = .ok (.aload_n 0, 1) := by decide +kernel
theorem dX5_writeOut_108 : decode cX5_writeOut 108 = .ok (.dup, 1) := by decide +kernel
theorem dX5_writeOut_109 : decode cX5_writeOut 109 = .ok (.getfield 55, 3) := by decide +kernel
theorem dX5_writeOut_112 : decode cX5_writeOut 112 = .ok (.iconst 1, 1) := by decide +kernel
theorem dX5_writeOut_113 : decode cX5_writeOut 113 = .ok (.iadd, 1) := by decide +kernel
theorem dX5_writeOut_114 : decode cX5_writeOut 114 = .ok (.putfield 55, 3) := by decide +kernel
theorem dX5_writeOut_117 : decode cX5_writeOut 117 = .ok (.aload_n 0, 1) := by decide +kernel
theorem dX5_writeOut_118 : decode cX5_writeOut 118 = .ok (.getfield 12, 3) := by decide +kernel
theorem dX5_writeOut_121 : decode cX5_writeOut 121 = .ok (.invokevirtual 59, 3) := by decide +kernel
theorem dX5_writeOut_124 : decode cX5_writeOut 124 = .ok (.iinc 7 1, 3) := by decide +kernel
theorem dX5_writeOut_127 : decode cX5_writeOut 127 = .ok (.goto (-116), 3) := by decide +kernel
theorem dX5_writeOut_130 : decode cX5_writeOut 130 = .ok (.aload_n 0, 1) := by decide +kernel
theorem dX5_writeOut_131 : decode cX5_writeOut 131 = .ok (.bipush 9, 2) := by decide +kernel
theorem dX5_writeOut_133 : decode cX5_writeOut 133 = .ok (.bipush (-6), 2) := by decide +kernel
theorem dX5_writeOut_135 : decode cX5_writeOut 135 = .ok (.iconst 0, 1) := by decide +kernel
theorem dX5_writeOut_136 : decode cX5_writeOut 136 = .ok (.invokevirtual 43, 3) := by decide +kernel
theorem dX5_writeOut_139 : decode cX5_writeOut 139 = .ok (.return_, 1) := by decide +kernel
theorem dX5_begin_0 : decode cX5_begin 0 = .ok (.aload_n 0, 1) := by decide +kernel
theorem dX5_begin_1 : decode cX5_begin 1 = .ok (.getfield 12, 3) := by decide +kernel
theorem dX5_begin_4 : decode cX5_begin 4 = .ok (.invokevirtual 59, 3) := by decide +kernel
theorem dX5_begin_7 : decode cX5_begin 7 = .ok (.aload_n 0, 1) := by decide +kernel
theorem dX5_begin_8 : decode cX5_begin 8 = .ok (.iconst 1, 1) := by decide +kernel
theorem dX5_begin_9 : decode cX5_begin 9 = .ok (.iload_n 1, 1) := by decide +kernel
theorem dX5_begin_10 : decode cX5_begin 10 = .ok (.ishl, 1) := by decide +kernel
theorem dX5_begin_11 : decode cX5_begin 11 = .ok (.putfield 62, 3) := by decide +kernel
theorem dX5_begin_14 : decode cX5_begin 14 = .ok (.aload_n 0, 1) := by decide +kernel
theorem dX5_begin_15 : decode cX5_begin 15 = .ok (.iconst 0, 1) := by decide +kernel
theorem dX5_begin_16 : decode cX5_begin 16 = .ok (.putfield 65, 3) := by decide +kernel
theorem dX5_begin_19 : decode cX5_begin 19 = .ok (.aload_n 0, 1) := by decide +kernel
theorem dX5_begin_20 : decode cX5_begin 20 = .ok (.iconst 0, 1) := by decide +kernel
theorem dX5_begin_21 : decode cX5_begin 21 = .ok (.putfield 68, 3) := by decide +kernel
theorem dX5_begin_24 : decode cX5_begin 24 = .ok (.aload_n 0, 1) := by decide +kernel
theorem dX5_begin_25 : decode cX5_begin 25 = .ok (.iconst 0, 1) := by decide +kernel
theorem dX5_begin_26 : decode cX5_begin 26 = .ok (.putfield 55, 3) := by decide +kernel
theorem dX5_begin_29 : decode cX5_begin 29 = .ok (.aload_n 0, 1) := by decide +kernel
theorem dX5_begin_30 : decode cX5_begin 30 = .ok (.iconst 0, 1) := by decide +kernel
theorem dX5_begin_31 : decode cX5_begin 31 = .ok (.putfield 71, 3) := by decide +kernel
theorem dX5_begin_34 : decode cX5_begin 34 = .ok (.return_, 1) := by decide +kernel
theorem dX5_writeCode_0 : decode cX5_writeCode 0 = .ok (.aload_n 0, 1) := by decide +kernel
theorem dX5_writeCode_1 : decode cX5_writeCode 1 = .ok (.getfield 65, 3) := by decide +kernel
theorem dX5_writeCode_4 : decode cX5_writeCode 4 = .ok (.sipush 281, 3) := by decide +kernel
theorem dX5_writeCode_7 : decode cX5_writeCode 7 = .ok (.if_icmp .lt 4, 3) := by decide +kernel
theorem dX5_writeCode_10 : decode cX5_writeCode 10 = .ok (.return_, 1) := by decide +kernel
theorem dX5_writeCode_11 : decode cX5_writeCode 11 = .ok (.aload_n 0, 1) := by decide +kernel
theorem dX5_writeCode_12 : decode cX5_writeCode 12 = .ok (.getfield 12, 3) := by decide +kernel
theorem dX5_writeCode_15 : decode cX5_writeCode 15 = .ok (.getfield 74, 3) := by decide +kernel
theorem dX5_writeCode_18 : decode cX5_writeCode 18 = .ok (.iconst 1, 1) := by decide +kernel
theorem dX5_writeCode_19 : decode cX5_writeCode 19 = .ok (.isub, 1) := by decide +kernel
theorem dX5_writeCode_20 : decode cX5_writeCode 20 = .ok (.invokestatic 77, 3) := by decide +kernel
theorem dX5_writeCode_23 : decode cX5_writeCode 23 = .ok (.istore 4, 2) := by decide +kernel
theorem dX5_writeCode_25 : decode cX5_writeCode 25 = .ok (.aload_n 0, 1) := by decide +kernel
theorem dX5_writeCode_26 : decode cX5_writeCode 26 = .ok (.getfield 18, 3) := by decide +kernel
theorem dX5_writeCode_29 : decode cX5_writeCode 29 = .ok (.aload_n 0, 1) := by decide +kernel
theorem dX5_writeCode_30 : decode cX5_writeCode 30 = .ok (.getfield 65, 3) := by decide +kernel
theorem dX5_writeCode_33 : decode cX5_writeCode 33 = .ok (.iload_n 1, 1) := by decide +kernel
theorem dX5_writeCode_34 : decode cX5_writeCode 34 = .ok (.iastore, 1) := by decide +kernel
theorem dX5_writeCode_35 : decode cX5_writeCode 35 = .ok (.aload_n 0, 1) := by decide +kernel
theorem dX5_writeCode_36 : decode cX5_writeCode 36 = .ok (.getfield 22, 3) := by decide +kernel
theorem dX5_writeCode_39 : decode cX5_writeCode 39 = .ok (.aload_n 0, 1) := by decide +kernel
theorem dX5_writeCode_40 : decode cX5_writeCode 40 = .ok (.getfield 65, 3) := by decide +kernel
theorem dX5_writeCode_43 : decode cX5_writeCode 43 = .ok (.iload 4, 2) := by decide +kernel
theorem dX5_writeCode_45 : decode cX5_writeCode 45 = .ok (.iastore, 1) := by decide +kernel
theorem dX5_writeCode_46 : decode cX5_writeCode 46 = .ok (.aload_n 0, 1) := by decide +kernel
theorem dX5_writeCode_47 : decode cX5_writeCode 47 = .ok (.getfield 25, 3) := by decide +kernel
theorem dX5_writeCode_50 : decode cX5_writeCode 50 = .ok (.aload_n 0, 1) := by decide +kernel
theorem dX5_writeCode_51 : decode cX5_writeCode 51 = .ok (.getfield 65, 3) := by decide +kernel
theorem dX5_writeCode_54 : decode cX5_writeCode 54 = .ok (.iload_n 2, 1) := by decide +kernel
theorem dX5_writeCode_55 : decode cX5_writeCode 55 = .ok (.iastore, 1) := by decide +kernel
theorem dX5_writeCode_56 : decode cX5_writeCode 56 = .ok (.aload_n 0, 1) := by decide +kernel
theorem dX5_writeCode_57 : decode cX5_writeCode 57 = .ok (.getfield 28, 3) := by decide +kernel
theorem dX5_writeCode_60 : decode cX5_writeCode 60 = .ok (.aload_n 0, 1) := by decide +kernel
theorem dX5_writeCode_61 : decode cX5_writeCode 61 = .ok (.getfield 65, 3) := by decide +kernel
theorem dX5_writeCode_64 : decode cX5_writeCode 64 = .ok (.iload_n 3, 1) := by decide +kernel
theorem dX5_writeCode_65 : decode cX5_writeCode 65 = .ok (.iastore, 1) := by decide +kernel
theorem dX5_writeCode_66 : decode cX5_writeCode 66 = .ok (.aload_n 0, 1) := by decide +kernel
theorem dX5_writeCode_67 : decode cX5_writeCode 67 = .ok (.getfield 31, 3) := by decide +kernel
theorem dX5_writeCode_70 : decode cX5_writeCode 70 = .ok (.aload_n 0, 1) := by decide +kernel
theorem dX5_writeCode_71 : decode cX5_writeCode 71 = .ok (.getfield 65, 3) := by decide +kernel
theorem dX5_writeCode_74 : decode cX5_writeCode 74 = .ok (.aload_n 0, 1) := by decide +kernel
theorem dX5_writeCode_75 : decode cX5_writeCode 75 = .ok (.getfield 12, 3) := by decide +kernel
theorem dX5_writeCode_78 : decode cX5_writeCode 78 = .ok (.getfield 74, 3) := by decide +kernel
theorem dX5_writeCode_81 : decode cX5_writeCode 81 = .ok (.iastore, 1) := by decide +kernel
theorem dX5_writeCode_82 : decode cX5_writeCode 82 = .ok (.aload_n 0, 1) := by decide +kernel
theorem dX5_writeCode_83 : decode cX5_writeCode 83 = .ok (.dup, 1) := by decide +kernel
theorem dX5_writeCode_84 : decode cX5_writeCode 84 = .ok (.getfield 68, 3) := by decide +kernel
theorem dX5_writeCode_87 : decode cX5_writeCode 87 = .ok (.iload 4, 2) := by decide +kernel
theorem dX5_writeCode_89 : decode cX5_writeCode 89 = .ok (.iadd, 1) := by decide +kernel
theorem dX5_writeCode_90 : decode cX5_writeCode 90 = .ok (.putfield 68, 3) := by decide +kernel
theorem dX5_writeCode_93 : decode cX5_writeCode 93 = .ok (.aload_n 0, 1) := by decide +kernel
theorem dX5_writeCode_94 : decode cX5_writeCode 94 = .ok (.dup, 1) := by decide +kernel
theorem dX5_writeCode_95 : decode cX5_writeCode 95 = .ok (.getfield 65, 3) := by decide +kernel
theorem dX5_writeCode_98 : decode cX5_writeCode 98 = .ok (.iconst 1, 1) := by decide +kernel
theorem dX5_writeCode_99 : decode cX5_writeCode 99 = .ok (.iadd, 1) := by decide +kernel
theorem dX5_writeCode_100 : decode cX5_writeCode 100 = .ok (.putfield 65, 3) := by decide +kernel
theorem dX5_writeCode_103 : decode cX5_writeCode 103 = .ok (.return_, 1) := by decide +kernel
theorem dX5_bitsOf_0 : decode cX5_bitsOf 0 = .ok (.getstatic 81, 3) := by decide +kernel
theorem dX5_bitsOf_3 : decode cX5_bitsOf 3 = .ok (.iconst 0, 1) := by decide +kernel
theorem dX5_bitsOf_4 : decode cX5_bitsOf 4 = .ok (.iaload, 1) := by decide +kernel
theorem dX5_bitsOf_5 : decode cX5_bitsOf 5 = .ok (.istore_n 1, 1) := by decide +kernel
theorem dX5_bitsOf_6 : decode cX5_bitsOf 6 = .ok (.iload_n 1, 1) := by decide +kernel
theorem dX5_bitsOf_7 : decode cX5_bitsOf 7 = .ok (.getstatic 84, 3) := by decide +kernel
theorem dX5_bitsOf_10 : decode cX5_bitsOf 10 = .ok (.iconst 0, 1) := by decide +kernel
theorem dX5_bitsOf_11 : decode cX5_bitsOf 11 = .ok (.iaload, 1) := by decide +kernel
theorem dX5_bitsOf_12 : decode cX5_bitsOf 12 = .ok (.if_icmp .ge 15, 3) := by decide +kernel
theorem dX5_bitsOf_15 : decode cX5_bitsOf 15 = .ok (.iload_n 0, 1) := by decide +kernel
theorem dX5_bitsOf_16 : decode cX5_bitsOf 16 = .ok (.iload_n 1, 1) := by decide +kernel
theorem dX5_bitsOf_17 : decode cX5_bitsOf 17 = .ok (.ishr, 1) := by decide +kernel
theorem dX5_bitsOf_18 : decode cX5_bitsOf 18 = .ok (.ifCond .eq 9, 3) := by decide +kernel
theorem dX5_bitsOf_21 : decode cX5_bitsOf 21 = .ok (.iinc 1 1, 3) := by decide +kernel
theorem dX5_bitsOf_24 : decode cX5_bitsOf 24 = .ok (.goto (-18), 3) := by decide +kernel
theorem dX5_bitsOf_27 : decode cX5_bitsOf 27 = .ok (.iload_n 1, 1) := by decide +kernel
theorem dX5_bitsOf_28 : decode cX5_bitsOf 28 = .ok (.ireturn, 1) := by decide +kernel
theorem dX5_grow_0 : decode cX5_grow 0 = .ok (.aload_n 0, 1) := by decide +kernel
theorem dX5_grow_1 : decode cX5_grow 1 = .ok (.getfield 12, 3) := by decide +kernel
theorem dX5_grow_4 : decode cX5_grow 4 = .ok (.getfield 74, 3) := by decide +kernel
theorem dX5_grow_7 : decode cX5_grow 7 = .ok (.aload_n 0, 1) := by decide +kernel
theorem dX5_grow_8 : decode cX5_grow 8 = .ok (.getfield 62, 3) := by decide +kernel
theorem dX5_grow_11 : decode cX5_grow 11 = .ok (.if_icmp .lt 4, 3) := by decide +kernel
theorem dX5_grow_14 : decode cX5_grow 14 = .ok (.return_, 1) := by decide +kernel
theorem dX5_grow_15 : decode cX5_grow 15 = .ok (.aload_n 0, 1) := by decide +kernel
theorem dX5_grow_16 : decode cX5_grow 16 = .ok (.getfield 12, 3) := by decide +kernel
theorem dX5_grow_19 : decode cX5_grow 19 = .ok (.iload_n 1, 1) := by decide +kernel
theorem dX5_grow_20 : decode cX5_grow 20 = .ok (.iload_n 2, 1) := by decide +kernel
theorem dX5_grow_21 : decode cX5_grow 21 = .ok (.invokevirtual 87, 3) := by decide +kernel
theorem dX5_grow_24 : decode cX5_grow 24 = .ok (.aload_n 0, 1) := by decide +kernel
theorem dX5_grow_25 : decode cX5_grow 25 = .ok (.aload_n 0, 1) := by decide +kernel
theorem dX5_grow_26 : decode cX5_grow 26 = .ok (.getfield 71, 3) := by decide +kernel
theorem dX5_grow_29 : decode cX5_grow 29 = .ok (.aload_n 0, 1) := by decide +kernel
theorem dX5_grow_30 : decode cX5_grow 30 = .ok (.getfield 12, 3) := by decide +kernel
theorem dX5_grow_33 : decode cX5_grow 33 = .ok (.getfield 42, 3) := by decide +kernel
theorem dX5_grow_36 : decode cX5_grow 36 = .ok (.iload_n 1, 1) := by decide +kernel
theorem dX5_grow_37 : decode cX5_grow 37 = .ok (.iaload, 1) := by decide +kernel
theorem dX5_grow_38 : decode cX5_grow 38 = .ok (.iconst 1, 1) := by decide +kernel
theorem dX5_grow_39 : decode cX5_grow 39 = .ok (.iadd, 1) := by decide +kernel
theorem dX5_grow_40 : decode cX5_grow 40 = .ok (.invokestatic 90, 3) := by decide +kernel
theorem dX5_grow_43 : decode cX5_grow 43 = .ok (.putfield 71, 3) := by decide +kernel
theorem dX5_grow_46 : decode cX5_grow 46 = .ok (.aload_n 0, 1) := by decide +kernel
theorem dX5_grow_47 : decode cX5_grow 47 = .ok (.aload_n 0, 1) := by decide +kernel
theorem dX5_grow_48 : decode cX5_grow 48 = .ok (.getfield 65, 3) := by decide +kernel
theorem dX5_grow_51 : decode cX5_grow 51 = .ok (.putfield 96, 3) := by decide +kernel
theorem dX5_grow_54 : decode cX5_grow 54 = .ok (.return_, 1) := by decide +kernel
theorem dX5_mustClear_0 : decode cX5_mustClear 0 = .ok (.iload_n 1, 1) := by decide +kernel
theorem dX5_mustClear_1 : decode cX5_mustClear 1 = .ok (.ifCond .eq 17, 3) := by decide +kernel
theorem dX5_mustClear_4 : decode cX5_mustClear 4 = .ok (.aload_n 0, 1) := by decide +kernel
theorem dX5_mustClear_5 : decode cX5_mustClear 5 = .ok (.getfield 12, 3) := by decide +kernel
theorem dX5_mustClear_8 : decode cX5_mustClear 8 = .ok (.getfield 74, 3) := by decide +kernel
theorem dX5_mustClear_11 : decode cX5_mustClear 11 = .ok (.aload_n 0, 1) := by decide +kernel
theorem dX5_mustClear_12 : decode cX5_mustClear 12 = .ok (.getfield 62, 3) := by decide +kernel
theorem dX5_mustClear_15 : decode cX5_mustClear 15 = .ok (.if_icmp .ge 5, 3) := by decide +kernel
theorem dX5_mustClear_18 : decode cX5_mustClear 18 = .ok (.iconst 0, 1) := by decide +kernel
theorem dX5_mustClear_19 : decode cX5_mustClear 19 = .ok (.ireturn, 1) := by decide +kernel
theorem dX5_mustClear_20 : decode cX5_mustClear 20 = .ok (.iload_n 1, 1) := by decide +kernel
theorem dX5_mustClear_21 : decode cX5_mustClear 21 = .ok (.iconst 1, 1) := by decide +kernel
theorem dX5_mustClear_22 : decode cX5_mustClear 22 = .ok (.if_icmp .eq 11, 3) := by decide +kernel
theorem dX5_mustClear_25 : decode cX5_mustClear 25 = .ok (.aload_n 0, 1) := by decide +kernel
theorem dX5_mustClear_26 : decode cX5_mustClear 26 = .ok (.iload_n 2, 1) := by decide +kernel
theorem dX5_mustClear_27 : decode cX5_mustClear 27 = .ok (.invokevirtual 99, 3) := by decide +kernel
theorem dX5_mustClear_30 : decode cX5_mustClear 30 = .ok (.ifCond .eq 7, 3) := by decide +kernel
theorem dX5_mustClear_33 : decode cX5_mustClear 33 = .ok (.iconst 1, 1) := by decide +kernel
theorem dX5_mustClear_34 : decode cX5_mustClear 34 = .ok (.goto 4, 3) := by decide +kernel
theorem dX5_mustClear_37 : decode cX5_mustClear 37 = .ok (.iconst 0, 1) := by decide +kernel
theorem dX5_mustClear_38 : decode cX5_mustClear 38 = .ok (.ireturn, 1) := by decide +kernel
theorem dX5_losesBy_0 : decode cX5_losesBy 0 = .ok (.aload_n 0, 1) := by decide +kernel
theorem dX5_losesBy_1 : decode cX5_losesBy 1 = .ok (.getfield 65, 3) := by decide +kernel
theorem dX5_losesBy_4 : decode cX5_losesBy 4 = .ok (.aload_n 0, 1) := by decide +kernel
theorem dX5_losesBy_5 : decode cX5_losesBy 5 = .ok (.getfield 96, 3) := by decide +kernel
theorem dX5_losesBy_8 : decode cX5_losesBy 8 = .ok (.isub, 1) := by decide +kernel
theorem dX5_losesBy_9 : decode cX5_losesBy 9 = .ok (.iconst 2, 1) := by decide +kernel
theorem dX5_losesBy_10 : decode cX5_losesBy 10 = .ok (.iload_n 1, 1) := by decide +kernel
theorem dX5_losesBy_11 : decode cX5_losesBy 11 = .ok (.imul, 1) := by decide +kernel
theorem dX5_losesBy_12 : decode cX5_losesBy 12 = .ok (.if_icmp .ge 5, 3) := by decide +kernel
theorem dX5_losesBy_15 : decode cX5_losesBy 15 = .ok (.iconst 0, 1) := by decide +kernel
theorem dX5_losesBy_16 : decode cX5_losesBy 16 = .ok (.ireturn, 1) := by decide +kernel
theorem dX5_losesBy_17 : decode cX5_losesBy 17 = .ok (.aload_n 0, 1) := by decide +kernel
theorem dX5_losesBy_18 : decode cX5_losesBy 18 = .ok (.aload_n 0, 1) := by decide +kernel
theorem dX5_losesBy_19 : decode cX5_losesBy 19 = .ok (.getfield 65, 3) := by decide +kernel
theorem dX5_losesBy_22 : decode cX5_losesBy 22 = .ok (.iload_n 1, 1) := by decide +kernel
theorem dX5_losesBy_23 : decode cX5_losesBy 23 = .ok (.isub, 1) := by decide +kernel
theorem dX5_losesBy_24 : decode cX5_losesBy 24 = .ok (.aload_n 0, 1) := by decide +kernel
theorem dX5_losesBy_25 : decode cX5_losesBy 25 = .ok (.getfield 65, 3) := by decide +kernel
theorem dX5_losesBy_28 : decode cX5_losesBy 28 = .ok (.invokevirtual 103, 3) := by decide +kernel
theorem dX5_losesBy_31 : decode cX5_losesBy 31 = .ok (.aload_n 0, 1) := by decide +kernel
theorem dX5_losesBy_32 : decode cX5_losesBy 32 = .ok (.aload_n 0, 1) := by decide +kernel
theorem dX5_losesBy_33 : decode cX5_losesBy 33 = .ok (.getfield 65, 3) := by decide +kernel
theorem dX5_losesBy_36 : decode cX5_losesBy 36 = .ok (.iconst 2, 1) := by decide +kernel
theorem dX5_losesBy_37 : decode cX5_losesBy 37 = .ok (.iload_n 1, 1) := by decide +kernel
theorem dX5_losesBy_38 : decode cX5_losesBy 38 = .ok (.imul, 1) := by decide +kernel
theorem dX5_losesBy_39 : decode cX5_losesBy 39 = .ok (.isub, 1) := by decide +kernel
theorem dX5_losesBy_40 : decode cX5_losesBy 40 = .ok (.aload_n 0, 1) := by decide +kernel
theorem dX5_losesBy_41 : decode cX5_losesBy 41 = .ok (.getfield 65, 3) := by decide +kernel
theorem dX5_losesBy_44 : decode cX5_losesBy 44 = .ok (.iload_n 1, 1) := by decide +kernel
theorem dX5_losesBy_45 : decode cX5_losesBy 45 = .ok (.isub, 1) := by decide +kernel
theorem dX5_losesBy_46 : decode cX5_losesBy 46 = .ok (.invokevirtual 103, 3) := by decide +kernel
theorem dX5_losesBy_49 : decode cX5_losesBy 49 = .ok (.if_icmp .ge 7, 3) := by decide +kernel
theorem dX5_losesBy_52 : decode cX5_losesBy 52 = .ok (.iconst 1, 1) := by decide +kernel
theorem dX5_losesBy_53 : decode cX5_losesBy 53 = .ok (.goto 4, 3) := by decide +kernel
theorem dX5_losesBy_56 : decode cX5_losesBy 56 = .ok (.iconst 0, 1) := by decide +kernel
theorem dX5_losesBy_57 : decode cX5_losesBy 57 = .ok (.ireturn, 1) := by decide +kernel
theorem dX5_signsOf_0 : decode cX5_signsOf 0 = .ok (.iconst 0, 1) := by decide +kernel
theorem dX5_signsOf_1 : decode cX5_signsOf 1 = .ok (.istore_n 3, 1) := by decide +kernel
theorem dX5_signsOf_2 : decode cX5_signsOf 2 = .ok (.iload_n 1, 1) := by decide +kernel
theorem dX5_signsOf_3 : decode cX5_signsOf 3 = .ok (.istore 4, 2) := by decide +kernel
theorem dX5_signsOf_5 : decode cX5_signsOf 5 = .ok (.iload 4, 2) := by decide +kernel
theorem dX5_signsOf_7 : decode cX5_signsOf 7 = .ok (.iload_n 2, 1) := by decide +kernel
theorem dX5_signsOf_8 : decode cX5_signsOf 8 = .ok (.if_icmp .ge 19, 3) := by decide +kernel
theorem dX5_signsOf_11 : decode cX5_signsOf 11 = .ok (.iload_n 3, 1) := by decide +kernel
theorem dX5_signsOf_12 : decode cX5_signsOf 12 = .ok (.aload_n 0, 1) := by decide +kernel
theorem dX5_signsOf_13 : decode cX5_signsOf 13 = .ok (.getfield 28, 3) := by decide +kernel
theorem dX5_signsOf_16 : decode cX5_signsOf 16 = .ok (.iload 4, 2) := by decide +kernel
theorem dX5_signsOf_18 : decode cX5_signsOf 18 = .ok (.iaload, 1) := by decide +kernel
theorem dX5_signsOf_19 : decode cX5_signsOf 19 = .ok (.iadd, 1) := by decide +kernel
theorem dX5_signsOf_20 : decode cX5_signsOf 20 = .ok (.istore_n 3, 1) := by decide +kernel
theorem dX5_signsOf_21 : decode cX5_signsOf 21 = .ok (.iinc 4 1, 3) := by decide +kernel
theorem dX5_signsOf_24 : decode cX5_signsOf 24 = .ok (.goto (-19), 3) := by decide +kernel
theorem dX5_signsOf_27 : decode cX5_signsOf 27 = .ok (.iload_n 3, 1) := by decide +kernel
theorem dX5_signsOf_28 : decode cX5_signsOf 28 = .ok (.ireturn, 1) := by decide +kernel
theorem dX6_init_0 : decode cX6_init 0 = .ok (.aload_n 0, 1) := by decide +kernel
theorem dX6_init_1 : decode cX6_init 1 = .ok (.invokespecial 3, 3) := by decide +kernel
theorem dX6_init_4 : decode cX6_init 4 = .ok (.aload_n 0, 1) := by decide +kernel
theorem dX6_init_5 : decode cX6_init 5 = .ok (.new 9, 3) := by decide +kernel
theorem dX6_init_8 : decode cX6_init 8 = .ok (.dup, 1) := by decide +kernel
theorem dX6_init_9 : decode cX6_init 9 = .ok (.invokespecial 11, 3) := by decide +kernel
theorem dX6_init_12 : decode cX6_init 12 = .ok (.putfield 12, 3) := by decide +kernel
theorem dX6_init_15 : decode cX6_init 15 = .ok (.aload_n 0, 1) := by decide +kernel
theorem dX6_init_16 : decode cX6_init 16 = .ok (.new 16, 3) := by decide +kernel
theorem dX6_init_19 : decode cX6_init 19 = .ok (.dup, 1) := by decide +kernel
theorem dX6_init_20 : decode cX6_init 20 = .ok (.invokespecial 18, 3) := by decide +kernel
theorem dX6_init_23 : decode cX6_init 23 = .ok (.putfield 19, 3) := by decide +kernel
theorem dX6_init_26 : decode cX6_init 26 = .ok (.aload_n 0, 1) := by decide +kernel
theorem dX6_init_27 : decode cX6_init 27 = .ok (.iconst 2, 1) := by decide +kernel
theorem dX6_init_28 : decode cX6_init 28 = .ok (.anewarray 9, 3) := by decide +kernel
theorem dX6_init_31 : decode cX6_init 31 = .ok (.putfield 23, 3) := by decide +kernel
theorem dX6_init_34 : decode cX6_init 34 = .ok (.aload_n 0, 1) := by decide +kernel
theorem dX6_init_35 : decode cX6_init 35 = .ok (.iconst 2, 1) := by decide +kernel
theorem dX6_init_36 : decode cX6_init 36 = .ok (.newarray .boolean, 2) := by decide +kernel
theorem dX6_init_38 : decode cX6_init 38 = .ok (.putfield 27, 3) := by decide +kernel
theorem dX6_init_41 : decode cX6_init 41 = .ok (.aload_n 0, 1) := by decide +kernel
theorem dX6_init_42 : decode cX6_init 42 = .ok (.new 31, 3) := by decide +kernel
theorem dX6_init_45 : decode cX6_init 45 = .ok (.dup, 1) := by decide +kernel
theorem dX6_init_46 : decode cX6_init 46 = .ok (.invokespecial 33, 3) := by decide +kernel
theorem dX6_init_49 : decode cX6_init 49 = .ok (.putfield 34, 3) := by decide +kernel
theorem dX6_init_52 : decode cX6_init 52 = .ok (.aload_n 0, 1) := by decide +kernel
theorem dX6_init_53 : decode cX6_init 53 = .ok (.new 38, 3) := by decide +kernel
theorem dX6_init_56 : decode cX6_init 56 = .ok (.dup, 1) := by decide +kernel
theorem dX6_init_57 : decode cX6_init 57 = .ok (.invokespecial 40, 3) := by decide +kernel
theorem dX6_init_60 : decode cX6_init 60 = .ok (.putfield 41, 3) := by decide +kernel
theorem dX6_init_63 : decode cX6_init 63 = .ok (.aload_n 0, 1) := by decide +kernel
theorem dX6_init_64 : decode cX6_init 64 = .ok (.new 45, 3) := by decide +kernel
theorem dX6_init_67 : decode cX6_init 67 = .ok (.dup, 1) := by decide +kernel
theorem dX6_init_68 : decode cX6_init 68 = .ok (.invokespecial 47, 3) := by decide +kernel
theorem dX6_init_71 : decode cX6_init 71 = .ok (.putfield 48, 3) := by decide +kernel
theorem dX6_init_74 : decode cX6_init 74 = .ok (.aload_n 0, 1) := by decide +kernel
theorem dX6_init_75 : decode cX6_init 75 = .ok (.sipush 281, 3) := by decide +kernel
theorem dX6_init_78 : decode cX6_init 78 = .ok (.newarray .int, 2) := by decide +kernel
theorem dX6_init_80 : decode cX6_init 80 = .ok (.putfield 52, 3) := by decide +kernel
theorem dX6_init_83 : decode cX6_init 83 = .ok (.aload_n 0, 1) := by decide +kernel
theorem dX6_init_84 : decode cX6_init 84 = .ok (.new 38, 3) := by decide +kernel
theorem dX6_init_87 : decode cX6_init 87 = .ok (.dup, 1) := by decide +kernel
theorem dX6_init_88 : decode cX6_init 88 = .ok (.invokespecial 40, 3) := by decide +kernel
theorem dX6_init_91 : decode cX6_init 91 = .ok (.putfield 56, 3) := by decide +kernel
theorem dX6_init_94 : decode cX6_init 94 = .ok (.aload_n 0, 1) := by decide +kernel
theorem dX6_init_95 : decode cX6_init 95 = .ok (.new 45, 3) := by decide +kernel
theorem dX6_init_98 : decode cX6_init 98 = .ok (.dup, 1) := by decide +kernel
theorem dX6_init_99 : decode cX6_init 99 = .ok (.invokespecial 47, 3) := by decide +kernel
theorem dX6_init_102 : decode cX6_init 102 = .ok (.putfield 59, 3) := by decide +kernel
theorem dX6_init_105 : decode cX6_init 105 = .ok (.aload_n 0, 1) := by decide +kernel
theorem dX6_init_106 : decode cX6_init 106 = .ok (.sipush 281, 3) := by decide +kernel
theorem dX6_init_109 : decode cX6_init 109 = .ok (.newarray .int, 2) := by decide +kernel
theorem dX6_init_111 : decode cX6_init 111 = .ok (.putfield 62, 3) := by decide +kernel
theorem dX6_init_114 : decode cX6_init 114 = .ok (.iconst 0, 1) := by decide +kernel
theorem dX6_init_115 : decode cX6_init 115 = .ok (.istore_n 1, 1) := by decide +kernel
theorem dX6_init_116 : decode cX6_init 116 = .ok (.iload_n 1, 1) := by decide +kernel
theorem dX6_init_117 : decode cX6_init 117 = .ok (.iconst 2, 1) := by decide +kernel
theorem dX6_init_118 : decode cX6_init 118 = .ok (.if_icmp .ge 22, 3) := by decide +kernel
theorem dX6_init_121 : decode cX6_init 121 = .ok (.aload_n 0, 1) := by decide +kernel
theorem dX6_init_122 : decode cX6_init 122 = .ok (.getfield 23, 3) := by decide +kernel
theorem dX6_init_125 : decode cX6_init 125 = .ok (.iload_n 1, 1) := by decide +kernel
theorem dX6_init_126 : decode cX6_init 126 = .ok (.new 9, 3) := by decide +kernel
theorem dX6_init_129 : decode cX6_init 129 = .ok (.dup, 1) := by decide +kernel
theorem dX6_init_130 : decode cX6_init 130 = .ok (.invokespecial 11, 3) := by decide +kernel
theorem dX6_init_133 : decode cX6_init 133 = .ok (.aastore, 1) := by decide +kernel
theorem dX6_init_134 : decode cX6_init 134 = .ok (.iinc 1 1, 3) := by decide +kernel
theorem dX6_init_137 : decode cX6_init 137 = .ok (.goto (-21), 3) := by decide +kernel
theorem dX6_init_140 : decode cX6_init 140 = .ok (.aload_n 0, 1) := by decide +kernel
theorem dX6_init_141 : decode cX6_init 141 = .ok (.invokevirtual 65, 3) := by decide +kernel
theorem dX6_init_144 : decode cX6_init 144 = .ok (.return_, 1) := by decide +kernel
theorem dX6_set_0 : decode cX6_set 0 = .ok (.iload_n 1, 1) := by decide +kernel
theorem dX6_set_1 : decode cX6_set 1 = .ok (.iload_n 2, 1) := by decide +kernel
theorem dX6_set_2 : decode cX6_set 2 = .ok (.invokestatic 68, 3) := by decide +kernel
theorem dX6_set_5 : decode cX6_set 5 = .ok (.ifCond .ne 6, 3) := by decide +kernel
theorem dX6_set_8 : decode cX6_set 8 = .ok (.bipush (-2), 2) := by decide +kernel
theorem dX6_set_10 : decode cX6_set 10 = .ok (.ireturn, 1) := by decide +kernel
theorem dX6_set_11 : decode cX6_set 11 = .ok (.aload_n 0, 1) := by decide +kernel
theorem dX6_set_12 : decode cX6_set 12 = .ok (.getfield 19, 3) := by decide +kernel
theorem dX6_set_15 : decode cX6_set 15 = .ok (.aload_n 0, 1) := by decide +kernel
theorem dX6_set_16 : decode cX6_set 16 = .ok (.getfield 12, 3) := by decide +kernel
theorem dX6_set_19 : decode cX6_set 19 = .ok (.invokevirtual 72, 3) := by decide +kernel
theorem dX6_set_22 : decode cX6_set 22 = .ok (.aload_n 0, 1) := by decide +kernel
theorem dX6_set_23 : decode cX6_set 23 = .ok (.getfield 12, 3) := by decide +kernel
theorem dX6_set_26 : decode cX6_set 26 = .ok (.getfield 76, 3) := by decide +kernel
theorem dX6_set_29 : decode cX6_set 29 = .ok (.iload_n 1, 1) := by decide +kernel
theorem dX6_set_30 : decode cX6_set 30 = .ok (.iaload, 1) := by decide +kernel
theorem dX6_set_31 : decode cX6_set 31 = .ok (.istore_n 3, 1) := by decide +kernel
theorem dX6_set_32 : decode cX6_set 32 = .ok (.aload_n 0, 1) := by decide +kernel
theorem dX6_set_33 : decode cX6_set 33 = .ok (.getfield 12, 3) := by decide +kernel
theorem dX6_set_36 : decode cX6_set 36 = .ok (.getfield 76, 3) := by decide +kernel
theorem dX6_set_39 : decode cX6_set 39 = .ok (.iload_n 1, 1) := by decide +kernel
theorem dX6_set_40 : decode cX6_set 40 = .ok (.iload_n 2, 1) := by decide +kernel
theorem dX6_set_41 : decode cX6_set 41 = .ok (.iastore, 1) := by decide +kernel
theorem dX6_set_42 : decode cX6_set 42 = .ok (.aload_n 0, 1) := by decide +kernel
theorem dX6_set_43 : decode cX6_set 43 = .ok (.getfield 12, 3) := by decide +kernel
theorem dX6_set_46 : decode cX6_set 46 = .ok (.invokevirtual 79, 3) := by decide +kernel
theorem dX6_set_49 : decode cX6_set 49 = .ok (.aload_n 0, 1) := by decide +kernel
theorem dX6_set_50 : decode cX6_set 50 = .ok (.invokevirtual 65, 3) := by decide +kernel
theorem dX6_set_53 : decode cX6_set 53 = .ok (.iload_n 3, 1) := by decide +kernel
theorem dX6_set_54 : decode cX6_set 54 = .ok (.ireturn, 1) := by decide +kernel
theorem dX6_add_0 : decode cX6_add 0 = .ok (.iload_n 1, 1) := by decide +kernel
theorem dX6_add_1 : decode cX6_add 1 = .ok (.ifCond .lt 21, 3) := by decide +kernel
theorem dX6_add_4 : decode cX6_add 4 = .ok (.iload_n 1, 1) := by decide +kernel
theorem dX6_add_5 : decode cX6_add 5 = .ok (.bipush 8, 2) := by decide +kernel
theorem dX6_add_7 : decode cX6_add 7 = .ok (.if_icmp .ge 15, 3) := by decide +kernel
theorem dX6_add_10 : decode cX6_add 10 = .ok (.iload_n 2, 1) := by decide +kernel
theorem dX6_add_11 : decode cX6_add 11 = .ok (.iconst 1, 1) := by decide +kernel
theorem dX6_add_12 : decode cX6_add 12 = .ok (.if_icmp .lt 10, 3) := by decide +kernel
theorem dX6_add_15 : decode cX6_add 15 = .ok (.iload_n 2, 1) := by decide +kernel
theorem dX6_add_16 : decode cX6_add 16 = .ok (.sipush 240, 3) := by decide +kernel
theorem dX6_add_19 : decode cX6_add 19 = .ok (.if_icmp .le 6, 3) := by decide +kernel
theorem dX6_add_22 : decode cX6_add 22 = .ok (.bipush (-2), 2) := by decide +kernel
theorem dX6_add_24 : decode cX6_add 24 = .ok (.ireturn, 1) := by decide +kernel
theorem dX6_add_25 : decode cX6_add 25 = .ok (.aload_n 0, 1) := by decide +kernel
theorem dX6_add_26 : decode cX6_add 26 = .ok (.getfield 12, 3) := by decide +kernel
theorem dX6_add_29 : decode cX6_add 29 = .ok (.getfield 82, 3) := by decide +kernel
theorem dX6_add_32 : decode cX6_add 32 = .ok (.iload_n 2, 1) := by decide +kernel
theorem dX6_add_33 : decode cX6_add 33 = .ok (.iadd, 1) := by decide +kernel
theorem dX6_add_34 : decode cX6_add 34 = .ok (.sipush 240, 3) := by decide +kernel
theorem dX6_add_37 : decode cX6_add 37 = .ok (.if_icmp .le 6, 3) := by decide +kernel
theorem dX6_add_40 : decode cX6_add 40 = .ok (.bipush (-4), 2) := by decide +kernel
theorem dX6_add_42 : decode cX6_add 42 = .ok (.ireturn, 1) := by decide +kernel
theorem dX6_add_43 : decode cX6_add 43 = .ok (.aload_n 0, 1) := by decide +kernel
theorem dX6_add_44 : decode cX6_add 44 = .ok (.getfield 19, 3) := by decide +kernel
theorem dX6_add_47 : decode cX6_add 47 = .ok (.aload_n 0, 1) := by decide +kernel
theorem dX6_add_48 : decode cX6_add 48 = .ok (.getfield 12, 3) := by decide +kernel
theorem dX6_add_51 : decode cX6_add 51 = .ok (.invokevirtual 72, 3) := by decide +kernel
theorem dX6_add_54 : decode cX6_add 54 = .ok (.aload_n 0, 1) := by decide +kernel
theorem dX6_add_55 : decode cX6_add 55 = .ok (.getfield 12, 3) := by decide +kernel
theorem dX6_add_58 : decode cX6_add 58 = .ok (.getfield 86, 3) := by decide +kernel
theorem dX6_add_61 : decode cX6_add 61 = .ok (.aload_n 0, 1) := by decide +kernel
theorem dX6_add_62 : decode cX6_add 62 = .ok (.getfield 12, 3) := by decide +kernel
theorem dX6_add_65 : decode cX6_add 65 = .ok (.getfield 82, 3) := by decide +kernel
theorem dX6_add_68 : decode cX6_add 68 = .ok (.aload_n 0, 1) := by decide +kernel
theorem dX6_add_69 : decode cX6_add 69 = .ok (.getfield 12, 3) := by decide +kernel
theorem dX6_add_72 : decode cX6_add 72 = .ok (.getfield 82, 3) := by decide +kernel
theorem dX6_add_75 : decode cX6_add 75 = .ok (.iload_n 2, 1) := by decide +kernel
theorem dX6_add_76 : decode cX6_add 76 = .ok (.iadd, 1) := by decide +kernel
theorem dX6_add_77 : decode cX6_add 77 = .ok (.iload_n 1, 1) := by decide +kernel
theorem dX6_add_78 : decode cX6_add 78 = .ok (.invokestatic 89, 3) := by decide +kernel
theorem dX6_add_81 : decode cX6_add 81 = .ok (.aload_n 0, 1) := by decide +kernel
theorem dX6_add_82 : decode cX6_add 82 = .ok (.getfield 12, 3) := by decide +kernel
theorem dX6_add_85 : decode cX6_add 85 = .ok (.dup, 1) := by decide +kernel
theorem dX6_add_86 : decode cX6_add 86 = .ok (.getfield 82, 3) := by decide +kernel
theorem dX6_add_89 : decode cX6_add 89 = .ok (.iload_n 2, 1) := by decide +kernel
theorem dX6_add_90 : decode cX6_add 90 = .ok (.iadd, 1) := by decide +kernel
theorem dX6_add_91 : decode cX6_add 91 = .ok (.putfield 82, 3) := by decide +kernel
theorem dX6_add_94 : decode cX6_add 94 = .ok (.aload_n 0, 1) := by decide +kernel
theorem dX6_add_95 : decode cX6_add 95 = .ok (.getfield 12, 3) := by decide +kernel
theorem dX6_add_98 : decode cX6_add 98 = .ok (.invokevirtual 79, 3) := by decide +kernel
theorem dX6_add_101 : decode cX6_add 101 = .ok (.aload_n 0, 1) := by decide +kernel
theorem dX6_add_102 : decode cX6_add 102 = .ok (.invokevirtual 65, 3) := by decide +kernel
theorem dX6_add_105 : decode cX6_add 105 = .ok (.aload_n 0, 1) := by decide +kernel
theorem dX6_add_106 : decode cX6_add 106 = .ok (.getfield 12, 3) := by decide +kernel
theorem dX6_add_109 : decode cX6_add 109 = .ok (.getfield 82, 3) := by decide +kernel
theorem dX6_add_112 : decode cX6_add 112 = .ok (.ireturn, 1) := by decide +kernel
theorem dX6_cut_0 : decode cX6_cut 0 = .ok (.iload_n 1, 1) := by decide +kernel
theorem dX6_cut_1 : decode cX6_cut 1 = .ok (.iconst 1, 1) := by decide +kernel
theorem dX6_cut_2 : decode cX6_cut 2 = .ok (.if_icmp .lt 10, 3) := by decide +kernel
theorem dX6_cut_5 : decode cX6_cut 5 = .ok (.iload_n 1, 1) := by decide +kernel
theorem dX6_cut_6 : decode cX6_cut 6 = .ok (.sipush 240, 3) := by decide +kernel
theorem dX6_cut_9 : decode cX6_cut 9 = .ok (.if_icmp .le 6, 3) := by decide +kernel
theorem dX6_cut_12 : decode cX6_cut 12 = .ok (.bipush (-2), 2) := by decide +kernel
theorem dX6_cut_14 : decode cX6_cut 14 = .ok (.ireturn, 1) := by decide +kernel
theorem dX6_cut_15 : decode cX6_cut 15 = .ok (.iload_n 1, 1) := by decide +kernel
theorem dX6_cut_16 : decode cX6_cut 16 = .ok (.aload_n 0, 1) := by decide +kernel
theorem dX6_cut_17 : decode cX6_cut 17 = .ok (.getfield 12, 3) := by decide +kernel
theorem dX6_cut_20 : decode cX6_cut 20 = .ok (.getfield 82, 3) := by decide +kernel
theorem dX6_cut_23 : decode cX6_cut 23 = .ok (.if_icmp .le 6, 3) := by decide +kernel
theorem dX6_cut_26 : decode cX6_cut 26 = .ok (.bipush (-5), 2) := by decide +kernel
theorem dX6_cut_28 : decode cX6_cut 28 = .ok (.ireturn, 1) := by decide +kernel
theorem dX6_cut_29 : decode cX6_cut 29 = .ok (.aload_n 0, 1) := by decide +kernel
theorem dX6_cut_30 : decode cX6_cut 30 = .ok (.getfield 19, 3) := by decide +kernel
theorem dX6_cut_33 : decode cX6_cut 33 = .ok (.aload_n 0, 1) := by decide +kernel
theorem dX6_cut_34 : decode cX6_cut 34 = .ok (.getfield 12, 3) := by decide +kernel
theorem dX6_cut_37 : decode cX6_cut 37 = .ok (.invokevirtual 72, 3) := by decide +kernel
theorem dX6_cut_40 : decode cX6_cut 40 = .ok (.aload_n 0, 1) := by decide +kernel
theorem dX6_cut_41 : decode cX6_cut 41 = .ok (.getfield 12, 3) := by decide +kernel
theorem dX6_cut_44 : decode cX6_cut 44 = .ok (.dup, 1) := by decide +kernel
theorem dX6_cut_45 : decode cX6_cut 45 = .ok (.getfield 82, 3) := by decide +kernel
theorem dX6_cut_48 : decode cX6_cut 48 = .ok (.iload_n 1, 1) := by decide +kernel
theorem dX6_cut_49 : decode cX6_cut 49 = .ok (.isub, 1) := by decide +kernel
theorem dX6_cut_50 : decode cX6_cut 50 = .ok (.putfield 82, 3) := by decide +kernel
theorem dX6_cut_53 : decode cX6_cut 53 = .ok (.aload_n 0, 1) := by decide +kernel
theorem dX6_cut_54 : decode cX6_cut 54 = .ok (.getfield 12, 3) := by decide +kernel
theorem dX6_cut_57 : decode cX6_cut 57 = .ok (.invokevirtual 79, 3) := by decide +kernel
theorem dX6_cut_60 : decode cX6_cut 60 = .ok (.aload_n 0, 1) := by decide +kernel
theorem dX6_cut_61 : decode cX6_cut 61 = .ok (.invokevirtual 65, 3) := by decide +kernel
theorem dX6_cut_64 : decode cX6_cut 64 = .ok (.aload_n 0, 1) := by decide +kernel
theorem dX6_cut_65 : decode cX6_cut 65 = .ok (.getfield 12, 3) := by decide +kernel
theorem dX6_cut_68 : decode cX6_cut 68 = .ok (.getfield 82, 3) := by decide +kernel
theorem dX6_cut_71 : decode cX6_cut 71 = .ok (.ireturn, 1) := by decide +kernel
theorem dX6_spoil_0 : decode cX6_spoil 0 = .ok (.aload_n 0, 1) := by decide +kernel
theorem dX6_spoil_1 : decode cX6_spoil 1 = .ok (.iload_n 1, 1) := by decide +kernel
theorem dX6_spoil_2 : decode cX6_spoil 2 = .ok (.invokevirtual 95, 3) := by decide +kernel
theorem dX6_spoil_5 : decode cX6_spoil 5 = .ok (.ifCond .ne 5, 3) := by decide +kernel
theorem dX6_spoil_8 : decode cX6_spoil 8 = .ok (.iconst (-1), 1) := by decide +kernel
theorem dX6_spoil_9 : decode cX6_spoil 9 = .ok (.ireturn, 1) := by decide +kernel
theorem dX6_spoil_10 : decode cX6_spoil 10 = .ok (.iload_n 2, 1) := by decide +kernel
theorem dX6_spoil_11 : decode cX6_spoil 11 = .ok (.iconst 1, 1) := by decide +kernel
theorem dX6_spoil_12 : decode cX6_spoil 12 = .ok (.if_icmp .lt 10, 3) := by decide +kernel
theorem dX6_spoil_15 : decode cX6_spoil 15 = .ok (.iload_n 2, 1) := by decide +kernel
theorem dX6_spoil_16 : decode cX6_spoil 16 = .ok (.sipush 511, 3) := by decide +kernel
theorem dX6_spoil_19 : decode cX6_spoil 19 = .ok (.if_icmp .le 6, 3) := by decide +kernel
theorem dX6_spoil_22 : decode cX6_spoil 22 = .ok (.bipush (-2), 2) := by decide +kernel
theorem dX6_spoil_24 : decode cX6_spoil 24 = .ok (.ireturn, 1) := by decide +kernel
theorem dX6_spoil_25 : decode cX6_spoil 25 = .ok (.aload_n 0, 1) := by decide +kernel
theorem dX6_spoil_26 : decode cX6_spoil 26 = .ok (.getfield 19, 3) := by decide +kernel
theorem dX6_spoil_29 : decode cX6_spoil 29 = .ok (.aload_n 0, 1) := by decide +kernel
theorem dX6_spoil_30 : decode cX6_spoil 30 = .ok (.getfield 12, 3) := by decide +kernel
theorem dX6_spoil_33 : decode cX6_spoil 33 = .ok (.invokevirtual 72, 3) := by decide +kernel
theorem dX6_spoil_36 : decode cX6_spoil 36 = .ok (.aload_n 0, 1) := by decide +kernel
theorem dX6_spoil_37 : decode cX6_spoil 37 = .ok (.getfield 12, 3) := by decide +kernel
theorem dX6_spoil_40 : decode cX6_spoil 40 = .ok (.getfield 99, 3) := by decide +kernel
theorem dX6_spoil_43 : decode cX6_spoil 43 = .ok (.iload_n 1, 1) := by decide +kernel
theorem dX6_spoil_44 : decode cX6_spoil 44 = .ok (.dup2, 1) := by decide +kernel
theorem dX6_spoil_45 : decode cX6_spoil 45 = .ok (.iaload, 1) := by decide +kernel
theorem dX6_spoil_46 : decode cX6_spoil 46 = .ok (.iload_n 2, 1) := by decide +kernel
theorem dX6_spoil_47 : decode cX6_spoil 47 = .ok (.ixor, 1) := by decide +kernel
theorem dX6_spoil_48 : decode cX6_spoil 48 = .ok (.iastore, 1) := by decide +kernel
theorem dX6_spoil_49 : decode cX6_spoil 49 = .ok (.aload_n 0, 1) := by decide +kernel
theorem dX6_spoil_50 : decode cX6_spoil 50 = .ok (.invokevirtual 65, 3) := by decide +kernel
theorem dX6_spoil_53 : decode cX6_spoil 53 = .ok (.aload_n 0, 1) := by decide +kernel
theorem dX6_spoil_54 : decode cX6_spoil 54 = .ok (.getfield 52, 3) := by decide +kernel
theorem dX6_spoil_57 : decode cX6_spoil 57 = .ok (.iload_n 1, 1) := by decide +kernel
theorem dX6_spoil_58 : decode cX6_spoil 58 = .ok (.iaload, 1) := by decide +kernel
theorem dX6_spoil_59 : decode cX6_spoil 59 = .ok (.ireturn, 1) := by decide +kernel
theorem dX6_sign_0 : decode cX6_sign 0 = .ok (.iload_n 1, 1) := by decide +kernel
theorem dX6_sign_1 : decode cX6_sign 1 = .ok (.ifCond .lt 14, 3) := by decide +kernel
theorem dX6_sign_4 : decode cX6_sign 4 = .ok (.iload_n 1, 1) := by decide +kernel
theorem dX6_sign_5 : decode cX6_sign 5 = .ok (.aload_n 0, 1) := by decide +kernel
theorem dX6_sign_6 : decode cX6_sign 6 = .ok (.getfield 12, 3) := by decide +kernel
theorem dX6_sign_9 : decode cX6_sign 9 = .ok (.getfield 82, 3) := by decide +kernel
theorem dX6_sign_12 : decode cX6_sign 12 = .ok (.if_icmp .lt 7, 3) := by decide +kernel
theorem dX6_sign_15 : decode cX6_sign 15 = .ok (.iconst (-1), 1) := by decide +kernel
theorem dX6_sign_16 : decode cX6_sign 16 = .ok (.goto 12, 3) := by decide +kernel
theorem dX6_sign_19 : decode cX6_sign 19 = .ok (.aload_n 0, 1) := by decide +kernel
theorem dX6_sign_20 : decode cX6_sign 20 = .ok (.getfield 12, 3) := by decide +kernel
theorem dX6_sign_23 : decode cX6_sign 23 = .ok (.getfield 86, 3) := by decide +kernel
theorem dX6_sign_26 : decode cX6_sign 26 = .ok (.iload_n 1, 1) := by decide +kernel
theorem dX6_sign_27 : decode cX6_sign 27 = .ok (.iaload, 1) := by decide +kernel
theorem dX6_sign_28 : decode cX6_sign 28 = .ok (.ireturn, 1) := by decide +kernel
theorem dX6_ofCode_0 : decode cX6_ofCode 0 = .ok (.aload_n 0, 1) := by decide +kernel
theorem dX6_ofCode_1 : decode cX6_ofCode 1 = .ok (.iload_n 1, 1) := by decide +kernel
theorem dX6_ofCode_2 : decode cX6_ofCode 2 = .ok (.invokevirtual 95, 3) := by decide +kernel
theorem dX6_ofCode_5 : decode cX6_ofCode 5 = .ok (.ifCond .ne 5, 3) := by decide +kernel
theorem dX6_ofCode_8 : decode cX6_ofCode 8 = .ok (.iconst (-1), 1) := by decide +kernel
theorem dX6_ofCode_9 : decode cX6_ofCode 9 = .ok (.ireturn, 1) := by decide +kernel
theorem dX6_ofCode_10 : decode cX6_ofCode 10 = .ok (.iload_n 2, 1) := by decide +kernel
theorem dX6_ofCode_11 : decode cX6_ofCode 11 = .ok (.tableswitch 94 0 5 #[37, 47, 54, 64, 74, 84], 37) := by decide +kernel
theorem dX6_ofCode_48 : decode cX6_ofCode 48 = .ok (.aload_n 0, 1) := by decide +kernel
theorem dX6_ofCode_49 : decode cX6_ofCode 49 = .ok (.getfield 41, 3) := by decide +kernel
theorem dX6_ofCode_52 : decode cX6_ofCode 52 = .ok (.getfield 127, 3) := by decide +kernel
theorem dX6_ofCode_55 : decode cX6_ofCode 55 = .ok (.iload_n 1, 1) := by decide +kernel
theorem dX6_ofCode_56 : decode cX6_ofCode 56 = .ok (.iaload, 1) := by decide +kernel
theorem dX6_ofCode_57 : decode cX6_ofCode 57 = .ok (.ireturn, 1) := by decide +kernel
theorem dX6_ofCode_58 : decode cX6_ofCode 58 = .ok (.aload_n 0, 1) := by decide +kernel
theorem dX6_ofCode_59 : decode cX6_ofCode 59 = .ok (.getfield 52, 3) := by decide +kernel
theorem dX6_ofCode_62 : decode cX6_ofCode 62 = .ok (.iload_n 1, 1) := by decide +kernel
theorem dX6_ofCode_63 : decode cX6_ofCode 63 = .ok (.iaload, 1) := by decide +kernel
theorem dX6_ofCode_64 : decode cX6_ofCode 64 = .ok (.ireturn, 1) := by decide +kernel
theorem dX6_ofCode_65 : decode cX6_ofCode 65 = .ok (.aload_n 0, 1) := by decide +kernel
theorem dX6_ofCode_66 : decode cX6_ofCode 66 = .ok (.getfield 41, 3) := by decide +kernel
theorem dX6_ofCode_69 : decode cX6_ofCode 69 = .ok (.getfield 130, 3) := by decide +kernel
theorem dX6_ofCode_72 : decode cX6_ofCode 72 = .ok (.iload_n 1, 1) := by decide +kernel
theorem dX6_ofCode_73 : decode cX6_ofCode 73 = .ok (.iaload, 1) := by decide +kernel
theorem dX6_ofCode_74 : decode cX6_ofCode 74 = .ok (.ireturn, 1) := by decide +kernel
theorem dX6_ofCode_75 : decode cX6_ofCode 75 = .ok (.aload_n 0, 1) := by decide +kernel
theorem dX6_ofCode_76 : decode cX6_ofCode 76 = .ok (.getfield 41, 3) := by decide +kernel
theorem dX6_ofCode_79 : decode cX6_ofCode 79 = .ok (.getfield 133, 3) := by decide +kernel
theorem dX6_ofCode_82 : decode cX6_ofCode 82 = .ok (.iload_n 1, 1) := by decide +kernel
theorem dX6_ofCode_83 : decode cX6_ofCode 83 = .ok (.iaload, 1) := by decide +kernel
theorem dX6_ofCode_84 : decode cX6_ofCode 84 = .ok (.ireturn, 1) := by decide +kernel
theorem dX6_ofCode_85 : decode cX6_ofCode 85 = .ok (.aload_n 0, 1) := by decide +kernel
theorem dX6_ofCode_86 : decode cX6_ofCode 86 = .ok (.getfield 41, 3) := by decide +kernel
theorem dX6_ofCode_89 : decode cX6_ofCode 89 = .ok (.getfield 136, 3) := by decide +kernel
theorem dX6_ofCode_92 : decode cX6_ofCode 92 = .ok (.iload_n 1, 1) := by decide +kernel
theorem dX6_ofCode_93 : decode cX6_ofCode 93 = .ok (.iaload, 1) := by decide +kernel
theorem dX6_ofCode_94 : decode cX6_ofCode 94 = .ok (.ireturn, 1) := by decide +kernel
theorem dX6_ofCode_95 : decode cX6_ofCode 95 = .ok (.aload_n 0, 1) := by decide +kernel
theorem dX6_ofCode_96 : decode cX6_ofCode 96 = .ok (.getfield 41, 3) := by decide +kernel
theorem dX6_ofCode_99 : decode cX6_ofCode 99 = .ok (.getfield 139, 3) := by decide +kernel
theorem dX6_ofCode_102 : decode cX6_ofCode 102 = .ok (.iload_n 1, 1) := by decide +kernel
theorem dX6_ofCode_103 : decode cX6_ofCode 103 = .ok (.iaload, 1) := by decide +kernel
theorem dX6_ofCode_104 : decode cX6_ofCode 104 = .ok (.ireturn, 1) := by decide +kernel
theorem dX6_ofCode_105 : decode cX6_ofCode 105 = .ok (.bipush (-2), 2) := by decide +kernel
theorem dX6_ofCode_107 : decode cX6_ofCode 107 = .ok (.ireturn, 1) := by decide +kernel
theorem dX6_count_0 : decode cX6_count 0 = .ok (.iload_n 1, 1) := by decide +kernel
theorem dX6_count_1 : decode cX6_count 1 = .ok (.tableswitch 168 0 11 #[63, 71, 79, 87, 95, 106, 114, 122, 130, 138, 148, 158], 63) := by decide +kernel
theorem dX6_count_64 : decode cX6_count 64 = .ok (.aload_n 0, 1) := by decide +kernel
theorem dX6_count_65 : decode cX6_count 65 = .ok (.getfield 12, 3) := by decide +kernel
theorem dX6_count_68 : decode cX6_count 68 = .ok (.getfield 82, 3) := by decide +kernel
theorem dX6_count_71 : decode cX6_count 71 = .ok (.ireturn, 1) := by decide +kernel
theorem dX6_count_72 : decode cX6_count 72 = .ok (.aload_n 0, 1) := by decide +kernel
theorem dX6_count_73 : decode cX6_count 73 = .ok (.getfield 41, 3) := by decide +kernel
theorem dX6_count_76 : decode cX6_count 76 = .ok (.getfield 142, 3) := by decide +kernel
theorem dX6_count_79 : decode cX6_count 79 = .ok (.ireturn, 1) := by decide +kernel
theorem dX6_count_80 : decode cX6_count 80 = .ok (.aload_n 0, 1) := by decide +kernel
theorem dX6_count_81 : decode cX6_count 81 = .ok (.getfield 41, 3) := by decide +kernel
theorem dX6_count_84 : decode cX6_count 84 = .ok (.getfield 145, 3) := by decide +kernel
theorem dX6_count_87 : decode cX6_count 87 = .ok (.ireturn, 1) := by decide +kernel
theorem dX6_count_88 : decode cX6_count 88 = .ok (.aload_n 0, 1) := by decide +kernel
theorem dX6_count_89 : decode cX6_count 89 = .ok (.getfield 41, 3) := by decide +kernel
theorem dX6_count_92 : decode cX6_count 92 = .ok (.getfield 148, 3) := by decide +kernel
theorem dX6_count_95 : decode cX6_count 95 = .ok (.ireturn, 1) := by decide +kernel
theorem dX6_count_96 : decode cX6_count 96 = .ok (.aload_n 0, 1) := by decide +kernel
theorem dX6_count_97 : decode cX6_count 97 = .ok (.getfield 41, 3) := by decide +kernel
theorem dX6_count_100 : decode cX6_count 100 = .ok (.getfield 151, 3) := by decide +kernel
theorem dX6_count_103 : decode cX6_count 103 = .ok (.getfield 155, 3) := by decide +kernel
theorem dX6_count_106 : decode cX6_count 106 = .ok (.ireturn, 1) := by decide +kernel
theorem dX6_count_107 : decode cX6_count 107 = .ok (.aload_n 0, 1) := by decide +kernel
theorem dX6_count_108 : decode cX6_count 108 = .ok (.getfield 41, 3) := by decide +kernel
theorem dX6_count_111 : decode cX6_count 111 = .ok (.getfield 160, 3) := by decide +kernel
theorem dX6_count_114 : decode cX6_count 114 = .ok (.ireturn, 1) := by decide +kernel
theorem dX6_count_115 : decode cX6_count 115 = .ok (.aload_n 0, 1) := by decide +kernel
theorem dX6_count_116 : decode cX6_count 116 = .ok (.getfield 12, 3) := by decide +kernel
theorem dX6_count_119 : decode cX6_count 119 = .ok (.invokevirtual 163, 3) := by decide +kernel
theorem dX6_count_122 : decode cX6_count 122 = .ok (.ireturn, 1) := by decide +kernel
theorem dX6_count_123 : decode cX6_count 123 = .ok (.aload_n 0, 1) := by decide +kernel
theorem dX6_count_124 : decode cX6_count 124 = .ok (.getfield 34, 3) := by decide +kernel
theorem dX6_count_127 : decode cX6_count 127 = .ok (.getfield 106, 3) := by decide +kernel
theorem dX6_count_130 : decode cX6_count 130 = .ok (.ireturn, 1) := by decide +kernel
theorem dX6_count_131 : decode cX6_count 131 = .ok (.aload_n 0, 1) := by decide +kernel
theorem dX6_count_132 : decode cX6_count 132 = .ok (.getfield 19, 3) := by decide +kernel
theorem dX6_count_135 : decode cX6_count 135 = .ok (.getfield 166, 3) := by decide +kernel
theorem dX6_count_138 : decode cX6_count 138 = .ok (.ireturn, 1) := by decide +kernel
theorem dX6_count_139 : decode cX6_count 139 = .ok (.aload_n 0, 1) := by decide +kernel
theorem dX6_count_140 : decode cX6_count 140 = .ok (.getfield 12, 3) := by decide +kernel
theorem dX6_count_143 : decode cX6_count 143 = .ok (.getfield 76, 3) := by decide +kernel
theorem dX6_count_146 : decode cX6_count 146 = .ok (.iconst 0, 1) := by decide +kernel
theorem dX6_count_147 : decode cX6_count 147 = .ok (.iaload, 1) := by decide +kernel
theorem dX6_count_148 : decode cX6_count 148 = .ok (.ireturn, 1) := by decide +kernel
theorem dX6_count_149 : decode cX6_count 149 = .ok (.aload_n 0, 1) := by decide +kernel
theorem dX6_count_150 : decode cX6_count 150 = .ok (.getfield 12, 3) := by decide +kernel
theorem dX6_count_153 : decode cX6_count 153 = .ok (.getfield 76, 3) := by decide +kernel
theorem dX6_count_156 : decode cX6_count 156 = .ok (.iconst 1, 1) := by decide +kernel
theorem dX6_count_157 : decode cX6_count 157 = .ok (.iaload, 1) := by decide +kernel
theorem dX6_count_158 : decode cX6_count 158 = .ok (.ireturn, 1) := by decide +kernel
theorem dX6_count_159 : decode cX6_count 159 = .ok (.aload_n 0, 1) := by decide +kernel
theorem dX6_count_160 : decode cX6_count 160 = .ok (.getfield 12, 3) := by decide +kernel
theorem dX6_count_163 : decode cX6_count 163 = .ok (.getfield 76, 3) := by decide +kernel
theorem dX6_count_166 : decode cX6_count 166 = .ok (.iconst 2, 1) := by decide +kernel
theorem dX6_count_167 : decode cX6_count 167 = .ok (.iaload, 1) := by decide +kernel
theorem dX6_count_168 : decode cX6_count 168 = .ok (.ireturn, 1) := by decide +kernel
theorem dX6_count_169 : decode cX6_count 169 = .ok (.bipush (-2), 2) := by decide +kernel
theorem dX6_count_171 : decode cX6_count 171 = .ok (.ireturn, 1) := by decide +kernel
theorem dX6_entry_0 : decode cX6_entry 0 = .ok (.iload_n 1, 1) := by decide +kernel
theorem dX6_entry_1 : decode cX6_entry 1 = .ok (.ifCond .lt 24, 3) := by decide +kernel
theorem dX6_entry_4 : decode cX6_entry 4 = .ok (.iload_n 1, 1) := by decide +kernel
theorem dX6_entry_5 : decode cX6_entry 5 = .ok (.aload_n 0, 1) := by decide +kernel
theorem dX6_entry_6 : decode cX6_entry 6 = .ok (.getfield 41, 3) := by decide +kernel
theorem dX6_entry_9 : decode cX6_entry 9 = .ok (.getfield 151, 3) := by decide +kernel
theorem dX6_entry_12 : decode cX6_entry 12 = .ok (.getfield 155, 3) := by decide +kernel
theorem dX6_entry_15 : decode cX6_entry 15 = .ok (.if_icmp .ge 10, 3) := by decide +kernel
theorem dX6_entry_18 : decode cX6_entry 18 = .ok (.iload_n 1, 1) := by decide +kernel
theorem dX6_entry_19 : decode cX6_entry 19 = .ok (.sipush 512, 3) := by decide +kernel
theorem dX6_entry_22 : decode cX6_entry 22 = .ok (.if_icmp .lt 5, 3) := by decide +kernel
theorem dX6_entry_25 : decode cX6_entry 25 = .ok (.iconst (-1), 1) := by decide +kernel
theorem dX6_entry_26 : decode cX6_entry 26 = .ok (.ireturn, 1) := by decide +kernel
theorem dX6_entry_27 : decode cX6_entry 27 = .ok (.iload_n 2, 1) := by decide +kernel
theorem dX6_entry_28 : decode cX6_entry 28 = .ok (.tableswitch 67 0 2 #[28, 41, 54], 28) := by decide +kernel
theorem dX6_entry_56 : decode cX6_entry 56 = .ok (.aload_n 0, 1) := by decide +kernel
theorem dX6_entry_57 : decode cX6_entry 57 = .ok (.getfield 41, 3) := by decide +kernel
theorem dX6_entry_60 : decode cX6_entry 60 = .ok (.getfield 151, 3) := by decide +kernel
theorem dX6_entry_63 : decode cX6_entry 63 = .ok (.getfield 169, 3) := by decide +kernel
theorem dX6_entry_66 : decode cX6_entry 66 = .ok (.iload_n 1, 1) := by decide +kernel
theorem dX6_entry_67 : decode cX6_entry 67 = .ok (.iaload, 1) := by decide +kernel
theorem dX6_entry_68 : decode cX6_entry 68 = .ok (.ireturn, 1) := by decide +kernel
theorem dX6_entry_69 : decode cX6_entry 69 = .ok (.aload_n 0, 1) := by decide +kernel
theorem dX6_entry_70 : decode cX6_entry 70 = .ok (.getfield 41, 3) := by decide +kernel
theorem dX6_entry_73 : decode cX6_entry 73 = .ok (.getfield 151, 3) := by decide +kernel
theorem dX6_entry_76 : decode cX6_entry 76 = .ok (.getfield 170, 3) := by decide +kernel
theorem dX6_entry_79 : decode cX6_entry 79 = .ok (.iload_n 1, 1) := by decide +kernel
theorem dX6_entry_80 : decode cX6_entry 80 = .ok (.iaload, 1) := by decide +kernel
theorem dX6_entry_81 : decode cX6_entry 81 = .ok (.ireturn, 1) := by decide +kernel
theorem dX6_entry_82 : decode cX6_entry 82 = .ok (.aload_n 0, 1) := by decide +kernel
theorem dX6_entry_83 : decode cX6_entry 83 = .ok (.getfield 41, 3) := by decide +kernel
theorem dX6_entry_86 : decode cX6_entry 86 = .ok (.getfield 151, 3) := by decide +kernel
theorem dX6_entry_89 : decode cX6_entry 89 = .ok (.getfield 173, 3) := by decide +kernel
theorem dX6_entry_92 : decode cX6_entry 92 = .ok (.iload_n 1, 1) := by decide +kernel
theorem dX6_entry_93 : decode cX6_entry 93 = .ok (.iaload, 1) := by decide +kernel
theorem dX6_entry_94 : decode cX6_entry 94 = .ok (.ireturn, 1) := by decide +kernel
theorem dX6_entry_95 : decode cX6_entry 95 = .ok (.bipush (-2), 2) := by decide +kernel
theorem dX6_entry_97 : decode cX6_entry 97 = .ok (.ireturn, 1) := by decide +kernel
theorem dX6_reading_0 : decode cX6_reading 0 = .ok (.iload_n 1, 1) := by decide +kernel
theorem dX6_reading_1 : decode cX6_reading 1 = .ok (.tableswitch 101 0 5 #[39, 47, 55, 63, 71, 79], 39) := by decide +kernel
theorem dX6_reading_40 : decode cX6_reading 40 = .ok (.aload_n 0, 1) := by decide +kernel
theorem dX6_reading_41 : decode cX6_reading 41 = .ok (.getfield 48, 3) := by decide +kernel
theorem dX6_reading_44 : decode cX6_reading 44 = .ok (.getfield 176, 3) := by decide +kernel
theorem dX6_reading_47 : decode cX6_reading 47 = .ok (.ireturn, 1) := by decide +kernel
theorem dX6_reading_48 : decode cX6_reading 48 = .ok (.aload_n 0, 1) := by decide +kernel
theorem dX6_reading_49 : decode cX6_reading 49 = .ok (.getfield 48, 3) := by decide +kernel
theorem dX6_reading_52 : decode cX6_reading 52 = .ok (.getfield 179, 3) := by decide +kernel
theorem dX6_reading_55 : decode cX6_reading 55 = .ok (.ireturn, 1) := by decide +kernel
theorem dX6_reading_56 : decode cX6_reading 56 = .ok (.aload_n 0, 1) := by decide +kernel
theorem dX6_reading_57 : decode cX6_reading 57 = .ok (.getfield 48, 3) := by decide +kernel
theorem dX6_reading_60 : decode cX6_reading 60 = .ok (.getfield 182, 3) := by decide +kernel
theorem dX6_reading_63 : decode cX6_reading 63 = .ok (.ireturn, 1) := by decide +kernel
theorem dX6_reading_64 : decode cX6_reading 64 = .ok (.aload_n 0, 1) := by decide +kernel
theorem dX6_reading_65 : decode cX6_reading 65 = .ok (.getfield 48, 3) := by decide +kernel
theorem dX6_reading_68 : decode cX6_reading 68 = .ok (.getfield 185, 3) := by decide +kernel
theorem dX6_reading_71 : decode cX6_reading 71 = .ok (.ireturn, 1) := by decide +kernel
theorem dX6_reading_72 : decode cX6_reading 72 = .ok (.aload_n 0, 1) := by decide +kernel
theorem dX6_reading_73 : decode cX6_reading 73 = .ok (.getfield 48, 3) := by decide +kernel
theorem dX6_reading_76 : decode cX6_reading 76 = .ok (.getfield 186, 3) := by decide +kernel
theorem dX6_reading_79 : decode cX6_reading 79 = .ok (.ireturn, 1) := by decide +kernel
theorem dX6_reading_80 : decode cX6_reading 80 = .ok (.aload_n 0, 1) := by decide +kernel
theorem dX6_reading_81 : decode cX6_reading 81 = .ok (.getfield 48, 3) := by decide +kernel
theorem dX6_reading_84 : decode cX6_reading 84 = .ok (.aload_n 0, 1) := by decide +kernel
theorem dX6_reading_85 : decode cX6_reading 85 = .ok (.getfield 12, 3) := by decide +kernel
theorem dX6_reading_88 : decode cX6_reading 88 = .ok (.getfield 86, 3) := by decide +kernel
theorem dX6_reading_91 : decode cX6_reading 91 = .ok (.aload_n 0, 1) := by decide +kernel
theorem dX6_reading_92 : decode cX6_reading 92 = .ok (.getfield 12, 3) := by decide +kernel
theorem dX6_reading_95 : decode cX6_reading 95 = .ok (.getfield 82, 3) := by decide +kernel
theorem dX6_reading_98 : decode cX6_reading 98 = .ok (.invokevirtual 189, 3) := by decide +kernel
theorem dX6_reading_101 : decode cX6_reading 101 = .ok (.ireturn, 1) := by decide +kernel
theorem dX6_reading_102 : decode cX6_reading 102 = .ok (.bipush (-2), 2) := by decide +kernel
theorem dX6_reading_104 : decode cX6_reading 104 = .ok (.ireturn, 1) := by decide +kernel
theorem dX6_read_0 : decode cX6_read 0 = .ok (.iload_n 1, 1) := by decide +kernel
theorem dX6_read_1 : decode cX6_read 1 = .ok (.ifCond .lt 20, 3) := by decide +kernel
theorem dX6_read_4 : decode cX6_read 4 = .ok (.iload_n 1, 1) := by decide +kernel
theorem dX6_read_5 : decode cX6_read 5 = .ok (.aload_n 0, 1) := by decide +kernel
theorem dX6_read_6 : decode cX6_read 6 = .ok (.getfield 48, 3) := by decide +kernel
theorem dX6_read_9 : decode cX6_read 9 = .ok (.getfield 176, 3) := by decide +kernel
theorem dX6_read_12 : decode cX6_read 12 = .ok (.if_icmp .ge 9, 3) := by decide +kernel
theorem dX6_read_15 : decode cX6_read 15 = .ok (.iload_n 1, 1) := by decide +kernel
theorem dX6_read_16 : decode cX6_read 16 = .ok (.ldc 193, 2) := by decide +kernel
theorem dX6_read_18 : decode cX6_read 18 = .ok (.if_icmp .lt 7, 3) := by decide +kernel
theorem dX6_read_21 : decode cX6_read 21 = .ok (.iconst (-1), 1) := by decide +kernel
theorem dX6_read_22 : decode cX6_read 22 = .ok (.goto 12, 3) := by decide +kernel
theorem dX6_read_25 : decode cX6_read 25 = .ok (.aload_n 0, 1) := by decide +kernel
theorem dX6_read_26 : decode cX6_read 26 = .ok (.getfield 48, 3) := by decide +kernel
theorem dX6_read_29 : decode cX6_read 29 = .ok (.getfield 194, 3) := by decide +kernel
theorem dX6_read_32 : decode cX6_read 32 = .ok (.iload_n 1, 1) := by decide +kernel
theorem dX6_read_33 : decode cX6_read 33 = .ok (.iaload, 1) := by decide +kernel
theorem dX6_read_34 : decode cX6_read 34 = .ok (.ireturn, 1) := by decide +kernel
theorem dX6_isSetting_0 : decode cX6_isSetting 0 = .ok (.iload_n 0, 1) := by decide +kernel
theorem dX6_isSetting_1 : decode cX6_isSetting 1 = .ok (.ifCond .lt 30, 3) := by decide +kernel
theorem dX6_isSetting_4 : decode cX6_isSetting 4 = .ok (.iload_n 0, 1) := by decide +kernel
theorem dX6_isSetting_5 : decode cX6_isSetting 5 = .ok (.iconst 2, 1) := by decide +kernel
theorem dX6_isSetting_6 : decode cX6_isSetting 6 = .ok (.if_icmp .gt 25, 3) := by decide +kernel
theorem dX6_isSetting_9 : decode cX6_isSetting 9 = .ok (.iload_n 1, 1) := by decide +kernel
theorem dX6_isSetting_10 : decode cX6_isSetting 10 = .ok (.getstatic 200, 3) := by decide +kernel
theorem dX6_isSetting_13 : decode cX6_isSetting 13 = .ok (.iload_n 0, 1) := by decide +kernel
theorem dX6_isSetting_14 : decode cX6_isSetting 14 = .ok (.iaload, 1) := by decide +kernel
theorem dX6_isSetting_15 : decode cX6_isSetting 15 = .ok (.if_icmp .lt 16, 3) := by decide +kernel
theorem dX6_isSetting_18 : decode cX6_isSetting 18 = .ok (.iload_n 1, 1) := by decide +kernel
theorem dX6_isSetting_19 : decode cX6_isSetting 19 = .ok (.getstatic 203, 3) := by decide +kernel
theorem dX6_isSetting_22 : decode cX6_isSetting 22 = .ok (.iload_n 0, 1) := by decide +kernel
theorem dX6_isSetting_23 : decode cX6_isSetting 23 = .ok (.iaload, 1) := by decide +kernel
theorem dX6_isSetting_24 : decode cX6_isSetting 24 = .ok (.if_icmp .gt 7, 3) := by decide +kernel
theorem dX6_isSetting_27 : decode cX6_isSetting 27 = .ok (.iconst 1, 1) := by decide +kernel
theorem dX6_isSetting_28 : decode cX6_isSetting 28 = .ok (.goto 4, 3) := by decide +kernel
theorem dX6_isSetting_31 : decode cX6_isSetting 31 = .ok (.iconst 0, 1) := by decide +kernel
theorem dX6_isSetting_32 : decode cX6_isSetting 32 = .ok (.ireturn, 1) := by decide +kernel
theorem dX6_isCode_0 : decode cX6_isCode 0 = .ok (.iload_n 1, 1) := by decide +kernel
theorem dX6_isCode_1 : decode cX6_isCode 1 = .ok (.ifCond .lt 25, 3) := by decide +kernel
theorem dX6_isCode_4 : decode cX6_isCode 4 = .ok (.iload_n 1, 1) := by decide +kernel
theorem dX6_isCode_5 : decode cX6_isCode 5 = .ok (.aload_n 0, 1) := by decide +kernel
theorem dX6_isCode_6 : decode cX6_isCode 6 = .ok (.getfield 41, 3) := by decide +kernel
theorem dX6_isCode_9 : decode cX6_isCode 9 = .ok (.getfield 142, 3) := by decide +kernel
theorem dX6_isCode_12 : decode cX6_isCode 12 = .ok (.if_icmp .ge 14, 3) := by decide +kernel
theorem dX6_isCode_15 : decode cX6_isCode 15 = .ok (.iload_n 1, 1) := by decide +kernel
theorem dX6_isCode_16 : decode cX6_isCode 16 = .ok (.sipush 281, 3) := by decide +kernel
theorem dX6_isCode_19 : decode cX6_isCode 19 = .ok (.if_icmp .ge 7, 3) := by decide +kernel
theorem dX6_isCode_22 : decode cX6_isCode 22 = .ok (.iconst 1, 1) := by decide +kernel
theorem dX6_isCode_23 : decode cX6_isCode 23 = .ok (.goto 4, 3) := by decide +kernel
theorem dX6_isCode_26 : decode cX6_isCode 26 = .ok (.iconst 0, 1) := by decide +kernel
theorem dX6_isCode_27 : decode cX6_isCode 27 = .ok (.ireturn, 1) := by decide +kernel
theorem dX6_refresh_0 : decode cX6_refresh 0 = .ok (.aload_n 0, 1) := by decide +kernel
theorem dX6_refresh_1 : decode cX6_refresh 1 = .ok (.getfield 41, 3) := by decide +kernel
theorem dX6_refresh_4 : decode cX6_refresh 4 = .ok (.aload_n 0, 1) := by decide +kernel
theorem dX6_refresh_5 : decode cX6_refresh 5 = .ok (.getfield 12, 3) := by decide +kernel
theorem dX6_refresh_8 : decode cX6_refresh 8 = .ok (.getfield 86, 3) := by decide +kernel
theorem dX6_refresh_11 : decode cX6_refresh 11 = .ok (.aload_n 0, 1) := by decide +kernel
theorem dX6_refresh_12 : decode cX6_refresh 12 = .ok (.getfield 12, 3) := by decide +kernel
theorem dX6_refresh_15 : decode cX6_refresh 15 = .ok (.getfield 82, 3) := by decide +kernel
theorem dX6_refresh_18 : decode cX6_refresh 18 = .ok (.aload_n 0, 1) := by decide +kernel
theorem dX6_refresh_19 : decode cX6_refresh 19 = .ok (.getfield 12, 3) := by decide +kernel
theorem dX6_refresh_22 : decode cX6_refresh 22 = .ok (.getfield 76, 3) := by decide +kernel
theorem dX6_refresh_25 : decode cX6_refresh 25 = .ok (.iconst 0, 1) := by decide +kernel
theorem dX6_refresh_26 : decode cX6_refresh 26 = .ok (.iaload, 1) := by decide +kernel
theorem dX6_refresh_27 : decode cX6_refresh 27 = .ok (.aload_n 0, 1) := by decide +kernel
theorem dX6_refresh_28 : decode cX6_refresh 28 = .ok (.getfield 12, 3) := by decide +kernel
theorem dX6_refresh_31 : decode cX6_refresh 31 = .ok (.getfield 76, 3) := by decide +kernel
theorem dX6_refresh_34 : decode cX6_refresh 34 = .ok (.iconst 1, 1) := by decide +kernel
theorem dX6_refresh_35 : decode cX6_refresh 35 = .ok (.iaload, 1) := by decide +kernel
theorem dX6_refresh_36 : decode cX6_refresh 36 = .ok (.aload_n 0, 1) := by decide +kernel
theorem dX6_refresh_37 : decode cX6_refresh 37 = .ok (.getfield 12, 3) := by decide +kernel
theorem dX6_refresh_40 : decode cX6_refresh 40 = .ok (.getfield 76, 3) := by decide +kernel
theorem dX6_refresh_43 : decode cX6_refresh 43 = .ok (.iconst 2, 1) := by decide +kernel
theorem dX6_refresh_44 : decode cX6_refresh 44 = .ok (.iaload, 1) := by decide +kernel
theorem dX6_refresh_45 : decode cX6_refresh 45 = .ok (.invokevirtual 217, 3) := by decide +kernel
theorem dX6_refresh_48 : decode cX6_refresh 48 = .ok (.iconst 0, 1) := by decide +kernel
theorem dX6_refresh_49 : decode cX6_refresh 49 = .ok (.istore_n 1, 1) := by decide +kernel
theorem dX6_refresh_50 : decode cX6_refresh 50 = .ok (.iload_n 1, 1) := by decide +kernel
theorem dX6_refresh_51 : decode cX6_refresh 51 = .ok (.aload_n 0, 1) := by decide +kernel
theorem dX6_refresh_52 : decode cX6_refresh 52 = .ok (.getfield 41, 3) := by decide +kernel
theorem dX6_refresh_55 : decode cX6_refresh 55 = .ok (.getfield 142, 3) := by decide +kernel
theorem dX6_refresh_58 : decode cX6_refresh 58 = .ok (.if_icmp .ge 34, 3) := by decide +kernel
theorem dX6_refresh_61 : decode cX6_refresh 61 = .ok (.aload_n 0, 1) := by decide +kernel
theorem dX6_refresh_62 : decode cX6_refresh 62 = .ok (.getfield 52, 3) := by decide +kernel
theorem dX6_refresh_65 : decode cX6_refresh 65 = .ok (.iload_n 1, 1) := by decide +kernel
theorem dX6_refresh_66 : decode cX6_refresh 66 = .ok (.aload_n 0, 1) := by decide +kernel
theorem dX6_refresh_67 : decode cX6_refresh 67 = .ok (.getfield 41, 3) := by decide +kernel
theorem dX6_refresh_70 : decode cX6_refresh 70 = .ok (.getfield 127, 3) := by decide +kernel
theorem dX6_refresh_73 : decode cX6_refresh 73 = .ok (.iload_n 1, 1) := by decide +kernel
theorem dX6_refresh_74 : decode cX6_refresh 74 = .ok (.iaload, 1) := by decide +kernel
theorem dX6_refresh_75 : decode cX6_refresh 75 = .ok (.aload_n 0, 1) := by decide +kernel
theorem dX6_refresh_76 : decode cX6_refresh 76 = .ok (.getfield 12, 3) := by decide +kernel
theorem dX6_refresh_79 : decode cX6_refresh 79 = .ok (.getfield 99, 3) := by decide +kernel
theorem dX6_refresh_82 : decode cX6_refresh 82 = .ok (.iload_n 1, 1) := by decide +kernel
theorem dX6_refresh_83 : decode cX6_refresh 83 = .ok (.iaload, 1) := by decide +kernel
theorem dX6_refresh_84 : decode cX6_refresh 84 = .ok (.ixor, 1) := by decide +kernel
theorem dX6_refresh_85 : decode cX6_refresh 85 = .ok (.iastore, 1) := by decide +kernel
theorem dX6_refresh_86 : decode cX6_refresh 86 = .ok (.iinc 1 1, 3) := by decide +kernel
theorem dX6_refresh_89 : decode cX6_refresh 89 = .ok (.goto (-39), 3) := by decide +kernel
theorem dX6_refresh_92 : decode cX6_refresh 92 = .ok (.aload_n 0, 1) := by decide +kernel
theorem dX6_refresh_93 : decode cX6_refresh 93 = .ok (.getfield 48, 3) := by decide +kernel
theorem dX6_refresh_96 : decode cX6_refresh 96 = .ok (.aload_n 0, 1) := by decide +kernel
theorem dX6_refresh_97 : decode cX6_refresh 97 = .ok (.getfield 52, 3) := by decide +kernel
theorem dX6_refresh_100 : decode cX6_refresh 100 = .ok (.aload_n 0, 1) := by decide +kernel
theorem dX6_refresh_101 : decode cX6_refresh 101 = .ok (.getfield 41, 3) := by decide +kernel
theorem dX6_refresh_104 : decode cX6_refresh 104 = .ok (.getfield 142, 3) := by decide +kernel
theorem dX6_refresh_107 : decode cX6_refresh 107 = .ok (.aload_n 0, 1) := by decide +kernel
theorem dX6_refresh_108 : decode cX6_refresh 108 = .ok (.getfield 12, 3) := by decide +kernel
theorem dX6_refresh_111 : decode cX6_refresh 111 = .ok (.getfield 76, 3) := by decide +kernel
theorem dX6_refresh_114 : decode cX6_refresh 114 = .ok (.iconst 0, 1) := by decide +kernel
theorem dX6_refresh_115 : decode cX6_refresh 115 = .ok (.iaload, 1) := by decide +kernel
theorem dX6_refresh_116 : decode cX6_refresh 116 = .ok (.invokevirtual 221, 3) := by decide +kernel
theorem dX6_refresh_119 : decode cX6_refresh 119 = .ok (.return_, 1) := by decide +kernel
theorem dX6_copyState_0 : decode cX6_copyState 0 = .ok (.aload_n 0, 1) := by decide +kernel
theorem dX6_copyState_1 : decode cX6_copyState 1 = .ok (.ifnull 7, 3) := by decide +kernel
theorem dX6_copyState_4 : decode cX6_copyState 4 = .ok (.aload_n 1, 1) := by decide +kernel
theorem dX6_copyState_5 : decode cX6_copyState 5 = .ok (.ifnonnull 4, 3) := by decide +kernel
theorem dX6_copyState_8 : decode cX6_copyState 8 = .ok (.return_, 1) := by decide +kernel
theorem dX6_copyState_9 : decode cX6_copyState 9 = .ok (.aload_n 0, 1) := by decide +kernel
theorem dX6_copyState_10 : decode cX6_copyState 10 = .ok (.getfield 76, 3) := by decide +kernel
theorem dX6_copyState_13 : decode cX6_copyState 13 = .ok (.iconst 0, 1) := by decide +kernel
theorem dX6_copyState_14 : decode cX6_copyState 14 = .ok (.aload_n 1, 1) := by decide +kernel
theorem dX6_copyState_15 : decode cX6_copyState 15 = .ok (.getfield 76, 3) := by decide +kernel
theorem dX6_copyState_18 : decode cX6_copyState 18 = .ok (.iconst 0, 1) := by decide +kernel
theorem dX6_copyState_19 : decode cX6_copyState 19 = .ok (.aload_n 0, 1) := by decide +kernel
theorem dX6_copyState_20 : decode cX6_copyState 20 = .ok (.getfield 76, 3) := by decide +kernel
theorem dX6_copyState_23 : decode cX6_copyState 23 = .ok (.arraylength, 1) := by decide +kernel
theorem dX6_copyState_24 : decode cX6_copyState 24 = .ok (.invokestatic 121, 3) := by decide +kernel
theorem dX6_copyState_27 : decode cX6_copyState 27 = .ok (.aload_n 0, 1) := by decide +kernel
theorem dX6_copyState_28 : decode cX6_copyState 28 = .ok (.getfield 86, 3) := by decide +kernel
theorem dX6_copyState_31 : decode cX6_copyState 31 = .ok (.iconst 0, 1) := by decide +kernel
theorem dX6_copyState_32 : decode cX6_copyState 32 = .ok (.aload_n 1, 1) := by decide +kernel
theorem dX6_copyState_33 : decode cX6_copyState 33 = .ok (.getfield 86, 3) := by decide +kernel
theorem dX6_copyState_36 : decode cX6_copyState 36 = .ok (.iconst 0, 1) := by decide +kernel
theorem dX6_copyState_37 : decode cX6_copyState 37 = .ok (.sipush 240, 3) := by decide +kernel
theorem dX6_copyState_40 : decode cX6_copyState 40 = .ok (.invokestatic 121, 3) := by decide +kernel
theorem dX6_copyState_43 : decode cX6_copyState 43 = .ok (.aload_n 0, 1) := by decide +kernel
theorem dX6_copyState_44 : decode cX6_copyState 44 = .ok (.getfield 99, 3) := by decide +kernel
theorem dX6_copyState_47 : decode cX6_copyState 47 = .ok (.iconst 0, 1) := by decide +kernel
theorem dX6_copyState_48 : decode cX6_copyState 48 = .ok (.aload_n 1, 1) := by decide +kernel
theorem dX6_copyState_49 : decode cX6_copyState 49 = .ok (.getfield 99, 3) := by decide +kernel
theorem dX6_copyState_52 : decode cX6_copyState 52 = .ok (.iconst 0, 1) := by decide +kernel
theorem dX6_copyState_53 : decode cX6_copyState 53 = .ok (.sipush 281, 3) := by decide +kernel
theorem dX6_copyState_56 : decode cX6_copyState 56 = .ok (.invokestatic 121, 3) := by decide +kernel
theorem dX6_copyState_59 : decode cX6_copyState 59 = .ok (.aload_n 1, 1) := by decide +kernel
theorem dX6_copyState_60 : decode cX6_copyState 60 = .ok (.aload_n 0, 1) := by decide +kernel
theorem dX6_copyState_61 : decode cX6_copyState 61 = .ok (.getfield 82, 3) := by decide +kernel
theorem dX6_copyState_64 : decode cX6_copyState 64 = .ok (.putfield 82, 3) := by decide +kernel
theorem dX6_copyState_67 : decode cX6_copyState 67 = .ok (.return_, 1) := by decide +kernel
theorem dJ9_max_7cf53_0 : decode cJ9_max_7cf53 0 = .ok (.iload_n 0, 1) := by decide +kernel
theorem dJ9_max_7cf53_1 : decode cJ9_max_7cf53 1 = .ok (.iload_n 1, 1) := by decide +kernel
theorem dJ9_max_7cf53_2 : decode cJ9_max_7cf53 2 = .ok (.if_icmp .lt 7, 3) := by decide +kernel
theorem dJ9_max_7cf53_5 : decode cJ9_max_7cf53 5 = .ok (.iload_n 0, 1) := by decide +kernel
theorem dJ9_max_7cf53_6 : decode cJ9_max_7cf53 6 = .ok (.goto 4, 3) := by decide +kernel
theorem dJ9_max_7cf53_9 : decode cJ9_max_7cf53 9 = .ok (.iload_n 1, 1) := by decide +kernel
theorem dJ9_max_7cf53_10 : decode cJ9_max_7cf53 10 = .ok (.ireturn, 1) := by decide +kernel
theorem dJ9_min_7cf53_0 : decode cJ9_min_7cf53 0 = .ok (.iload_n 0, 1) := by decide +kernel
theorem dJ9_min_7cf53_1 : decode cJ9_min_7cf53 1 = .ok (.iload_n 1, 1) := by decide +kernel
theorem dJ9_min_7cf53_2 : decode cJ9_min_7cf53 2 = .ok (.if_icmp .gt 7, 3) := by decide +kernel
theorem dJ9_min_7cf53_5 : decode cJ9_min_7cf53 5 = .ok (.iload_n 0, 1) := by decide +kernel
theorem dJ9_min_7cf53_6 : decode cJ9_min_7cf53 6 = .ok (.goto 4, 3) := by decide +kernel
theorem dJ9_min_7cf53_9 : decode cJ9_min_7cf53 9 = .ok (.iload_n 1, 1) := by decide +kernel
theorem dJ9_min_7cf53_10 : decode cJ9_min_7cf53 10 = .ok (.ireturn, 1) := by decide +kernel
theorem dJ7_rangeCheck_23922_0 : decode cJ7_rangeCheck_23922 0 = .ok (.iload_n 1, 1) := by decide +kernel
theorem dJ7_rangeCheck_23922_1 : decode cJ7_rangeCheck_23922 1 = .ok (.iload_n 2, 1) := by decide +kernel
theorem dJ7_rangeCheck_23922_2 : decode cJ7_rangeCheck_23922 2 = .ok (.if_icmp .le 44, 3) := by decide +kernel
theorem dJ7_rangeCheck_23922_5 : decode cJ7_rangeCheck_23922 5 = .ok (.new 43, 3) := by decide +kernel
theorem dJ7_rangeCheck_23922_8 : decode cJ7_rangeCheck_23922 8 = .ok (.dup, 1) := by decide +kernel
theorem dJ7_rangeCheck_23922_9 : decode cJ7_rangeCheck_23922 9 = .ok (.new 45, 3) := by decide +kernel
theorem dJ7_rangeCheck_23922_12 : decode cJ7_rangeCheck_23922 12 = .ok (.dup, 1) := by decide +kernel
theorem dJ7_rangeCheck_23922_13 : decode cJ7_rangeCheck_23922 13 = .ok (.invokespecial 47, 3) := by decide +kernel
theorem dJ7_rangeCheck_23922_16 : decode cJ7_rangeCheck_23922 16 = .ok (.ldc 48, 2) := by decide +kernel
theorem dJ7_rangeCheck_23922_18 : decode cJ7_rangeCheck_23922 18 = .ok (.invokevirtual 50, 3) := by decide +kernel
theorem dJ7_rangeCheck_23922_21 : decode cJ7_rangeCheck_23922 21 = .ok (.iload_n 1, 1) := by decide +kernel
theorem dJ7_rangeCheck_23922_22 : decode cJ7_rangeCheck_23922 22 = .ok (.invokevirtual 54, 3) := by decide +kernel
theorem dJ7_rangeCheck_23922_25 : decode cJ7_rangeCheck_23922 25 = .ok (.ldc 57, 2) := by decide +kernel
theorem dJ7_rangeCheck_23922_27 : decode cJ7_rangeCheck_23922 27 = .ok (.invokevirtual 50, 3) := by decide +kernel
theorem dJ7_rangeCheck_23922_30 : decode cJ7_rangeCheck_23922 30 = .ok (.iload_n 2, 1) := by decide +kernel
theorem dJ7_rangeCheck_23922_31 : decode cJ7_rangeCheck_23922 31 = .ok (.invokevirtual 54, 3) := by decide +kernel
theorem dJ7_rangeCheck_23922_34 : decode cJ7_rangeCheck_23922 34 = .ok (.ldc 59, 2) := by decide +kernel
theorem dJ7_rangeCheck_23922_36 : decode cJ7_rangeCheck_23922 36 = .ok (.invokevirtual 50, 3) := by decide +kernel
theorem dJ7_rangeCheck_23922_39 : decode cJ7_rangeCheck_23922 39 = .ok (.invokevirtual 61, 3) := by decide +kernel
theorem dJ7_rangeCheck_23922_42 : decode cJ7_rangeCheck_23922 42 = .ok (.invokespecial 65, 3) := by decide +kernel
theorem dJ7_rangeCheck_23922_45 : decode cJ7_rangeCheck_23922 45 = .ok (.athrow, 1) := by decide +kernel
theorem dJ7_rangeCheck_23922_46 : decode cJ7_rangeCheck_23922 46 = .ok (.iload_n 1, 1) := by decide +kernel
theorem dJ7_rangeCheck_23922_47 : decode cJ7_rangeCheck_23922 47 = .ok (.ifCond .ge 12, 3) := by decide +kernel
theorem dJ7_rangeCheck_23922_50 : decode cJ7_rangeCheck_23922 50 = .ok (.new 68, 3) := by decide +kernel
theorem dJ7_rangeCheck_23922_53 : decode cJ7_rangeCheck_23922 53 = .ok (.dup, 1) := by decide +kernel
theorem dJ7_rangeCheck_23922_54 : decode cJ7_rangeCheck_23922 54 = .ok (.iload_n 1, 1) := by decide +kernel
theorem dJ7_rangeCheck_23922_55 : decode cJ7_rangeCheck_23922 55 = .ok (.invokespecial 70, 3) := by decide +kernel
theorem dJ7_rangeCheck_23922_58 : decode cJ7_rangeCheck_23922 58 = .ok (.athrow, 1) := by decide +kernel
theorem dJ7_rangeCheck_23922_59 : decode cJ7_rangeCheck_23922 59 = .ok (.iload_n 2, 1) := by decide +kernel
theorem dJ7_rangeCheck_23922_60 : decode cJ7_rangeCheck_23922 60 = .ok (.iload_n 0, 1) := by decide +kernel
theorem dJ7_rangeCheck_23922_61 : decode cJ7_rangeCheck_23922 61 = .ok (.if_icmp .le 12, 3) := by decide +kernel
theorem dJ7_rangeCheck_23922_64 : decode cJ7_rangeCheck_23922 64 = .ok (.new 68, 3) := by decide +kernel
theorem dJ7_rangeCheck_23922_67 : decode cJ7_rangeCheck_23922 67 = .ok (.dup, 1) := by decide +kernel
theorem dJ7_rangeCheck_23922_68 : decode cJ7_rangeCheck_23922 68 = .ok (.iload_n 2, 1) := by decide +kernel
theorem dJ7_rangeCheck_23922_69 : decode cJ7_rangeCheck_23922 69 = .ok (.invokespecial 70, 3) := by decide +kernel
theorem dJ7_rangeCheck_23922_72 : decode cJ7_rangeCheck_23922 72 = .ok (.athrow, 1) := by decide +kernel
theorem dJ7_rangeCheck_23922_73 : decode cJ7_rangeCheck_23922 73 = .ok (.return_, 1) := by decide +kernel
theorem dJ7_fill_53178_0 : decode cJ7_fill_53178 0 = .ok (.iconst 0, 1) := by decide +kernel
theorem dJ7_fill_53178_1 : decode cJ7_fill_53178 1 = .ok (.istore_n 2, 1) := by decide +kernel
theorem dJ7_fill_53178_2 : decode cJ7_fill_53178 2 = .ok (.aload_n 0, 1) := by decide +kernel
theorem dJ7_fill_53178_3 : decode cJ7_fill_53178 3 = .ok (.arraylength, 1) := by decide +kernel
theorem dJ7_fill_53178_4 : decode cJ7_fill_53178 4 = .ok (.istore_n 3, 1) := by decide +kernel
theorem dJ7_fill_53178_5 : decode cJ7_fill_53178 5 = .ok (.iload_n 2, 1) := by decide +kernel
theorem dJ7_fill_53178_6 : decode cJ7_fill_53178 6 = .ok (.iload_n 3, 1) := by decide +kernel
theorem dJ7_fill_53178_7 : decode cJ7_fill_53178 7 = .ok (.if_icmp .ge 13, 3) := by decide +kernel
theorem dJ7_fill_53178_10 : decode cJ7_fill_53178 10 = .ok (.aload_n 0, 1) := by decide +kernel
theorem dJ7_fill_53178_11 : decode cJ7_fill_53178 11 = .ok (.iload_n 2, 1) := by decide +kernel
theorem dJ7_fill_53178_12 : decode cJ7_fill_53178 12 = .ok (.iload_n 1, 1) := by decide +kernel
theorem dJ7_fill_53178_13 : decode cJ7_fill_53178 13 = .ok (.iastore, 1) := by decide +kernel
theorem dJ7_fill_53178_14 : decode cJ7_fill_53178 14 = .ok (.iinc 2 1, 3) := by decide +kernel
theorem dJ7_fill_53178_17 : decode cJ7_fill_53178 17 = .ok (.goto (-12), 3) := by decide +kernel
theorem dJ7_fill_53178_20 : decode cJ7_fill_53178 20 = .ok (.return_, 1) := by decide +kernel
theorem dJ7_fill_fda19_0 : decode cJ7_fill_fda19 0 = .ok (.aload_n 0, 1) := by decide +kernel
theorem dJ7_fill_fda19_1 : decode cJ7_fill_fda19 1 = .ok (.arraylength, 1) := by decide +kernel
theorem dJ7_fill_fda19_2 : decode cJ7_fill_fda19 2 = .ok (.iload_n 1, 1) := by decide +kernel
theorem dJ7_fill_fda19_3 : decode cJ7_fill_fda19 3 = .ok (.iload_n 2, 1) := by decide +kernel
theorem dJ7_fill_fda19_4 : decode cJ7_fill_fda19 4 = .ok (.invokestatic 13, 3) := by decide +kernel
theorem dJ7_fill_fda19_7 : decode cJ7_fill_fda19 7 = .ok (.iload_n 1, 1) := by decide +kernel
theorem dJ7_fill_fda19_8 : decode cJ7_fill_fda19 8 = .ok (.istore 4, 2) := by decide +kernel
theorem dJ7_fill_fda19_10 : decode cJ7_fill_fda19 10 = .ok (.iload 4, 2) := by decide +kernel
theorem dJ7_fill_fda19_12 : decode cJ7_fill_fda19 12 = .ok (.iload_n 2, 1) := by decide +kernel
theorem dJ7_fill_fda19_13 : decode cJ7_fill_fda19 13 = .ok (.if_icmp .ge 14, 3) := by decide +kernel
theorem dJ7_fill_fda19_16 : decode cJ7_fill_fda19 16 = .ok (.aload_n 0, 1) := by decide +kernel
theorem dJ7_fill_fda19_17 : decode cJ7_fill_fda19 17 = .ok (.iload 4, 2) := by decide +kernel
theorem dJ7_fill_fda19_19 : decode cJ7_fill_fda19 19 = .ok (.iload_n 3, 1) := by decide +kernel
theorem dJ7_fill_fda19_20 : decode cJ7_fill_fda19 20 = .ok (.iastore, 1) := by decide +kernel
theorem dJ7_fill_fda19_21 : decode cJ7_fill_fda19 21 = .ok (.iinc 4 1, 3) := by decide +kernel
theorem dJ7_fill_fda19_24 : decode cJ7_fill_fda19 24 = .ok (.goto (-14), 3) := by decide +kernel
theorem dJ7_fill_fda19_27 : decode cJ7_fill_fda19 27 = .ok (.return_, 1) := by decide +kernel
theorem dL_cell_0 : decode cL_cell 0 = .ok (.aload_n 0, 1) := by decide +kernel
theorem dL_cell_1 : decode cL_cell 1 = .ok (.arraylength, 1) := by decide +kernel
theorem dL_cell_2 : decode cL_cell 2 = .ok (.ifCond .ne 12, 3) := by decide +kernel
theorem dL_cell_5 : decode cL_cell 5 = .ok (.iload_n 1, 1) := by decide +kernel
theorem dL_cell_6 : decode cL_cell 6 = .ok (.bipush 37, 2) := by decide +kernel
theorem dL_cell_8 : decode cL_cell 8 = .ok (.imul, 1) := by decide +kernel
theorem dL_cell_9 : decode cL_cell 9 = .ok (.iconst 5, 1) := by decide +kernel
theorem dL_cell_10 : decode cL_cell 10 = .ok (.iadd, 1) := by decide +kernel
theorem dL_cell_11 : decode cL_cell 11 = .ok (.goto 17, 3) := by decide +kernel
theorem dL_cell_14 : decode cL_cell 14 = .ok (.aload_n 0, 1) := by decide +kernel
theorem dL_cell_15 : decode cL_cell 15 = .ok (.iload_n 1, 1) := by decide +kernel
theorem dL_cell_16 : decode cL_cell 16 = .ok (.aload_n 0, 1) := by decide +kernel
theorem dL_cell_17 : decode cL_cell 17 = .ok (.arraylength, 1) := by decide +kernel
theorem dL_cell_18 : decode cL_cell 18 = .ok (.irem, 1) := by decide +kernel
theorem dL_cell_19 : decode cL_cell 19 = .ok (.iaload, 1) := by decide +kernel
theorem dL_cell_20 : decode cL_cell 20 = .ok (.iload_n 1, 1) := by decide +kernel
theorem dL_cell_21 : decode cL_cell 21 = .ok (.bipush 7, 2) := by decide +kernel
theorem dL_cell_23 : decode cL_cell 23 = .ok (.irem, 1) := by decide +kernel
theorem dL_cell_24 : decode cL_cell 24 = .ok (.ishr, 1) := by decide +kernel
theorem dL_cell_25 : decode cL_cell 25 = .ok (.ldc 7, 2) := by decide +kernel
theorem dL_cell_27 : decode cL_cell 27 = .ok (.iand, 1) := by decide +kernel
theorem dL_cell_28 : decode cL_cell 28 = .ok (.iload_n 2, 1) := by decide +kernel
theorem dL_cell_29 : decode cL_cell 29 = .ok (.irem, 1) := by decide +kernel
theorem dL_cell_30 : decode cL_cell 30 = .ok (.ireturn, 1) := by decide +kernel
theorem dL_bits_0 : decode cL_bits 0 = .ok (.iconst 4, 1) := by decide +kernel
theorem dL_bits_1 : decode cL_bits 1 = .ok (.istore_n 1, 1) := by decide +kernel
theorem dL_bits_2 : decode cL_bits 2 = .ok (.iload_n 0, 1) := by decide +kernel
theorem dL_bits_3 : decode cL_bits 3 = .ok (.iconst 1, 1) := by decide +kernel
theorem dL_bits_4 : decode cL_bits 4 = .ok (.isub, 1) := by decide +kernel
theorem dL_bits_5 : decode cL_bits 5 = .ok (.iconst 1, 1) := by decide +kernel
theorem dL_bits_6 : decode cL_bits 6 = .ok (.iload_n 1, 1) := by decide +kernel
theorem dL_bits_7 : decode cL_bits 7 = .ok (.ishl, 1) := by decide +kernel
theorem dL_bits_8 : decode cL_bits 8 = .ok (.if_icmp .lt 9, 3) := by decide +kernel
theorem dL_bits_11 : decode cL_bits 11 = .ok (.iinc 1 1, 3) := by decide +kernel
theorem dL_bits_14 : decode cL_bits 14 = .ok (.goto (-12), 3) := by decide +kernel
theorem dL_bits_17 : decode cL_bits 17 = .ok (.iload_n 1, 1) := by decide +kernel
theorem dL_bits_18 : decode cL_bits 18 = .ok (.ireturn, 1) := by decide +kernel
theorem dL_isAlike_0 : decode cL_isAlike 0 = .ok (.iload_n 1, 1) := by decide +kernel
theorem dL_isAlike_1 : decode cL_isAlike 1 = .ok (.iload_n 3, 1) := by decide +kernel
theorem dL_isAlike_2 : decode cL_isAlike 2 = .ok (.iadd, 1) := by decide +kernel
theorem dL_isAlike_3 : decode cL_isAlike 3 = .ok (.aload_n 0, 1) := by decide +kernel
theorem dL_isAlike_4 : decode cL_isAlike 4 = .ok (.iconst 0, 1) := by decide +kernel
theorem dL_isAlike_5 : decode cL_isAlike 5 = .ok (.invokevirtual 8, 3) := by decide +kernel
theorem dL_isAlike_8 : decode cL_isAlike 8 = .ok (.if_icmp .gt 18, 3) := by decide +kernel
theorem dL_isAlike_11 : decode cL_isAlike 11 = .ok (.iload_n 2, 1) := by decide +kernel
theorem dL_isAlike_12 : decode cL_isAlike 12 = .ok (.iload_n 3, 1) := by decide +kernel
theorem dL_isAlike_13 : decode cL_isAlike 13 = .ok (.iadd, 1) := by decide +kernel
theorem dL_isAlike_14 : decode cL_isAlike 14 = .ok (.aload_n 0, 1) := by decide +kernel
theorem dL_isAlike_15 : decode cL_isAlike 15 = .ok (.iconst 0, 1) := by decide +kernel
theorem dL_isAlike_16 : decode cL_isAlike 16 = .ok (.invokevirtual 8, 3) := by decide +kernel
theorem dL_isAlike_19 : decode cL_isAlike 19 = .ok (.if_icmp .gt 7, 3) := by decide +kernel
theorem dL_isAlike_22 : decode cL_isAlike 22 = .ok (.iconst 1, 1) := by decide +kernel
theorem dL_isAlike_23 : decode cL_isAlike 23 = .ok (.goto 4, 3) := by decide +kernel
theorem dL_isAlike_26 : decode cL_isAlike 26 = .ok (.iconst 0, 1) := by decide +kernel
theorem dL_isAlike_27 : decode cL_isAlike 27 = .ok (.istore 4, 2) := by decide +kernel
theorem dL_isAlike_29 : decode cL_isAlike 29 = .ok (.iconst 0, 1) := by decide +kernel
theorem dL_isAlike_30 : decode cL_isAlike 30 = .ok (.istore 5, 2) := by decide +kernel
theorem dL_isAlike_32 : decode cL_isAlike 32 = .ok (.iload 5, 2) := by decide +kernel
theorem dL_isAlike_34 : decode cL_isAlike 34 = .ok (.iload_n 3, 1) := by decide +kernel
theorem dL_isAlike_35 : decode cL_isAlike 35 = .ok (.if_icmp .ge 40, 3) := by decide +kernel
theorem dL_isAlike_38 : decode cL_isAlike 38 = .ok (.iload 4, 2) := by decide +kernel
theorem dL_isAlike_40 : decode cL_isAlike 40 = .ok (.ifCond .eq 35, 3) := by decide +kernel
theorem dL_isAlike_43 : decode cL_isAlike 43 = .ok (.aload_n 0, 1) := by decide +kernel
theorem dL_isAlike_44 : decode cL_isAlike 44 = .ok (.iload_n 1, 1) := by decide +kernel
theorem dL_isAlike_45 : decode cL_isAlike 45 = .ok (.iload 5, 2) := by decide +kernel
theorem dL_isAlike_47 : decode cL_isAlike 47 = .ok (.iadd, 1) := by decide +kernel
theorem dL_isAlike_48 : decode cL_isAlike 48 = .ok (.invokevirtual 14, 3) := by decide +kernel
theorem dL_isAlike_51 : decode cL_isAlike 51 = .ok (.aload_n 0, 1) := by decide +kernel
theorem dL_isAlike_52 : decode cL_isAlike 52 = .ok (.iload_n 2, 1) := by decide +kernel
theorem dL_isAlike_53 : decode cL_isAlike 53 = .ok (.iload 5, 2) := by decide +kernel
theorem dL_isAlike_55 : decode cL_isAlike 55 = .ok (.iadd, 1) := by decide +kernel
theorem dL_isAlike_56 : decode cL_isAlike 56 = .ok (.invokevirtual 14, 3) := by decide +kernel
theorem dL_isAlike_59 : decode cL_isAlike 59 = .ok (.if_icmp .ne 7, 3) := by decide +kernel
theorem dL_isAlike_62 : decode cL_isAlike 62 = .ok (.iconst 1, 1) := by decide +kernel
theorem dL_isAlike_63 : decode cL_isAlike 63 = .ok (.goto 4, 3) := by decide +kernel
theorem dL_isAlike_66 : decode cL_isAlike 66 = .ok (.iconst 0, 1) := by decide +kernel
theorem dL_isAlike_67 : decode cL_isAlike 67 = .ok (.istore 4, 2) := by decide +kernel
theorem dL_isAlike_69 : decode cL_isAlike 69 = .ok (.iinc 5 1, 3) := by decide +kernel
theorem dL_isAlike_72 : decode cL_isAlike 72 = .ok (.goto (-40), 3) := by decide +kernel
theorem dL_isAlike_75 : decode cL_isAlike 75 = .ok (.iload 4, 2) := by decide +kernel
theorem dL_isAlike_77 : decode cL_isAlike 77 = .ok (.ireturn, 1) := by decide +kernel
theorem dL_areCodes_0 : decode cL_areCodes 0 = .ok (.aload_n 0, 1) := by decide +kernel
theorem dL_areCodes_1 : decode cL_areCodes 1 = .ok (.iconst 1, 1) := by decide +kernel
theorem dL_areCodes_2 : decode cL_areCodes 2 = .ok (.invokevirtual 8, 3) := by decide +kernel
theorem dL_areCodes_5 : decode cL_areCodes 5 = .ok (.istore_n 1, 1) := by decide +kernel
theorem dL_areCodes_6 : decode cL_areCodes 6 = .ok (.aload_n 0, 1) := by decide +kernel
theorem dL_areCodes_7 : decode cL_areCodes 7 = .ok (.iconst 0, 1) := by decide +kernel
theorem dL_areCodes_8 : decode cL_areCodes 8 = .ok (.invokevirtual 8, 3) := by decide +kernel
theorem dL_areCodes_11 : decode cL_areCodes 11 = .ok (.istore_n 2, 1) := by decide +kernel
theorem dL_areCodes_12 : decode cL_areCodes 12 = .ok (.iconst 1, 1) := by decide +kernel
theorem dL_areCodes_13 : decode cL_areCodes 13 = .ok (.aload_n 0, 1) := by decide +kernel
theorem dL_areCodes_14 : decode cL_areCodes 14 = .ok (.bipush 9, 2) := by decide +kernel
theorem dL_areCodes_16 : decode cL_areCodes 16 = .ok (.invokevirtual 8, 3) := by decide +kernel
theorem dL_areCodes_19 : decode cL_areCodes 19 = .ok (.ishl, 1) := by decide +kernel
theorem dL_areCodes_20 : decode cL_areCodes 20 = .ok (.istore_n 3, 1) := by decide +kernel
theorem dL_areCodes_21 : decode cL_areCodes 21 = .ok (.aload_n 0, 1) := by decide +kernel
theorem dL_areCodes_22 : decode cL_areCodes 22 = .ok (.bipush 10, 2) := by decide +kernel
theorem dL_areCodes_24 : decode cL_areCodes 24 = .ok (.invokevirtual 8, 3) := by decide +kernel
theorem dL_areCodes_27 : decode cL_areCodes 27 = .ok (.istore 4, 2) := by decide +kernel
theorem dL_areCodes_29 : decode cL_areCodes 29 = .ok (.aload_n 0, 1) := by decide +kernel
theorem dL_areCodes_30 : decode cL_areCodes 30 = .ok (.bipush 11, 2) := by decide +kernel
theorem dL_areCodes_32 : decode cL_areCodes 32 = .ok (.invokevirtual 8, 3) := by decide +kernel
theorem dL_areCodes_35 : decode cL_areCodes 35 = .ok (.istore 5, 2) := by decide +kernel
theorem dL_areCodes_37 : decode cL_areCodes 37 = .ok (.bipush 64, 2) := by decide +kernel
theorem dL_areCodes_39 : decode cL_areCodes 39 = .ok (.newarray .int, 2) := by decide +kernel
theorem dL_areCodes_41 : decode cL_areCodes 41 = .ok (.astore 6, 2) := by decide +kernel
theorem dL_areCodes_43 : decode cL_areCodes 43 = .ok (.bipush 64, 2) := by decide +kernel
theorem dL_areCodes_45 : decode cL_areCodes 45 = .ok (.newarray .int, 2) := by decide +kernel
theorem dL_areCodes_47 : decode cL_areCodes 47 = .ok (.astore 7, 2) := by decide +kernel
theorem dL_areCodes_49 : decode cL_areCodes 49 = .ok (.bipush 64, 2) := by decide +kernel
theorem dL_areCodes_51 : decode cL_areCodes 51 = .ok (.newarray .int, 2) := by decide +kernel
theorem dL_areCodes_53 : decode cL_areCodes 53 = .ok (.astore 8, 2) := by decide +kernel
theorem dL_areCodes_55 : decode cL_areCodes 55 = .ok (.iconst 0, 1) := by decide +kernel
theorem dL_areCodes_56 : decode cL_areCodes 56 = .ok (.istore 9, 2) := by decide +kernel
theorem dL_areCodes_58 : decode cL_areCodes 58 = .ok (.iload 9, 2) := by decide +kernel
theorem dL_areCodes_60 : decode cL_areCodes 60 = .ok (.iload_n 1, 1) := by decide +kernel
theorem dL_areCodes_61 : decode cL_areCodes 61 = .ok (.if_icmp .ge 45, 3) := by decide +kernel
theorem dL_areCodes_64 : decode cL_areCodes 64 = .ok (.aload 6, 2) := by decide +kernel
theorem dL_areCodes_66 : decode cL_areCodes 66 = .ok (.iload 9, 2) := by decide +kernel
theorem dL_areCodes_68 : decode cL_areCodes 68 = .ok (.aload_n 0, 1) := by decide +kernel
theorem dL_areCodes_69 : decode cL_areCodes 69 = .ok (.iload 9, 2) := by decide +kernel
theorem dL_areCodes_71 : decode cL_areCodes 71 = .ok (.iconst 0, 1) := by decide +kernel
theorem dL_areCodes_72 : decode cL_areCodes 72 = .ok (.invokevirtual 17, 3) := by decide +kernel
theorem dL_areCodes_75 : decode cL_areCodes 75 = .ok (.iastore, 1) := by decide +kernel
theorem dL_areCodes_76 : decode cL_areCodes 76 = .ok (.aload 7, 2) := by decide +kernel
theorem dL_areCodes_78 : decode cL_areCodes 78 = .ok (.iload 9, 2) := by decide +kernel
theorem dL_areCodes_80 : decode cL_areCodes 80 = .ok (.aload_n 0, 1) := by decide +kernel
theorem dL_areCodes_81 : decode cL_areCodes 81 = .ok (.iload 9, 2) := by decide +kernel
theorem dL_areCodes_83 : decode cL_areCodes 83 = .ok (.iconst 3, 1) := by decide +kernel
theorem dL_areCodes_84 : decode cL_areCodes 84 = .ok (.invokevirtual 17, 3) := by decide +kernel
theorem dL_areCodes_87 : decode cL_areCodes 87 = .ok (.iastore, 1) := by decide +kernel
theorem dL_areCodes_88 : decode cL_areCodes 88 = .ok (.aload 8, 2) := by decide +kernel
theorem dL_areCodes_90 : decode cL_areCodes 90 = .ok (.iload 9, 2) := by decide +kernel
theorem dL_areCodes_92 : decode cL_areCodes 92 = .ok (.aload_n 0, 1) := by decide +kernel
theorem dL_areCodes_93 : decode cL_areCodes 93 = .ok (.iload 9, 2) := by decide +kernel
theorem dL_areCodes_95 : decode cL_areCodes 95 = .ok (.iconst 4, 1) := by decide +kernel
theorem dL_areCodes_96 : decode cL_areCodes 96 = .ok (.invokevirtual 17, 3) := by decide +kernel
theorem dL_areCodes_99 : decode cL_areCodes 99 = .ok (.iastore, 1) := by decide +kernel
theorem dL_areCodes_100 : decode cL_areCodes 100 = .ok (.iinc 9 1, 3) := by decide +kernel
theorem dL_areCodes_103 : decode cL_areCodes 103 = .ok (.goto (-45), 3) := by decide +kernel
theorem dL_areCodes_106 : decode cL_areCodes 106 = .ok (.iconst 0, 1) := by decide +kernel
theorem dL_areCodes_107 : decode cL_areCodes 107 = .ok (.istore 9, 2) := by decide +kernel
theorem dL_areCodes_109 : decode cL_areCodes 109 = .ok (.iconst 0, 1) := by decide +kernel
theorem dL_areCodes_110 : decode cL_areCodes 110 = .ok (.istore 10, 2) := by decide +kernel
theorem dL_areCodes_112 : decode cL_areCodes 112 = .ok (.bipush 10, 2) := by decide +kernel
theorem dL_areCodes_114 : decode cL_areCodes 114 = .ok (.istore 11, 2) := by decide +kernel
theorem dL_areCodes_116 : decode cL_areCodes 116 = .ok (.iconst 0, 1) := by decide +kernel
theorem dL_areCodes_117 : decode cL_areCodes 117 = .ok (.istore 12, 2) := by decide +kernel
theorem dL_areCodes_119 : decode cL_areCodes 119 = .ok (.iconst 0, 1) := by decide +kernel
theorem dL_areCodes_120 : decode cL_areCodes 120 = .ok (.istore 13, 2) := by decide +kernel
theorem dL_areCodes_122 : decode cL_areCodes 122 = .ok (.iconst 0, 1) := by decide +kernel
theorem dL_areCodes_123 : decode cL_areCodes 123 = .ok (.istore 14, 2) := by decide +kernel
theorem dL_areCodes_125 : decode cL_areCodes 125 = .ok (.iconst 0, 1) := by decide +kernel
theorem dL_areCodes_126 : decode cL_areCodes 126 = .ok (.istore 15, 2) := by decide +kernel
theorem dL_areCodes_128 : decode cL_areCodes 128 = .ok (.iconst 0, 1) := by decide +kernel
theorem dL_areCodes_129 : decode cL_areCodes 129 = .ok (.istore 16, 2) := by decide +kernel
theorem dL_areCodes_131 : decode cL_areCodes 131 = .ok (.iconst 0, 1) := by decide +kernel
theorem dL_areCodes_132 : decode cL_areCodes 132 = .ok (.istore 17, 2) := by decide +kernel
theorem dL_areCodes_134 : decode cL_areCodes 134 = .ok (.iload 17, 2) := by decide +kernel
theorem dL_areCodes_136 : decode cL_areCodes 136 = .ok (.iload_n 1, 1) := by decide +kernel
theorem dL_areCodes_137 : decode cL_areCodes 137 = .ok (.if_icmp .ge 558, 3) := by decide +kernel
theorem dL_areCodes_140 : decode cL_areCodes 140 = .ok (.iload 13, 2) := by decide +kernel
theorem dL_areCodes_142 : decode cL_areCodes 142 = .ok (.iload 11, 2) := by decide +kernel
theorem dL_areCodes_144 : decode cL_areCodes 144 = .ok (.invokestatic 21, 3) := by decide +kernel
theorem dL_areCodes_147 : decode cL_areCodes 147 = .ok (.iadd, 1) := by decide +kernel
theorem dL_areCodes_148 : decode cL_areCodes 148 = .ok (.istore 13, 2) := by decide +kernel
theorem dL_areCodes_150 : decode cL_areCodes 150 = .ok (.aload_n 0, 1) := by decide +kernel
theorem dL_areCodes_151 : decode cL_areCodes 151 = .ok (.iload 17, 2) := by decide +kernel
theorem dL_areCodes_153 : decode cL_areCodes 153 = .ok (.iconst 5, 1) := by decide +kernel
theorem dL_areCodes_154 : decode cL_areCodes 154 = .ok (.invokevirtual 17, 3) := by decide +kernel
theorem dL_areCodes_157 : decode cL_areCodes 157 = .ok (.iload 11, 2) := by decide +kernel
theorem dL_areCodes_159 : decode cL_areCodes 159 = .ok (.if_icmp .ne 18, 3) := by decide +kernel
theorem dL_areCodes_162 : decode cL_areCodes 162 = .ok (.aload_n 0, 1) := by decide +kernel
theorem dL_areCodes_163 : decode cL_areCodes 163 = .ok (.iload 17, 2) := by decide +kernel
theorem dL_areCodes_165 : decode cL_areCodes 165 = .ok (.iconst 2, 1) := by decide +kernel
theorem dL_areCodes_166 : decode cL_areCodes 166 = .ok (.invokevirtual 17, 3) := by decide +kernel
theorem dL_areCodes_169 : decode cL_areCodes 169 = .ok (.iload 11, 2) := by decide +kernel
theorem dL_areCodes_171 : decode cL_areCodes 171 = .ok (.invokestatic 21, 3) := by decide +kernel
theorem dL_areCodes_174 : decode cL_areCodes 174 = .ok (.if_icmp .eq 5, 3) := by decide +kernel
theorem dL_areCodes_177 : decode cL_areCodes 177 = .ok (.iconst 0, 1) := by decide +kernel
theorem dL_areCodes_178 : decode cL_areCodes 178 = .ok (.ireturn, 1) := by decide +kernel
theorem dL_areCodes_179 : decode cL_areCodes 179 = .ok (.iload 16, 2) := by decide +kernel
theorem dL_areCodes_181 : decode cL_areCodes 181 = .ok (.ifCond .ne 9, 3) := by decide +kernel
theorem dL_areCodes_184 : decode cL_areCodes 184 = .ok (.iload 9, 2) := by decide +kernel
theorem dL_areCodes_186 : decode cL_areCodes 186 = .ok (.iload_n 2, 1) := by decide +kernel
theorem dL_areCodes_187 : decode cL_areCodes 187 = .ok (.if_icmp .ne 97, 3) := by decide +kernel
theorem dL_areCodes_190 : decode cL_areCodes 190 = .ok (.aload 6, 2) := by decide +kernel
theorem dL_areCodes_192 : decode cL_areCodes 192 = .ok (.iload 17, 2) := by decide +kernel
theorem dL_areCodes_194 : decode cL_areCodes 194 = .ok (.iaload, 1) := by decide +kernel
theorem dL_areCodes_195 : decode cL_areCodes 195 = .ok (.iload 16, 2) := by decide +kernel
theorem dL_areCodes_197 : decode cL_areCodes 197 = .ok (.ifCond .eq 8, 3) := by decide +kernel
theorem dL_areCodes_200 : decode cL_areCodes 200 = .ok (.bipush 8, 2) := by decide +kernel
theorem dL_areCodes_202 : decode cL_areCodes 202 = .ok (.goto 5, 3) := by decide +kernel
theorem dL_areCodes_205 : decode cL_areCodes 205 = .ok (.bipush 9, 2) := by decide +kernel
theorem dL_areCodes_207 : decode cL_areCodes 207 = .ok (.if_icmp .ne 34, 3) := by decide +kernel
theorem dL_areCodes_210 : decode cL_areCodes 210 = .ok (.aload 7, 2) := by decide +kernel
theorem dL_areCodes_212 : decode cL_areCodes 212 = .ok (.iload 17, 2) := by decide +kernel
theorem dL_areCodes_214 : decode cL_areCodes 214 = .ok (.iaload, 1) := by decide +kernel
theorem dL_areCodes_215 : decode cL_areCodes 215 = .ok (.bipush (-6), 2) := by decide +kernel
theorem dL_areCodes_217 : decode cL_areCodes 217 = .ok (.if_icmp .ne 24, 3) := by decide +kernel
theorem dL_areCodes_220 : decode cL_areCodes 220 = .ok (.aload 8, 2) := by decide +kernel
theorem dL_areCodes_222 : decode cL_areCodes 222 = .ok (.iload 17, 2) := by decide +kernel
theorem dL_areCodes_224 : decode cL_areCodes 224 = .ok (.iaload, 1) := by decide +kernel
theorem dL_areCodes_225 : decode cL_areCodes 225 = .ok (.ifCond .ne 16, 3) := by decide +kernel
theorem dL_areCodes_228 : decode cL_areCodes 228 = .ok (.iload 16, 2) := by decide +kernel
theorem dL_areCodes_230 : decode cL_areCodes 230 = .ok (.ifCond .ne 13, 3) := by decide +kernel
theorem dL_areCodes_233 : decode cL_areCodes 233 = .ok (.iload 17, 2) := by decide +kernel
theorem dL_areCodes_235 : decode cL_areCodes 235 = .ok (.iload_n 1, 1) := by decide +kernel
theorem dL_areCodes_236 : decode cL_areCodes 236 = .ok (.iconst 1, 1) := by decide +kernel
theorem dL_areCodes_237 : decode cL_areCodes 237 = .ok (.isub, 1) := by decide +kernel
theorem dL_areCodes_238 : decode cL_areCodes 238 = .ok (.if_icmp .eq 5, 3) := by decide +kernel
theorem dL_areCodes_241 : decode cL_areCodes 241 = .ok (.iconst 0, 1) := by decide +kernel
theorem dL_areCodes_242 : decode cL_areCodes 242 = .ok (.ireturn, 1) := by decide +kernel
theorem dL_areCodes_243 : decode cL_areCodes 243 = .ok (.iload 14, 2) := by decide +kernel
theorem dL_areCodes_245 : decode cL_areCodes 245 = .ok (.iload 16, 2) := by decide +kernel
theorem dL_areCodes_247 : decode cL_areCodes 247 = .ok (.ifCond .eq 7, 3) := by decide +kernel
theorem dL_areCodes_250 : decode cL_areCodes 250 = .ok (.iconst 1, 1) := by decide +kernel
theorem dL_areCodes_251 : decode cL_areCodes 251 = .ok (.goto 4, 3) := by decide +kernel
theorem dL_areCodes_254 : decode cL_areCodes 254 = .ok (.iconst 0, 1) := by decide +kernel
theorem dL_areCodes_255 : decode cL_areCodes 255 = .ok (.iadd, 1) := by decide +kernel
theorem dL_areCodes_256 : decode cL_areCodes 256 = .ok (.istore 14, 2) := by decide +kernel
theorem dL_areCodes_258 : decode cL_areCodes 258 = .ok (.iload 16, 2) := by decide +kernel
theorem dL_areCodes_260 : decode cL_areCodes 260 = .ok (.ifCond .eq 8, 3) := by decide +kernel
theorem dL_areCodes_263 : decode cL_areCodes 263 = .ok (.bipush 10, 2) := by decide +kernel
theorem dL_areCodes_265 : decode cL_areCodes 265 = .ok (.goto 5, 3) := by decide +kernel
theorem dL_areCodes_268 : decode cL_areCodes 268 = .ok (.iload 11, 2) := by decide +kernel
theorem dL_areCodes_270 : decode cL_areCodes 270 = .ok (.istore 11, 2) := by decide +kernel
theorem dL_areCodes_272 : decode cL_areCodes 272 = .ok (.iload 17, 2) := by decide +kernel
theorem dL_areCodes_274 : decode cL_areCodes 274 = .ok (.iconst 1, 1) := by decide +kernel
theorem dL_areCodes_275 : decode cL_areCodes 275 = .ok (.iadd, 1) := by decide +kernel
theorem dL_areCodes_276 : decode cL_areCodes 276 = .ok (.istore 10, 2) := by decide +kernel
theorem dL_areCodes_278 : decode cL_areCodes 278 = .ok (.iconst 0, 1) := by decide +kernel
theorem dL_areCodes_279 : decode cL_areCodes 279 = .ok (.istore 16, 2) := by decide +kernel
theorem dL_areCodes_281 : decode cL_areCodes 281 = .ok (.goto 408, 3) := by decide +kernel
theorem dL_areCodes_284 : decode cL_areCodes 284 = .ok (.aload 6, 2) := by decide +kernel
theorem dL_areCodes_286 : decode cL_areCodes 286 = .ok (.iload 17, 2) := by decide +kernel
theorem dL_areCodes_288 : decode cL_areCodes 288 = .ok (.iaload, 1) := by decide +kernel
theorem dL_areCodes_289 : decode cL_areCodes 289 = .ok (.istore 18, 2) := by decide +kernel
theorem dL_areCodes_291 : decode cL_areCodes 291 = .ok (.aload 7, 2) := by decide +kernel
theorem dL_areCodes_293 : decode cL_areCodes 293 = .ok (.iload 17, 2) := by decide +kernel
theorem dL_areCodes_295 : decode cL_areCodes 295 = .ok (.iaload, 1) := by decide +kernel
theorem dL_areCodes_296 : decode cL_areCodes 296 = .ok (.iload 9, 2) := by decide +kernel
theorem dL_areCodes_298 : decode cL_areCodes 298 = .ok (.if_icmp .ne 71, 3) := by decide +kernel
theorem dL_areCodes_301 : decode cL_areCodes 301 = .ok (.iload 18, 2) := by decide +kernel
theorem dL_areCodes_303 : decode cL_areCodes 303 = .ok (.bipush 8, 2) := by decide +kernel
theorem dL_areCodes_305 : decode cL_areCodes 305 = .ok (.if_icmp .eq 64, 3) := by decide +kernel
theorem dL_areCodes_308 : decode cL_areCodes 308 = .ok (.iload 18, 2) := by decide +kernel
theorem dL_areCodes_310 : decode cL_areCodes 310 = .ok (.bipush 9, 2) := by decide +kernel
theorem dL_areCodes_312 : decode cL_areCodes 312 = .ok (.if_icmp .eq 57, 3) := by decide +kernel
theorem dL_areCodes_315 : decode cL_areCodes 315 = .ok (.iload 18, 2) := by decide +kernel
theorem dL_areCodes_317 : decode cL_areCodes 317 = .ok (.iload 11, 2) := by decide +kernel
theorem dL_areCodes_319 : decode cL_areCodes 319 = .ok (.if_icmp .ge 50, 3) := by decide +kernel
theorem dL_areCodes_322 : decode cL_areCodes 322 = .ok (.iload 18, 2) := by decide +kernel
theorem dL_areCodes_324 : decode cL_areCodes 324 = .ok (.bipush 8, 2) := by decide +kernel
theorem dL_areCodes_326 : decode cL_areCodes 326 = .ok (.if_icmp .ge 7, 3) := by decide +kernel
theorem dL_areCodes_329 : decode cL_areCodes 329 = .ok (.iconst 1, 1) := by decide +kernel
theorem dL_areCodes_330 : decode cL_areCodes 330 = .ok (.goto 4, 3) := by decide +kernel
theorem dL_areCodes_333 : decode cL_areCodes 333 = .ok (.iconst 0, 1) := by decide +kernel
theorem dL_areCodes_334 : decode cL_areCodes 334 = .ok (.aload 8, 2) := by decide +kernel
theorem dL_areCodes_336 : decode cL_areCodes 336 = .ok (.iload 17, 2) := by decide +kernel
theorem dL_areCodes_338 : decode cL_areCodes 338 = .ok (.iaload, 1) := by decide +kernel
theorem dL_areCodes_339 : decode cL_areCodes 339 = .ok (.iconst 1, 1) := by decide +kernel
theorem dL_areCodes_340 : decode cL_areCodes 340 = .ok (.if_icmp .ne 7, 3) := by decide +kernel
theorem dL_areCodes_343 : decode cL_areCodes 343 = .ok (.iconst 1, 1) := by decide +kernel
theorem dL_areCodes_344 : decode cL_areCodes 344 = .ok (.goto 4, 3) := by decide +kernel
theorem dL_areCodes_347 : decode cL_areCodes 347 = .ok (.iconst 0, 1) := by decide +kernel
theorem dL_areCodes_348 : decode cL_areCodes 348 = .ok (.if_icmp .ne 21, 3) := by decide +kernel
theorem dL_areCodes_351 : decode cL_areCodes 351 = .ok (.iload 18, 2) := by decide +kernel
theorem dL_areCodes_353 : decode cL_areCodes 353 = .ok (.bipush 8, 2) := by decide +kernel
theorem dL_areCodes_355 : decode cL_areCodes 355 = .ok (.if_icmp .ge 16, 3) := by decide +kernel
theorem dL_areCodes_358 : decode cL_areCodes 358 = .ok (.iload 18, 2) := by decide +kernel
theorem dL_areCodes_360 : decode cL_areCodes 360 = .ok (.aload_n 0, 1) := by decide +kernel
theorem dL_areCodes_361 : decode cL_areCodes 361 = .ok (.iload 9, 2) := by decide +kernel
theorem dL_areCodes_363 : decode cL_areCodes 363 = .ok (.invokevirtual 14, 3) := by decide +kernel
theorem dL_areCodes_366 : decode cL_areCodes 366 = .ok (.if_icmp .eq 5, 3) := by decide +kernel
theorem dL_areCodes_369 : decode cL_areCodes 369 = .ok (.iconst 0, 1) := by decide +kernel
theorem dL_areCodes_370 : decode cL_areCodes 370 = .ok (.ireturn, 1) := by decide +kernel
theorem dL_areCodes_371 : decode cL_areCodes 371 = .ok (.iload 18, 2) := by decide +kernel
theorem dL_areCodes_373 : decode cL_areCodes 373 = .ok (.bipush 10, 2) := by decide +kernel
theorem dL_areCodes_375 : decode cL_areCodes 375 = .ok (.if_icmp .lt 51, 3) := by decide +kernel
theorem dL_areCodes_378 : decode cL_areCodes 378 = .ok (.aload 8, 2) := by decide +kernel
theorem dL_areCodes_380 : decode cL_areCodes 380 = .ok (.iload 17, 2) := by decide +kernel
theorem dL_areCodes_382 : decode cL_areCodes 382 = .ok (.iaload, 1) := by decide +kernel
theorem dL_areCodes_383 : decode cL_areCodes 383 = .ok (.aload 8, 2) := by decide +kernel
theorem dL_areCodes_385 : decode cL_areCodes 385 = .ok (.iload 10, 2) := by decide +kernel
theorem dL_areCodes_387 : decode cL_areCodes 387 = .ok (.iload 18, 2) := by decide +kernel
theorem dL_areCodes_389 : decode cL_areCodes 389 = .ok (.iadd, 1) := by decide +kernel
theorem dL_areCodes_390 : decode cL_areCodes 390 = .ok (.bipush 10, 2) := by decide +kernel
theorem dL_areCodes_392 : decode cL_areCodes 392 = .ok (.isub, 1) := by decide +kernel
theorem dL_areCodes_393 : decode cL_areCodes 393 = .ok (.iaload, 1) := by decide +kernel
theorem dL_areCodes_394 : decode cL_areCodes 394 = .ok (.iconst 1, 1) := by decide +kernel
theorem dL_areCodes_395 : decode cL_areCodes 395 = .ok (.iadd, 1) := by decide +kernel
theorem dL_areCodes_396 : decode cL_areCodes 396 = .ok (.if_icmp .ne 28, 3) := by decide +kernel
theorem dL_areCodes_399 : decode cL_areCodes 399 = .ok (.aload_n 0, 1) := by decide +kernel
theorem dL_areCodes_400 : decode cL_areCodes 400 = .ok (.iload 9, 2) := by decide +kernel
theorem dL_areCodes_402 : decode cL_areCodes 402 = .ok (.aload 7, 2) := by decide +kernel
theorem dL_areCodes_404 : decode cL_areCodes 404 = .ok (.iload 10, 2) := by decide +kernel
theorem dL_areCodes_406 : decode cL_areCodes 406 = .ok (.iload 18, 2) := by decide +kernel
theorem dL_areCodes_408 : decode cL_areCodes 408 = .ok (.iadd, 1) := by decide +kernel
theorem dL_areCodes_409 : decode cL_areCodes 409 = .ok (.bipush 10, 2) := by decide +kernel
theorem dL_areCodes_411 : decode cL_areCodes 411 = .ok (.isub, 1) := by decide +kernel
theorem dL_areCodes_412 : decode cL_areCodes 412 = .ok (.iaload, 1) := by decide +kernel
theorem dL_areCodes_413 : decode cL_areCodes 413 = .ok (.aload 8, 2) := by decide +kernel
theorem dL_areCodes_415 : decode cL_areCodes 415 = .ok (.iload 17, 2) := by decide +kernel
theorem dL_areCodes_417 : decode cL_areCodes 417 = .ok (.iaload, 1) := by decide +kernel
theorem dL_areCodes_418 : decode cL_areCodes 418 = .ok (.invokestatic 26, 3) := by decide +kernel
theorem dL_areCodes_421 : decode cL_areCodes 421 = .ok (.ifCond .ne 5, 3) := by decide +kernel
theorem dL_areCodes_424 : decode cL_areCodes 424 = .ok (.iconst 0, 1) := by decide +kernel
theorem dL_areCodes_425 : decode cL_areCodes 425 = .ok (.ireturn, 1) := by decide +kernel
theorem dL_areCodes_426 : decode cL_areCodes 426 = .ok (.bipush 10, 2) := by decide +kernel
theorem dL_areCodes_428 : decode cL_areCodes 428 = .ok (.istore 19, 2) := by decide +kernel
theorem dL_areCodes_430 : decode cL_areCodes 430 = .ok (.iload 19, 2) := by decide +kernel
theorem dL_areCodes_432 : decode cL_areCodes 432 = .ok (.iload 11, 2) := by decide +kernel
theorem dL_areCodes_434 : decode cL_areCodes 434 = .ok (.if_icmp .ge 67, 3) := by decide +kernel
theorem dL_areCodes_437 : decode cL_areCodes 437 = .ok (.aload 8, 2) := by decide +kernel
theorem dL_areCodes_439 : decode cL_areCodes 439 = .ok (.iload 10, 2) := by decide +kernel
theorem dL_areCodes_441 : decode cL_areCodes 441 = .ok (.iload 19, 2) := by decide +kernel
theorem dL_areCodes_443 : decode cL_areCodes 443 = .ok (.iadd, 1) := by decide +kernel
theorem dL_areCodes_444 : decode cL_areCodes 444 = .ok (.bipush 10, 2) := by decide +kernel
theorem dL_areCodes_446 : decode cL_areCodes 446 = .ok (.isub, 1) := by decide +kernel
theorem dL_areCodes_447 : decode cL_areCodes 447 = .ok (.iaload, 1) := by decide +kernel
theorem dL_areCodes_448 : decode cL_areCodes 448 = .ok (.iconst 1, 1) := by decide +kernel
theorem dL_areCodes_449 : decode cL_areCodes 449 = .ok (.iadd, 1) := by decide +kernel
theorem dL_areCodes_450 : decode cL_areCodes 450 = .ok (.istore 20, 2) := by decide +kernel
theorem dL_areCodes_452 : decode cL_areCodes 452 = .ok (.iload 20, 2) := by decide +kernel
theorem dL_areCodes_454 : decode cL_areCodes 454 = .ok (.aload 8, 2) := by decide +kernel
theorem dL_areCodes_456 : decode cL_areCodes 456 = .ok (.iload 17, 2) := by decide +kernel
theorem dL_areCodes_458 : decode cL_areCodes 458 = .ok (.iaload, 1) := by decide +kernel
theorem dL_areCodes_459 : decode cL_areCodes 459 = .ok (.if_icmp .le 36, 3) := by decide +kernel
theorem dL_areCodes_462 : decode cL_areCodes 462 = .ok (.iload 9, 2) := by decide +kernel
theorem dL_areCodes_464 : decode cL_areCodes 464 = .ok (.iload 20, 2) := by decide +kernel
theorem dL_areCodes_466 : decode cL_areCodes 466 = .ok (.iadd, 1) := by decide +kernel
theorem dL_areCodes_467 : decode cL_areCodes 467 = .ok (.iload_n 2, 1) := by decide +kernel
theorem dL_areCodes_468 : decode cL_areCodes 468 = .ok (.if_icmp .gt 27, 3) := by decide +kernel
theorem dL_areCodes_471 : decode cL_areCodes 471 = .ok (.aload_n 0, 1) := by decide +kernel
theorem dL_areCodes_472 : decode cL_areCodes 472 = .ok (.iload 9, 2) := by decide +kernel
theorem dL_areCodes_474 : decode cL_areCodes 474 = .ok (.aload 7, 2) := by decide +kernel
theorem dL_areCodes_476 : decode cL_areCodes 476 = .ok (.iload 10, 2) := by decide +kernel
theorem dL_areCodes_478 : decode cL_areCodes 478 = .ok (.iload 19, 2) := by decide +kernel
theorem dL_areCodes_480 : decode cL_areCodes 480 = .ok (.iadd, 1) := by decide +kernel
theorem dL_areCodes_481 : decode cL_areCodes 481 = .ok (.bipush 10, 2) := by decide +kernel
theorem dL_areCodes_483 : decode cL_areCodes 483 = .ok (.isub, 1) := by decide +kernel
theorem dL_areCodes_484 : decode cL_areCodes 484 = .ok (.iaload, 1) := by decide +kernel
theorem dL_areCodes_485 : decode cL_areCodes 485 = .ok (.iload 20, 2) := by decide +kernel
theorem dL_areCodes_487 : decode cL_areCodes 487 = .ok (.invokestatic 26, 3) := by decide +kernel
theorem dL_areCodes_490 : decode cL_areCodes 490 = .ok (.ifCond .eq 5, 3) := by decide +kernel
theorem dL_areCodes_493 : decode cL_areCodes 493 = .ok (.iconst 0, 1) := by decide +kernel
theorem dL_areCodes_494 : decode cL_areCodes 494 = .ok (.ireturn, 1) := by decide +kernel
theorem dL_areCodes_495 : decode cL_areCodes 495 = .ok (.iinc 19 1, 3) := by decide +kernel
theorem dL_areCodes_498 : decode cL_areCodes 498 = .ok (.goto (-68), 3) := by decide +kernel
theorem dL_areCodes_501 : decode cL_areCodes 501 = .ok (.iload 9, 2) := by decide +kernel
theorem dL_areCodes_503 : decode cL_areCodes 503 = .ok (.aload 8, 2) := by decide +kernel
theorem dL_areCodes_505 : decode cL_areCodes 505 = .ok (.iload 17, 2) := by decide +kernel
theorem dL_areCodes_507 : decode cL_areCodes 507 = .ok (.iaload, 1) := by decide +kernel
theorem dL_areCodes_508 : decode cL_areCodes 508 = .ok (.iadd, 1) := by decide +kernel
theorem dL_areCodes_509 : decode cL_areCodes 509 = .ok (.istore 9, 2) := by decide +kernel
theorem dL_areCodes_511 : decode cL_areCodes 511 = .ok (.iload 9, 2) := by decide +kernel
theorem dL_areCodes_513 : decode cL_areCodes 513 = .ok (.iload_n 2, 1) := by decide +kernel
theorem dL_areCodes_514 : decode cL_areCodes 514 = .ok (.if_icmp .ge 175, 3) := by decide +kernel
theorem dL_areCodes_517 : decode cL_areCodes 517 = .ok (.iload 11, 2) := by decide +kernel
theorem dL_areCodes_519 : decode cL_areCodes 519 = .ok (.iload_n 3, 1) := by decide +kernel
theorem dL_areCodes_520 : decode cL_areCodes 520 = .ok (.if_icmp .ge 7, 3) := by decide +kernel
theorem dL_areCodes_523 : decode cL_areCodes 523 = .ok (.iconst 1, 1) := by decide +kernel
theorem dL_areCodes_524 : decode cL_areCodes 524 = .ok (.goto 4, 3) := by decide +kernel
theorem dL_areCodes_527 : decode cL_areCodes 527 = .ok (.iconst 0, 1) := by decide +kernel
theorem dL_areCodes_528 : decode cL_areCodes 528 = .ok (.istore 19, 2) := by decide +kernel
theorem dL_areCodes_530 : decode cL_areCodes 530 = .ok (.iload 11, 2) := by decide +kernel
theorem dL_areCodes_532 : decode cL_areCodes 532 = .ok (.iload 19, 2) := by decide +kernel
theorem dL_areCodes_534 : decode cL_areCodes 534 = .ok (.ifCond .eq 7, 3) := by decide +kernel
theorem dL_areCodes_537 : decode cL_areCodes 537 = .ok (.iconst 1, 1) := by decide +kernel
theorem dL_areCodes_538 : decode cL_areCodes 538 = .ok (.goto 4, 3) := by decide +kernel
theorem dL_areCodes_541 : decode cL_areCodes 541 = .ok (.iconst 0, 1) := by decide +kernel
theorem dL_areCodes_542 : decode cL_areCodes 542 = .ok (.iadd, 1) := by decide +kernel
theorem dL_areCodes_543 : decode cL_areCodes 543 = .ok (.istore 11, 2) := by decide +kernel
theorem dL_areCodes_545 : decode cL_areCodes 545 = .ok (.iload 19, 2) := by decide +kernel
theorem dL_areCodes_547 : decode cL_areCodes 547 = .ok (.ifCond .eq 25, 3) := by decide +kernel
theorem dL_areCodes_550 : decode cL_areCodes 550 = .ok (.aload 8, 2) := by decide +kernel
theorem dL_areCodes_552 : decode cL_areCodes 552 = .ok (.iload 17, 2) := by decide +kernel
theorem dL_areCodes_554 : decode cL_areCodes 554 = .ok (.iaload, 1) := by decide +kernel
theorem dL_areCodes_555 : decode cL_areCodes 555 = .ok (.iconst 1, 1) := by decide +kernel
theorem dL_areCodes_556 : decode cL_areCodes 556 = .ok (.iadd, 1) := by decide +kernel
theorem dL_areCodes_557 : decode cL_areCodes 557 = .ok (.iload 15, 2) := by decide +kernel
theorem dL_areCodes_559 : decode cL_areCodes 559 = .ok (.if_icmp .le 13, 3) := by decide +kernel
theorem dL_areCodes_562 : decode cL_areCodes 562 = .ok (.aload 8, 2) := by decide +kernel
theorem dL_areCodes_564 : decode cL_areCodes 564 = .ok (.iload 17, 2) := by decide +kernel
theorem dL_areCodes_566 : decode cL_areCodes 566 = .ok (.iaload, 1) := by decide +kernel
theorem dL_areCodes_567 : decode cL_areCodes 567 = .ok (.iconst 1, 1) := by decide +kernel
theorem dL_areCodes_568 : decode cL_areCodes 568 = .ok (.iadd, 1) := by decide +kernel
theorem dL_areCodes_569 : decode cL_areCodes 569 = .ok (.goto 5, 3) := by decide +kernel
theorem dL_areCodes_572 : decode cL_areCodes 572 = .ok (.iload 15, 2) := by decide +kernel
theorem dL_areCodes_574 : decode cL_areCodes 574 = .ok (.istore 15, 2) := by decide +kernel
theorem dL_areCodes_576 : decode cL_areCodes 576 = .ok (.iload 19, 2) := by decide +kernel
theorem dL_areCodes_578 : decode cL_areCodes 578 = .ok (.ifCond .eq 10, 3) := by decide +kernel
theorem dL_areCodes_581 : decode cL_areCodes 581 = .ok (.iload 17, 2) := by decide +kernel
theorem dL_areCodes_583 : decode cL_areCodes 583 = .ok (.iconst 1, 1) := by decide +kernel
theorem dL_areCodes_584 : decode cL_areCodes 584 = .ok (.iadd, 1) := by decide +kernel
theorem dL_areCodes_585 : decode cL_areCodes 585 = .ok (.goto 5, 3) := by decide +kernel
theorem dL_areCodes_588 : decode cL_areCodes 588 = .ok (.iload 12, 2) := by decide +kernel
theorem dL_areCodes_590 : decode cL_areCodes 590 = .ok (.istore 12, 2) := by decide +kernel
theorem dL_areCodes_592 : decode cL_areCodes 592 = .ok (.iconst 0, 1) := by decide +kernel
theorem dL_areCodes_593 : decode cL_areCodes 593 = .ok (.istore 20, 2) := by decide +kernel
theorem dL_areCodes_595 : decode cL_areCodes 595 = .ok (.iconst 0, 1) := by decide +kernel
theorem dL_areCodes_596 : decode cL_areCodes 596 = .ok (.istore 21, 2) := by decide +kernel
theorem dL_areCodes_598 : decode cL_areCodes 598 = .ok (.iconst 0, 1) := by decide +kernel
theorem dL_areCodes_599 : decode cL_areCodes 599 = .ok (.istore 22, 2) := by decide +kernel
theorem dL_areCodes_601 : decode cL_areCodes 601 = .ok (.iload 22, 2) := by decide +kernel
theorem dL_areCodes_603 : decode cL_areCodes 603 = .ok (.iload 5, 2) := by decide +kernel
theorem dL_areCodes_605 : decode cL_areCodes 605 = .ok (.if_icmp .ge 52, 3) := by decide +kernel
theorem dL_areCodes_608 : decode cL_areCodes 608 = .ok (.iload 17, 2) := by decide +kernel
theorem dL_areCodes_610 : decode cL_areCodes 610 = .ok (.iconst 1, 1) := by decide +kernel
theorem dL_areCodes_611 : decode cL_areCodes 611 = .ok (.iadd, 1) := by decide +kernel
theorem dL_areCodes_612 : decode cL_areCodes 612 = .ok (.iload 12, 2) := by decide +kernel
theorem dL_areCodes_614 : decode cL_areCodes 614 = .ok (.isub, 1) := by decide +kernel
theorem dL_areCodes_615 : decode cL_areCodes 615 = .ok (.iconst 2, 1) := by decide +kernel
theorem dL_areCodes_616 : decode cL_areCodes 616 = .ok (.iload 5, 2) := by decide +kernel
theorem dL_areCodes_618 : decode cL_areCodes 618 = .ok (.imul, 1) := by decide +kernel
theorem dL_areCodes_619 : decode cL_areCodes 619 = .ok (.if_icmp .lt 38, 3) := by decide +kernel
theorem dL_areCodes_622 : decode cL_areCodes 622 = .ok (.iload 20, 2) := by decide +kernel
theorem dL_areCodes_624 : decode cL_areCodes 624 = .ok (.aload 8, 2) := by decide +kernel
theorem dL_areCodes_626 : decode cL_areCodes 626 = .ok (.iload 17, 2) := by decide +kernel
theorem dL_areCodes_628 : decode cL_areCodes 628 = .ok (.iload 22, 2) := by decide +kernel
theorem dL_areCodes_630 : decode cL_areCodes 630 = .ok (.isub, 1) := by decide +kernel
theorem dL_areCodes_631 : decode cL_areCodes 631 = .ok (.iaload, 1) := by decide +kernel
theorem dL_areCodes_632 : decode cL_areCodes 632 = .ok (.iadd, 1) := by decide +kernel
theorem dL_areCodes_633 : decode cL_areCodes 633 = .ok (.istore 20, 2) := by decide +kernel
theorem dL_areCodes_635 : decode cL_areCodes 635 = .ok (.iload 21, 2) := by decide +kernel
theorem dL_areCodes_637 : decode cL_areCodes 637 = .ok (.aload 8, 2) := by decide +kernel
theorem dL_areCodes_639 : decode cL_areCodes 639 = .ok (.iload 17, 2) := by decide +kernel
theorem dL_areCodes_641 : decode cL_areCodes 641 = .ok (.iload 5, 2) := by decide +kernel
theorem dL_areCodes_643 : decode cL_areCodes 643 = .ok (.isub, 1) := by decide +kernel
theorem dL_areCodes_644 : decode cL_areCodes 644 = .ok (.iload 22, 2) := by decide +kernel
theorem dL_areCodes_646 : decode cL_areCodes 646 = .ok (.isub, 1) := by decide +kernel
theorem dL_areCodes_647 : decode cL_areCodes 647 = .ok (.iaload, 1) := by decide +kernel
theorem dL_areCodes_648 : decode cL_areCodes 648 = .ok (.iadd, 1) := by decide +kernel
theorem dL_areCodes_649 : decode cL_areCodes 649 = .ok (.istore 21, 2) := by decide +kernel
theorem dL_areCodes_651 : decode cL_areCodes 651 = .ok (.iinc 22 1, 3) := by decide +kernel
theorem dL_areCodes_654 : decode cL_areCodes 654 = .ok (.goto (-53), 3) := by decide +kernel
theorem dL_areCodes_657 : decode cL_areCodes 657 = .ok (.iload 11, 2) := by decide +kernel
theorem dL_areCodes_659 : decode cL_areCodes 659 = .ok (.iload_n 3, 1) := by decide +kernel
theorem dL_areCodes_660 : decode cL_areCodes 660 = .ok (.if_icmp .ne 26, 3) := by decide +kernel
theorem dL_areCodes_663 : decode cL_areCodes 663 = .ok (.iload 4, 2) := by decide +kernel
theorem dL_areCodes_665 : decode cL_areCodes 665 = .ok (.iconst 1, 1) := by decide +kernel
theorem dL_areCodes_666 : decode cL_areCodes 666 = .ok (.if_icmp .eq 16, 3) := by decide +kernel
theorem dL_areCodes_669 : decode cL_areCodes 669 = .ok (.iload 4, 2) := by decide +kernel
theorem dL_areCodes_671 : decode cL_areCodes 671 = .ok (.iconst 2, 1) := by decide +kernel
theorem dL_areCodes_672 : decode cL_areCodes 672 = .ok (.if_icmp .ne 14, 3) := by decide +kernel
theorem dL_areCodes_675 : decode cL_areCodes 675 = .ok (.iload 20, 2) := by decide +kernel
theorem dL_areCodes_677 : decode cL_areCodes 677 = .ok (.iload 21, 2) := by decide +kernel
theorem dL_areCodes_679 : decode cL_areCodes 679 = .ok (.if_icmp .ge 7, 3) := by decide +kernel
theorem dL_areCodes_682 : decode cL_areCodes 682 = .ok (.iconst 1, 1) := by decide +kernel
theorem dL_areCodes_683 : decode cL_areCodes 683 = .ok (.goto 4, 3) := by decide +kernel
theorem dL_areCodes_686 : decode cL_areCodes 686 = .ok (.iconst 0, 1) := by decide +kernel
theorem dL_areCodes_687 : decode cL_areCodes 687 = .ok (.istore 16, 2) := by decide +kernel
theorem dL_areCodes_689 : decode cL_areCodes 689 = .ok (.iinc 17 1, 3) := by decide +kernel
theorem dL_areCodes_692 : decode cL_areCodes 692 = .ok (.goto (-558), 3) := by decide +kernel
theorem dL_areCodes_695 : decode cL_areCodes 695 = .ok (.iload 9, 2) := by decide +kernel
theorem dL_areCodes_697 : decode cL_areCodes 697 = .ok (.iload_n 2, 1) := by decide +kernel
theorem dL_areCodes_698 : decode cL_areCodes 698 = .ok (.if_icmp .ne 57, 3) := by decide +kernel
theorem dL_areCodes_701 : decode cL_areCodes 701 = .ok (.aload_n 0, 1) := by decide +kernel
theorem dL_areCodes_702 : decode cL_areCodes 702 = .ok (.iconst 2, 1) := by decide +kernel
theorem dL_areCodes_703 : decode cL_areCodes 703 = .ok (.invokevirtual 8, 3) := by decide +kernel
theorem dL_areCodes_706 : decode cL_areCodes 706 = .ok (.iload 13, 2) := by decide +kernel
theorem dL_areCodes_708 : decode cL_areCodes 708 = .ok (.if_icmp .ne 47, 3) := by decide +kernel
theorem dL_areCodes_711 : decode cL_areCodes 711 = .ok (.aload_n 0, 1) := by decide +kernel
theorem dL_areCodes_712 : decode cL_areCodes 712 = .ok (.iconst 3, 1) := by decide +kernel
theorem dL_areCodes_713 : decode cL_areCodes 713 = .ok (.invokevirtual 8, 3) := by decide +kernel
theorem dL_areCodes_716 : decode cL_areCodes 716 = .ok (.iload 14, 2) := by decide +kernel
theorem dL_areCodes_718 : decode cL_areCodes 718 = .ok (.if_icmp .ne 37, 3) := by decide +kernel
theorem dL_areCodes_721 : decode cL_areCodes 721 = .ok (.aload_n 0, 1) := by decide +kernel
theorem dL_areCodes_722 : decode cL_areCodes 722 = .ok (.iconst 4, 1) := by decide +kernel
theorem dL_areCodes_723 : decode cL_areCodes 723 = .ok (.invokevirtual 8, 3) := by decide +kernel
theorem dL_areCodes_726 : decode cL_areCodes 726 = .ok (.iload 11, 2) := by decide +kernel
theorem dL_areCodes_728 : decode cL_areCodes 728 = .ok (.if_icmp .ne 27, 3) := by decide +kernel
theorem dL_areCodes_731 : decode cL_areCodes 731 = .ok (.aload_n 0, 1) := by decide +kernel
theorem dL_areCodes_732 : decode cL_areCodes 732 = .ok (.iconst 5, 1) := by decide +kernel
theorem dL_areCodes_733 : decode cL_areCodes 733 = .ok (.invokevirtual 8, 3) := by decide +kernel
theorem dL_areCodes_736 : decode cL_areCodes 736 = .ok (.iload 15, 2) := by decide +kernel
theorem dL_areCodes_738 : decode cL_areCodes 738 = .ok (.if_icmp .ne 17, 3) := by decide +kernel
theorem dL_areCodes_741 : decode cL_areCodes 741 = .ok (.aload_n 0, 1) := by decide +kernel
theorem dL_areCodes_742 : decode cL_areCodes 742 = .ok (.iload_n 1, 1) := by decide +kernel
theorem dL_areCodes_743 : decode cL_areCodes 743 = .ok (.iconst 0, 1) := by decide +kernel
theorem dL_areCodes_744 : decode cL_areCodes 744 = .ok (.invokevirtual 17, 3) := by decide +kernel
theorem dL_areCodes_747 : decode cL_areCodes 747 = .ok (.iconst (-1), 1) := by decide +kernel
theorem dL_areCodes_748 : decode cL_areCodes 748 = .ok (.if_icmp .ne 7, 3) := by decide +kernel
theorem dL_areCodes_751 : decode cL_areCodes 751 = .ok (.iconst 1, 1) := by decide +kernel
theorem dL_areCodes_752 : decode cL_areCodes 752 = .ok (.goto 4, 3) := by decide +kernel
theorem dL_areCodes_755 : decode cL_areCodes 755 = .ok (.iconst 0, 1) := by decide +kernel
theorem dL_areCodes_756 : decode cL_areCodes 756 = .ok (.ireturn, 1) := by decide +kernel
theorem dL_areEntries_0 : decode cL_areEntries 0 = .ok (.aload_n 0, 1) := by decide +kernel
theorem dL_areEntries_1 : decode cL_areEntries 1 = .ok (.iconst 1, 1) := by decide +kernel
theorem dL_areEntries_2 : decode cL_areEntries 2 = .ok (.invokevirtual 8, 3) := by decide +kernel
theorem dL_areEntries_5 : decode cL_areEntries 5 = .ok (.istore_n 1, 1) := by decide +kernel
theorem dL_areEntries_6 : decode cL_areEntries 6 = .ok (.iconst 0, 1) := by decide +kernel
theorem dL_areEntries_7 : decode cL_areEntries 7 = .ok (.istore_n 2, 1) := by decide +kernel
theorem dL_areEntries_8 : decode cL_areEntries 8 = .ok (.iconst 0, 1) := by decide +kernel
theorem dL_areEntries_9 : decode cL_areEntries 9 = .ok (.istore_n 3, 1) := by decide +kernel
theorem dL_areEntries_10 : decode cL_areEntries 10 = .ok (.iload_n 3, 1) := by decide +kernel
theorem dL_areEntries_11 : decode cL_areEntries 11 = .ok (.iload_n 1, 1) := by decide +kernel
theorem dL_areEntries_12 : decode cL_areEntries 12 = .ok (.if_icmp .ge 28, 3) := by decide +kernel
theorem dL_areEntries_15 : decode cL_areEntries 15 = .ok (.aload_n 0, 1) := by decide +kernel
theorem dL_areEntries_16 : decode cL_areEntries 16 = .ok (.iload_n 3, 1) := by decide +kernel
theorem dL_areEntries_17 : decode cL_areEntries 17 = .ok (.iconst 0, 1) := by decide +kernel
theorem dL_areEntries_18 : decode cL_areEntries 18 = .ok (.invokevirtual 17, 3) := by decide +kernel
theorem dL_areEntries_21 : decode cL_areEntries 21 = .ok (.bipush 8, 2) := by decide +kernel
theorem dL_areEntries_23 : decode cL_areEntries 23 = .ok (.if_icmp .ne 9, 3) := by decide +kernel
theorem dL_areEntries_26 : decode cL_areEntries 26 = .ok (.iload_n 3, 1) := by decide +kernel
theorem dL_areEntries_27 : decode cL_areEntries 27 = .ok (.iconst 1, 1) := by decide +kernel
theorem dL_areEntries_28 : decode cL_areEntries 28 = .ok (.iadd, 1) := by decide +kernel
theorem dL_areEntries_29 : decode cL_areEntries 29 = .ok (.goto 4, 3) := by decide +kernel
theorem dL_areEntries_32 : decode cL_areEntries 32 = .ok (.iload_n 2, 1) := by decide +kernel
theorem dL_areEntries_33 : decode cL_areEntries 33 = .ok (.istore_n 2, 1) := by decide +kernel
theorem dL_areEntries_34 : decode cL_areEntries 34 = .ok (.iinc 3 1, 3) := by decide +kernel
theorem dL_areEntries_37 : decode cL_areEntries 37 = .ok (.goto (-27), 3) := by decide +kernel
theorem dL_areEntries_40 : decode cL_areEntries 40 = .ok (.iconst 0, 1) := by decide +kernel
theorem dL_areEntries_41 : decode cL_areEntries 41 = .ok (.istore_n 3, 1) := by decide +kernel
theorem dL_areEntries_42 : decode cL_areEntries 42 = .ok (.iload_n 3, 1) := by decide +kernel
theorem dL_areEntries_43 : decode cL_areEntries 43 = .ok (.aload_n 0, 1) := by decide +kernel
theorem dL_areEntries_44 : decode cL_areEntries 44 = .ok (.iconst 4, 1) := by decide +kernel
theorem dL_areEntries_45 : decode cL_areEntries 45 = .ok (.invokevirtual 8, 3) := by decide +kernel
theorem dL_areEntries_48 : decode cL_areEntries 48 = .ok (.if_icmp .ge 143, 3) := by decide +kernel
theorem dL_areEntries_51 : decode cL_areEntries 51 = .ok (.aload_n 0, 1) := by decide +kernel
theorem dL_areEntries_52 : decode cL_areEntries 52 = .ok (.iload_n 3, 1) := by decide +kernel
theorem dL_areEntries_53 : decode cL_areEntries 53 = .ok (.iconst 0, 1) := by decide +kernel
theorem dL_areEntries_54 : decode cL_areEntries 54 = .ok (.invokevirtual 30, 3) := by decide +kernel
theorem dL_areEntries_57 : decode cL_areEntries 57 = .ok (.istore 4, 2) := by decide +kernel
theorem dL_areEntries_59 : decode cL_areEntries 59 = .ok (.iload_n 3, 1) := by decide +kernel
theorem dL_areEntries_60 : decode cL_areEntries 60 = .ok (.bipush 10, 2) := by decide +kernel
theorem dL_areEntries_62 : decode cL_areEntries 62 = .ok (.if_icmp .ge 54, 3) := by decide +kernel
theorem dL_areEntries_65 : decode cL_areEntries 65 = .ok (.iload 4, 2) := by decide +kernel
theorem dL_areEntries_67 : decode cL_areEntries 67 = .ok (.iload_n 3, 1) := by decide +kernel
theorem dL_areEntries_68 : decode cL_areEntries 68 = .ok (.bipush 8, 2) := by decide +kernel
theorem dL_areEntries_70 : decode cL_areEntries 70 = .ok (.if_icmp .ge 7, 3) := by decide +kernel
theorem dL_areEntries_73 : decode cL_areEntries 73 = .ok (.iconst 1, 1) := by decide +kernel
theorem dL_areEntries_74 : decode cL_areEntries 74 = .ok (.goto 4, 3) := by decide +kernel
theorem dL_areEntries_77 : decode cL_areEntries 77 = .ok (.iconst 0, 1) := by decide +kernel
theorem dL_areEntries_78 : decode cL_areEntries 78 = .ok (.if_icmp .ne 105, 3) := by decide +kernel
theorem dL_areEntries_81 : decode cL_areEntries 81 = .ok (.aload_n 0, 1) := by decide +kernel
theorem dL_areEntries_82 : decode cL_areEntries 82 = .ok (.iload_n 3, 1) := by decide +kernel
theorem dL_areEntries_83 : decode cL_areEntries 83 = .ok (.iconst 1, 1) := by decide +kernel
theorem dL_areEntries_84 : decode cL_areEntries 84 = .ok (.invokevirtual 30, 3) := by decide +kernel
theorem dL_areEntries_87 : decode cL_areEntries 87 = .ok (.iload_n 3, 1) := by decide +kernel
theorem dL_areEntries_88 : decode cL_areEntries 88 = .ok (.bipush 8, 2) := by decide +kernel
theorem dL_areEntries_90 : decode cL_areEntries 90 = .ok (.if_icmp .ge 7, 3) := by decide +kernel
theorem dL_areEntries_93 : decode cL_areEntries 93 = .ok (.iload_n 3, 1) := by decide +kernel
theorem dL_areEntries_94 : decode cL_areEntries 94 = .ok (.goto 5, 3) := by decide +kernel
theorem dL_areEntries_97 : decode cL_areEntries 97 = .ok (.bipush (-6), 2) := by decide +kernel
theorem dL_areEntries_99 : decode cL_areEntries 99 = .ok (.if_icmp .ne 84, 3) := by decide +kernel
theorem dL_areEntries_102 : decode cL_areEntries 102 = .ok (.aload_n 0, 1) := by decide +kernel
theorem dL_areEntries_103 : decode cL_areEntries 103 = .ok (.iload_n 3, 1) := by decide +kernel
theorem dL_areEntries_104 : decode cL_areEntries 104 = .ok (.iconst 2, 1) := by decide +kernel
theorem dL_areEntries_105 : decode cL_areEntries 105 = .ok (.invokevirtual 30, 3) := by decide +kernel
theorem dL_areEntries_108 : decode cL_areEntries 108 = .ok (.bipush (-6), 2) := by decide +kernel
theorem dL_areEntries_110 : decode cL_areEntries 110 = .ok (.if_icmp .eq 75, 3) := by decide +kernel
theorem dL_areEntries_113 : decode cL_areEntries 113 = .ok (.goto 70, 3) := by decide +kernel
theorem dL_areEntries_116 : decode cL_areEntries 116 = .ok (.iload 4, 2) := by decide +kernel
theorem dL_areEntries_118 : decode cL_areEntries 118 = .ok (.aload_n 0, 1) := by decide +kernel
theorem dL_areEntries_119 : decode cL_areEntries 119 = .ok (.iload_n 2, 1) := by decide +kernel
theorem dL_areEntries_120 : decode cL_areEntries 120 = .ok (.iload_n 3, 1) := by decide +kernel
theorem dL_areEntries_121 : decode cL_areEntries 121 = .ok (.iadd, 1) := by decide +kernel
theorem dL_areEntries_122 : decode cL_areEntries 122 = .ok (.bipush 10, 2) := by decide +kernel
theorem dL_areEntries_124 : decode cL_areEntries 124 = .ok (.isub, 1) := by decide +kernel
theorem dL_areEntries_125 : decode cL_areEntries 125 = .ok (.iconst 4, 1) := by decide +kernel
theorem dL_areEntries_126 : decode cL_areEntries 126 = .ok (.invokevirtual 17, 3) := by decide +kernel
theorem dL_areEntries_129 : decode cL_areEntries 129 = .ok (.iconst 1, 1) := by decide +kernel
theorem dL_areEntries_130 : decode cL_areEntries 130 = .ok (.iadd, 1) := by decide +kernel
theorem dL_areEntries_131 : decode cL_areEntries 131 = .ok (.if_icmp .ne 52, 3) := by decide +kernel
theorem dL_areEntries_134 : decode cL_areEntries 134 = .ok (.aload_n 0, 1) := by decide +kernel
theorem dL_areEntries_135 : decode cL_areEntries 135 = .ok (.iload_n 3, 1) := by decide +kernel
theorem dL_areEntries_136 : decode cL_areEntries 136 = .ok (.iconst 2, 1) := by decide +kernel
theorem dL_areEntries_137 : decode cL_areEntries 137 = .ok (.invokevirtual 30, 3) := by decide +kernel
theorem dL_areEntries_140 : decode cL_areEntries 140 = .ok (.aload_n 0, 1) := by decide +kernel
theorem dL_areEntries_141 : decode cL_areEntries 141 = .ok (.iload_n 2, 1) := by decide +kernel
theorem dL_areEntries_142 : decode cL_areEntries 142 = .ok (.iload_n 3, 1) := by decide +kernel
theorem dL_areEntries_143 : decode cL_areEntries 143 = .ok (.iadd, 1) := by decide +kernel
theorem dL_areEntries_144 : decode cL_areEntries 144 = .ok (.bipush 10, 2) := by decide +kernel
theorem dL_areEntries_146 : decode cL_areEntries 146 = .ok (.isub, 1) := by decide +kernel
theorem dL_areEntries_147 : decode cL_areEntries 147 = .ok (.iconst 0, 1) := by decide +kernel
theorem dL_areEntries_148 : decode cL_areEntries 148 = .ok (.invokevirtual 17, 3) := by decide +kernel
theorem dL_areEntries_151 : decode cL_areEntries 151 = .ok (.if_icmp .ne 32, 3) := by decide +kernel
theorem dL_areEntries_154 : decode cL_areEntries 154 = .ok (.aload_n 0, 1) := by decide +kernel
theorem dL_areEntries_155 : decode cL_areEntries 155 = .ok (.iload_n 3, 1) := by decide +kernel
theorem dL_areEntries_156 : decode cL_areEntries 156 = .ok (.iconst 1, 1) := by decide +kernel
theorem dL_areEntries_157 : decode cL_areEntries 157 = .ok (.invokevirtual 30, 3) := by decide +kernel
theorem dL_areEntries_160 : decode cL_areEntries 160 = .ok (.aload_n 0, 1) := by decide +kernel
theorem dL_areEntries_161 : decode cL_areEntries 161 = .ok (.aload_n 0, 1) := by decide +kernel
theorem dL_areEntries_162 : decode cL_areEntries 162 = .ok (.iload_n 2, 1) := by decide +kernel
theorem dL_areEntries_163 : decode cL_areEntries 163 = .ok (.iload_n 3, 1) := by decide +kernel
theorem dL_areEntries_164 : decode cL_areEntries 164 = .ok (.iadd, 1) := by decide +kernel
theorem dL_areEntries_165 : decode cL_areEntries 165 = .ok (.bipush 10, 2) := by decide +kernel
theorem dL_areEntries_167 : decode cL_areEntries 167 = .ok (.isub, 1) := by decide +kernel
theorem dL_areEntries_168 : decode cL_areEntries 168 = .ok (.iconst 3, 1) := by decide +kernel
theorem dL_areEntries_169 : decode cL_areEntries 169 = .ok (.invokevirtual 17, 3) := by decide +kernel
theorem dL_areEntries_172 : decode cL_areEntries 172 = .ok (.iload 4, 2) := by decide +kernel
theorem dL_areEntries_174 : decode cL_areEntries 174 = .ok (.iadd, 1) := by decide +kernel
theorem dL_areEntries_175 : decode cL_areEntries 175 = .ok (.iconst 1, 1) := by decide +kernel
theorem dL_areEntries_176 : decode cL_areEntries 176 = .ok (.isub, 1) := by decide +kernel
theorem dL_areEntries_177 : decode cL_areEntries 177 = .ok (.invokevirtual 14, 3) := by decide +kernel
theorem dL_areEntries_180 : decode cL_areEntries 180 = .ok (.if_icmp .eq 5, 3) := by decide +kernel
theorem dL_areEntries_183 : decode cL_areEntries 183 = .ok (.iconst 0, 1) := by decide +kernel
theorem dL_areEntries_184 : decode cL_areEntries 184 = .ok (.ireturn, 1) := by decide +kernel
theorem dL_areEntries_185 : decode cL_areEntries 185 = .ok (.iinc 3 1, 3) := by decide +kernel
theorem dL_areEntries_188 : decode cL_areEntries 188 = .ok (.goto (-146), 3) := by decide +kernel
theorem dL_areEntries_191 : decode cL_areEntries 191 = .ok (.aload_n 0, 1) := by decide +kernel
theorem dL_areEntries_192 : decode cL_areEntries 192 = .ok (.aload_n 0, 1) := by decide +kernel
theorem dL_areEntries_193 : decode cL_areEntries 193 = .ok (.iconst 4, 1) := by decide +kernel
theorem dL_areEntries_194 : decode cL_areEntries 194 = .ok (.invokevirtual 8, 3) := by decide +kernel
theorem dL_areEntries_197 : decode cL_areEntries 197 = .ok (.iconst 0, 1) := by decide +kernel
theorem dL_areEntries_198 : decode cL_areEntries 198 = .ok (.invokevirtual 30, 3) := by decide +kernel
theorem dL_areEntries_201 : decode cL_areEntries 201 = .ok (.iconst (-1), 1) := by decide +kernel
theorem dL_areEntries_202 : decode cL_areEntries 202 = .ok (.if_icmp .ne 7, 3) := by decide +kernel
theorem dL_areEntries_205 : decode cL_areEntries 205 = .ok (.iconst 1, 1) := by decide +kernel
theorem dL_areEntries_206 : decode cL_areEntries 206 = .ok (.goto 4, 3) := by decide +kernel
theorem dL_areEntries_209 : decode cL_areEntries 209 = .ok (.iconst 0, 1) := by decide +kernel
theorem dL_areEntries_210 : decode cL_areEntries 210 = .ok (.ireturn, 1) := by decide +kernel
theorem dL_isRead_0 : decode cL_isRead 0 = .ok (.aload_n 0, 1) := by decide +kernel
theorem dL_isRead_1 : decode cL_isRead 1 = .ok (.iconst 1, 1) := by decide +kernel
theorem dL_isRead_2 : decode cL_isRead 2 = .ok (.invokevirtual 8, 3) := by decide +kernel
theorem dL_isRead_5 : decode cL_isRead 5 = .ok (.istore_n 1, 1) := by decide +kernel
theorem dL_isRead_6 : decode cL_isRead 6 = .ok (.iconst 1, 1) := by decide +kernel
theorem dL_isRead_7 : decode cL_isRead 7 = .ok (.aload_n 0, 1) := by decide +kernel
theorem dL_isRead_8 : decode cL_isRead 8 = .ok (.bipush 9, 2) := by decide +kernel
theorem dL_isRead_10 : decode cL_isRead 10 = .ok (.invokevirtual 8, 3) := by decide +kernel
theorem dL_isRead_13 : decode cL_isRead 13 = .ok (.ishl, 1) := by decide +kernel
theorem dL_isRead_14 : decode cL_isRead 14 = .ok (.istore_n 2, 1) := by decide +kernel
theorem dL_isRead_15 : decode cL_isRead 15 = .ok (.bipush 64, 2) := by decide +kernel
theorem dL_isRead_17 : decode cL_isRead 17 = .ok (.newarray .int, 2) := by decide +kernel
theorem dL_isRead_19 : decode cL_isRead 19 = .ok (.astore_n 3, 1) := by decide +kernel
theorem dL_isRead_20 : decode cL_isRead 20 = .ok (.bipush 64, 2) := by decide +kernel
theorem dL_isRead_22 : decode cL_isRead 22 = .ok (.newarray .int, 2) := by decide +kernel
theorem dL_isRead_24 : decode cL_isRead 24 = .ok (.astore 4, 2) := by decide +kernel
theorem dL_isRead_26 : decode cL_isRead 26 = .ok (.bipush 10, 2) := by decide +kernel
theorem dL_isRead_28 : decode cL_isRead 28 = .ok (.istore 5, 2) := by decide +kernel
theorem dL_isRead_30 : decode cL_isRead 30 = .ok (.iconst 0, 1) := by decide +kernel
theorem dL_isRead_31 : decode cL_isRead 31 = .ok (.istore 6, 2) := by decide +kernel
theorem dL_isRead_33 : decode cL_isRead 33 = .ok (.iconst 0, 1) := by decide +kernel
theorem dL_isRead_34 : decode cL_isRead 34 = .ok (.istore 7, 2) := by decide +kernel
theorem dL_isRead_36 : decode cL_isRead 36 = .ok (.iconst 0, 1) := by decide +kernel
theorem dL_isRead_37 : decode cL_isRead 37 = .ok (.istore 8, 2) := by decide +kernel
theorem dL_isRead_39 : decode cL_isRead 39 = .ok (.iconst 0, 1) := by decide +kernel
theorem dL_isRead_40 : decode cL_isRead 40 = .ok (.istore 9, 2) := by decide +kernel
theorem dL_isRead_42 : decode cL_isRead 42 = .ok (.bipush (-6), 2) := by decide +kernel
theorem dL_isRead_44 : decode cL_isRead 44 = .ok (.istore 10, 2) := by decide +kernel
theorem dL_isRead_46 : decode cL_isRead 46 = .ok (.iconst 0, 1) := by decide +kernel
theorem dL_isRead_47 : decode cL_isRead 47 = .ok (.istore 11, 2) := by decide +kernel
theorem dL_isRead_49 : decode cL_isRead 49 = .ok (.iconst 0, 1) := by decide +kernel
theorem dL_isRead_50 : decode cL_isRead 50 = .ok (.istore 12, 2) := by decide +kernel
theorem dL_isRead_52 : decode cL_isRead 52 = .ok (.iconst 0, 1) := by decide +kernel
theorem dL_isRead_53 : decode cL_isRead 53 = .ok (.istore 13, 2) := by decide +kernel
theorem dL_isRead_55 : decode cL_isRead 55 = .ok (.iload 13, 2) := by decide +kernel
theorem dL_isRead_57 : decode cL_isRead 57 = .ok (.iload_n 1, 1) := by decide +kernel
theorem dL_isRead_58 : decode cL_isRead 58 = .ok (.if_icmp .ge 305, 3) := by decide +kernel
theorem dL_isRead_61 : decode cL_isRead 61 = .ok (.iload 11, 2) := by decide +kernel
theorem dL_isRead_63 : decode cL_isRead 63 = .ok (.ifCond .ne 300, 3) := by decide +kernel
theorem dL_isRead_66 : decode cL_isRead 66 = .ok (.aload_n 0, 1) := by decide +kernel
theorem dL_isRead_67 : decode cL_isRead 67 = .ok (.iload 13, 2) := by decide +kernel
theorem dL_isRead_69 : decode cL_isRead 69 = .ok (.iconst 1, 1) := by decide +kernel
theorem dL_isRead_70 : decode cL_isRead 70 = .ok (.invokevirtual 17, 3) := by decide +kernel
theorem dL_isRead_73 : decode cL_isRead 73 = .ok (.istore 14, 2) := by decide +kernel
theorem dL_isRead_75 : decode cL_isRead 75 = .ok (.iload 7, 2) := by decide +kernel
theorem dL_isRead_77 : decode cL_isRead 77 = .ok (.iload 6, 2) := by decide +kernel
theorem dL_isRead_79 : decode cL_isRead 79 = .ok (.if_icmp .le 7, 3) := by decide +kernel
theorem dL_isRead_82 : decode cL_isRead 82 = .ok (.iconst 1, 1) := by decide +kernel
theorem dL_isRead_83 : decode cL_isRead 83 = .ok (.goto 4, 3) := by decide +kernel
theorem dL_isRead_86 : decode cL_isRead 86 = .ok (.iconst 0, 1) := by decide +kernel
theorem dL_isRead_87 : decode cL_isRead 87 = .ok (.istore 15, 2) := by decide +kernel
theorem dL_isRead_89 : decode cL_isRead 89 = .ok (.iload 14, 2) := by decide +kernel
theorem dL_isRead_91 : decode cL_isRead 91 = .ok (.iload 5, 2) := by decide +kernel
theorem dL_isRead_93 : decode cL_isRead 93 = .ok (.if_icmp .ne 18, 3) := by decide +kernel
theorem dL_isRead_96 : decode cL_isRead 96 = .ok (.iload 15, 2) := by decide +kernel
theorem dL_isRead_98 : decode cL_isRead 98 = .ok (.ifCond .eq 13, 3) := by decide +kernel
theorem dL_isRead_101 : decode cL_isRead 101 = .ok (.iload 5, 2) := by decide +kernel
theorem dL_isRead_103 : decode cL_isRead 103 = .ok (.iload_n 2, 1) := by decide +kernel
theorem dL_isRead_104 : decode cL_isRead 104 = .ok (.if_icmp .ge 7, 3) := by decide +kernel
theorem dL_isRead_107 : decode cL_isRead 107 = .ok (.iconst 1, 1) := by decide +kernel
theorem dL_isRead_108 : decode cL_isRead 108 = .ok (.goto 4, 3) := by decide +kernel
theorem dL_isRead_111 : decode cL_isRead 111 = .ok (.iconst 0, 1) := by decide +kernel
theorem dL_isRead_112 : decode cL_isRead 112 = .ok (.istore 16, 2) := by decide +kernel
theorem dL_isRead_114 : decode cL_isRead 114 = .ok (.iload 12, 2) := by decide +kernel
theorem dL_isRead_116 : decode cL_isRead 116 = .ok (.ifCond .eq 13, 3) := by decide +kernel
theorem dL_isRead_119 : decode cL_isRead 119 = .ok (.iload 13, 2) := by decide +kernel
theorem dL_isRead_121 : decode cL_isRead 121 = .ok (.istore 10, 2) := by decide +kernel
theorem dL_isRead_123 : decode cL_isRead 123 = .ok (.iconst 3, 1) := by decide +kernel
theorem dL_isRead_124 : decode cL_isRead 124 = .ok (.istore 11, 2) := by decide +kernel
theorem dL_isRead_126 : decode cL_isRead 126 = .ok (.goto 231, 3) := by decide +kernel
theorem dL_isRead_129 : decode cL_isRead 129 = .ok (.iload 14, 2) := by decide +kernel
theorem dL_isRead_131 : decode cL_isRead 131 = .ok (.bipush 9, 2) := by decide +kernel
theorem dL_isRead_133 : decode cL_isRead 133 = .ok (.if_icmp .ne 9, 3) := by decide +kernel
theorem dL_isRead_136 : decode cL_isRead 136 = .ok (.iconst 1, 1) := by decide +kernel
theorem dL_isRead_137 : decode cL_isRead 137 = .ok (.istore 12, 2) := by decide +kernel
theorem dL_isRead_139 : decode cL_isRead 139 = .ok (.goto 218, 3) := by decide +kernel
theorem dL_isRead_142 : decode cL_isRead 142 = .ok (.iload 14, 2) := by decide +kernel
theorem dL_isRead_144 : decode cL_isRead 144 = .ok (.bipush 8, 2) := by decide +kernel
theorem dL_isRead_146 : decode cL_isRead 146 = .ok (.if_icmp .ne 14, 3) := by decide +kernel
theorem dL_isRead_149 : decode cL_isRead 149 = .ok (.iload 7, 2) := by decide +kernel
theorem dL_isRead_151 : decode cL_isRead 151 = .ok (.istore 6, 2) := by decide +kernel
theorem dL_isRead_153 : decode cL_isRead 153 = .ok (.bipush 10, 2) := by decide +kernel
theorem dL_isRead_155 : decode cL_isRead 155 = .ok (.istore 5, 2) := by decide +kernel
theorem dL_isRead_157 : decode cL_isRead 157 = .ok (.goto 200, 3) := by decide +kernel
theorem dL_isRead_160 : decode cL_isRead 160 = .ok (.iload 14, 2) := by decide +kernel
theorem dL_isRead_162 : decode cL_isRead 162 = .ok (.bipush 8, 2) := by decide +kernel
theorem dL_isRead_164 : decode cL_isRead 164 = .ok (.if_icmp .lt 15, 3) := by decide +kernel
theorem dL_isRead_167 : decode cL_isRead 167 = .ok (.iload 14, 2) := by decide +kernel
theorem dL_isRead_169 : decode cL_isRead 169 = .ok (.iload 5, 2) := by decide +kernel
theorem dL_isRead_171 : decode cL_isRead 171 = .ok (.if_icmp .lt 8, 3) := by decide +kernel
theorem dL_isRead_174 : decode cL_isRead 174 = .ok (.iload 16, 2) := by decide +kernel
theorem dL_isRead_176 : decode cL_isRead 176 = .ok (.ifCond .eq 174, 3) := by decide +kernel
theorem dL_isRead_179 : decode cL_isRead 179 = .ok (.iload 14, 2) := by decide +kernel
theorem dL_isRead_181 : decode cL_isRead 181 = .ok (.bipush 8, 2) := by decide +kernel
theorem dL_isRead_183 : decode cL_isRead 183 = .ok (.if_icmp .ge 8, 3) := by decide +kernel
theorem dL_isRead_186 : decode cL_isRead 186 = .ok (.iload 8, 2) := by decide +kernel
theorem dL_isRead_188 : decode cL_isRead 188 = .ok (.goto 13, 3) := by decide +kernel
theorem dL_isRead_191 : decode cL_isRead 191 = .ok (.aload_n 3, 1) := by decide +kernel
theorem dL_isRead_192 : decode cL_isRead 192 = .ok (.iload 6, 2) := by decide +kernel
theorem dL_isRead_194 : decode cL_isRead 194 = .ok (.iload 14, 2) := by decide +kernel
theorem dL_isRead_196 : decode cL_isRead 196 = .ok (.iadd, 1) := by decide +kernel
theorem dL_isRead_197 : decode cL_isRead 197 = .ok (.bipush 10, 2) := by decide +kernel
theorem dL_isRead_199 : decode cL_isRead 199 = .ok (.isub, 1) := by decide +kernel
theorem dL_isRead_200 : decode cL_isRead 200 = .ok (.iaload, 1) := by decide +kernel
theorem dL_isRead_201 : decode cL_isRead 201 = .ok (.istore 17, 2) := by decide +kernel
theorem dL_isRead_203 : decode cL_isRead 203 = .ok (.iload 14, 2) := by decide +kernel
theorem dL_isRead_205 : decode cL_isRead 205 = .ok (.bipush 8, 2) := by decide +kernel
theorem dL_isRead_207 : decode cL_isRead 207 = .ok (.if_icmp .ge 7, 3) := by decide +kernel
theorem dL_isRead_210 : decode cL_isRead 210 = .ok (.iconst 1, 1) := by decide +kernel
theorem dL_isRead_211 : decode cL_isRead 211 = .ok (.goto 16, 3) := by decide +kernel
theorem dL_isRead_214 : decode cL_isRead 214 = .ok (.aload 4, 2) := by decide +kernel
theorem dL_isRead_216 : decode cL_isRead 216 = .ok (.iload 6, 2) := by decide +kernel
theorem dL_isRead_218 : decode cL_isRead 218 = .ok (.iload 14, 2) := by decide +kernel
theorem dL_isRead_220 : decode cL_isRead 220 = .ok (.iadd, 1) := by decide +kernel
theorem dL_isRead_221 : decode cL_isRead 221 = .ok (.bipush 10, 2) := by decide +kernel
theorem dL_isRead_223 : decode cL_isRead 223 = .ok (.isub, 1) := by decide +kernel
theorem dL_isRead_224 : decode cL_isRead 224 = .ok (.iaload, 1) := by decide +kernel
theorem dL_isRead_225 : decode cL_isRead 225 = .ok (.iconst 1, 1) := by decide +kernel
theorem dL_isRead_226 : decode cL_isRead 226 = .ok (.iadd, 1) := by decide +kernel
theorem dL_isRead_227 : decode cL_isRead 227 = .ok (.istore 18, 2) := by decide +kernel
theorem dL_isRead_229 : decode cL_isRead 229 = .ok (.iload 14, 2) := by decide +kernel
theorem dL_isRead_231 : decode cL_isRead 231 = .ok (.bipush 8, 2) := by decide +kernel
theorem dL_isRead_233 : decode cL_isRead 233 = .ok (.if_icmp .ge 16, 3) := by decide +kernel
theorem dL_isRead_236 : decode cL_isRead 236 = .ok (.aload_n 0, 1) := by decide +kernel
theorem dL_isRead_237 : decode cL_isRead 237 = .ok (.iload 8, 2) := by decide +kernel
theorem dL_isRead_239 : decode cL_isRead 239 = .ok (.invokevirtual 33, 3) := by decide +kernel
theorem dL_isRead_242 : decode cL_isRead 242 = .ok (.iload 14, 2) := by decide +kernel
theorem dL_isRead_244 : decode cL_isRead 244 = .ok (.if_icmp .eq 5, 3) := by decide +kernel
theorem dL_isRead_247 : decode cL_isRead 247 = .ok (.iconst 0, 1) := by decide +kernel
theorem dL_isRead_248 : decode cL_isRead 248 = .ok (.ireturn, 1) := by decide +kernel
theorem dL_isRead_249 : decode cL_isRead 249 = .ok (.iconst 0, 1) := by decide +kernel
theorem dL_isRead_250 : decode cL_isRead 250 = .ok (.istore 19, 2) := by decide +kernel
theorem dL_isRead_252 : decode cL_isRead 252 = .ok (.iload 19, 2) := by decide +kernel
theorem dL_isRead_254 : decode cL_isRead 254 = .ok (.iload 18, 2) := by decide +kernel
theorem dL_isRead_256 : decode cL_isRead 256 = .ok (.if_icmp .ge 32, 3) := by decide +kernel
theorem dL_isRead_259 : decode cL_isRead 259 = .ok (.aload_n 0, 1) := by decide +kernel
theorem dL_isRead_260 : decode cL_isRead 260 = .ok (.iload 8, 2) := by decide +kernel
theorem dL_isRead_262 : decode cL_isRead 262 = .ok (.iload 19, 2) := by decide +kernel
theorem dL_isRead_264 : decode cL_isRead 264 = .ok (.iadd, 1) := by decide +kernel
theorem dL_isRead_265 : decode cL_isRead 265 = .ok (.invokevirtual 33, 3) := by decide +kernel
theorem dL_isRead_268 : decode cL_isRead 268 = .ok (.aload_n 0, 1) := by decide +kernel
theorem dL_isRead_269 : decode cL_isRead 269 = .ok (.iload 17, 2) := by decide +kernel
theorem dL_isRead_271 : decode cL_isRead 271 = .ok (.iload 19, 2) := by decide +kernel
theorem dL_isRead_273 : decode cL_isRead 273 = .ok (.iadd, 1) := by decide +kernel
theorem dL_isRead_274 : decode cL_isRead 274 = .ok (.invokevirtual 33, 3) := by decide +kernel
theorem dL_isRead_277 : decode cL_isRead 277 = .ok (.if_icmp .eq 5, 3) := by decide +kernel
theorem dL_isRead_280 : decode cL_isRead 280 = .ok (.iconst 0, 1) := by decide +kernel
theorem dL_isRead_281 : decode cL_isRead 281 = .ok (.ireturn, 1) := by decide +kernel
theorem dL_isRead_282 : decode cL_isRead 282 = .ok (.iinc 19 1, 3) := by decide +kernel
theorem dL_isRead_285 : decode cL_isRead 285 = .ok (.goto (-33), 3) := by decide +kernel
theorem dL_isRead_288 : decode cL_isRead 288 = .ok (.aload_n 3, 1) := by decide +kernel
theorem dL_isRead_289 : decode cL_isRead 289 = .ok (.iload 7, 2) := by decide +kernel
theorem dL_isRead_291 : decode cL_isRead 291 = .ok (.iload 8, 2) := by decide +kernel
theorem dL_isRead_293 : decode cL_isRead 293 = .ok (.iastore, 1) := by decide +kernel
theorem dL_isRead_294 : decode cL_isRead 294 = .ok (.aload 4, 2) := by decide +kernel
theorem dL_isRead_296 : decode cL_isRead 296 = .ok (.iload 7, 2) := by decide +kernel
theorem dL_isRead_298 : decode cL_isRead 298 = .ok (.iload 18, 2) := by decide +kernel
theorem dL_isRead_300 : decode cL_isRead 300 = .ok (.iastore, 1) := by decide +kernel
theorem dL_isRead_301 : decode cL_isRead 301 = .ok (.iinc 7 1, 3) := by decide +kernel
theorem dL_isRead_304 : decode cL_isRead 304 = .ok (.iload 8, 2) := by decide +kernel
theorem dL_isRead_306 : decode cL_isRead 306 = .ok (.iload 18, 2) := by decide +kernel
theorem dL_isRead_308 : decode cL_isRead 308 = .ok (.iadd, 1) := by decide +kernel
theorem dL_isRead_309 : decode cL_isRead 309 = .ok (.istore 8, 2) := by decide +kernel
theorem dL_isRead_311 : decode cL_isRead 311 = .ok (.iload 9, 2) := by decide +kernel
theorem dL_isRead_313 : decode cL_isRead 313 = .ok (.iload 16, 2) := by decide +kernel
theorem dL_isRead_315 : decode cL_isRead 315 = .ok (.ifCond .eq 7, 3) := by decide +kernel
theorem dL_isRead_318 : decode cL_isRead 318 = .ok (.iconst 1, 1) := by decide +kernel
theorem dL_isRead_319 : decode cL_isRead 319 = .ok (.goto 4, 3) := by decide +kernel
theorem dL_isRead_322 : decode cL_isRead 322 = .ok (.iconst 0, 1) := by decide +kernel
theorem dL_isRead_323 : decode cL_isRead 323 = .ok (.iadd, 1) := by decide +kernel
theorem dL_isRead_324 : decode cL_isRead 324 = .ok (.istore 9, 2) := by decide +kernel
theorem dL_isRead_326 : decode cL_isRead 326 = .ok (.iload 5, 2) := by decide +kernel
theorem dL_isRead_328 : decode cL_isRead 328 = .ok (.iload 15, 2) := by decide +kernel
theorem dL_isRead_330 : decode cL_isRead 330 = .ok (.ifCond .eq 13, 3) := by decide +kernel
theorem dL_isRead_333 : decode cL_isRead 333 = .ok (.iload 5, 2) := by decide +kernel
theorem dL_isRead_335 : decode cL_isRead 335 = .ok (.iload_n 2, 1) := by decide +kernel
theorem dL_isRead_336 : decode cL_isRead 336 = .ok (.if_icmp .ge 7, 3) := by decide +kernel
theorem dL_isRead_339 : decode cL_isRead 339 = .ok (.iconst 1, 1) := by decide +kernel
theorem dL_isRead_340 : decode cL_isRead 340 = .ok (.goto 4, 3) := by decide +kernel
theorem dL_isRead_343 : decode cL_isRead 343 = .ok (.iconst 0, 1) := by decide +kernel
theorem dL_isRead_344 : decode cL_isRead 344 = .ok (.iadd, 1) := by decide +kernel
theorem dL_isRead_345 : decode cL_isRead 345 = .ok (.istore 5, 2) := by decide +kernel
theorem dL_isRead_347 : decode cL_isRead 347 = .ok (.goto 10, 3) := by decide +kernel
theorem dL_isRead_350 : decode cL_isRead 350 = .ok (.iload 13, 2) := by decide +kernel
theorem dL_isRead_352 : decode cL_isRead 352 = .ok (.istore 10, 2) := by decide +kernel
theorem dL_isRead_354 : decode cL_isRead 354 = .ok (.iconst 1, 1) := by decide +kernel
theorem dL_isRead_355 : decode cL_isRead 355 = .ok (.istore 11, 2) := by decide +kernel
theorem dL_isRead_357 : decode cL_isRead 357 = .ok (.iinc 13 1, 3) := by decide +kernel
theorem dL_isRead_360 : decode cL_isRead 360 = .ok (.goto (-305), 3) := by decide +kernel
theorem dL_isRead_363 : decode cL_isRead 363 = .ok (.iload 11, 2) := by decide +kernel
theorem dL_isRead_365 : decode cL_isRead 365 = .ok (.ifCond .ne 14, 3) := by decide +kernel
theorem dL_isRead_368 : decode cL_isRead 368 = .ok (.iload 12, 2) := by decide +kernel
theorem dL_isRead_370 : decode cL_isRead 370 = .ok (.ifCond .ne 9, 3) := by decide +kernel
theorem dL_isRead_373 : decode cL_isRead 373 = .ok (.iload_n 1, 1) := by decide +kernel
theorem dL_isRead_374 : decode cL_isRead 374 = .ok (.istore 10, 2) := by decide +kernel
theorem dL_isRead_376 : decode cL_isRead 376 = .ok (.iconst 2, 1) := by decide +kernel
theorem dL_isRead_377 : decode cL_isRead 377 = .ok (.istore 11, 2) := by decide +kernel
theorem dL_isRead_379 : decode cL_isRead 379 = .ok (.iconst 0, 1) := by decide +kernel
theorem dL_isRead_380 : decode cL_isRead 380 = .ok (.istore 13, 2) := by decide +kernel
theorem dL_isRead_382 : decode cL_isRead 382 = .ok (.iload 13, 2) := by decide +kernel
theorem dL_isRead_384 : decode cL_isRead 384 = .ok (.iload 8, 2) := by decide +kernel
theorem dL_isRead_386 : decode cL_isRead 386 = .ok (.if_icmp .ge 34, 3) := by decide +kernel
theorem dL_isRead_389 : decode cL_isRead 389 = .ok (.iload 13, 2) := by decide +kernel
theorem dL_isRead_391 : decode cL_isRead 391 = .ok (.aload_n 0, 1) := by decide +kernel
theorem dL_isRead_392 : decode cL_isRead 392 = .ok (.iconst 0, 1) := by decide +kernel
theorem dL_isRead_393 : decode cL_isRead 393 = .ok (.invokevirtual 8, 3) := by decide +kernel
theorem dL_isRead_396 : decode cL_isRead 396 = .ok (.if_icmp .ge 24, 3) := by decide +kernel
theorem dL_isRead_399 : decode cL_isRead 399 = .ok (.aload_n 0, 1) := by decide +kernel
theorem dL_isRead_400 : decode cL_isRead 400 = .ok (.iload 13, 2) := by decide +kernel
theorem dL_isRead_402 : decode cL_isRead 402 = .ok (.invokevirtual 33, 3) := by decide +kernel
theorem dL_isRead_405 : decode cL_isRead 405 = .ok (.aload_n 0, 1) := by decide +kernel
theorem dL_isRead_406 : decode cL_isRead 406 = .ok (.iload 13, 2) := by decide +kernel
theorem dL_isRead_408 : decode cL_isRead 408 = .ok (.invokevirtual 14, 3) := by decide +kernel
theorem dL_isRead_411 : decode cL_isRead 411 = .ok (.if_icmp .ne 9, 3) := by decide +kernel
theorem dL_isRead_414 : decode cL_isRead 414 = .ok (.iinc 13 1, 3) := by decide +kernel
theorem dL_isRead_417 : decode cL_isRead 417 = .ok (.goto (-35), 3) := by decide +kernel
theorem dL_isRead_420 : decode cL_isRead 420 = .ok (.aload_n 0, 1) := by decide +kernel
theorem dL_isRead_421 : decode cL_isRead 421 = .ok (.iconst 0, 1) := by decide +kernel
theorem dL_isRead_422 : decode cL_isRead 422 = .ok (.invokevirtual 36, 3) := by decide +kernel
theorem dL_isRead_425 : decode cL_isRead 425 = .ok (.iload 8, 2) := by decide +kernel
theorem dL_isRead_427 : decode cL_isRead 427 = .ok (.if_icmp .ne 47, 3) := by decide +kernel
theorem dL_isRead_430 : decode cL_isRead 430 = .ok (.aload_n 0, 1) := by decide +kernel
theorem dL_isRead_431 : decode cL_isRead 431 = .ok (.iconst 1, 1) := by decide +kernel
theorem dL_isRead_432 : decode cL_isRead 432 = .ok (.invokevirtual 36, 3) := by decide +kernel
theorem dL_isRead_435 : decode cL_isRead 435 = .ok (.iload 10, 2) := by decide +kernel
theorem dL_isRead_437 : decode cL_isRead 437 = .ok (.if_icmp .ne 37, 3) := by decide +kernel
theorem dL_isRead_440 : decode cL_isRead 440 = .ok (.aload_n 0, 1) := by decide +kernel
theorem dL_isRead_441 : decode cL_isRead 441 = .ok (.iconst 2, 1) := by decide +kernel
theorem dL_isRead_442 : decode cL_isRead 442 = .ok (.invokevirtual 36, 3) := by decide +kernel
theorem dL_isRead_445 : decode cL_isRead 445 = .ok (.iload 11, 2) := by decide +kernel
theorem dL_isRead_447 : decode cL_isRead 447 = .ok (.if_icmp .ne 27, 3) := by decide +kernel
theorem dL_isRead_450 : decode cL_isRead 450 = .ok (.aload_n 0, 1) := by decide +kernel
theorem dL_isRead_451 : decode cL_isRead 451 = .ok (.iconst 3, 1) := by decide +kernel
theorem dL_isRead_452 : decode cL_isRead 452 = .ok (.invokevirtual 36, 3) := by decide +kernel
theorem dL_isRead_455 : decode cL_isRead 455 = .ok (.iload 5, 2) := by decide +kernel
theorem dL_isRead_457 : decode cL_isRead 457 = .ok (.if_icmp .ne 17, 3) := by decide +kernel
theorem dL_isRead_460 : decode cL_isRead 460 = .ok (.aload_n 0, 1) := by decide +kernel
theorem dL_isRead_461 : decode cL_isRead 461 = .ok (.iconst 4, 1) := by decide +kernel
theorem dL_isRead_462 : decode cL_isRead 462 = .ok (.invokevirtual 36, 3) := by decide +kernel
theorem dL_isRead_465 : decode cL_isRead 465 = .ok (.iload 9, 2) := by decide +kernel
theorem dL_isRead_467 : decode cL_isRead 467 = .ok (.if_icmp .ne 7, 3) := by decide +kernel
theorem dL_isRead_470 : decode cL_isRead 470 = .ok (.iconst 1, 1) := by decide +kernel
theorem dL_isRead_471 : decode cL_isRead 471 = .ok (.goto 4, 3) := by decide +kernel
theorem dL_isRead_474 : decode cL_isRead 474 = .ok (.iconst 0, 1) := by decide +kernel
theorem dL_isRead_475 : decode cL_isRead 475 = .ok (.istore 14, 2) := by decide +kernel
theorem dL_isRead_477 : decode cL_isRead 477 = .ok (.iload 14, 2) := by decide +kernel
theorem dL_isRead_479 : decode cL_isRead 479 = .ok (.ifCond .eq 58, 3) := by decide +kernel
theorem dL_isRead_482 : decode cL_isRead 482 = .ok (.aload_n 0, 1) := by decide +kernel
theorem dL_isRead_483 : decode cL_isRead 483 = .ok (.iconst 5, 1) := by decide +kernel
theorem dL_isRead_484 : decode cL_isRead 484 = .ok (.invokevirtual 36, 3) := by decide +kernel
theorem dL_isRead_487 : decode cL_isRead 487 = .ok (.iload 13, 2) := by decide +kernel
theorem dL_isRead_489 : decode cL_isRead 489 = .ok (.iload 8, 2) := by decide +kernel
theorem dL_isRead_491 : decode cL_isRead 491 = .ok (.if_icmp .ne 18, 3) := by decide +kernel
theorem dL_isRead_494 : decode cL_isRead 494 = .ok (.iload 8, 2) := by decide +kernel
theorem dL_isRead_496 : decode cL_isRead 496 = .ok (.aload_n 0, 1) := by decide +kernel
theorem dL_isRead_497 : decode cL_isRead 497 = .ok (.iconst 0, 1) := by decide +kernel
theorem dL_isRead_498 : decode cL_isRead 498 = .ok (.invokevirtual 8, 3) := by decide +kernel
theorem dL_isRead_501 : decode cL_isRead 501 = .ok (.if_icmp .ne 8, 3) := by decide +kernel
theorem dL_isRead_504 : decode cL_isRead 504 = .ok (.bipush (-6), 2) := by decide +kernel
theorem dL_isRead_506 : decode cL_isRead 506 = .ok (.goto 5, 3) := by decide +kernel
theorem dL_isRead_509 : decode cL_isRead 509 = .ok (.iload 13, 2) := by decide +kernel
theorem dL_isRead_511 : decode cL_isRead 511 = .ok (.if_icmp .ne 26, 3) := by decide +kernel
theorem dL_isRead_514 : decode cL_isRead 514 = .ok (.aload_n 0, 1) := by decide +kernel
theorem dL_isRead_515 : decode cL_isRead 515 = .ok (.iload 8, 2) := by decide +kernel
theorem dL_isRead_517 : decode cL_isRead 517 = .ok (.invokevirtual 33, 3) := by decide +kernel
theorem dL_isRead_520 : decode cL_isRead 520 = .ok (.iconst (-1), 1) := by decide +kernel
theorem dL_isRead_521 : decode cL_isRead 521 = .ok (.if_icmp .ne 16, 3) := by decide +kernel
theorem dL_isRead_524 : decode cL_isRead 524 = .ok (.aload_n 0, 1) := by decide +kernel
theorem dL_isRead_525 : decode cL_isRead 525 = .ok (.iconst (-1), 1) := by decide +kernel
theorem dL_isRead_526 : decode cL_isRead 526 = .ok (.invokevirtual 33, 3) := by decide +kernel
theorem dL_isRead_529 : decode cL_isRead 529 = .ok (.iconst (-1), 1) := by decide +kernel
theorem dL_isRead_530 : decode cL_isRead 530 = .ok (.if_icmp .ne 7, 3) := by decide +kernel
theorem dL_isRead_533 : decode cL_isRead 533 = .ok (.iconst 1, 1) := by decide +kernel
theorem dL_isRead_534 : decode cL_isRead 534 = .ok (.goto 4, 3) := by decide +kernel
theorem dL_isRead_537 : decode cL_isRead 537 = .ok (.iconst 0, 1) := by decide +kernel
theorem dL_isRead_538 : decode cL_isRead 538 = .ok (.ireturn, 1) := by decide +kernel
theorem dL_agree_0 : decode cL_agree 0 = .ok (.iconst 0, 1) := by decide +kernel
theorem dL_agree_1 : decode cL_agree 1 = .ok (.istore_n 1, 1) := by decide +kernel
theorem dL_agree_2 : decode cL_agree 2 = .ok (.iconst 0, 1) := by decide +kernel
theorem dL_agree_3 : decode cL_agree 3 = .ok (.istore_n 2, 1) := by decide +kernel
theorem dL_agree_4 : decode cL_agree 4 = .ok (.iload_n 2, 1) := by decide +kernel
theorem dL_agree_5 : decode cL_agree 5 = .ok (.aload_n 0, 1) := by decide +kernel
theorem dL_agree_6 : decode cL_agree 6 = .ok (.iconst 1, 1) := by decide +kernel
theorem dL_agree_7 : decode cL_agree 7 = .ok (.invokevirtual 8, 3) := by decide +kernel
theorem dL_agree_10 : decode cL_agree 10 = .ok (.if_icmp .ge 32, 3) := by decide +kernel
theorem dL_agree_13 : decode cL_agree 13 = .ok (.iload_n 1, 1) := by decide +kernel
theorem dL_agree_14 : decode cL_agree 14 = .ok (.aload_n 0, 1) := by decide +kernel
theorem dL_agree_15 : decode cL_agree 15 = .ok (.iload_n 2, 1) := by decide +kernel
theorem dL_agree_16 : decode cL_agree 16 = .ok (.iconst 0, 1) := by decide +kernel
theorem dL_agree_17 : decode cL_agree 17 = .ok (.invokevirtual 17, 3) := by decide +kernel
theorem dL_agree_20 : decode cL_agree 20 = .ok (.aload_n 0, 1) := by decide +kernel
theorem dL_agree_21 : decode cL_agree 21 = .ok (.iload_n 2, 1) := by decide +kernel
theorem dL_agree_22 : decode cL_agree 22 = .ok (.iconst 1, 1) := by decide +kernel
theorem dL_agree_23 : decode cL_agree 23 = .ok (.invokevirtual 17, 3) := by decide +kernel
theorem dL_agree_26 : decode cL_agree 26 = .ok (.if_icmp .eq 7, 3) := by decide +kernel
theorem dL_agree_29 : decode cL_agree 29 = .ok (.iconst 1, 1) := by decide +kernel
theorem dL_agree_30 : decode cL_agree 30 = .ok (.goto 4, 3) := by decide +kernel
theorem dL_agree_33 : decode cL_agree 33 = .ok (.iconst 0, 1) := by decide +kernel
theorem dL_agree_34 : decode cL_agree 34 = .ok (.iadd, 1) := by decide +kernel
theorem dL_agree_35 : decode cL_agree 35 = .ok (.istore_n 1, 1) := by decide +kernel
theorem dL_agree_36 : decode cL_agree 36 = .ok (.iinc 2 1, 3) := by decide +kernel
theorem dL_agree_39 : decode cL_agree 39 = .ok (.goto (-35), 3) := by decide +kernel
theorem dL_agree_42 : decode cL_agree 42 = .ok (.aload_n 0, 1) := by decide +kernel
theorem dL_agree_43 : decode cL_agree 43 = .ok (.bipush 6, 2) := by decide +kernel
theorem dL_agree_45 : decode cL_agree 45 = .ok (.invokevirtual 8, 3) := by decide +kernel
theorem dL_agree_48 : decode cL_agree 48 = .ok (.iload_n 1, 1) := by decide +kernel
theorem dL_agree_49 : decode cL_agree 49 = .ok (.if_icmp .ne 50, 3) := by decide +kernel
theorem dL_agree_52 : decode cL_agree 52 = .ok (.aload_n 0, 1) := by decide +kernel
theorem dL_agree_53 : decode cL_agree 53 = .ok (.invokestatic 39, 3) := by decide +kernel
theorem dL_agree_56 : decode cL_agree 56 = .ok (.ifCond .eq 43, 3) := by decide +kernel
theorem dL_agree_59 : decode cL_agree 59 = .ok (.aload_n 0, 1) := by decide +kernel
theorem dL_agree_60 : decode cL_agree 60 = .ok (.invokestatic 43, 3) := by decide +kernel
theorem dL_agree_63 : decode cL_agree 63 = .ok (.ifCond .eq 36, 3) := by decide +kernel
theorem dL_agree_66 : decode cL_agree 66 = .ok (.aload_n 0, 1) := by decide +kernel
theorem dL_agree_67 : decode cL_agree 67 = .ok (.invokestatic 46, 3) := by decide +kernel
theorem dL_agree_70 : decode cL_agree 70 = .ok (.ifCond .eq 29, 3) := by decide +kernel
theorem dL_agree_73 : decode cL_agree 73 = .ok (.iload_n 1, 1) := by decide +kernel
theorem dL_agree_74 : decode cL_agree 74 = .ok (.ifCond .gt 21, 3) := by decide +kernel
theorem dL_agree_77 : decode cL_agree 77 = .ok (.aload_n 0, 1) := by decide +kernel
theorem dL_agree_78 : decode cL_agree 78 = .ok (.iconst 5, 1) := by decide +kernel
theorem dL_agree_79 : decode cL_agree 79 = .ok (.invokevirtual 36, 3) := by decide +kernel
theorem dL_agree_82 : decode cL_agree 82 = .ok (.bipush (-6), 2) := by decide +kernel
theorem dL_agree_84 : decode cL_agree 84 = .ok (.if_icmp .ne 15, 3) := by decide +kernel
theorem dL_agree_87 : decode cL_agree 87 = .ok (.aload_n 0, 1) := by decide +kernel
theorem dL_agree_88 : decode cL_agree 88 = .ok (.iconst 2, 1) := by decide +kernel
theorem dL_agree_89 : decode cL_agree 89 = .ok (.invokevirtual 36, 3) := by decide +kernel
theorem dL_agree_92 : decode cL_agree 92 = .ok (.ifCond .ne 7, 3) := by decide +kernel
theorem dL_agree_95 : decode cL_agree 95 = .ok (.iconst 1, 1) := by decide +kernel
theorem dL_agree_96 : decode cL_agree 96 = .ok (.goto 4, 3) := by decide +kernel
theorem dL_agree_99 : decode cL_agree 99 = .ok (.iconst 0, 1) := by decide +kernel
theorem dL_agree_100 : decode cL_agree 100 = .ok (.ireturn, 1) := by decide +kernel
theorem dL_isSpoiled_0 : decode cL_isSpoiled 0 = .ok (.iload_n 1, 1) := by decide +kernel
theorem dL_isSpoiled_1 : decode cL_isSpoiled 1 = .ok (.aload_n 0, 1) := by decide +kernel
theorem dL_isSpoiled_2 : decode cL_isSpoiled 2 = .ok (.iconst 1, 1) := by decide +kernel
theorem dL_isSpoiled_3 : decode cL_isSpoiled 3 = .ok (.invokevirtual 8, 3) := by decide +kernel
theorem dL_isSpoiled_6 : decode cL_isSpoiled 6 = .ok (.if_icmp .ge 12, 3) := by decide +kernel
theorem dL_isSpoiled_9 : decode cL_isSpoiled 9 = .ok (.aload_n 0, 1) := by decide +kernel
theorem dL_isSpoiled_10 : decode cL_isSpoiled 10 = .ok (.iload_n 1, 1) := by decide +kernel
theorem dL_isSpoiled_11 : decode cL_isSpoiled 11 = .ok (.iconst 1, 1) := by decide +kernel
theorem dL_isSpoiled_12 : decode cL_isSpoiled 12 = .ok (.invokevirtual 17, 3) := by decide +kernel
theorem dL_isSpoiled_15 : decode cL_isSpoiled 15 = .ok (.goto 4, 3) := by decide +kernel
theorem dL_isSpoiled_18 : decode cL_isSpoiled 18 = .ok (.iconst (-1), 1) := by decide +kernel
theorem dL_isSpoiled_19 : decode cL_isSpoiled 19 = .ok (.istore_n 3, 1) := by decide +kernel
theorem dL_isSpoiled_20 : decode cL_isSpoiled 20 = .ok (.aload_n 0, 1) := by decide +kernel
theorem dL_isSpoiled_21 : decode cL_isSpoiled 21 = .ok (.iload_n 1, 1) := by decide +kernel
theorem dL_isSpoiled_22 : decode cL_isSpoiled 22 = .ok (.iload_n 2, 1) := by decide +kernel
theorem dL_isSpoiled_23 : decode cL_isSpoiled 23 = .ok (.invokevirtual 49, 3) := by decide +kernel
theorem dL_isSpoiled_26 : decode cL_isSpoiled 26 = .ok (.istore 4, 2) := by decide +kernel
theorem dL_isSpoiled_28 : decode cL_isSpoiled 28 = .ok (.iload_n 3, 1) := by decide +kernel
theorem dL_isSpoiled_29 : decode cL_isSpoiled 29 = .ok (.ifCond .ge 17, 3) := by decide +kernel
theorem dL_isSpoiled_32 : decode cL_isSpoiled 32 = .ok (.iload 4, 2) := by decide +kernel
theorem dL_isSpoiled_34 : decode cL_isSpoiled 34 = .ok (.iconst (-1), 1) := by decide +kernel
theorem dL_isSpoiled_35 : decode cL_isSpoiled 35 = .ok (.if_icmp .ne 7, 3) := by decide +kernel
theorem dL_isSpoiled_38 : decode cL_isSpoiled 38 = .ok (.iconst 1, 1) := by decide +kernel
theorem dL_isSpoiled_39 : decode cL_isSpoiled 39 = .ok (.goto 31, 3) := by decide +kernel
theorem dL_isSpoiled_42 : decode cL_isSpoiled 42 = .ok (.iconst 0, 1) := by decide +kernel
theorem dL_isSpoiled_43 : decode cL_isSpoiled 43 = .ok (.goto 27, 3) := by decide +kernel
theorem dL_isSpoiled_46 : decode cL_isSpoiled 46 = .ok (.iload 4, 2) := by decide +kernel
theorem dL_isSpoiled_48 : decode cL_isSpoiled 48 = .ok (.iload_n 3, 1) := by decide +kernel
theorem dL_isSpoiled_49 : decode cL_isSpoiled 49 = .ok (.iload_n 2, 1) := by decide +kernel
theorem dL_isSpoiled_50 : decode cL_isSpoiled 50 = .ok (.ixor, 1) := by decide +kernel
theorem dL_isSpoiled_51 : decode cL_isSpoiled 51 = .ok (.if_icmp .ne 18, 3) := by decide +kernel
theorem dL_isSpoiled_54 : decode cL_isSpoiled 54 = .ok (.aload_n 0, 1) := by decide +kernel
theorem dL_isSpoiled_55 : decode cL_isSpoiled 55 = .ok (.iload_n 1, 1) := by decide +kernel
theorem dL_isSpoiled_56 : decode cL_isSpoiled 56 = .ok (.iconst 1, 1) := by decide +kernel
theorem dL_isSpoiled_57 : decode cL_isSpoiled 57 = .ok (.invokevirtual 17, 3) := by decide +kernel
theorem dL_isSpoiled_60 : decode cL_isSpoiled 60 = .ok (.iload 4, 2) := by decide +kernel
theorem dL_isSpoiled_62 : decode cL_isSpoiled 62 = .ok (.if_icmp .ne 7, 3) := by decide +kernel
theorem dL_isSpoiled_65 : decode cL_isSpoiled 65 = .ok (.iconst 1, 1) := by decide +kernel
theorem dL_isSpoiled_66 : decode cL_isSpoiled 66 = .ok (.goto 4, 3) := by decide +kernel
theorem dL_isSpoiled_69 : decode cL_isSpoiled 69 = .ok (.iconst 0, 1) := by decide +kernel
theorem dL_isSpoiled_70 : decode cL_isSpoiled 70 = .ok (.ireturn, 1) := by decide +kernel
theorem dL_isAct_0 : decode cL_isAct 0 = .ok (.aload_n 0, 1) := by decide +kernel
theorem dL_isAct_1 : decode cL_isAct 1 = .ok (.iconst 0, 1) := by decide +kernel
theorem dL_isAct_2 : decode cL_isAct 2 = .ok (.invokevirtual 8, 3) := by decide +kernel
theorem dL_isAct_5 : decode cL_isAct 5 = .ok (.istore_n 3, 1) := by decide +kernel
theorem dL_isAct_6 : decode cL_isAct 6 = .ok (.aload_n 1, 1) := by decide +kernel
theorem dL_isAct_7 : decode cL_isAct 7 = .ok (.iload_n 2, 1) := by decide +kernel
theorem dL_isAct_8 : decode cL_isAct 8 = .ok (.bipush 10, 2) := by decide +kernel
theorem dL_isAct_10 : decode cL_isAct 10 = .ok (.invokestatic 52, 3) := by decide +kernel
theorem dL_isAct_13 : decode cL_isAct 13 = .ok (.tableswitch 280 0 4 #[35, 35, 35, 127, 170], 35) := by decide +kernel
theorem dL_isAct_48 : decode cL_isAct 48 = .ok (.aload_n 1, 1) := by decide +kernel
theorem dL_isAct_49 : decode cL_isAct 49 = .ok (.iload_n 2, 1) := by decide +kernel
theorem dL_isAct_50 : decode cL_isAct 50 = .ok (.iconst 1, 1) := by decide +kernel
theorem dL_isAct_51 : decode cL_isAct 51 = .ok (.iadd, 1) := by decide +kernel
theorem dL_isAct_52 : decode cL_isAct 52 = .ok (.aload_n 1, 1) := by decide +kernel
theorem dL_isAct_53 : decode cL_isAct 53 = .ok (.iload_n 2, 1) := by decide +kernel
theorem dL_isAct_54 : decode cL_isAct 54 = .ok (.iconst 2, 1) := by decide +kernel
theorem dL_isAct_55 : decode cL_isAct 55 = .ok (.iadd, 1) := by decide +kernel
theorem dL_isAct_56 : decode cL_isAct 56 = .ok (.iconst 3, 1) := by decide +kernel
theorem dL_isAct_57 : decode cL_isAct 57 = .ok (.invokestatic 52, 3) := by decide +kernel
theorem dL_isAct_60 : decode cL_isAct 60 = .ok (.ifCond .ne 8, 3) := by decide +kernel
theorem dL_isAct_63 : decode cL_isAct 63 = .ok (.bipush 8, 2) := by decide +kernel
theorem dL_isAct_65 : decode cL_isAct 65 = .ok (.goto 4, 3) := by decide +kernel
theorem dL_isAct_68 : decode cL_isAct 68 = .ok (.iconst 2, 1) := by decide +kernel
theorem dL_isAct_69 : decode cL_isAct 69 = .ok (.invokestatic 52, 3) := by decide +kernel
theorem dL_isAct_72 : decode cL_isAct 72 = .ok (.istore 4, 2) := by decide +kernel
theorem dL_isAct_74 : decode cL_isAct 74 = .ok (.iconst 1, 1) := by decide +kernel
theorem dL_isAct_75 : decode cL_isAct 75 = .ok (.aload_n 1, 1) := by decide +kernel
theorem dL_isAct_76 : decode cL_isAct 76 = .ok (.iload_n 2, 1) := by decide +kernel
theorem dL_isAct_77 : decode cL_isAct 77 = .ok (.iconst 3, 1) := by decide +kernel
theorem dL_isAct_78 : decode cL_isAct 78 = .ok (.iadd, 1) := by decide +kernel
theorem dL_isAct_79 : decode cL_isAct 79 = .ok (.iconst 3, 1) := by decide +kernel
theorem dL_isAct_80 : decode cL_isAct 80 = .ok (.invokestatic 52, 3) := by decide +kernel
theorem dL_isAct_83 : decode cL_isAct 83 = .ok (.iadd, 1) := by decide +kernel
theorem dL_isAct_84 : decode cL_isAct 84 = .ok (.istore 5, 2) := by decide +kernel
theorem dL_isAct_86 : decode cL_isAct 86 = .ok (.iload_n 3, 1) := by decide +kernel
theorem dL_isAct_87 : decode cL_isAct 87 = .ok (.iload 5, 2) := by decide +kernel
theorem dL_isAct_89 : decode cL_isAct 89 = .ok (.iadd, 1) := by decide +kernel
theorem dL_isAct_90 : decode cL_isAct 90 = .ok (.bipush 34, 2) := by decide +kernel
theorem dL_isAct_92 : decode cL_isAct 92 = .ok (.if_icmp .gt 42, 3) := by decide +kernel
theorem dL_isAct_95 : decode cL_isAct 95 = .ok (.aload_n 0, 1) := by decide +kernel
theorem dL_isAct_96 : decode cL_isAct 96 = .ok (.iload 4, 2) := by decide +kernel
theorem dL_isAct_98 : decode cL_isAct 98 = .ok (.iload 5, 2) := by decide +kernel
theorem dL_isAct_100 : decode cL_isAct 100 = .ok (.invokevirtual 56, 3) := by decide +kernel
theorem dL_isAct_103 : decode cL_isAct 103 = .ok (.iload_n 3, 1) := by decide +kernel
theorem dL_isAct_104 : decode cL_isAct 104 = .ok (.iload 5, 2) := by decide +kernel
theorem dL_isAct_106 : decode cL_isAct 106 = .ok (.iadd, 1) := by decide +kernel
theorem dL_isAct_107 : decode cL_isAct 107 = .ok (.if_icmp .ne 31, 3) := by decide +kernel
theorem dL_isAct_110 : decode cL_isAct 110 = .ok (.aload_n 0, 1) := by decide +kernel
theorem dL_isAct_111 : decode cL_isAct 111 = .ok (.iload_n 3, 1) := by decide +kernel
theorem dL_isAct_112 : decode cL_isAct 112 = .ok (.iload 5, 2) := by decide +kernel
theorem dL_isAct_114 : decode cL_isAct 114 = .ok (.iadd, 1) := by decide +kernel
theorem dL_isAct_115 : decode cL_isAct 115 = .ok (.iconst 1, 1) := by decide +kernel
theorem dL_isAct_116 : decode cL_isAct 116 = .ok (.isub, 1) := by decide +kernel
theorem dL_isAct_117 : decode cL_isAct 117 = .ok (.invokevirtual 14, 3) := by decide +kernel
theorem dL_isAct_120 : decode cL_isAct 120 = .ok (.iload 4, 2) := by decide +kernel
theorem dL_isAct_122 : decode cL_isAct 122 = .ok (.if_icmp .ne 16, 3) := by decide +kernel
theorem dL_isAct_125 : decode cL_isAct 125 = .ok (.aload_n 0, 1) := by decide +kernel
theorem dL_isAct_126 : decode cL_isAct 126 = .ok (.bipush 6, 2) := by decide +kernel
theorem dL_isAct_128 : decode cL_isAct 128 = .ok (.invokevirtual 8, 3) := by decide +kernel
theorem dL_isAct_131 : decode cL_isAct 131 = .ok (.ifCond .ne 7, 3) := by decide +kernel
theorem dL_isAct_134 : decode cL_isAct 134 = .ok (.iconst 1, 1) := by decide +kernel
theorem dL_isAct_135 : decode cL_isAct 135 = .ok (.goto 4, 3) := by decide +kernel
theorem dL_isAct_138 : decode cL_isAct 138 = .ok (.iconst 0, 1) := by decide +kernel
theorem dL_isAct_139 : decode cL_isAct 139 = .ok (.ireturn, 1) := by decide +kernel
theorem dL_isAct_140 : decode cL_isAct 140 = .ok (.iconst 1, 1) := by decide +kernel
theorem dL_isAct_141 : decode cL_isAct 141 = .ok (.aload_n 1, 1) := by decide +kernel
theorem dL_isAct_142 : decode cL_isAct 142 = .ok (.iload_n 2, 1) := by decide +kernel
theorem dL_isAct_143 : decode cL_isAct 143 = .ok (.iconst 1, 1) := by decide +kernel
theorem dL_isAct_144 : decode cL_isAct 144 = .ok (.iadd, 1) := by decide +kernel
theorem dL_isAct_145 : decode cL_isAct 145 = .ok (.bipush 12, 2) := by decide +kernel
theorem dL_isAct_147 : decode cL_isAct 147 = .ok (.invokestatic 52, 3) := by decide +kernel
theorem dL_isAct_150 : decode cL_isAct 150 = .ok (.iadd, 1) := by decide +kernel
theorem dL_isAct_151 : decode cL_isAct 151 = .ok (.istore 6, 2) := by decide +kernel
theorem dL_isAct_153 : decode cL_isAct 153 = .ok (.aload_n 0, 1) := by decide +kernel
theorem dL_isAct_154 : decode cL_isAct 154 = .ok (.iload 6, 2) := by decide +kernel
theorem dL_isAct_156 : decode cL_isAct 156 = .ok (.invokevirtual 59, 3) := by decide +kernel
theorem dL_isAct_159 : decode cL_isAct 159 = .ok (.iload 6, 2) := by decide +kernel
theorem dL_isAct_161 : decode cL_isAct 161 = .ok (.iload_n 3, 1) := by decide +kernel
theorem dL_isAct_162 : decode cL_isAct 162 = .ok (.if_icmp .le 8, 3) := by decide +kernel
theorem dL_isAct_165 : decode cL_isAct 165 = .ok (.bipush (-5), 2) := by decide +kernel
theorem dL_isAct_167 : decode cL_isAct 167 = .ok (.goto 7, 3) := by decide +kernel
theorem dL_isAct_170 : decode cL_isAct 170 = .ok (.iload_n 3, 1) := by decide +kernel
theorem dL_isAct_171 : decode cL_isAct 171 = .ok (.iload 6, 2) := by decide +kernel
theorem dL_isAct_173 : decode cL_isAct 173 = .ok (.isub, 1) := by decide +kernel
theorem dL_isAct_174 : decode cL_isAct 174 = .ok (.if_icmp .ne 7, 3) := by decide +kernel
theorem dL_isAct_177 : decode cL_isAct 177 = .ok (.iconst 1, 1) := by decide +kernel
theorem dL_isAct_178 : decode cL_isAct 178 = .ok (.goto 4, 3) := by decide +kernel
theorem dL_isAct_181 : decode cL_isAct 181 = .ok (.iconst 0, 1) := by decide +kernel
theorem dL_isAct_182 : decode cL_isAct 182 = .ok (.ireturn, 1) := by decide +kernel
theorem dL_isAct_183 : decode cL_isAct 183 = .ok (.aload_n 1, 1) := by decide +kernel
theorem dL_isAct_184 : decode cL_isAct 184 = .ok (.iload_n 2, 1) := by decide +kernel
theorem dL_isAct_185 : decode cL_isAct 185 = .ok (.iconst 1, 1) := by decide +kernel
theorem dL_isAct_186 : decode cL_isAct 186 = .ok (.iadd, 1) := by decide +kernel
theorem dL_isAct_187 : decode cL_isAct 187 = .ok (.iconst 3, 1) := by decide +kernel
theorem dL_isAct_188 : decode cL_isAct 188 = .ok (.invokestatic 52, 3) := by decide +kernel
theorem dL_isAct_191 : decode cL_isAct 191 = .ok (.istore 7, 2) := by decide +kernel
theorem dL_isAct_193 : decode cL_isAct 193 = .ok (.iload 7, 2) := by decide +kernel
theorem dL_isAct_195 : decode cL_isAct 195 = .ok (.ifCond .ne 16, 3) := by decide +kernel
theorem dL_isAct_198 : decode cL_isAct 198 = .ok (.iconst 4, 1) := by decide +kernel
theorem dL_isAct_199 : decode cL_isAct 199 = .ok (.aload_n 1, 1) := by decide +kernel
theorem dL_isAct_200 : decode cL_isAct 200 = .ok (.iload_n 2, 1) := by decide +kernel
theorem dL_isAct_201 : decode cL_isAct 201 = .ok (.iconst 2, 1) := by decide +kernel
theorem dL_isAct_202 : decode cL_isAct 202 = .ok (.iadd, 1) := by decide +kernel
theorem dL_isAct_203 : decode cL_isAct 203 = .ok (.iconst 3, 1) := by decide +kernel
theorem dL_isAct_204 : decode cL_isAct 204 = .ok (.invokestatic 52, 3) := by decide +kernel
theorem dL_isAct_207 : decode cL_isAct 207 = .ok (.iadd, 1) := by decide +kernel
theorem dL_isAct_208 : decode cL_isAct 208 = .ok (.goto 30, 3) := by decide +kernel
theorem dL_isAct_211 : decode cL_isAct 211 = .ok (.iload 7, 2) := by decide +kernel
theorem dL_isAct_213 : decode cL_isAct 213 = .ok (.iconst 1, 1) := by decide +kernel
theorem dL_isAct_214 : decode cL_isAct 214 = .ok (.if_icmp .ne 14, 3) := by decide +kernel
theorem dL_isAct_217 : decode cL_isAct 217 = .ok (.aload_n 1, 1) := by decide +kernel
theorem dL_isAct_218 : decode cL_isAct 218 = .ok (.iload_n 2, 1) := by decide +kernel
theorem dL_isAct_219 : decode cL_isAct 219 = .ok (.iconst 2, 1) := by decide +kernel
theorem dL_isAct_220 : decode cL_isAct 220 = .ok (.iadd, 1) := by decide +kernel
theorem dL_isAct_221 : decode cL_isAct 221 = .ok (.iconst 3, 1) := by decide +kernel
theorem dL_isAct_222 : decode cL_isAct 222 = .ok (.invokestatic 52, 3) := by decide +kernel
theorem dL_isAct_225 : decode cL_isAct 225 = .ok (.goto 13, 3) := by decide +kernel
theorem dL_isAct_228 : decode cL_isAct 228 = .ok (.iconst 4, 1) := by decide +kernel
theorem dL_isAct_229 : decode cL_isAct 229 = .ok (.aload_n 1, 1) := by decide +kernel
theorem dL_isAct_230 : decode cL_isAct 230 = .ok (.iload_n 2, 1) := by decide +kernel
theorem dL_isAct_231 : decode cL_isAct 231 = .ok (.iconst 2, 1) := by decide +kernel
theorem dL_isAct_232 : decode cL_isAct 232 = .ok (.iadd, 1) := by decide +kernel
theorem dL_isAct_233 : decode cL_isAct 233 = .ok (.iconst 3, 1) := by decide +kernel
theorem dL_isAct_234 : decode cL_isAct 234 = .ok (.invokestatic 52, 3) := by decide +kernel
theorem dL_isAct_237 : decode cL_isAct 237 = .ok (.iadd, 1) := by decide +kernel
theorem dL_isAct_238 : decode cL_isAct 238 = .ok (.istore 8, 2) := by decide +kernel
theorem dL_isAct_240 : decode cL_isAct 240 = .ok (.aload_n 0, 1) := by decide +kernel
theorem dL_isAct_241 : decode cL_isAct 241 = .ok (.bipush 9, 2) := by decide +kernel
theorem dL_isAct_243 : decode cL_isAct 243 = .ok (.iload 7, 2) := by decide +kernel
theorem dL_isAct_245 : decode cL_isAct 245 = .ok (.iadd, 1) := by decide +kernel
theorem dL_isAct_246 : decode cL_isAct 246 = .ok (.invokevirtual 8, 3) := by decide +kernel
theorem dL_isAct_249 : decode cL_isAct 249 = .ok (.istore 9, 2) := by decide +kernel
theorem dL_isAct_251 : decode cL_isAct 251 = .ok (.aload_n 0, 1) := by decide +kernel
theorem dL_isAct_252 : decode cL_isAct 252 = .ok (.iload 7, 2) := by decide +kernel
theorem dL_isAct_254 : decode cL_isAct 254 = .ok (.iload 8, 2) := by decide +kernel
theorem dL_isAct_256 : decode cL_isAct 256 = .ok (.invokevirtual 62, 3) := by decide +kernel
theorem dL_isAct_259 : decode cL_isAct 259 = .ok (.iload 9, 2) := by decide +kernel
theorem dL_isAct_261 : decode cL_isAct 261 = .ok (.if_icmp .ne 30, 3) := by decide +kernel
theorem dL_isAct_264 : decode cL_isAct 264 = .ok (.aload_n 0, 1) := by decide +kernel
theorem dL_isAct_265 : decode cL_isAct 265 = .ok (.bipush 9, 2) := by decide +kernel
theorem dL_isAct_267 : decode cL_isAct 267 = .ok (.iload 7, 2) := by decide +kernel
theorem dL_isAct_269 : decode cL_isAct 269 = .ok (.iadd, 1) := by decide +kernel
theorem dL_isAct_270 : decode cL_isAct 270 = .ok (.invokevirtual 8, 3) := by decide +kernel
theorem dL_isAct_273 : decode cL_isAct 273 = .ok (.iload 8, 2) := by decide +kernel
theorem dL_isAct_275 : decode cL_isAct 275 = .ok (.if_icmp .ne 16, 3) := by decide +kernel
theorem dL_isAct_278 : decode cL_isAct 278 = .ok (.aload_n 0, 1) := by decide +kernel
theorem dL_isAct_279 : decode cL_isAct 279 = .ok (.bipush 6, 2) := by decide +kernel
theorem dL_isAct_281 : decode cL_isAct 281 = .ok (.invokevirtual 8, 3) := by decide +kernel
theorem dL_isAct_284 : decode cL_isAct 284 = .ok (.ifCond .ne 7, 3) := by decide +kernel
theorem dL_isAct_287 : decode cL_isAct 287 = .ok (.iconst 1, 1) := by decide +kernel
theorem dL_isAct_288 : decode cL_isAct 288 = .ok (.goto 4, 3) := by decide +kernel
theorem dL_isAct_291 : decode cL_isAct 291 = .ok (.iconst 0, 1) := by decide +kernel
theorem dL_isAct_292 : decode cL_isAct 292 = .ok (.ireturn, 1) := by decide +kernel
theorem dL_isAct_293 : decode cL_isAct 293 = .ok (.aload_n 0, 1) := by decide +kernel
theorem dL_isAct_294 : decode cL_isAct 294 = .ok (.aload_n 1, 1) := by decide +kernel
theorem dL_isAct_295 : decode cL_isAct 295 = .ok (.iload_n 2, 1) := by decide +kernel
theorem dL_isAct_296 : decode cL_isAct 296 = .ok (.iconst 1, 1) := by decide +kernel
theorem dL_isAct_297 : decode cL_isAct 297 = .ok (.iadd, 1) := by decide +kernel
theorem dL_isAct_298 : decode cL_isAct 298 = .ok (.aload_n 0, 1) := by decide +kernel
theorem dL_isAct_299 : decode cL_isAct 299 = .ok (.iconst 1, 1) := by decide +kernel
theorem dL_isAct_300 : decode cL_isAct 300 = .ok (.invokevirtual 8, 3) := by decide +kernel
theorem dL_isAct_303 : decode cL_isAct 303 = .ok (.iconst 1, 1) := by decide +kernel
theorem dL_isAct_304 : decode cL_isAct 304 = .ok (.iadd, 1) := by decide +kernel
theorem dL_isAct_305 : decode cL_isAct 305 = .ok (.invokestatic 52, 3) := by decide +kernel
theorem dL_isAct_308 : decode cL_isAct 308 = .ok (.aload_n 1, 1) := by decide +kernel
theorem dL_isAct_309 : decode cL_isAct 309 = .ok (.iload_n 2, 1) := by decide +kernel
theorem dL_isAct_310 : decode cL_isAct 310 = .ok (.iconst 2, 1) := by decide +kernel
theorem dL_isAct_311 : decode cL_isAct 311 = .ok (.iadd, 1) := by decide +kernel
theorem dL_isAct_312 : decode cL_isAct 312 = .ok (.iconst 3, 1) := by decide +kernel
theorem dL_isAct_313 : decode cL_isAct 313 = .ok (.invokestatic 52, 3) := by decide +kernel
theorem dL_isAct_316 : decode cL_isAct 316 = .ok (.ifCond .ne 18, 3) := by decide +kernel
theorem dL_isAct_319 : decode cL_isAct 319 = .ok (.iconst 1, 1) := by decide +kernel
theorem dL_isAct_320 : decode cL_isAct 320 = .ok (.aload_n 1, 1) := by decide +kernel
theorem dL_isAct_321 : decode cL_isAct 321 = .ok (.iload_n 2, 1) := by decide +kernel
theorem dL_isAct_322 : decode cL_isAct 322 = .ok (.iconst 3, 1) := by decide +kernel
theorem dL_isAct_323 : decode cL_isAct 323 = .ok (.iadd, 1) := by decide +kernel
theorem dL_isAct_324 : decode cL_isAct 324 = .ok (.sipush 511, 3) := by decide +kernel
theorem dL_isAct_327 : decode cL_isAct 327 = .ok (.invokestatic 52, 3) := by decide +kernel
theorem dL_isAct_330 : decode cL_isAct 330 = .ok (.iadd, 1) := by decide +kernel
theorem dL_isAct_331 : decode cL_isAct 331 = .ok (.goto 13, 3) := by decide +kernel
theorem dL_isAct_334 : decode cL_isAct 334 = .ok (.iconst 1, 1) := by decide +kernel
theorem dL_isAct_335 : decode cL_isAct 335 = .ok (.aload_n 1, 1) := by decide +kernel
theorem dL_isAct_336 : decode cL_isAct 336 = .ok (.iload_n 2, 1) := by decide +kernel
theorem dL_isAct_337 : decode cL_isAct 337 = .ok (.iconst 3, 1) := by decide +kernel
theorem dL_isAct_338 : decode cL_isAct 338 = .ok (.iadd, 1) := by decide +kernel
theorem dL_isAct_339 : decode cL_isAct 339 = .ok (.iconst 5, 1) := by decide +kernel
theorem dL_isAct_340 : decode cL_isAct 340 = .ok (.invokestatic 52, 3) := by decide +kernel
theorem dL_isAct_343 : decode cL_isAct 343 = .ok (.ishl, 1) := by decide +kernel
theorem dL_isAct_344 : decode cL_isAct 344 = .ok (.invokestatic 65, 3) := by decide +kernel
theorem dL_isAct_347 : decode cL_isAct 347 = .ok (.ireturn, 1) := by decide +kernel
theorem dL_law_0 : decode cL_law 0 = .ok (.new 9, 3) := by decide +kernel
theorem dL_law_3 : decode cL_law 3 = .ok (.dup, 1) := by decide +kernel
theorem dL_law_4 : decode cL_law 4 = .ok (.invokespecial 69, 3) := by decide +kernel
theorem dL_law_7 : decode cL_law 7 = .ok (.astore_n 1, 1) := by decide +kernel
theorem dL_law_8 : decode cL_law 8 = .ok (.aload_n 1, 1) := by decide +kernel
theorem dL_law_9 : decode cL_law 9 = .ok (.iconst 0, 1) := by decide +kernel
theorem dL_law_10 : decode cL_law 10 = .ok (.iconst 4, 1) := by decide +kernel
theorem dL_law_11 : decode cL_law 11 = .ok (.aload_n 0, 1) := by decide +kernel
theorem dL_law_12 : decode cL_law 12 = .ok (.iconst 0, 1) := by decide +kernel
theorem dL_law_13 : decode cL_law 13 = .ok (.iconst 3, 1) := by decide +kernel
theorem dL_law_14 : decode cL_law 14 = .ok (.invokestatic 52, 3) := by decide +kernel
theorem dL_law_17 : decode cL_law 17 = .ok (.iadd, 1) := by decide +kernel
theorem dL_law_18 : decode cL_law 18 = .ok (.invokevirtual 62, 3) := by decide +kernel
theorem dL_law_21 : decode cL_law 21 = .ok (.pop, 1) := by decide +kernel
theorem dL_law_22 : decode cL_law 22 = .ok (.aload_n 1, 1) := by decide +kernel
theorem dL_law_23 : decode cL_law 23 = .ok (.iconst 1, 1) := by decide +kernel
theorem dL_law_24 : decode cL_law 24 = .ok (.aload_n 0, 1) := by decide +kernel
theorem dL_law_25 : decode cL_law 25 = .ok (.iconst 1, 1) := by decide +kernel
theorem dL_law_26 : decode cL_law 26 = .ok (.iconst 3, 1) := by decide +kernel
theorem dL_law_27 : decode cL_law 27 = .ok (.invokestatic 52, 3) := by decide +kernel
theorem dL_law_30 : decode cL_law 30 = .ok (.invokevirtual 62, 3) := by decide +kernel
theorem dL_law_33 : decode cL_law 33 = .ok (.pop, 1) := by decide +kernel
theorem dL_law_34 : decode cL_law 34 = .ok (.aload_n 1, 1) := by decide +kernel
theorem dL_law_35 : decode cL_law 35 = .ok (.iconst 2, 1) := by decide +kernel
theorem dL_law_36 : decode cL_law 36 = .ok (.iconst 4, 1) := by decide +kernel
theorem dL_law_37 : decode cL_law 37 = .ok (.invokevirtual 62, 3) := by decide +kernel
theorem dL_law_40 : decode cL_law 40 = .ok (.pop, 1) := by decide +kernel
theorem dL_law_41 : decode cL_law 41 = .ok (.iconst 2, 1) := by decide +kernel
theorem dL_law_42 : decode cL_law 42 = .ok (.aload_n 0, 1) := by decide +kernel
theorem dL_law_43 : decode cL_law 43 = .ok (.iconst 2, 1) := by decide +kernel
theorem dL_law_44 : decode cL_law 44 = .ok (.iconst 3, 1) := by decide +kernel
theorem dL_law_45 : decode cL_law 45 = .ok (.invokestatic 52, 3) := by decide +kernel
theorem dL_law_48 : decode cL_law 48 = .ok (.iadd, 1) := by decide +kernel
theorem dL_law_49 : decode cL_law 49 = .ok (.istore_n 2, 1) := by decide +kernel
theorem dL_law_50 : decode cL_law 50 = .ok (.iconst 0, 1) := by decide +kernel
theorem dL_law_51 : decode cL_law 51 = .ok (.istore_n 3, 1) := by decide +kernel
theorem dL_law_52 : decode cL_law 52 = .ok (.iload_n 3, 1) := by decide +kernel
theorem dL_law_53 : decode cL_law 53 = .ok (.bipush 24, 2) := by decide +kernel
theorem dL_law_55 : decode cL_law 55 = .ok (.if_icmp .ge 30, 3) := by decide +kernel
theorem dL_law_58 : decode cL_law 58 = .ok (.aload_n 1, 1) := by decide +kernel
theorem dL_law_59 : decode cL_law 59 = .ok (.aload_n 0, 1) := by decide +kernel
theorem dL_law_60 : decode cL_law 60 = .ok (.iconst 3, 1) := by decide +kernel
theorem dL_law_61 : decode cL_law 61 = .ok (.iload_n 3, 1) := by decide +kernel
theorem dL_law_62 : decode cL_law 62 = .ok (.iadd, 1) := by decide +kernel
theorem dL_law_63 : decode cL_law 63 = .ok (.iload_n 2, 1) := by decide +kernel
theorem dL_law_64 : decode cL_law 64 = .ok (.invokestatic 52, 3) := by decide +kernel
theorem dL_law_67 : decode cL_law 67 = .ok (.iconst 1, 1) := by decide +kernel
theorem dL_law_68 : decode cL_law 68 = .ok (.invokevirtual 56, 3) := by decide +kernel
theorem dL_law_71 : decode cL_law 71 = .ok (.iload_n 3, 1) := by decide +kernel
theorem dL_law_72 : decode cL_law 72 = .ok (.iconst 1, 1) := by decide +kernel
theorem dL_law_73 : decode cL_law 73 = .ok (.iadd, 1) := by decide +kernel
theorem dL_law_74 : decode cL_law 74 = .ok (.if_icmp .eq 5, 3) := by decide +kernel
theorem dL_law_77 : decode cL_law 77 = .ok (.iconst 0, 1) := by decide +kernel
theorem dL_law_78 : decode cL_law 78 = .ok (.ireturn, 1) := by decide +kernel
theorem dL_law_79 : decode cL_law 79 = .ok (.iinc 3 1, 3) := by decide +kernel
theorem dL_law_82 : decode cL_law 82 = .ok (.goto (-30), 3) := by decide +kernel
theorem dL_law_85 : decode cL_law 85 = .ok (.iconst 0, 1) := by decide +kernel
theorem dL_law_86 : decode cL_law 86 = .ok (.istore_n 3, 1) := by decide +kernel
theorem dL_law_87 : decode cL_law 87 = .ok (.iload_n 3, 1) := by decide +kernel
theorem dL_law_88 : decode cL_law 88 = .ok (.bipush 22, 2) := by decide +kernel
theorem dL_law_90 : decode cL_law 90 = .ok (.if_icmp .ge 32, 3) := by decide +kernel
theorem dL_law_93 : decode cL_law 93 = .ok (.aload_n 1, 1) := by decide +kernel
theorem dL_law_94 : decode cL_law 94 = .ok (.invokestatic 70, 3) := by decide +kernel
theorem dL_law_97 : decode cL_law 97 = .ok (.ifCond .eq 17, 3) := by decide +kernel
theorem dL_law_100 : decode cL_law 100 = .ok (.aload_n 1, 1) := by decide +kernel
theorem dL_law_101 : decode cL_law 101 = .ok (.aload_n 0, 1) := by decide +kernel
theorem dL_law_102 : decode cL_law 102 = .ok (.bipush 30, 2) := by decide +kernel
theorem dL_law_104 : decode cL_law 104 = .ok (.iconst 4, 1) := by decide +kernel
theorem dL_law_105 : decode cL_law 105 = .ok (.iload_n 3, 1) := by decide +kernel
theorem dL_law_106 : decode cL_law 106 = .ok (.imul, 1) := by decide +kernel
theorem dL_law_107 : decode cL_law 107 = .ok (.iadd, 1) := by decide +kernel
theorem dL_law_108 : decode cL_law 108 = .ok (.invokestatic 73, 3) := by decide +kernel
theorem dL_law_111 : decode cL_law 111 = .ok (.ifCond .ne 5, 3) := by decide +kernel
theorem dL_law_114 : decode cL_law 114 = .ok (.iconst 0, 1) := by decide +kernel
theorem dL_law_115 : decode cL_law 115 = .ok (.ireturn, 1) := by decide +kernel
theorem dL_law_116 : decode cL_law 116 = .ok (.iinc 3 1, 3) := by decide +kernel
theorem dL_law_119 : decode cL_law 119 = .ok (.goto (-32), 3) := by decide +kernel
theorem dL_law_122 : decode cL_law 122 = .ok (.aload_n 1, 1) := by decide +kernel
theorem dL_law_123 : decode cL_law 123 = .ok (.invokestatic 70, 3) := by decide +kernel
theorem dL_law_126 : decode cL_law 126 = .ok (.ireturn, 1) := by decide +kernel
abbrev vwCl : List vw_C := [(RX0, TX0, 5), (RX1, TX1, 3), (RX2, TX2, 5), (RX3, TX3, 11), (RX4, TX4, 4), (RX5, TX5, 12), (RX6, TX6, 11)]
end
section
/-! the store: tag, instance, place -/
abbrev xSt : Type := Nat → Nat → Nat → Int32
abbrev xR : Type := xSt × Option Value
def xua (S : xSt) (t o : Nat) (f : Nat → Int32) : xSt := fun t' o' => if t' = t ∧ o' = o then f else S t' o'
def xup (S : xSt) (t o i : Nat) (v : Int32) : xSt := xua S t o (upd (S t o) i v)
theorem xua_s (S : xSt) (t o : Nat) (f : Nat → Int32) : xua S t o f t o = f := by simp [xua]
theorem xua_n (S : xSt) {t o t' o' : Nat} (f : Nat → Int32) (h : ¬ (t' = t ∧ o' = o)) : xua S t o f t' o' = S t' o' := by simp only [xua, if_neg h]
def xbI (x : Option xR) (k : xSt → Int32 → Option xR) : Option xR := match x with
  | some (S, some (.int r)) => k S r
  | _ => none
def xbV (x : Option xR) (k : xSt → Option xR) : Option xR := match x with
  | some (S, none) => k S
  | _ => none
def xat (i : Int32) (n : Nat) (k : Nat → Option xR) : Option xR := if ¬ (i < 0 ∨ n ≤ i.toNatClampNeg) then k i.toNatClampNeg else none
def xlet (v : xSt) (k : xSt → Option xR) : Option xR := k v
def xne (c : Prop) [Decidable c] (k : Option xR) : Option xR := if c then k else none
theorem xbI_inv {x : Option xR} {k : xSt → Int32 → Option xR} {y : xR} (h : xbI x k = some y) : ∃ S r, x = some (S, some (.int r)) ∧ k S r = some y := by
  unfold xbI at h
  split at h
  · exact ⟨_, _, rfl, h⟩
  · cases h
theorem xbV_inv {x : Option xR} {k : xSt → Option xR} {y : xR} (h : xbV x k = some y) : ∃ S, x = some (S, none) ∧ k S = some y := by
  unfold xbV at h
  split at h
  · exact ⟨_, rfl, h⟩
  · cases h
theorem xat_inv {i : Int32} {n : Nat} {k : Nat → Option xR} {y : xR} (h : xat i n k = some y) : vp_in i n ∧ k i.toNatClampNeg = some y := by
  unfold xat at h
  split at h
  · exact ⟨by assumption, h⟩
  · cases h
theorem xlet_inv {v : xSt} {k : xSt → Option xR} {y : xR} (h : xlet v k = some y) : ∃ S, v = S ∧ k S = some y := ⟨v, rfl, h⟩
theorem xne_inv {c : Prop} [Decidable c] {k : Option xR} {y : xR} (h : xne c k = some y) : c ∧ k = some y := by
  unfold xne at h
  split at h
  · exact ⟨by assumption, h⟩
  · cases h
theorem xif_t {c : Prop} [Decidable c] {α : Type} {a b : α} {y : α} (hc : c) (h : (if c then a else b) = y) : a = y := by rw [if_pos hc] at h; exact h
theorem xif_f {c : Prop} [Decidable c] {α : Type} {a b : α} {y : α} (hc : ¬ c) (h : (if c then a else b) = y) : b = y := by rw [if_neg hc] at h; exact h
/-! the world: D, addresses, which (tag, instance) there are, classes of the arrays (int, boolean, byte, State), the static rows -/
abbrev xK : Type := va_G × (Nat → Nat → Nat) × List (Nat × Nat) × (Nat → ClassId) × (Nat → Nat) × (Nat → Int32)
def xad (K : xK) : Nat → Nat → Nat := K.2.1
def xvl (K : xK) : List (Nat × Nat) := K.2.2.1
def xcy (K : xK) : Nat → ClassId := K.2.2.2.1
def xsa (K : xK) : Nat → Nat := K.2.2.2.2.1
/-- the script: at xsa K 3, xsa K 4 ints -/
def xxs (K : xK) : Nat → Int32 := K.2.2.2.2.2
def xr (K : xK) (t o : Nat) : Value := .ref (xad K t o)
def xrs (K : xK) (k : Nat) : Value := .ref (xsa K k)
def xfs (K : xK) (f : Nat → Int32) (t o : Nat) : List Value := match t with
  | 0 => [xr K 10 o, xr K 11 o, xr K 12 o, xr K 13 o, .int (f 4)]
  | 1 => [xr K 14 o, .int (f 1), .int (f 2)]
  | 2 => [xr K 15 o, xr K 16 o, xr K 17 o, xr K 18 o, .int (f 4)]
  | 3 => [xr K 19 o, .int (f 1), .int (f 2), .int (f 3), .int (f 4), .int (f 5), xr K 20 o, xr K 21 o, .int (f 8), .int (f 9), .int (f 10)]
  | 4 => [xr K 22 o, xr K 23 o, xr K 24 o, .int (f 3)]
  | 5 => [xr K 0 o, xr K 25 o, xr K 26 o, xr K 27 o, xr K 28 o, xr K 29 o, .int (f 6), .int (f 7), .int (f 8), .int (f 9), .int (f 10), .int (f 11)]
  | 6 => [xr K 4 0, xr K 1 0, xr K 30 0, xr K 31 0, xr K 2 0, xr K 5 0, xr K 3 0, xr K 32 0, xr K 5 1, xr K 3 1, xr K 32 1]
  | 7 => []
  | _ => []
def xE (K : xK) (f : Nat → Int32) (t o : Nat) : va_E := match t with
  | 0 => .inr (0, xfs K f 0 o)
  | 1 => .inr (1, xfs K f 1 o)
  | 2 => .inr (2, xfs K f 2 o)
  | 3 => .inr (3, xfs K f 3 o)
  | 4 => .inr (4, xfs K f 4 o)
  | 5 => .inr (5, xfs K f 5 o)
  | 6 => .inr (6, xfs K f 6 o)
  | 7 => .inr (7, xfs K f 7 o)
  | 10 => .inl (xcy K 0, 512, .inl f)
  | 11 => .inl (xcy K 0, 512, .inl f)
  | 12 => .inl (xcy K 0, 512, .inl f)
  | 13 => .inl (xcy K 0, 4096, .inl f)
  | 14 => .inl (xcy K 3, 6, .inr (.inr (.inr (.inr (fun i => some (xad K 4 (1 + i)))))))
  | 15 => .inl (xcy K 0, 80, .inl f)
  | 16 => .inl (xcy K 0, 240, .inl f)
  | 17 => .inl (xcy K 0, 3, .inl f)
  | 18 => .inl (xcy K 0, 3, .inl f)
  | 19 => .inl (xcy K 0, 39621, .inl f)
  | 20 => .inl (xcy K 0, 512, .inl f)
  | 21 => .inl (xcy K 0, 512, .inl f)
  | 22 => .inl (xcy K 0, 3, .inl f)
  | 23 => .inl (xcy K 0, 240, .inl f)
  | 24 => .inl (xcy K 0, 281, .inl f)
  | 25 => .inl (xcy K 0, 281, .inl f)
  | 26 => .inl (xcy K 0, 281, .inl f)
  | 27 => .inl (xcy K 0, 281, .inl f)
  | 28 => .inl (xcy K 0, 281, .inl f)
  | 29 => .inl (xcy K 0, 281, .inl f)
  | 30 => .inl (xcy K 3, 2, .inr (.inr (.inr (.inr (fun i => some (xad K 4 (7 + i)))))))
  | 31 => .inl (xcy K 1, 2, .inl f)
  | 32 => .inl (xcy K 0, 281, .inl f)
  | 33 => .inl (xcy K 0, 64, .inl f)
  | _ => .inl (xcy K 0, 0, .inl f)
def xws (K : xK) (S : xSt) : va_W := (xvl K).map fun q => (xad K q.1 q.2, xE K (S q.1 q.2) q.1 q.2)
def xtys (K : xK) : List (ClassId × FieldType) := [(xcy K 0, .int), (xcy K 1, .boolean), (xcy K 1, .boolean), (xcy K 3, .object "GrowingBook$State")]
def xWd (K : xK) (S : xSt) (U : State) (H : Heap) : Prop := va_P K.1 vwCl (xws K S) H ∧ va_K K.1 vwCl (xtys K) U ∧ va_D (fun _ => True) (xws K S)
def xA (K : xK) : Nat → Prop := fun q => ∃ t o, (t, o) ∈ xvl K ∧ q = xad K t o
def xLO (i : Nat) : Int32 := if i = 0 then 4 else if i = 1 then 0 else 4
def xHI (i : Nat) : Int32 := if i = 0 then 9 else if i = 1 then 2 else 32
def xFI0 (i : Nat) : Int32 := if i = 0 then 6 else if i = 1 then 1 else 8
def xStt (K : xK) (A : Nat → Prop) (U : State) (H : Heap) : Prop :=
  va_Z "GrowingBook" "LOWEST" "[I" (xrs K 0) A U H ∧ va_T .int (xsa K 0) 3 (fun i => .int (xLO i)) A U H ∧
  va_Z "GrowingBook" "HIGHEST" "[I" (xrs K 1) A U H ∧ va_T .int (xsa K 1) 3 (fun i => .int (xHI i)) A U H ∧
  va_Z "GrowingBook" "FIRST" "[I" (xrs K 2) A U H ∧ va_T .int (xsa K 2) 3 (fun i => .int (xFI0 i)) A U H ∧ va_T .int (xsa K 3) (xsa K 4) (fun i => .int (xxs K i)) A U H
def xTB : List Cond := lw_tbl.filter goodWord
theorem xtb {w : Cond} (i : Nat) (h : lw_tbl[i]? = some w) (g : goodWord w = true) : w ∈ xTB := List.mem_filter.mpr ⟨List.mem_of_getElem? h, g⟩
/-- the words of nest mates: not among those that a contract may carry -/
def xnest : Cond → Bool
  | .fieldLinkNest _ _ _ _ _ _ => true
  | .methodLinkNest _ _ _ _ => true
  | _ => false
def xNL : List Cond := lw_tbl.filter xnest
theorem xnl {w : Cond} (i : Nat) (h : lw_tbl[i]? = some w) (g : xnest w = true) : w ∈ xNL := List.mem_filter.mpr ⟨List.mem_of_getElem? h, g⟩
def xNw (U : State) : Prop := ∀ w ∈ xNL, va_Nw w U
theorem xNw_warm {s U : State} (hW : s.WarmedH U.vm) (h : xNw s) : xNw U := by
  intro w hw
  have h1 := h w hw
  have h2 := (List.mem_filter.mp hw).2
  cases w with
  | fieldLinkNest => exact va_Nw.warmF hW h1
  | methodLinkNest => exact va_Nw.warmM hW h1
  | _ => cases h2
theorem xNw_same {u U : State} (hvm : u.vm = U.vm) (h : xNw u) : xNw U := by
  intro w hw
  have h1 := h w hw
  have h2 := (List.mem_filter.mp hw).2
  cases w with
  | fieldLinkNest => exact va_Nw.same rfl hvm h1
  | methodLinkNest => exact va_Nw.same rfl hvm h1
  | _ => cases h2
theorem xNw_use {U : State} {w : Cond} (h : xNw U) (hw : w ∈ xNL) (A : Array Value) : w.before A U = true := by
  have h1 := h w hw
  have h2 := (List.mem_filter.mp hw).2
  cases w with
  | fieldLinkNest => exact va_Nw.use rfl h1
  | methodLinkNest => exact va_Nw.use rfl h1
  | _ => cases h2
/-- which cells belong to which -/
def xVC (vl : List (Nat × Nat)) : Prop := (∀ o, (0, o) ∈ vl → (10, o) ∈ vl) ∧ (∀ o, (0, o) ∈ vl → (11, o) ∈ vl) ∧ (∀ o, (0, o) ∈ vl → (12, o) ∈ vl) ∧ (∀ o, (0, o) ∈ vl → (13, o) ∈ vl) ∧ (∀ o, (1, o) ∈ vl → (14, o) ∈ vl) ∧ (∀ o, (2, o) ∈ vl → (15, o) ∈ vl) ∧ (∀ o, (2, o) ∈ vl → (16, o) ∈ vl) ∧ (∀ o, (2, o) ∈ vl → (17, o) ∈ vl) ∧ (∀ o, (2, o) ∈ vl → (18, o) ∈ vl) ∧ (∀ o, (3, o) ∈ vl → (19, o) ∈ vl) ∧ (∀ o, (3, o) ∈ vl → (20, o) ∈ vl) ∧ (∀ o, (3, o) ∈ vl → (21, o) ∈ vl) ∧ (∀ o, (4, o) ∈ vl → (22, o) ∈ vl) ∧ (∀ o, (4, o) ∈ vl → (23, o) ∈ vl) ∧ (∀ o, (4, o) ∈ vl → (24, o) ∈ vl) ∧ (∀ o, (5, o) ∈ vl → (0, o) ∈ vl) ∧ (∀ o, (5, o) ∈ vl → (25, o) ∈ vl) ∧ (∀ o, (5, o) ∈ vl → (26, o) ∈ vl) ∧ (∀ o, (5, o) ∈ vl → (27, o) ∈ vl) ∧ (∀ o, (5, o) ∈ vl → (28, o) ∈ vl) ∧ (∀ o, (5, o) ∈ vl → (29, o) ∈ vl) ∧ ((6, 0) ∈ vl → (4, 0) ∈ vl) ∧ ((6, 0) ∈ vl → (1, 0) ∈ vl) ∧ ((6, 0) ∈ vl → (30, 0) ∈ vl) ∧ ((6, 0) ∈ vl → (31, 0) ∈ vl) ∧ ((6, 0) ∈ vl → (2, 0) ∈ vl) ∧ ((6, 0) ∈ vl → (5, 0) ∈ vl) ∧ ((6, 0) ∈ vl → (3, 0) ∈ vl) ∧ ((6, 0) ∈ vl → (32, 0) ∈ vl) ∧ ((6, 0) ∈ vl → (5, 1) ∈ vl) ∧ ((6, 0) ∈ vl → (3, 1) ∈ vl) ∧ ((6, 0) ∈ vl → (32, 1) ∈ vl) ∧ (∀ i, i < 6 → (14, 0) ∈ vl → (4, 1 + i) ∈ vl) ∧ (∀ i, i < 2 → (30, 0) ∈ vl → (4, 7 + i) ∈ vl)
theorem xvc_0_0 {vl : List (Nat × Nat)} (h : xVC vl) {o : Nat} (hv : (0, o) ∈ vl) : (10, o) ∈ vl := h.1 o hv
theorem xvc_0_1 {vl : List (Nat × Nat)} (h : xVC vl) {o : Nat} (hv : (0, o) ∈ vl) : (11, o) ∈ vl := h.2.1 o hv
theorem xvc_0_2 {vl : List (Nat × Nat)} (h : xVC vl) {o : Nat} (hv : (0, o) ∈ vl) : (12, o) ∈ vl := h.2.2.1 o hv
theorem xvc_0_3 {vl : List (Nat × Nat)} (h : xVC vl) {o : Nat} (hv : (0, o) ∈ vl) : (13, o) ∈ vl := h.2.2.2.1 o hv
theorem xvc_1_0 {vl : List (Nat × Nat)} (h : xVC vl) {o : Nat} (hv : (1, o) ∈ vl) : (14, o) ∈ vl := h.2.2.2.2.1 o hv
theorem xvc_2_0 {vl : List (Nat × Nat)} (h : xVC vl) {o : Nat} (hv : (2, o) ∈ vl) : (15, o) ∈ vl := h.2.2.2.2.2.1 o hv
theorem xvc_2_1 {vl : List (Nat × Nat)} (h : xVC vl) {o : Nat} (hv : (2, o) ∈ vl) : (16, o) ∈ vl := h.2.2.2.2.2.2.1 o hv
theorem xvc_2_2 {vl : List (Nat × Nat)} (h : xVC vl) {o : Nat} (hv : (2, o) ∈ vl) : (17, o) ∈ vl := h.2.2.2.2.2.2.2.1 o hv
theorem xvc_2_3 {vl : List (Nat × Nat)} (h : xVC vl) {o : Nat} (hv : (2, o) ∈ vl) : (18, o) ∈ vl := h.2.2.2.2.2.2.2.2.1 o hv
theorem xvc_3_0 {vl : List (Nat × Nat)} (h : xVC vl) {o : Nat} (hv : (3, o) ∈ vl) : (19, o) ∈ vl := h.2.2.2.2.2.2.2.2.2.1 o hv
theorem xvc_3_6 {vl : List (Nat × Nat)} (h : xVC vl) {o : Nat} (hv : (3, o) ∈ vl) : (20, o) ∈ vl := h.2.2.2.2.2.2.2.2.2.2.1 o hv
theorem xvc_3_7 {vl : List (Nat × Nat)} (h : xVC vl) {o : Nat} (hv : (3, o) ∈ vl) : (21, o) ∈ vl := h.2.2.2.2.2.2.2.2.2.2.2.1 o hv
theorem xvc_4_0 {vl : List (Nat × Nat)} (h : xVC vl) {o : Nat} (hv : (4, o) ∈ vl) : (22, o) ∈ vl := h.2.2.2.2.2.2.2.2.2.2.2.2.1 o hv
theorem xvc_4_1 {vl : List (Nat × Nat)} (h : xVC vl) {o : Nat} (hv : (4, o) ∈ vl) : (23, o) ∈ vl := h.2.2.2.2.2.2.2.2.2.2.2.2.2.1 o hv
theorem xvc_4_2 {vl : List (Nat × Nat)} (h : xVC vl) {o : Nat} (hv : (4, o) ∈ vl) : (24, o) ∈ vl := h.2.2.2.2.2.2.2.2.2.2.2.2.2.2.1 o hv
theorem xvc_5_0 {vl : List (Nat × Nat)} (h : xVC vl) {o : Nat} (hv : (5, o) ∈ vl) : (0, o) ∈ vl := h.2.2.2.2.2.2.2.2.2.2.2.2.2.2.2.1 o hv
theorem xvc_5_1 {vl : List (Nat × Nat)} (h : xVC vl) {o : Nat} (hv : (5, o) ∈ vl) : (25, o) ∈ vl := h.2.2.2.2.2.2.2.2.2.2.2.2.2.2.2.2.1 o hv
theorem xvc_5_2 {vl : List (Nat × Nat)} (h : xVC vl) {o : Nat} (hv : (5, o) ∈ vl) : (26, o) ∈ vl := h.2.2.2.2.2.2.2.2.2.2.2.2.2.2.2.2.2.1 o hv
theorem xvc_5_3 {vl : List (Nat × Nat)} (h : xVC vl) {o : Nat} (hv : (5, o) ∈ vl) : (27, o) ∈ vl := h.2.2.2.2.2.2.2.2.2.2.2.2.2.2.2.2.2.2.1 o hv
theorem xvc_5_4 {vl : List (Nat × Nat)} (h : xVC vl) {o : Nat} (hv : (5, o) ∈ vl) : (28, o) ∈ vl := h.2.2.2.2.2.2.2.2.2.2.2.2.2.2.2.2.2.2.2.1 o hv
theorem xvc_5_5 {vl : List (Nat × Nat)} (h : xVC vl) {o : Nat} (hv : (5, o) ∈ vl) : (29, o) ∈ vl := h.2.2.2.2.2.2.2.2.2.2.2.2.2.2.2.2.2.2.2.2.1 o hv
theorem xvc_6_0 {vl : List (Nat × Nat)} (h : xVC vl) (hv : (6, 0) ∈ vl) : (4, 0) ∈ vl := h.2.2.2.2.2.2.2.2.2.2.2.2.2.2.2.2.2.2.2.2.2.1 hv
theorem xvc_6_1 {vl : List (Nat × Nat)} (h : xVC vl) (hv : (6, 0) ∈ vl) : (1, 0) ∈ vl := h.2.2.2.2.2.2.2.2.2.2.2.2.2.2.2.2.2.2.2.2.2.2.1 hv
theorem xvc_6_2 {vl : List (Nat × Nat)} (h : xVC vl) (hv : (6, 0) ∈ vl) : (30, 0) ∈ vl := h.2.2.2.2.2.2.2.2.2.2.2.2.2.2.2.2.2.2.2.2.2.2.2.1 hv
theorem xvc_6_3 {vl : List (Nat × Nat)} (h : xVC vl) (hv : (6, 0) ∈ vl) : (31, 0) ∈ vl := h.2.2.2.2.2.2.2.2.2.2.2.2.2.2.2.2.2.2.2.2.2.2.2.2.1 hv
theorem xvc_6_4 {vl : List (Nat × Nat)} (h : xVC vl) (hv : (6, 0) ∈ vl) : (2, 0) ∈ vl := h.2.2.2.2.2.2.2.2.2.2.2.2.2.2.2.2.2.2.2.2.2.2.2.2.2.1 hv
theorem xvc_6_5 {vl : List (Nat × Nat)} (h : xVC vl) (hv : (6, 0) ∈ vl) : (5, 0) ∈ vl := h.2.2.2.2.2.2.2.2.2.2.2.2.2.2.2.2.2.2.2.2.2.2.2.2.2.2.1 hv
theorem xvc_6_6 {vl : List (Nat × Nat)} (h : xVC vl) (hv : (6, 0) ∈ vl) : (3, 0) ∈ vl := h.2.2.2.2.2.2.2.2.2.2.2.2.2.2.2.2.2.2.2.2.2.2.2.2.2.2.2.1 hv
theorem xvc_6_7 {vl : List (Nat × Nat)} (h : xVC vl) (hv : (6, 0) ∈ vl) : (32, 0) ∈ vl := h.2.2.2.2.2.2.2.2.2.2.2.2.2.2.2.2.2.2.2.2.2.2.2.2.2.2.2.2.1 hv
theorem xvc_6_8 {vl : List (Nat × Nat)} (h : xVC vl) (hv : (6, 0) ∈ vl) : (5, 1) ∈ vl := h.2.2.2.2.2.2.2.2.2.2.2.2.2.2.2.2.2.2.2.2.2.2.2.2.2.2.2.2.2.1 hv
theorem xvc_6_9 {vl : List (Nat × Nat)} (h : xVC vl) (hv : (6, 0) ∈ vl) : (3, 1) ∈ vl := h.2.2.2.2.2.2.2.2.2.2.2.2.2.2.2.2.2.2.2.2.2.2.2.2.2.2.2.2.2.2.1 hv
theorem xvc_6_10 {vl : List (Nat × Nat)} (h : xVC vl) (hv : (6, 0) ∈ vl) : (32, 1) ∈ vl := h.2.2.2.2.2.2.2.2.2.2.2.2.2.2.2.2.2.2.2.2.2.2.2.2.2.2.2.2.2.2.2.1 hv
theorem xvc_s14 {vl : List (Nat × Nat)} (h : xVC vl) (hv : (14, 0) ∈ vl) {i : Nat} (hi : i < 6) : (4, 1 + i) ∈ vl := h.2.2.2.2.2.2.2.2.2.2.2.2.2.2.2.2.2.2.2.2.2.2.2.2.2.2.2.2.2.2.2.2.1 i hi hv
theorem xvc_s30 {vl : List (Nat × Nat)} (h : xVC vl) (hv : (30, 0) ∈ vl) {i : Nat} (hi : i < 2) : (4, 7 + i) ∈ vl := h.2.2.2.2.2.2.2.2.2.2.2.2.2.2.2.2.2.2.2.2.2.2.2.2.2.2.2.2.2.2.2.2.2 i hi hv
/-! the goal -/
abbrev xX : Type := Program × Launch × Env × Room × State × MethodId × Array Value × List Frame × Method × Code × Nat × Nat × (State → Prop) × (Nat → Prop)
def xG (K : xK) (X : xX) (S : xSt) (pc : Nat) (lv : List (Nat × Value)) (st : List Value) : Prop := match X with
  | (p, l, e, R, s, m, args, below, meth, c, ce, sl, Q, A) => ∀ (H : Heap) (locs : List Loc) (ls : Array Slot), xWd K S s H → va_S A s.heap H locs → lv_has ls c.maxLocals lv → W p l e R s m args below meth c H locs ce sl Q (F0 m pc ls st)
def xOK (K : xK) (X : xX) (own : String) (cc : ByteArray) (nL : Nat) : Prop := match X with
  | (p, l, e, R, s, m, args, below, meth, c, ce, sl, Q, A) => p.tables.exec = Jvm.exec ∧ c.code = cc ∧ c.maxLocals = nL ∧ s.vm.findClass own = some m.cls ∧ (∀ w ∈ xTB, w.before args s = true) ∧ (∀ t o, (t, o) ∈ xvl K → A (xad K t o)) ∧ xStt K A s s.heap ∧ xVC (xvl K) ∧ xNw s
theorem xOK.vc {K : xK} {X : xX} {own : String} {cc : ByteArray} {nL : Nat} (h : xOK K X own cc nL) : xVC (xvl K) := by
  obtain ⟨p, l, e, R, s, m, args, below, meth, c, ce, sl, Q, A⟩ := X
  exact h.2.2.2.2.2.2.2.1

section XG
variable {K : xK} {X : xX} {own : String} {cc : ByteArray} {nL : Nat} {S : xSt} {pc : Nat} {lv : List (Nat × Value)} {st : List Value}
theorem g_iconst {n : Int} {v : Int32} (hX : xOK K X own cc nL) (d : decode cc pc = .ok (.iconst n, 1)) (hv9 : Int32.ofInt n = v) (kk : xG K X S (pc + 1) lv (.int v :: st)) : xG K X S pc lv st := by
  obtain ⟨p, l, e, R, s, m, args, below, meth, c, ce, sl, Q, A⟩ := X
  obtain ⟨hx, hb, hml, hown, hts, hA, hst, hvc⟩ := hX
  intro H locs ls wd hS hv
  exact lv_iconst hx hb d hv9 (kk H locs ls wd hS hv)
theorem g_bipush {n : Int} {v : Int32} (hX : xOK K X own cc nL) (d : decode cc pc = .ok (.bipush n, 2)) (hv9 : (Int8.ofInt n).toInt32 = v) (kk : xG K X S (pc + 2) lv (.int v :: st)) : xG K X S pc lv st := by
  obtain ⟨p, l, e, R, s, m, args, below, meth, c, ce, sl, Q, A⟩ := X
  obtain ⟨hx, hb, hml, hown, hts, hA, hst, hvc⟩ := hX
  intro H locs ls wd hS hv
  exact lv_bipush hx hb d hv9 (kk H locs ls wd hS hv)
theorem g_sipush {n : Int} {v : Int32} (hX : xOK K X own cc nL) (d : decode cc pc = .ok (.sipush n, 3)) (hv9 : (Int16.ofInt n).toInt32 = v) (kk : xG K X S (pc + 3) lv (.int v :: st)) : xG K X S pc lv st := by
  obtain ⟨p, l, e, R, s, m, args, below, meth, c, ce, sl, Q, A⟩ := X
  obtain ⟨hx, hb, hml, hown, hts, hA, hst, hvc⟩ := hX
  intro H locs ls wd hS hv
  exact lv_sipush hx hb d hv9 (kk H locs ls wd hS hv)
theorem g_lconst {n : Fin 2} {v : Int64} (hX : xOK K X own cc nL) (d : decode cc pc = .ok (.lconst n, 1)) (hv9 : Int64.ofNat (n : Nat) = v) (kk : xG K X S (pc + 1) lv (.long v :: st)) : xG K X S pc lv st := by
  obtain ⟨p, l, e, R, s, m, args, below, meth, c, ce, sl, Q, A⟩ := X
  obtain ⟨hx, hb, hml, hown, hts, hA, hst, hvc⟩ := hX
  intro H locs ls wd hS hv
  exact lv_lconst hx hb d hv9 (kk H locs ls wd hS hv)
theorem g_iload_n {k : Fin 4} {i : Nat} {x : Int32} (hX : xOK K X own cc nL) (d : decode cc pc = .ok (.iload_n k, 1)) (hi : (k : Nat) = i) (q : Nat) (hl : lv[q]? = some (i, .int x)) (kk : xG K X S (pc + 1) lv (.int x :: st)) : xG K X S pc lv st := by
  obtain ⟨p, l, e, R, s, m, args, below, meth, c, ce, sl, Q, A⟩ := X
  obtain ⟨hx, hb, hml, hown, hts, hA, hst, hvc⟩ := hX
  intro H locs ls wd hS hv
  exact lv_iload_n hx hb d hi (lv_at hv q hl) (kk H locs ls wd hS hv)
theorem g_iload {i : Nat} {x : Int32} (hX : xOK K X own cc nL) (d : decode cc pc = .ok (.iload i, 2)) (q : Nat) (hl : lv[q]? = some (i, .int x)) (kk : xG K X S (pc + 2) lv (.int x :: st)) : xG K X S pc lv st := by
  obtain ⟨p, l, e, R, s, m, args, below, meth, c, ce, sl, Q, A⟩ := X
  obtain ⟨hx, hb, hml, hown, hts, hA, hst, hvc⟩ := hX
  intro H locs ls wd hS hv
  exact lv_iload hx hb d (lv_at hv q hl) (kk H locs ls wd hS hv)
theorem g_lload_n {k : Fin 4} {i : Nat} {x : Int64} (hX : xOK K X own cc nL) (d : decode cc pc = .ok (.lload_n k, 1)) (hi : (k : Nat) = i) (q : Nat) (hl : lv[q]? = some (i, .long x)) (kk : xG K X S (pc + 1) lv (.long x :: st)) : xG K X S pc lv st := by
  obtain ⟨p, l, e, R, s, m, args, below, meth, c, ce, sl, Q, A⟩ := X
  obtain ⟨hx, hb, hml, hown, hts, hA, hst, hvc⟩ := hX
  intro H locs ls wd hS hv
  exact lv_lload_n hx hb d hi (lv_at hv q hl) (kk H locs ls wd hS hv)
theorem g_lload {i : Nat} {x : Int64} (hX : xOK K X own cc nL) (d : decode cc pc = .ok (.lload i, 2)) (q : Nat) (hl : lv[q]? = some (i, .long x)) (kk : xG K X S (pc + 2) lv (.long x :: st)) : xG K X S pc lv st := by
  obtain ⟨p, l, e, R, s, m, args, below, meth, c, ce, sl, Q, A⟩ := X
  obtain ⟨hx, hb, hml, hown, hts, hA, hst, hvc⟩ := hX
  intro H locs ls wd hS hv
  exact lv_lload hx hb d (lv_at hv q hl) (kk H locs ls wd hS hv)
theorem g_aload_n {k : Fin 4} {i t o : Nat} (hX : xOK K X own cc nL) (d : decode cc pc = .ok (.aload_n k, 1)) (hi : (k : Nat) = i) (q : Nat) (hl : lv[q]? = some (i, xr K t o)) (kk : xG K X S (pc + 1) lv (xr K t o :: st)) : xG K X S pc lv st := by
  obtain ⟨p, l, e, R, s, m, args, below, meth, c, ce, sl, Q, A⟩ := X
  obtain ⟨hx, hb, hml, hown, hts, hA, hst, hvc⟩ := hX
  intro H locs ls wd hS hv
  exact lv_aload_n hx hb d hi (lv_at hv q hl) (kk H locs ls wd hS hv)
theorem g_aload {i t o : Nat} (hX : xOK K X own cc nL) (d : decode cc pc = .ok (.aload i, 2)) (q : Nat) (hl : lv[q]? = some (i, xr K t o)) (kk : xG K X S (pc + 2) lv (xr K t o :: st)) : xG K X S pc lv st := by
  obtain ⟨p, l, e, R, s, m, args, below, meth, c, ce, sl, Q, A⟩ := X
  obtain ⟨hx, hb, hml, hown, hts, hA, hst, hvc⟩ := hX
  intro H locs ls wd hS hv
  exact lv_aload hx hb d (lv_at hv q hl) (kk H locs ls wd hS hv)
theorem g_istore_n {k : Fin 4} {i : Nat} {x : Int32} {lv2 : List (Nat × Value)} (hX : xOK K X own cc nL) (d : decode cc pc = .ok (.istore_n k, 1)) (hi : (k : Nat) = i) (hn : i < nL) (hl : (i, Value.int x) :: lv.filter (fun q => !(q.1 == i) && !(q.1 + 1 == i && q.2.category == 2)) = lv2) (kk : xG K X S (pc + 1) lv2 st) : xG K X S pc lv (.int x :: st) := by
  obtain ⟨p, l, e, R, s, m, args, below, meth, c, ce, sl, Q, A⟩ := X
  obtain ⟨hx, hb, hml, hown, hts, hA, hst, hvc⟩ := hX
  intro H locs ls wd hS hv
  exact lv_istore_n hx hb d hi hv (by rw [hml]; exact hn) hl (fun ls2 hv2 => kk H locs ls2 wd hS hv2)
theorem g_istore {i : Nat} {x : Int32} {lv2 : List (Nat × Value)} (hX : xOK K X own cc nL) (d : decode cc pc = .ok (.istore i, 2)) (hn : i < nL) (hl : (i, Value.int x) :: lv.filter (fun q => !(q.1 == i) && !(q.1 + 1 == i && q.2.category == 2)) = lv2) (kk : xG K X S (pc + 2) lv2 st) : xG K X S pc lv (.int x :: st) := by
  obtain ⟨p, l, e, R, s, m, args, below, meth, c, ce, sl, Q, A⟩ := X
  obtain ⟨hx, hb, hml, hown, hts, hA, hst, hvc⟩ := hX
  intro H locs ls wd hS hv
  exact lv_istore hx hb d hv (by rw [hml]; exact hn) hl (fun ls2 hv2 => kk H locs ls2 wd hS hv2)
theorem g_lstore_n {k : Fin 4} {i : Nat} {x : Int64} {lv2 : List (Nat × Value)} (hX : xOK K X own cc nL) (d : decode cc pc = .ok (.lstore_n k, 1)) (hi : (k : Nat) = i) (hn : i + 1 < nL) (hl : (i, Value.long x) :: lv.filter (fun q => !(q.1 == i) && (!(q.1 == i + 1) && !(q.1 + 1 == i && q.2.category == 2))) = lv2) (kk : xG K X S (pc + 1) lv2 st) : xG K X S pc lv (.long x :: st) := by
  obtain ⟨p, l, e, R, s, m, args, below, meth, c, ce, sl, Q, A⟩ := X
  obtain ⟨hx, hb, hml, hown, hts, hA, hst, hvc⟩ := hX
  intro H locs ls wd hS hv
  exact lv_lstore_n hx hb d hi hv (by rw [hml]; exact hn) hl (fun ls2 hv2 => kk H locs ls2 wd hS hv2)
theorem g_lstore {i : Nat} {x : Int64} {lv2 : List (Nat × Value)} (hX : xOK K X own cc nL) (d : decode cc pc = .ok (.lstore i, 2)) (hn : i + 1 < nL) (hl : (i, Value.long x) :: lv.filter (fun q => !(q.1 == i) && (!(q.1 == i + 1) && !(q.1 + 1 == i && q.2.category == 2))) = lv2) (kk : xG K X S (pc + 2) lv2 st) : xG K X S pc lv (.long x :: st) := by
  obtain ⟨p, l, e, R, s, m, args, below, meth, c, ce, sl, Q, A⟩ := X
  obtain ⟨hx, hb, hml, hown, hts, hA, hst, hvc⟩ := hX
  intro H locs ls wd hS hv
  exact lv_lstore hx hb d hv (by rw [hml]; exact hn) hl (fun ls2 hv2 => kk H locs ls2 wd hS hv2)
theorem g_astore {i t o : Nat} {lv2 : List (Nat × Value)} (hX : xOK K X own cc nL) (d : decode cc pc = .ok (.astore i, 2)) (hn : i < nL) (hl : (i, xr K t o) :: lv.filter (fun q => !(q.1 == i) && !(q.1 + 1 == i && q.2.category == 2)) = lv2) (kk : xG K X S (pc + 2) lv2 st) : xG K X S pc lv (xr K t o :: st) := by
  obtain ⟨p, l, e, R, s, m, args, below, meth, c, ce, sl, Q, A⟩ := X
  obtain ⟨hx, hb, hml, hown, hts, hA, hst, hvc⟩ := hX
  intro H locs ls wd hS hv
  exact lv_astore hx hb d hv (by rw [hml]; exact hn) hl (fun ls2 hv2 => kk H locs ls2 wd hS hv2)
theorem g_astore_n {k : Fin 4} {i t o : Nat} {lv2 : List (Nat × Value)} (hX : xOK K X own cc nL) (d : decode cc pc = .ok (.astore_n k, 1)) (hi : (k : Nat) = i) (hn : i < nL) (hl : (i, xr K t o) :: lv.filter (fun q => !(q.1 == i) && !(q.1 + 1 == i && q.2.category == 2)) = lv2) (kk : xG K X S (pc + 1) lv2 st) : xG K X S pc lv (xr K t o :: st) := by
  obtain ⟨p, l, e, R, s, m, args, below, meth, c, ce, sl, Q, A⟩ := X
  obtain ⟨hx, hb, hml, hown, hts, hA, hst, hvc⟩ := hX
  intro H locs ls wd hS hv
  exact lv_astore_n hx hb d hi hv (by rw [hml]; exact hn) hl (fun ls2 hv2 => kk H locs ls2 wd hS hv2)
theorem g_iinc {i : Nat} {n : Int} {x v : Int32} {lv2 : List (Nat × Value)} (hX : xOK K X own cc nL) (d : decode cc pc = .ok (.iinc i n, 3)) (q : Nat) (hq : lv[q]? = some (i, .int x)) (hv9 : x + Int32.ofInt n = v) (hn : i < nL) (hl : (i, Value.int v) :: lv.filter (fun q => !(q.1 == i) && !(q.1 + 1 == i && q.2.category == 2)) = lv2) (kk : xG K X S (pc + 3) lv2 st) : xG K X S pc lv st := by
  obtain ⟨p, l, e, R, s, m, args, below, meth, c, ce, sl, Q, A⟩ := X
  obtain ⟨hx, hb, hml, hown, hts, hA, hst, hvc⟩ := hX
  intro H locs ls wd hS hv
  exact lv_iinc hx hb d hv hq hv9 (by rw [hml]; exact hn) hl (fun ls2 hv2 => kk H locs ls2 wd hS hv2)
theorem g_iadd {x y : Int32} (hX : xOK K X own cc nL) (d : decode cc pc = .ok (.iadd, 1))  (kk : xG K X S (pc + 1) lv (.int (x + y) :: st)) : xG K X S pc lv (.int y :: .int x :: st) := by
  obtain ⟨p, l, e, R, s, m, args, below, meth, c, ce, sl, Q, A⟩ := X
  obtain ⟨hx, hb, hml, hown, hts, hA, hst, hvc⟩ := hX
  intro H locs ls wd hS hv
  exact lv_iadd hx hb d  (kk H locs ls wd hS hv)
theorem g_isub {x y : Int32} (hX : xOK K X own cc nL) (d : decode cc pc = .ok (.isub, 1))  (kk : xG K X S (pc + 1) lv (.int (x - y) :: st)) : xG K X S pc lv (.int y :: .int x :: st) := by
  obtain ⟨p, l, e, R, s, m, args, below, meth, c, ce, sl, Q, A⟩ := X
  obtain ⟨hx, hb, hml, hown, hts, hA, hst, hvc⟩ := hX
  intro H locs ls wd hS hv
  exact lv_isub hx hb d  (kk H locs ls wd hS hv)
theorem g_imul {x y : Int32} (hX : xOK K X own cc nL) (d : decode cc pc = .ok (.imul, 1))  (kk : xG K X S (pc + 1) lv (.int (x * y) :: st)) : xG K X S pc lv (.int y :: .int x :: st) := by
  obtain ⟨p, l, e, R, s, m, args, below, meth, c, ce, sl, Q, A⟩ := X
  obtain ⟨hx, hb, hml, hown, hts, hA, hst, hvc⟩ := hX
  intro H locs ls wd hS hv
  exact lv_imul hx hb d  (kk H locs ls wd hS hv)
theorem g_iand {x y : Int32} (hX : xOK K X own cc nL) (d : decode cc pc = .ok (.iand, 1))  (kk : xG K X S (pc + 1) lv (.int (x &&& y) :: st)) : xG K X S pc lv (.int y :: .int x :: st) := by
  obtain ⟨p, l, e, R, s, m, args, below, meth, c, ce, sl, Q, A⟩ := X
  obtain ⟨hx, hb, hml, hown, hts, hA, hst, hvc⟩ := hX
  intro H locs ls wd hS hv
  exact lv_iand hx hb d  (kk H locs ls wd hS hv)
theorem g_ixor {x y : Int32} (hX : xOK K X own cc nL) (d : decode cc pc = .ok (.ixor, 1))  (kk : xG K X S (pc + 1) lv (.int (x ^^^ y) :: st)) : xG K X S pc lv (.int y :: .int x :: st) := by
  obtain ⟨p, l, e, R, s, m, args, below, meth, c, ce, sl, Q, A⟩ := X
  obtain ⟨hx, hb, hml, hown, hts, hA, hst, hvc⟩ := hX
  intro H locs ls wd hS hv
  exact lv_ixor hx hb d  (kk H locs ls wd hS hv)
theorem g_ishl {x y : Int32} (hX : xOK K X own cc nL) (d : decode cc pc = .ok (.ishl, 1))  (kk : xG K X S (pc + 1) lv (.int (x <<< (y &&& 31)) :: st)) : xG K X S pc lv (.int y :: .int x :: st) := by
  obtain ⟨p, l, e, R, s, m, args, below, meth, c, ce, sl, Q, A⟩ := X
  obtain ⟨hx, hb, hml, hown, hts, hA, hst, hvc⟩ := hX
  intro H locs ls wd hS hv
  exact lv_ishl hx hb d  (kk H locs ls wd hS hv)
theorem g_ishr {x y : Int32} (hX : xOK K X own cc nL) (d : decode cc pc = .ok (.ishr, 1))  (kk : xG K X S (pc + 1) lv (.int (x >>> (y &&& 31)) :: st)) : xG K X S pc lv (.int y :: .int x :: st) := by
  obtain ⟨p, l, e, R, s, m, args, below, meth, c, ce, sl, Q, A⟩ := X
  obtain ⟨hx, hb, hml, hown, hts, hA, hst, hvc⟩ := hX
  intro H locs ls wd hS hv
  exact lv_ishr hx hb d  (kk H locs ls wd hS hv)
theorem g_land {x y : Int64} (hX : xOK K X own cc nL) (d : decode cc pc = .ok (.land, 1))  (kk : xG K X S (pc + 1) lv (.long (x &&& y) :: st)) : xG K X S pc lv (.long y :: .long x :: st) := by
  obtain ⟨p, l, e, R, s, m, args, below, meth, c, ce, sl, Q, A⟩ := X
  obtain ⟨hx, hb, hml, hown, hts, hA, hst, hvc⟩ := hX
  intro H locs ls wd hS hv
  exact lv_land hx hb d  (kk H locs ls wd hS hv)
theorem g_lor {x y : Int64} (hX : xOK K X own cc nL) (d : decode cc pc = .ok (.lor, 1))  (kk : xG K X S (pc + 1) lv (.long (x ||| y) :: st)) : xG K X S pc lv (.long y :: .long x :: st) := by
  obtain ⟨p, l, e, R, s, m, args, below, meth, c, ce, sl, Q, A⟩ := X
  obtain ⟨hx, hb, hml, hown, hts, hA, hst, hvc⟩ := hX
  intro H locs ls wd hS hv
  exact lv_lor hx hb d  (kk H locs ls wd hS hv)
theorem g_idiv {x y : Int32} (hX : xOK K X own cc nL) (d : decode cc pc = .ok (.idiv, 1)) (hne : ¬ y = 0) (kk : xG K X S (pc + 1) lv (.int (x / y) :: st)) : xG K X S pc lv (.int y :: .int x :: st) := by
  obtain ⟨p, l, e, R, s, m, args, below, meth, c, ce, sl, Q, A⟩ := X
  obtain ⟨hx, hb, hml, hown, hts, hA, hst, hvc⟩ := hX
  intro H locs ls wd hS hv
  exact lv_idiv hx hb d hne (kk H locs ls wd hS hv)
theorem g_irem {x y : Int32} (hX : xOK K X own cc nL) (d : decode cc pc = .ok (.irem, 1)) (hne : ¬ y = 0) (kk : xG K X S (pc + 1) lv (.int (x - x / y * y) :: st)) : xG K X S pc lv (.int y :: .int x :: st) := by
  obtain ⟨p, l, e, R, s, m, args, below, meth, c, ce, sl, Q, A⟩ := X
  obtain ⟨hx, hb, hml, hown, hts, hA, hst, hvc⟩ := hX
  intro H locs ls wd hS hv
  exact lv_irem hx hb d hne (kk H locs ls wd hS hv)
theorem g_lshl {x : Int64} {y : Int32} (hX : xOK K X own cc nL) (d : decode cc pc = .ok (.lshl, 1))  (kk : xG K X S (pc + 1) lv (.long (x <<< (y.toInt64 &&& 63)) :: st)) : xG K X S pc lv (.int y :: .long x :: st) := by
  obtain ⟨p, l, e, R, s, m, args, below, meth, c, ce, sl, Q, A⟩ := X
  obtain ⟨hx, hb, hml, hown, hts, hA, hst, hvc⟩ := hX
  intro H locs ls wd hS hv
  exact lv_lshl hx hb d rfl (kk H locs ls wd hS hv)
theorem g_lushr {x : Int64} {y : Int32} (hX : xOK K X own cc nL) (d : decode cc pc = .ok (.lushr, 1))  (kk : xG K X S (pc + 1) lv (.long (x.toUInt64 >>> (y.toInt64.toUInt64 &&& Int64.toUInt64 63)).toInt64 :: st)) : xG K X S pc lv (.int y :: .long x :: st) := by
  obtain ⟨p, l, e, R, s, m, args, below, meth, c, ce, sl, Q, A⟩ := X
  obtain ⟨hx, hb, hml, hown, hts, hA, hst, hvc⟩ := hX
  intro H locs ls wd hS hv
  exact lv_lushr hx hb d rfl (kk H locs ls wd hS hv)
theorem g_i2l {x : Int32} (hX : xOK K X own cc nL) (d : decode cc pc = .ok (.i2l, 1))  (kk : xG K X S (pc + 1) lv (.long x.toInt64 :: st)) : xG K X S pc lv (.int x :: st) := by
  obtain ⟨p, l, e, R, s, m, args, below, meth, c, ce, sl, Q, A⟩ := X
  obtain ⟨hx, hb, hml, hown, hts, hA, hst, hvc⟩ := hX
  intro H locs ls wd hS hv
  exact lv_i2l hx hb d rfl (kk H locs ls wd hS hv)
theorem g_l2i {x : Int64} (hX : xOK K X own cc nL) (d : decode cc pc = .ok (.l2i, 1))  (kk : xG K X S (pc + 1) lv (.int x.toInt32 :: st)) : xG K X S pc lv (.long x :: st) := by
  obtain ⟨p, l, e, R, s, m, args, below, meth, c, ce, sl, Q, A⟩ := X
  obtain ⟨hx, hb, hml, hown, hts, hA, hst, hvc⟩ := hX
  intro H locs ls wd hS hv
  exact lv_l2i hx hb d rfl (kk H locs ls wd hS hv)
theorem g_i2b {x : Int32} (hX : xOK K X own cc nL) (d : decode cc pc = .ok (.i2b, 1))  (kk : xG K X S (pc + 1) lv (.int x.toInt8.toInt32 :: st)) : xG K X S pc lv (.int x :: st) := by
  obtain ⟨p, l, e, R, s, m, args, below, meth, c, ce, sl, Q, A⟩ := X
  obtain ⟨hx, hb, hml, hown, hts, hA, hst, hvc⟩ := hX
  intro H locs ls wd hS hv
  exact lv_i2b hx hb d rfl (kk H locs ls wd hS hv)
theorem g_lcmp {x y : Int64} (hX : xOK K X own cc nL) (d : decode cc pc = .ok (.lcmp, 1))  (kk : xG K X S (pc + 1) lv (.int (lg_cmp x y) :: st)) : xG K X S pc lv (.long y :: .long x :: st) := by
  obtain ⟨p, l, e, R, s, m, args, below, meth, c, ce, sl, Q, A⟩ := X
  obtain ⟨hx, hb, hml, hown, hts, hA, hst, hvc⟩ := hX
  intro H locs ls wd hS hv
  exact W.lcmp hx hb d  (kk H locs ls wd hS hv)
theorem g_dup {va : Value} (hX : xOK K X own cc nL) (d : decode cc pc = .ok (.dup, 1)) (hva : va.category = 1) (kk : xG K X S (pc + 1) lv (va :: va :: st)) : xG K X S pc lv (va :: st) := by
  obtain ⟨p, l, e, R, s, m, args, below, meth, c, ce, sl, Q, A⟩ := X
  obtain ⟨hx, hb, hml, hown, hts, hA, hst, hvc⟩ := hX
  intro H locs ls wd hS hv
  exact lv_dup hx hb d hva (kk H locs ls wd hS hv)
theorem g_dup2 {va vb : Value} (hX : xOK K X own cc nL) (d : decode cc pc = .ok (.dup2, 1)) (hva : va.category = 1) (hvb : vb.category = 1) (kk : xG K X S (pc + 1) lv (va :: vb :: va :: vb :: st)) : xG K X S pc lv (va :: vb :: st) := by
  obtain ⟨p, l, e, R, s, m, args, below, meth, c, ce, sl, Q, A⟩ := X
  obtain ⟨hx, hb, hml, hown, hts, hA, hst, hvc⟩ := hX
  intro H locs ls wd hS hv
  exact lv_dup2_11 hx hb d hva hvb (kk H locs ls wd hS hv)
theorem g_pop {va : Value} (hX : xOK K X own cc nL) (d : decode cc pc = .ok (.pop, 1)) (hva : va.category = 1) (kk : xG K X S (pc + 1) lv st) : xG K X S pc lv (va :: st) := by
  obtain ⟨p, l, e, R, s, m, args, below, meth, c, ce, sl, Q, A⟩ := X
  obtain ⟨hx, hb, hml, hown, hts, hA, hst, hvc⟩ := hX
  intro H locs ls wd hS hv
  exact lv_pop hx hb d hva (kk H locs ls wd hS hv)
theorem g_aloads_n {k : Fin 4} {i n : Nat} (hX : xOK K X own cc nL) (d : decode cc pc = .ok (.aload_n k, 1)) (hi : (k : Nat) = i) (q : Nat) (hl : lv[q]? = some (i, xrs K n)) (kk : xG K X S (pc + 1) lv (xrs K n :: st)) : xG K X S pc lv st := by
  obtain ⟨p, l, e, R, s, m, args, below, meth, c, ce, sl, Q, A⟩ := X
  obtain ⟨hx, hb, hml, hown, hts, hA, hst, hvc⟩ := hX
  intro H locs ls wd hS hv
  exact lv_aload_n hx hb d hi (lv_at hv q hl) (kk H locs ls wd hS hv)
theorem g_ldc {index : Nat} {v : Int32} (hX : xOK K X own cc nL) (d : decode cc pc = .ok (.ldc index, 2)) (hc : Cond.constant own index v ∈ xTB) (kk : xG K X S (pc + 2) lv (.int v :: st)) : xG K X S pc lv st := by
  obtain ⟨p, l, e, R, s, m, args, below, meth, c, ce, sl, Q, A⟩ := X
  obtain ⟨hx, hb, hml, hown, hts, hA, hst, hvc⟩ := hX
  intro H locs ls wd hS hv
  exact lv_ldc hx hb hown (hts _ hc) d (kk H locs ls wd hS hv)
theorem g_ldc2 {index : Nat} {v : Int64} (hX : xOK K X own cc nL) (d : decode cc pc = .ok (.ldc2_w index, 3)) (hc : Cond.constantLong own index v ∈ xTB) (kk : xG K X S (pc + 3) lv (.long v :: st)) : xG K X S pc lv st := by
  obtain ⟨p, l, e, R, s, m, args, below, meth, c, ce, sl, Q, A⟩ := X
  obtain ⟨hx, hb, hml, hown, hts, hA, hst, hvc⟩ := hX
  intro H locs ls wd hS hv
  exact lv_ldc2 hx hb hown (hts _ hc) d (kk H locs ls wd hS hv)
theorem g_goto {off : Int} (hX : xOK K X own cc nL) (tgt : Nat) (d : decode cc pc = .ok (.goto off, 3)) (ht : (pc : Int) + off = (tgt : Int)) (kk : xG K X S tgt lv st) : xG K X S pc lv st := by
  obtain ⟨p, l, e, R, s, m, args, below, meth, c, ce, sl, Q, A⟩ := X
  obtain ⟨hx, hb, hml, hown, hts, hA, hst, hvc⟩ := hX
  intro H locs ls wd hS hv
  exact lv_goto hx hb d ht (kk H locs ls wd hS hv)
theorem g_icmp_eq {x y : Int32} {off : Int} (hX : xOK K X own cc nL) (tgt : Nat) (d : decode cc pc = .ok (.if_icmp .eq off, 3)) (ht : (pc : Int) + off = (tgt : Int)) (kt : x = y → xG K X S tgt lv st) (kf : ¬ x = y → xG K X S (pc + 3) lv st) : xG K X S pc lv (.int y :: .int x :: st) := by
  obtain ⟨p, l, e, R, s, m, args, below, meth, c, ce, sl, Q, A⟩ := X
  obtain ⟨hx, hb, hml, hown, hts, hA, hst, hvc⟩ := hX
  intro H locs ls wd hS hv
  exact lv_icmp_eq hx hb d ht (fun h => kt h H locs ls wd hS hv) (fun h => kf h H locs ls wd hS hv)
theorem g_icmp_ne {x y : Int32} {off : Int} (hX : xOK K X own cc nL) (tgt : Nat) (d : decode cc pc = .ok (.if_icmp .ne off, 3)) (ht : (pc : Int) + off = (tgt : Int)) (kt : ¬ x = y → xG K X S tgt lv st) (kf : x = y → xG K X S (pc + 3) lv st) : xG K X S pc lv (.int y :: .int x :: st) := by
  obtain ⟨p, l, e, R, s, m, args, below, meth, c, ce, sl, Q, A⟩ := X
  obtain ⟨hx, hb, hml, hown, hts, hA, hst, hvc⟩ := hX
  intro H locs ls wd hS hv
  exact lv_icmp_ne hx hb d ht (fun h => kt h H locs ls wd hS hv) (fun h => kf h H locs ls wd hS hv)
theorem g_icmp_lt {x y : Int32} {off : Int} (hX : xOK K X own cc nL) (tgt : Nat) (d : decode cc pc = .ok (.if_icmp .lt off, 3)) (ht : (pc : Int) + off = (tgt : Int)) (kt : x < y → xG K X S tgt lv st) (kf : ¬ x < y → xG K X S (pc + 3) lv st) : xG K X S pc lv (.int y :: .int x :: st) := by
  obtain ⟨p, l, e, R, s, m, args, below, meth, c, ce, sl, Q, A⟩ := X
  obtain ⟨hx, hb, hml, hown, hts, hA, hst, hvc⟩ := hX
  intro H locs ls wd hS hv
  exact lv_icmp_lt hx hb d ht (fun h => kt h H locs ls wd hS hv) (fun h => kf h H locs ls wd hS hv)
theorem g_icmp_ge {x y : Int32} {off : Int} (hX : xOK K X own cc nL) (tgt : Nat) (d : decode cc pc = .ok (.if_icmp .ge off, 3)) (ht : (pc : Int) + off = (tgt : Int)) (kt : y ≤ x → xG K X S tgt lv st) (kf : ¬ y ≤ x → xG K X S (pc + 3) lv st) : xG K X S pc lv (.int y :: .int x :: st) := by
  obtain ⟨p, l, e, R, s, m, args, below, meth, c, ce, sl, Q, A⟩ := X
  obtain ⟨hx, hb, hml, hown, hts, hA, hst, hvc⟩ := hX
  intro H locs ls wd hS hv
  exact lv_icmp_ge hx hb d ht (fun h => kt h H locs ls wd hS hv) (fun h => kf h H locs ls wd hS hv)
theorem g_icmp_gt {x y : Int32} {off : Int} (hX : xOK K X own cc nL) (tgt : Nat) (d : decode cc pc = .ok (.if_icmp .gt off, 3)) (ht : (pc : Int) + off = (tgt : Int)) (kt : y < x → xG K X S tgt lv st) (kf : ¬ y < x → xG K X S (pc + 3) lv st) : xG K X S pc lv (.int y :: .int x :: st) := by
  obtain ⟨p, l, e, R, s, m, args, below, meth, c, ce, sl, Q, A⟩ := X
  obtain ⟨hx, hb, hml, hown, hts, hA, hst, hvc⟩ := hX
  intro H locs ls wd hS hv
  exact lv_icmp_gt hx hb d ht (fun h => kt h H locs ls wd hS hv) (fun h => kf h H locs ls wd hS hv)
theorem g_icmp_le {x y : Int32} {off : Int} (hX : xOK K X own cc nL) (tgt : Nat) (d : decode cc pc = .ok (.if_icmp .le off, 3)) (ht : (pc : Int) + off = (tgt : Int)) (kt : x ≤ y → xG K X S tgt lv st) (kf : ¬ x ≤ y → xG K X S (pc + 3) lv st) : xG K X S pc lv (.int y :: .int x :: st) := by
  obtain ⟨p, l, e, R, s, m, args, below, meth, c, ce, sl, Q, A⟩ := X
  obtain ⟨hx, hb, hml, hown, hts, hA, hst, hvc⟩ := hX
  intro H locs ls wd hS hv
  exact lv_icmp_le hx hb d ht (fun h => kt h H locs ls wd hS hv) (fun h => kf h H locs ls wd hS hv)
theorem g_if_eq {x : Int32} {off : Int} (hX : xOK K X own cc nL) (tgt : Nat) (d : decode cc pc = .ok (.ifCond .eq off, 3)) (ht : (pc : Int) + off = (tgt : Int)) (kt : x = 0 → xG K X S tgt lv st) (kf : ¬ x = 0 → xG K X S (pc + 3) lv st) : xG K X S pc lv (.int x :: st) := by
  obtain ⟨p, l, e, R, s, m, args, below, meth, c, ce, sl, Q, A⟩ := X
  obtain ⟨hx, hb, hml, hown, hts, hA, hst, hvc⟩ := hX
  intro H locs ls wd hS hv
  exact lv_if_eq hx hb d ht (fun h => kt h H locs ls wd hS hv) (fun h => kf h H locs ls wd hS hv)
theorem g_if_ne {x : Int32} {off : Int} (hX : xOK K X own cc nL) (tgt : Nat) (d : decode cc pc = .ok (.ifCond .ne off, 3)) (ht : (pc : Int) + off = (tgt : Int)) (kt : ¬ x = 0 → xG K X S tgt lv st) (kf : x = 0 → xG K X S (pc + 3) lv st) : xG K X S pc lv (.int x :: st) := by
  obtain ⟨p, l, e, R, s, m, args, below, meth, c, ce, sl, Q, A⟩ := X
  obtain ⟨hx, hb, hml, hown, hts, hA, hst, hvc⟩ := hX
  intro H locs ls wd hS hv
  exact lv_if_ne hx hb d ht (fun h => kt h H locs ls wd hS hv) (fun h => kf h H locs ls wd hS hv)
theorem g_if_lt {x : Int32} {off : Int} (hX : xOK K X own cc nL) (tgt : Nat) (d : decode cc pc = .ok (.ifCond .lt off, 3)) (ht : (pc : Int) + off = (tgt : Int)) (kt : x < 0 → xG K X S tgt lv st) (kf : ¬ x < 0 → xG K X S (pc + 3) lv st) : xG K X S pc lv (.int x :: st) := by
  obtain ⟨p, l, e, R, s, m, args, below, meth, c, ce, sl, Q, A⟩ := X
  obtain ⟨hx, hb, hml, hown, hts, hA, hst, hvc⟩ := hX
  intro H locs ls wd hS hv
  exact lv_if_lt hx hb d ht (fun h => kt h H locs ls wd hS hv) (fun h => kf h H locs ls wd hS hv)
theorem g_if_ge {x : Int32} {off : Int} (hX : xOK K X own cc nL) (tgt : Nat) (d : decode cc pc = .ok (.ifCond .ge off, 3)) (ht : (pc : Int) + off = (tgt : Int)) (kt : 0 ≤ x → xG K X S tgt lv st) (kf : ¬ 0 ≤ x → xG K X S (pc + 3) lv st) : xG K X S pc lv (.int x :: st) := by
  obtain ⟨p, l, e, R, s, m, args, below, meth, c, ce, sl, Q, A⟩ := X
  obtain ⟨hx, hb, hml, hown, hts, hA, hst, hvc⟩ := hX
  intro H locs ls wd hS hv
  exact lv_if_ge hx hb d ht (fun h => kt h H locs ls wd hS hv) (fun h => kf h H locs ls wd hS hv)
theorem g_if_gt {x : Int32} {off : Int} (hX : xOK K X own cc nL) (tgt : Nat) (d : decode cc pc = .ok (.ifCond .gt off, 3)) (ht : (pc : Int) + off = (tgt : Int)) (kt : 0 < x → xG K X S tgt lv st) (kf : ¬ 0 < x → xG K X S (pc + 3) lv st) : xG K X S pc lv (.int x :: st) := by
  obtain ⟨p, l, e, R, s, m, args, below, meth, c, ce, sl, Q, A⟩ := X
  obtain ⟨hx, hb, hml, hown, hts, hA, hst, hvc⟩ := hX
  intro H locs ls wd hS hv
  exact lv_if_gt hx hb d ht (fun h => kt h H locs ls wd hS hv) (fun h => kf h H locs ls wd hS hv)
theorem g_if_le {x : Int32} {off : Int} (hX : xOK K X own cc nL) (tgt : Nat) (d : decode cc pc = .ok (.ifCond .le off, 3)) (ht : (pc : Int) + off = (tgt : Int)) (kt : x ≤ 0 → xG K X S tgt lv st) (kf : ¬ x ≤ 0 → xG K X S (pc + 3) lv st) : xG K X S pc lv (.int x :: st) := by
  obtain ⟨p, l, e, R, s, m, args, below, meth, c, ce, sl, Q, A⟩ := X
  obtain ⟨hx, hb, hml, hown, hts, hA, hst, hvc⟩ := hX
  intro H locs ls wd hS hv
  exact lv_if_le hx hb d ht (fun h => kt h H locs ls wd hS hv) (fun h => kf h H locs ls wd hS hv)
theorem g_ifnonnull {off : Int} {t o : Nat} (hX : xOK K X own cc nL) (tgt : Nat) (d : decode cc pc = .ok (.ifnonnull off, 3)) (ht : (pc : Int) + off = (tgt : Int)) (kk : xG K X S tgt lv st) : xG K X S pc lv (xr K t o :: st) := by
  obtain ⟨p, l, e, R, s, m, args, below, meth, c, ce, sl, Q, A⟩ := X
  obtain ⟨hx, hb, hml, hown, hts, hA, hst, hvc⟩ := hX
  intro H locs ls wd hS hv
  exact lv_ifnonnull hx hb d ht (kk H locs ls wd hS hv)
theorem g_ifnull {off : Int} {t o : Nat} (hX : xOK K X own cc nL) (d : decode cc pc = .ok (.ifnull off, 3)) (kk : xG K X S (pc + 3) lv st) : xG K X S pc lv (xr K t o :: st) := by
  obtain ⟨p, l, e, R, s, m, args, below, meth, c, ce, sl, Q, A⟩ := X
  obtain ⟨hx, hb, hml, hown, hts, hA, hst, hvc⟩ := hX
  intro H locs ls wd hS hv
  exact lv_ifnull hx hb d (kk H locs ls wd hS hv)
theorem g_tsOut {dflt lo hi : Int} {offs : Array Int} {len : Nat} {x : Int32} (hX : xOK K X own cc nL) (tgt : Nat) (d : decode cc pc = .ok (.tableswitch dflt lo hi offs, len)) (h : x.toInt < lo ∨ hi < x.toInt) (ht : (pc : Int) + dflt = (tgt : Int)) (kk : xG K X S tgt lv st) : xG K X S pc lv (.int x :: st) := by
  obtain ⟨p, l, e, R, s, m, args, below, meth, c, ce, sl, Q, A⟩ := X
  obtain ⟨hx, hb, hml, hown, hts, hA, hst, hvc⟩ := hX
  intro H locs ls wd hS hv
  exact lv_tableOut hx hb d h ht (kk H locs ls wd hS hv)
theorem g_tsIn {dflt lo hi : Int} {offs : Array Int} {len : Nat} {x : Int32} {off : Int} (hX : xOK K X own cc nL) (tgt : Nat) (d : decode cc pc = .ok (.tableswitch dflt lo hi offs, len)) (h : ¬ (x.toInt < lo ∨ hi < x.toInt)) (n : Nat) (hn : (x.toInt - lo).toNat = n) (ho : offs[n]? = some off) (ht : (pc : Int) + off = (tgt : Int)) (kk : xG K X S tgt lv st) : xG K X S pc lv (.int x :: st) := by
  obtain ⟨p, l, e, R, s, m, args, below, meth, c, ce, sl, Q, A⟩ := X
  obtain ⟨hx, hb, hml, hown, hts, hA, hst, hvc⟩ := hX
  intro H locs ls wd hS hv
  exact lv_tableIn hx hb d (fun q => h (Or.inl q)) (fun q => h (Or.inr q)) (by rw [hn]; exact ho) ht (kk H locs ls wd hS hv)
theorem g_sub {lv2 : List (Nat × Value)} (ks : List Nat) (hl : lv_pick lv ks = lv2) (kk : xG K X S pc lv2 st) : xG K X S pc lv st := by
  obtain ⟨p, l, e, R, s, m, args, below, meth, c, ce, sl, Q, A⟩ := X
  intro H locs ls wd hS hv
  exact kk H locs ls wd hS (lv_sub hv ks hl)
theorem g_pc {pc2 : Nat} (h : pc = pc2) (kk : xG K X S pc2 lv st) : xG K X S pc lv st := by subst h; exact kk
end XG

/-! rows over the world -/
theorem xws_at {K : xK} {S : xSt} {t o : Nat} (h : (t, o) ∈ xvl K) : ∃ k : Nat, (xvl K)[k]? = some (t, o) ∧ (xws K S)[k]? = some (xad K t o, xE K (S t o) t o) := by
  obtain ⟨k, hk⟩ := List.getElem?_of_mem h
  exact ⟨k, hk, by rw [xws, List.getElem?_map, hk]; rfl⟩
theorem xws_set {K : xK} {S : xSt} {t o k : Nat} {B : Nat → Prop} (hD : va_D B (xws K S)) (hk : (xvl K)[k]? = some (t, o)) (f : Nat → Int32) : (xws K S).set k (xad K t o, xE K f t o) = xws K (xua S t o f) := by
  apply List.ext_getElem?
  intro i
  rw [List.getElem?_set]
  by_cases hi : k = i
  · subst hi
    have hlt : k < (xws K S).length := by
      rw [xws, List.length_map]
      exact (List.getElem?_eq_some_iff.mp hk).1
    rw [if_pos rfl, if_pos hlt, xws, List.getElem?_map, hk]
    simp only [Option.map_some, xua_s]
  · rw [if_neg hi, xws, xws, List.getElem?_map, List.getElem?_map]
    cases hq : (xvl K)[i]? with
    | none => rfl
    | some q =>
      simp only [Option.map_some]
      by_cases he : q.1 = t ∧ q.2 = o
      · exfalso
        apply hi
        refine hD.1 k i (xad K t o, xE K (S t o) t o) (xad K t o, xE K (S t o) t o) ?_ ?_ rfl
        · rw [xws, List.getElem?_map, hk]; rfl
        · rw [xws, List.getElem?_map, hq]
          obtain ⟨q1, q2⟩ := q
          obtain ⟨e1, e2⟩ := he
          subst e1; subst e2; rfl
      · rw [xua_n _ _ he]
theorem xWd_A {K : xK} {S : xSt} {A : Nat → Prop} (h : va_D (fun _ => True) (xws K S)) (hA : ∀ t o, (t, o) ∈ xvl K → A (xad K t o)) : va_D A (xws K S) := by
  refine ⟨h.1, fun k q hk => ?_⟩
  rw [xws, List.getElem?_map] at hk
  cases hq : (xvl K)[k]? with
  | none => rw [hq] at hk; cases hk
  | some z =>
    rw [hq] at hk
    cases hk
    exact hA _ _ (List.mem_of_getElem? hq)
/-- what the tables say of a field of class t at place idx of own's pool: slot j, an int -/
def xFB (own : String) (idx t j : Nat) : Prop := ∃ (C : String) (T : u_T) (N : Nat) (ty0 : Nat → FieldType), vwCl[t]? = some (C, T, N) ∧ j < N ∧ (∀ w ∈ u_ws C T N, w ∈ xTB) ∧ (∀ k, k < N → parseFieldDescriptor (T k).2.2.1 = some (ty0 k)) ∧ (∀ a, a < N → ∀ b, b < N → a ≠ b → (T a).2.1 ≠ (T b).2.1) ∧ (Cond.fieldLink own idx (T j).1 (T j).2.1 (T j).2.2.1 ∈ xTB ∨ ∃ host, Cond.fieldLinkNest own idx (T j).1 (T j).2.1 (T j).2.2.1 host ∈ xNL) ∧
  (∀ (K : xK) (f : Nat → Int32) (o : Nat), (xfs K f t o).length = N ∧ xE K f t o = .inr (t, xfs K f t o))
def xFI (own : String) (idx t j : Nat) : Prop := xFB own idx t j ∧ (∃ (C : String) (T : u_T) (N : Nat), vwCl[t]? = some (C, T, N) ∧ (T j).2.2.2 = false ∧ parseFieldDescriptor (T j).2.2.1 = some .int) ∧
  (∀ (K : xK) (f : Nat → Int32) (o : Nat), (xfs K f t o)[j]? = some (.int (f j))) ∧ (∀ (K : xK) (f : Nat → Int32) (o : Nat) (v : Int32), xfs K (upd f j v) t o = (xfs K f t o).set j (.int v))
def xFR (own : String) (idx t j o t2 o2 : Nat) : Prop := xFB own idx t j ∧ ∀ (K : xK) (f : Nat → Int32), (xfs K f t o)[j]? = some (xr K t2 o2)
section XW
variable {K : xK} {X : xX} {own : String} {cc : ByteArray} {nL : Nat} {S : xSt} {pc : Nat} {lv : List (Nat × Value)} {st : List Value}
theorem g_getV {t o j idx : Nat} {v : Value} (hX : xOK K X own cc nL) (hV : (t, o) ∈ xvl K) (hF : xFB own idx t j) (hf : (xfs K (S t o) t o)[j]? = some v) (d : decode cc pc = .ok (.getfield idx, 3)) (kk : xG K X S (pc + 3) lv (v :: st)) : xG K X S pc lv (xr K t o :: st) := by
  obtain ⟨p, l, e, R, s, m, args, below, meth, c, ce, sl, Q, A⟩ := X
  obtain ⟨hx, hb, hml, hown, hts, hA, hst, hvc⟩ := hX
  intro H locs ls wd hS hv
  obtain ⟨C, T, N, ty0, h1, h2, h3, h4, h5, h6, h7⟩ := hF
  obtain ⟨k, hk, he⟩ := xws_at (S := S) hV
  rw [(h7 K (S t o) o).2] at he
  rcases h6 with h6 | ⟨host, h6⟩
  · exact va_get hx hb hts h3 hown wd.2.1 wd.1 k he h1 j h2 (hts _ h6) (fun _ h9 => h9) hf d (kk H locs ls wd hS hv)
  · exact va_getN hx hb hts h3 hown wd.2.1 wd.1 k he h1 j h2 (xNw_use hvc.2 h6 _) (fun _ h9 => h9) hf d (kk H locs ls wd hS hv)
theorem g_getI {t o j idx : Nat} (hX : xOK K X own cc nL) (hV : (t, o) ∈ xvl K) (hF : xFI own idx t j) (d : decode cc pc = .ok (.getfield idx, 3)) (kk : xG K X S (pc + 3) lv (.int (S t o j) :: st)) : xG K X S pc lv (xr K t o :: st) := g_getV hX hV hF.1 (hF.2.2.1 K (S t o) o) d kk
theorem g_getR {t o j idx t2 o2 : Nat} (hX : xOK K X own cc nL) (hV : (t, o) ∈ xvl K) (hF : xFR own idx t j o t2 o2) (d : decode cc pc = .ok (.getfield idx, 3)) (kk : xG K X S (pc + 3) lv (xr K t2 o2 :: st)) : xG K X S pc lv (xr K t o :: st) := g_getV hX hV hF.1 (hF.2 K (S t o)) d kk
theorem g_putI {t o j idx : Nat} {v : Int32} {S1 : xSt} (hX : xOK K X own cc nL) (hV : (t, o) ∈ xvl K) (hF : xFI own idx t j) (d : decode cc pc = .ok (.putfield idx, 3)) (e9 : xup S t o j v = S1) (kk : xG K X S1 (pc + 3) lv st) : xG K X S pc lv (.int v :: xr K t o :: st) := by
  obtain ⟨p, l, e, R, s, m, args, below, meth, c, ce, sl, Q, A⟩ := X
  obtain ⟨hx, hb, hml, hown, hts, hA, hst, hvc⟩ := hX
  intro H locs ls wd hS hv
  obtain ⟨⟨C, T, N, ty0, h1, h2, h3, h4, h5, h6, h7⟩, ⟨C', T', N', g1, g2, g3⟩, g4, g5⟩ := hF
  cases h1.symm.trans g1
  obtain ⟨k, hk, he⟩ := xws_at (S := S) hV
  rw [(h7 K (S t o) o).2] at he
  have hset : (xws K S).set k (xad K t o, .inr (t, (xfs K (S t o) t o).set j (.int v))) = xws K S1 := by
    rw [← g5 K (S t o) o v, ← (h7 K (upd (S t o) j v) o).2, ← e9]
    exact xws_set wd.2.2 hk _
  have hlen : j < (xfs K (S t o) t o).length := by rw [(h7 K (S t o) o).1]; exact h2
  have go : ∀ (H1 : Heap) (locs1 : List Loc), va_P K.1 vwCl ((xws K S).set k (xad K t o, .inr (t, (xfs K (S t o) t o).set j (.int v)))) H1 → va_D A ((xws K S).set k (xad K t o, .inr (t, (xfs K (S t o) t o).set j (.int v)))) → va_S A s.heap H1 locs1 → W p l e R s m args below meth c H1 locs1 ce sl Q (F0 m (pc + 3) ls st) := by
    intro H1 locs1 hP hD hS1
    rw [hset] at hP hD
    exact kk H1 locs1 ls ⟨hP, wd.2.1, ⟨hD.1, fun _ _ _ => trivial⟩⟩ hS1 hv
  rcases h6 with h6 | ⟨host, h6⟩
  · exact va_put hx hb hts h3 ty0 h4 h5 hown wd.2.1 wd.1 (xWd_A wd.2.2 hA) hS k he h1 j h2 (hts _ h6) (fun _ h9 => h9) g2 g3 rfl rfl hlen d go
  · exact va_putN hx hb hts h3 ty0 h4 h5 hown wd.2.1 wd.1 (xWd_A wd.2.2 hA) hS k he h1 j h2 (xNw_use hvc.2 h6 _) (fun _ h9 => h9) g2 g3 rfl rfl hlen d go
/-- rows of ints -/
theorem g_iald {t o n : Nat} {i : Int32} (hX : xOK K X own cc nL) (hV : (t, o) ∈ xvl K) (hE : xE K (S t o) t o = .inl (xcy K 0, n, .inl (S t o))) (hin : vp_in i n) (d : decode cc pc = .ok (.iaload, 1)) (kk : xG K X S (pc + 1) lv (.int (S t o i.toNatClampNeg) :: st)) : xG K X S pc lv (.int i :: xr K t o :: st) := by
  obtain ⟨p, l, e, R, s, m, args, below, meth, c, ce, sl, Q, A⟩ := X
  obtain ⟨hx, hb, hml, hown, hts, hA, hst, hvc⟩ := hX
  intro H locs ls wd hS hv
  obtain ⟨k, hk, he⟩ := xws_at (S := S) hV
  rw [hE] at he
  exact va_iald hx hb wd.2.1 wd.1 k 0 he rfl hin d (kk H locs ls wd hS hv)
theorem g_iast {t o n : Nat} {i x : Int32} {S1 : xSt} (hX : xOK K X own cc nL) (hV : (t, o) ∈ xvl K) (hE : ∀ f, xE K f t o = .inl (xcy K 0, n, .inl f)) (hin : vp_in i n) (d : decode cc pc = .ok (.iastore, 1)) (e9 : xup S t o i.toNatClampNeg x = S1) (kk : xG K X S1 (pc + 1) lv st) : xG K X S pc lv (.int x :: .int i :: xr K t o :: st) := by
  obtain ⟨p, l, e, R, s, m, args, below, meth, c, ce, sl, Q, A⟩ := X
  obtain ⟨hx, hb, hml, hown, hts, hA, hst, hvc⟩ := hX
  intro H locs ls wd hS hv
  obtain ⟨k, hk, he⟩ := xws_at (S := S) hV
  rw [hE] at he
  refine va_iast hx hb wd.2.1 wd.1 (xWd_A wd.2.2 hA) hS k 0 he rfl hin d (fun H1 locs1 hP hD hS1 => ?_)
  rw [← hE, xws_set wd.2.2 hk] at hP hD
  have e9 : xua S t o (upd (S t o) i.toNatClampNeg x) = S1 := e9
  rw [e9] at hP hD
  exact kk H1 locs1 ls ⟨hP, wd.2.1, ⟨hD.1, fun _ _ _ => trivial⟩⟩ hS1 hv
/-- rows of booleans, of bytes -/
theorem g_zald {t o n : Nat} {i : Int32} (hX : xOK K X own cc nL) (hV : (t, o) ∈ xvl K) (hE : xE K (S t o) t o = .inl (xcy K 1, n, .inl (S t o))) (hin : vp_in i n) (d : decode cc pc = .ok (.baload, 1)) (kk : xG K X S (pc + 1) lv (.int (S t o i.toNatClampNeg) :: st)) : xG K X S pc lv (.int i :: xr K t o :: st) := by
  obtain ⟨p, l, e, R, s, m, args, below, meth, c, ce, sl, Q, A⟩ := X
  obtain ⟨hx, hb, hml, hown, hts, hA, hst, hvc⟩ := hX
  intro H locs ls wd hS hv
  obtain ⟨k, hk, he⟩ := xws_at (S := S) hV
  rw [hE] at he
  exact va_zald hx hb wd.2.1 wd.1 k 1 he rfl hin d (kk H locs ls wd hS hv)
theorem g_zast {t o n : Nat} {i x : Int32} {S1 : xSt} (hX : xOK K X own cc nL) (hV : (t, o) ∈ xvl K) (hE : ∀ f, xE K f t o = .inl (xcy K 1, n, .inl f)) (hin : vp_in i n) (d : decode cc pc = .ok (.bastore, 1)) (e9 : xup S t o i.toNatClampNeg (vp_nar .boolean x) = S1) (kk : xG K X S1 (pc + 1) lv st) : xG K X S pc lv (.int x :: .int i :: xr K t o :: st) := by
  obtain ⟨p, l, e, R, s, m, args, below, meth, c, ce, sl, Q, A⟩ := X
  obtain ⟨hx, hb, hml, hown, hts, hA, hst, hvc⟩ := hX
  intro H locs ls wd hS hv
  obtain ⟨k, hk, he⟩ := xws_at (S := S) hV
  rw [hE] at he
  refine va_zast hx hb wd.2.1 wd.1 (xWd_A wd.2.2 hA) hS k 1 he rfl hin d (fun H1 locs1 hP hD hS1 => ?_)
  rw [← hE, xws_set wd.2.2 hk] at hP hD
  have e9 : xua S t o (upd (S t o) i.toNatClampNeg (vp_nar .boolean x)) = S1 := e9
  rw [e9] at hP hD
  exact kk H1 locs1 ls ⟨hP, wd.2.1, ⟨hD.1, fun _ _ _ => trivial⟩⟩ hS1 hv
/-- rows of States -/
theorem g_aald {t o n b : Nat} {i : Int32} (hX : xOK K X own cc nL) (hV : (t, o) ∈ xvl K) (hE : xE K (S t o) t o = .inl (xcy K 3, n, .inr (.inr (.inr (.inr (fun i => some (xad K 4 (b + i)))))))) (hin : vp_in i n) (d : decode cc pc = .ok (.aaload, 1)) (kk : xG K X S (pc + 1) lv (xr K 4 (b + i.toNatClampNeg) :: st)) : xG K X S pc lv (.int i :: xr K t o :: st) := by
  obtain ⟨p, l, e, R, s, m, args, below, meth, c, ce, sl, Q, A⟩ := X
  obtain ⟨hx, hb, hml, hown, hts, hA, hst, hvc⟩ := hX
  intro H locs ls wd hS hv
  obtain ⟨k, hk, he⟩ := xws_at (S := S) hV
  rw [hE] at he
  exact va_aldq hx hb wd.2.1 wd.1 k 3 he rfl hin d (kk H locs ls wd hS hv)
theorem g_alen {t o : Nat} {x : vp_A} {q : Nat} {v : Int32} (hX : xOK K X own cc nL) (hV : (t, o) ∈ xvl K) {cA : ClassId} {ty : FieldType} (hE : xE K (S t o) t o = .inl (cA, x)) (hq : (xtys K)[q]? = some (cA, ty)) (hv9 : Int32.ofNat x.1 = v) (d : decode cc pc = .ok (.arraylength, 1)) (kk : xG K X S (pc + 1) lv (.int v :: st)) : xG K X S pc lv (xr K t o :: st) := by
  obtain ⟨p, l, e, R, s, m, args, below, meth, c, ce, sl, Q, A⟩ := X
  obtain ⟨hx, hb, hml, hown, hts, hA, hst, hvc⟩ := hX
  intro H locs ls wd hS hv
  obtain ⟨k, hk, he⟩ := xws_at (S := S) hV
  rw [hE] at he
  exact va_alen hx hb wd.2.1 wd.1 k q he hq hv9 d (kk H locs ls wd hS hv)
/-- the static rows -/
def xSL (own : String) (idx : Nat) (n : String) : Prop := Cond.fieldLink own idx "GrowingBook" n "[I" ∈ xTB ∨ ∃ host, Cond.fieldLinkNest own idx "GrowingBook" n "[I" host ∈ xNL
def xSn (k : Nat) : String := if k = 0 then "LOWEST" else if k = 1 then "HIGHEST" else "FIRST"
def xSf (k : Nat) : Nat → Int32 := if k = 0 then xLO else if k = 1 then xHI else xFI0
theorem xStt_Z {K : xK} {A : Nat → Prop} {U : State} {H : Heap} (h : xStt K A U H) (k : Nat) (hk : k < 3) : va_Z "GrowingBook" (xSn k) "[I" (xrs K k) A U H ∧ va_T .int (xsa K k) 3 (fun i => .int (xSf k i)) A U H := by
  obtain ⟨a1, a2, b1, b2, c1, c2, -⟩ := h
  rcases (show k = 0 ∨ k = 1 ∨ k = 2 by omega) with rfl | rfl | rfl
  · exact ⟨a1, a2⟩
  · exact ⟨b1, b2⟩
  · exact ⟨c1, c2⟩
theorem g_gets {k idx : Nat} (hX : xOK K X own cc nL) (hk : k < 3) (hF : xSL own idx (xSn k)) (d : decode cc pc = .ok (.getstatic idx, 3)) (kk : xG K X S (pc + 3) lv (xrs K k :: st)) : xG K X S pc lv st := by
  obtain ⟨p, l, e, R, s, m, args, below, meth, c, ce, sl, Q, A⟩ := X
  obtain ⟨hx, hb, hml, hown, hts, hA, hst, hvc⟩ := hX
  intro H locs ls wd hS hv
  rcases hF with hF | ⟨host, hF⟩
  · exact va_gets hx hb (xStt_Z hst k hk).1 hS hown (hts _ hF) (fun _ h9 => h9) d (kk H locs ls wd hS hv)
  · exact va_getsN hx hb (xStt_Z hst k hk).1 hS hown (xNw_use hvc.2 hF _) (fun _ h9 => h9) d (kk H locs ls wd hS hv)
theorem g_ialdS {k : Nat} {i : Int32} (hX : xOK K X own cc nL) (hk : k < 3) (hin : vp_in i 3) (d : decode cc pc = .ok (.iaload, 1)) (kk : xG K X S (pc + 1) lv (.int (xSf k i.toNatClampNeg) :: st)) : xG K X S pc lv (.int i :: xrs K k :: st) := by
  obtain ⟨p, l, e, R, s, m, args, below, meth, c, ce, sl, Q, A⟩ := X
  obtain ⟨hx, hb, hml, hown, hts, hA, hst, hvc⟩ := hX
  intro H locs ls wd hS hv
  exact va_ti hx hb (xStt_Z hst k hk).2 hS hin rfl d (kk H locs ls wd hS hv)
/-- the script -/
theorem g_ialdx {i : Int32} {L : Nat} {xs : Nat → Int32} (hX : xOK K X own cc nL) (hL : xsa K 4 = L) (hxs : xxs K = xs) (hin : vp_in i L) (d : decode cc pc = .ok (.iaload, 1)) (kk : xG K X S (pc + 1) lv (.int (xs i.toNatClampNeg) :: st)) : xG K X S pc lv (.int i :: xrs K 3 :: st) := by
  obtain ⟨p, l, e, R, s, m, args, below, meth, c, ce, sl, Q, A⟩ := X
  obtain ⟨hx, hb, hml, hown, hts, hA, hst, hvc⟩ := hX
  intro H locs ls wd hS hv
  subst hL
  subst hxs
  exact va_ti hx hb hst.2.2.2.2.2.2 hS hin rfl d (kk H locs ls wd hS hv)
theorem g_slenx {L : Nat} (hX : xOK K X own cc nL) (hL : xsa K 4 = L) (d : decode cc pc = .ok (.arraylength, 1)) (kk : xG K X S (pc + 1) lv (.int (nI L) :: st)) : xG K X S pc lv (xrs K 3 :: st) := by
  obtain ⟨p, l, e, R, s, m, args, below, meth, c, ce, sl, Q, A⟩ := X
  obtain ⟨hx, hb, hml, hown, hts, hA, hst, hvc⟩ := hX
  intro H locs ls wd hS hv
  subst hL
  exact va_tlen hx hb hst.2.2.2.2.2.2 hS rfl d (kk H locs ls wd hS hv)
end XW
end
section
/-! contracts, calls, returns -/
def xQ (K : xK) (out : xR) : Array Value → State → Outcome → State → Prop := fun _ st oc t => oc = .returned out.2 ∧ xWd K out.1 t t.heap ∧ va_F (xA K) st t
def xPre (K : xK) (S : xSt) (U : State) : Prop := xWd K S U U.heap ∧ xStt K (xA K) U U.heap ∧ xNw U
def xMet (l : Launch) (K : xK) (y : MethodName) (b : ByteArray) (maxL : Nat) (ret : Option FieldType) (fr lo : Nat) (S : xSt) (args : List Value) (out : xR) : Prop :=
  Met l y (Cond.code y b maxL ret :: xTB) ({ frames := fr, cells := 0, slots := 0, locals := lo }) (va_Pc args (xPre K S)) (xQ K out) 0 0 (xA K)
def xM (K : xK) (X : xX) (out : xR) (rt : Option FieldType) : Prop := match X with
  | (p, l, e, R, s, m, args, below, meth, c, ce, sl, Q, A) => Q = MQ below (xQ K out) args s 0 0 (xA K) ∧ ce = 0 ∧ sl = 0 ∧ A = xA K ∧ meth.sig.returnType = rt ∧ meth.locks = false
def xRm (X : xX) (fr lo : Nat) : Prop := match X with
  | (p, l, e, R, s, m, args, below, meth, c, ce, sl, Q, A) => fr ≤ R.frames ∧ lo ≤ R.locals ∧ ce ≤ R.cells ∧ sl ≤ R.slots
theorem xStt_moved {K : xK} {A : Nat → Prop} {u U : State} {H : Heap} (hvm : u.vm.Alike U.vm) (h : xStt K A u H) : xStt K A U H := by
  obtain ⟨a1, a2, b1, b2, c1, c2, c3⟩ := h
  exact ⟨va_Z.moved hvm a1, va_T.moved hvm a2, va_Z.moved hvm b1, va_T.moved hvm b2, va_Z.moved hvm c1, va_T.moved hvm c2, va_T.moved hvm c3⟩
theorem xStt_kept {K : xK} {A : Nat → Prop} {U : State} {H H1 : Heap} (h : xStt K A U H) (hq : ∀ a : Nat, a < H.size → ¬ A a → H1[a]? = H[a]?) : xStt K A U H1 := by
  obtain ⟨a1, a2, b1, b2, c1, c2, c3⟩ := h
  exact ⟨a1.kept hq, a2.kept hq, b1.kept hq, b2.kept hq, c1.kept hq, c2.kept hq, c3.kept hq⟩
theorem xStt_narrow {K : xK} {A B : Nat → Prop} {U : State} {H : Heap} (h : xStt K A U H) (hAB : ∀ q, B q → A q) : xStt K B U H := by
  obtain ⟨a1, a2, b1, b2, c1, c2, c3⟩ := h
  exact ⟨a1.narrow hAB, a2.narrow hAB, b1.narrow hAB, b2.narrow hAB, c1.narrow hAB, c2.narrow hAB, c3.narrow hAB⟩
theorem xWd_moved {K : xK} {S : xSt} {u U : State} {H : Heap} (hvm : u.vm.Alike U.vm) (h : xWd K S u H) : xWd K S U H := ⟨h.1, va_K.moved hvm h.2.1, h.2.2⟩
theorem xPre_blind {K : xK} {S : xSt} {args : List Value} : FrameBlind (va_Pc args (xPre K S)) := by
  intro a U g mk h
  exact ⟨h.1, ⟨xWd_moved (u := U) (U := U.calling g mk a) (Vm.Alike.refl U.vm) h.2.1, xStt_moved (u := U) (U := U.calling g mk a) (Vm.Alike.refl U.vm) h.2.2.1, xNw_same (u := U) (U := U.calling g mk a) rfl h.2.2.2⟩⟩
theorem xMet_of {l : Launch} {K : xK} {y : MethodName} {b : ByteArray} {maxL : Nat} {ret : Option FieldType} {fr lo : Nat} {S : xSt} {args : List Value} {out : xR} (own : String) (hy : plainName y.cls = true) (hown : y.cls = own) (hvc : xVC (xvl K)) (hargs : (lg_sl args).length ≤ maxL)
    (body : ∀ X, xOK K X own b maxL → xM K X out ret → xRm X fr lo → xG K X S 0 (lv_args 0 args) []) : xMet l K y b maxL ret fr lo S args out := by
  refine Met.ofW (cc := b) (maxL := maxL) (ret := ret) hy rfl ?_
  intro p e s m args' below meth c s₁ B hml hv
  obtain ⟨rfl, hwd, hst, hnw⟩ := hv
  have hts := atoms_spec (ws := Cond.code y b maxL ret :: xTB) B.pre
  have hown2 : s.vm.findClass y.cls = some m.cls := findClass_of_methodNamed B.named
  rw [hown] at hown2
  rw [lg_entry_eq]
  exact body (p, l, e, _, s, m, args.toArray, below, meth, c, 0, 0, MQ below (xQ K out) args.toArray s 0 0 (xA K), xA K) ⟨B.exec, B.bytes, hml, hown2, fun w hw => hts w (List.mem_cons_of_mem _ hw), fun t o h => ⟨t, o, h, rfl⟩, hst, hvc, hnw⟩ ⟨rfl, rfl, rfl, rfl, B.returns, B.notSynchronized⟩ ⟨Nat.le_refl _, Nat.le_refl _, Nat.le_refl _, Nat.le_refl _⟩ s.heap [] _ hwd va_S.rf (by rw [hml]; exact lv_entry args hargs)
/-- what the tables say of a call -/
def xCB (own : String) (idx : Nat) (y : MethodName) (b : ByteArray) (maxL : Nat) (ret : Option FieldType) (n : Nat) : Prop :=
  (Cond.methodLink own idx y ∈ xTB ∨ ∃ host, Cond.methodLinkNest own idx y host ∈ xNL) ∧ Cond.initialized y.cls ∈ xTB ∧ Cond.code y b maxL ret ∈ xTB ∧ y.cls ≠ "java/lang/invoke/MethodHandle" ∧ y.cls ≠ "java/lang/invoke/VarHandle" ∧ (parseMethodDescriptor y.desc).map (fun d => d.parameters.length) = some n
def xCV (own : String) (idx t : Nat) (y : MethodName) (b : ByteArray) (maxL : Nat) (ret : Option FieldType) (n : Nat) : Prop :=
  xCB own idx y b maxL ret n ∧ Cond.instanceMethod y ∈ xTB ∧ Cond.selects y.cls y y ∈ xTB ∧ (∃ T N, vwCl[t]? = some (y.cls, T, N)) ∧ ∀ (K : xK) (f : Nat → Int32) (o : Nat), xE K f t o = .inr (t, xfs K f t o)
def xCS (own : String) (idx : Nat) (y : MethodName) (b : ByteArray) (maxL : Nat) (ret : Option FieldType) (n : Nat) : Prop :=
  xCB own idx y b maxL ret n ∧ Cond.static y ∈ xTB
theorem xTB_good {w : Cond} (h : w ∈ xTB) : goodWord w = true := (List.mem_filter.mp h).2
theorem xTB_in {y : MethodName} {b : ByteArray} {maxL : Nat} {ret : Option FieldType} (h : Cond.code y b maxL ret ∈ xTB) : GoodIn xTB (Cond.code y b maxL ret :: xTB) := by
  intro w hw
  rcases List.mem_cons.mp hw with rfl | hw
  · exact ⟨h, good_of_word (xTB_good h)⟩
  · exact ⟨hw, good_of_word (xTB_good hw)⟩
theorem x_call {p : Program} {l : Launch} {e : Env} {R : Room} {s : State} {m : MethodId} {args : Array Value} {below : List Frame} {meth : Method} {c : Code} {H : Heap} {locs : List Loc} {ce sl : Nat} {Q : State → Prop} {A0 : Nat → Prop} {K : xK} {S1 : xSt} {v : Option Value} {pc : Nat} {ls : Array Slot} {st0 rest : List Value} {a : Array Value}
    (hr : va_Run p l e R s m args below meth c H locs ce sl 0 0 (F0 m pc ls st0) rest (xQ K (S1, v) a) (xA K)) (hS : va_S A0 s.heap H locs) (hA : ∀ t o, (t, o) ∈ xvl K → A0 (xad K t o))
    (kk : ∀ (H1 : Heap) (locs1 : List Loc), xWd K S1 s H1 → va_S A0 s.heap H1 locs1 → W p l e R s m args below meth c H1 locs1 ce sl Q (F0 m (pc + 3) ls (v.toList ++ rest))) : W p l e R s m args below meth c H locs ce sl Q (F0 m pc ls st0) := by
  intro T hT X
  obtain ⟨v', st₀, t, T', L, h0, X', hL, e1, e2, ⟨hv, hw, hz, hk⟩, st⟩ := hr T hT X
  cases hv
  rw [h0] at hz hk
  have hAA : ∀ q, xA K q → A0 q := by rintro q ⟨t, o, h, rfl⟩; exact hA t o h
  have hal : s.vm.Alike t.vm := by rw [← e2]; exact X'.warmed.alike
  obtain ⟨t2, a1, b1⟩ := kk T'.heap (locs ++ L) (by rw [e1]; exact xWd_moved hal.symm hw)
    ⟨Nat.le_trans hS.1 (by rw [e1]; exact hz), fun q h1 h2 => by rw [e1, hk q (Nat.lt_of_lt_of_le h1 hS.1) (fun z => h2 (hAA q z))]; exact hS.2.1 q h1 h2, fun q hq => by
      rcases List.mem_append.mp hq with h | h
      · exact hS.2.2 q h
      · exact hAA _ (hL q h)⟩ T' rfl X'
  exact ⟨t2, st t2 a1, b1⟩
theorem x_pre {K : xK} {S : xSt} {A : Nat → Prop} {s : State} {H : Heap} {locs : List Loc} (wd : xWd K S s H) (hS : va_S A s.heap H locs) (hA : ∀ t o, (t, o) ∈ xvl K → A (xad K t o)) (hst : xStt K A s s.heap) (hnw : xNw s) (As : List Value) : ∀ U : State, U.heap = H → s.WarmedH U.vm → va_Pc As (xPre K S) As.toArray U := by
  intro U hU hW
  refine ⟨rfl, by rw [hU]; exact xWd_moved hW.alike wd, ?_, xNw_warm hW hnw⟩
  rw [hU]
  exact xStt_moved hW.alike (xStt_narrow (xStt_kept hst (fun a ha hn => hS.2.1 a ha hn)) (by rintro q ⟨t, o, h, rfl⟩; exact hA t o h))
section XC
variable {K : xK} {X : xX} {own : String} {cc : ByteArray} {nL : Nat} {S : xSt} {pc : Nat} {lv : List (Nat × Value)} {st : List Value}
theorem g_callV {y : MethodName} {bytes : ByteArray} {maxL fr lo n idx t o : Nat} {ret : Option FieldType} {As stk st2 : List Value} {S1 : xSt} {v : Option Value} (hX : xOK K X own cc nL) {fr0 lo0 : Nat} (hR : xRm X fr0 lo0) (hV : (t, o) ∈ xvl K) (hM : ∀ l, xMet l K y bytes maxL ret fr lo S (xr K t o :: As) (S1, v)) (hC : xCV own idx t y bytes maxL ret n)
    (hn : As.length = n) (hfl : fr + 1 ≤ fr0 ∧ 8 + (maxL + 11) + lo ≤ lo0) (hstk : stk = As.reverse ++ xr K t o :: st) (hst2 : v.toList ++ st = st2) (hW : (st.map fun v => v.category).sum ≤ 8) (d : decode cc pc = .ok (.invokevirtual idx, 3)) (kk : xG K X S1 (pc + 3) lv st2) : xG K X S pc lv stk := by
  obtain ⟨p, l, e, R, s, m, args, below, meth, c, ce, sl, Q, A⟩ := X
  obtain ⟨hx, hb, hml, hown, hts, hA, hst, hvc⟩ := hX
  obtain ⟨r1, r2, r3, r4⟩ := hR
  obtain ⟨⟨c1, c2, c3, c4, c5, c6⟩, c7, c8, ⟨T, N, c9⟩, c10⟩ := hC
  intro H locs ls wd hS hv
  subst hstk
  subst hst2
  have hRR : fr + 1 ≤ R.frames ∧ 8 + (maxL + 11) + lo ≤ R.locals := ⟨by omega, by omega⟩
  obtain ⟨k, hk, he⟩ := xws_at (S := S) hV
  rw [c10 K (S t o) o] at he
  have hpv : PreV s H y.cls (xad K t o) (va_Pc (xr K t o :: As) (xPre K S)) As := ⟨xPre_blind, va_recv wd.2.1 wd.1 c9 he, x_pre wd hS hA hst hvc.2 (xr K t o :: As)⟩
  refine x_call (v := v) (S1 := S1) (a := (Value.ref (xad K t o) :: As).toArray) ?_ hS hA (fun H1 locs1 w1 hS1 => kk H1 locs1 ls w1 hS1 hv)
  rcases c1 with c1 | ⟨host, c1⟩
  · exact va_runV (ws := Cond.code y bytes maxL ret :: xTB) (As := As) ⟨hx, hb, hml, hown, hts⟩ (hM l) ⟨callB_of n hts (xTB_in c3) rfl rfl rfl (hts _ c2) (hts _ c1) ⟨c4, c5, c6⟩ hRR, hts _ c7, hts _ c8⟩ hpv rfl hn (by rw [hv.1, hml]) rfl (by show 2 * 0 + _ ≤ 8; omega) d ⟨r3, r4⟩
  · exact va_runVN (ws := Cond.code y bytes maxL ret :: xTB) (As := As) ⟨hx, hb, hml, hown, hts⟩ (hM l) ⟨va_cnB n hts (xTB_in c3) rfl rfl rfl (hvc.2 _ c1) (hts _ c2) ⟨c4, c5, c6⟩ hRR, hts _ c7, hts _ c8⟩ hpv rfl hn (by rw [hv.1, hml]) rfl (by show 2 * 0 + _ ≤ 8; omega) d ⟨r3, r4⟩
theorem g_callS {y : MethodName} {bytes : ByteArray} {maxL fr lo n idx : Nat} {ret : Option FieldType} {As stk st2 : List Value} {S1 : xSt} {v : Option Value} (hX : xOK K X own cc nL) {fr0 lo0 : Nat} (hR : xRm X fr0 lo0) (hM : ∀ l, xMet l K y bytes maxL ret fr lo S As (S1, v)) (hC : xCS own idx y bytes maxL ret n)
    (hn : As.length = n) (hfl : fr + 1 ≤ fr0 ∧ 8 + (maxL + 11) + lo ≤ lo0) (hstk : stk = As.reverse ++ st) (hst2 : v.toList ++ st = st2) (hW : (st.map fun v => v.category).sum ≤ 8) (d : decode cc pc = .ok (.invokestatic idx, 3)) (kk : xG K X S1 (pc + 3) lv st2) : xG K X S pc lv stk := by
  obtain ⟨p, l, e, R, s, m, args, below, meth, c, ce, sl, Q, A⟩ := X
  obtain ⟨hx, hb, hml, hown, hts, hA, hst, hvc⟩ := hX
  obtain ⟨r1, r2, r3, r4⟩ := hR
  obtain ⟨⟨c1, c2, c3, c4, c5, c6⟩, c7⟩ := hC
  intro H locs ls wd hS hv
  subst hstk
  subst hst2
  have hRR : fr + 1 ≤ R.frames ∧ 8 + (maxL + 11) + lo ≤ R.locals := ⟨by omega, by omega⟩
  have hpv : PreS s H (va_Pc As (xPre K S)) As := ⟨xPre_blind, x_pre wd hS hA hst hvc.2 As⟩
  refine x_call (v := v) (S1 := S1) (a := As.toArray) ?_ hS hA (fun H1 locs1 w1 hS1 => kk H1 locs1 ls w1 hS1 hv)
  rcases c1 with c1 | ⟨host, c1⟩
  · exact va_runS (ws := Cond.code y bytes maxL ret :: xTB) (As := As) ⟨hx, hb, hml, hown, hts⟩ (hM l) ⟨callB_of n hts (xTB_in c3) rfl rfl rfl (hts _ c2) (hts _ c1) ⟨c4, c5, c6⟩ hRR, hts _ c7⟩ hpv rfl hn (by rw [hv.1, hml]) rfl (by show 2 * 0 + _ ≤ 8; omega) d ⟨r3, r4⟩
  · exact va_runSN (ws := Cond.code y bytes maxL ret :: xTB) (As := As) ⟨hx, hb, hml, hown, hts⟩ (hM l) ⟨va_cnB n hts (xTB_in c3) rfl rfl rfl (hvc.2 _ c1) (hts _ c2) ⟨c4, c5, c6⟩ hRR, hts _ c7, trivial⟩ hpv rfl hn (by rw [hv.1, hml]) rfl (by show 2 * 0 + _ ≤ 8; omega) d ⟨r3, r4⟩
/-- returns -/
theorem g_iret {out : xR} {v : Int32} (hX : xOK K X own cc nL) (hM : xM K X out (some .int)) (e9 : (S, some (Value.int v)) = out) (d : decode cc pc = .ok (.ireturn, 1)) : xG K X S pc lv [.int v] := by
  obtain ⟨p, l, e, R, s, m, args, below, meth, c, ce, sl, Q, A⟩ := X
  obtain ⟨hx, hb, hml, hown, hts, hA, hst, hvc⟩ := hX
  obtain ⟨rfl, rfl, rfl, rfl, hrt, hlk⟩ := hM
  intro H locs ls wd hS hv
  subst e9
  exact W.iret hx hb hrt (fun t ht hW => ⟨rfl, by rw [ht]; exact xWd_moved hW.alike wd, hS.F ht⟩) hS.2.2 d hlk
theorem g_zret {out : xR} {v : Int32} (hX : xOK K X own cc nL) (hM : xM K X out (some .boolean)) (hz : v &&& 1 = v) (e9 : (S, some (Value.int v)) = out) (d : decode cc pc = .ok (.ireturn, 1)) : xG K X S pc lv [.int v] := by
  obtain ⟨p, l, e, R, s, m, args, below, meth, c, ce, sl, Q, A⟩ := X
  obtain ⟨hx, hb, hml, hown, hts, hA, hst, hvc⟩ := hX
  obtain ⟨rfl, rfl, rfl, rfl, hrt, hlk⟩ := hM
  intro H locs ls wd hS hv
  subst e9
  exact W.zret hx hb hrt (by show Value.int (v &&& 1) = _; rw [hz]) (fun t ht hW => ⟨rfl, by rw [ht]; exact xWd_moved hW.alike wd, hS.F ht⟩) hS.2.2 d hlk
theorem g_vret {out : xR} (hX : xOK K X own cc nL) (hM : xM K X out none) (e9 : (S, (none : Option Value)) = out) (d : decode cc pc = .ok (.return_, 1)) : xG K X S pc lv [] := by
  obtain ⟨p, l, e, R, s, m, args, below, meth, c, ce, sl, Q, A⟩ := X
  obtain ⟨hx, hb, hml, hown, hts, hA, hst, hvc⟩ := hX
  obtain ⟨rfl, rfl, rfl, rfl, hrt, hlk⟩ := hM
  intro H locs ls wd hS hv
  subst e9
  exact W.vret hx hb hrt (fun t ht hW => ⟨rfl, by rw [ht]; exact xWd_moved hW.alike wd, hS.F ht⟩) hS.2.2 d hlk
/-- Math.max, Math.min, System.arraycopy over two rows of ints -/
theorem g_max {idx : Nat} {x y : Int32} (hX : xOK K X own cc nL) {fr0 lo0 : Nat} (hR : xRm X fr0 lo0) (h1 : 1 ≤ fr0) (h2 : (st.map fun v => v.category).sum + 13 ≤ lo0) (hl : Cond.methodLink own idx Lib.Math.max.name ∈ xTB) (hs : Cond.static Lib.Math.max.name ∈ xTB) (hi : Cond.initialized "java/lang/Math" ∈ xTB) (hc : Cond.code Lib.Math.max.name Lib.Math.max.code 2 (some .int) ∈ xTB) (d : decode cc pc = .ok (.invokestatic idx, 3)) (kk : xG K X S (pc + 3) lv (.int (if x < y then y else x) :: st)) : xG K X S pc lv (.int y :: .int x :: st) := by
  obtain ⟨p, l, e, R, s, m, args, below, meth, c, ce, sl, Q, A⟩ := X
  obtain ⟨hx, hb, hml, hown, hts, hA, hst, hvc⟩ := hX
  obtain ⟨r1, r2, r3, r4⟩ := hR
  intro H locs ls wd hS hv
  exact va_mmax hx hb hv.1.symm hown (hts _ hl) (hts _ hs) (hts _ hi) (hts _ hc) (by omega) (by omega) r3 r4 d (kk H locs ls wd hS hv)
theorem g_min {idx : Nat} {x y : Int32} (hX : xOK K X own cc nL) {fr0 lo0 : Nat} (hR : xRm X fr0 lo0) (h1 : 1 ≤ fr0) (h2 : (st.map fun v => v.category).sum + 13 ≤ lo0) (hl : Cond.methodLink own idx Lib.Math.min.name ∈ xTB) (hs : Cond.static Lib.Math.min.name ∈ xTB) (hi : Cond.initialized "java/lang/Math" ∈ xTB) (hc : Cond.code Lib.Math.min.name Lib.Math.min.code 2 (some .int) ∈ xTB) (d : decode cc pc = .ok (.invokestatic idx, 3)) (kk : xG K X S (pc + 3) lv (.int (if y < x then y else x) :: st)) : xG K X S pc lv (.int y :: .int x :: st) := by
  obtain ⟨p, l, e, R, s, m, args, below, meth, c, ce, sl, Q, A⟩ := X
  obtain ⟨hx, hb, hml, hown, hts, hA, hst, hvc⟩ := hX
  obtain ⟨r1, r2, r3, r4⟩ := hR
  intro H locs ls wd hS hv
  exact va_mmin hx hb hv.1.symm hown (hts _ hl) (hts _ hs) (hts _ hi) (hts _ hc) (by omega) (by omega) r3 r4 d (kk H locs ls wd hS hv)
/-- what arraycopy asks -/
abbrev xcpok (sp dp n : Int32) (n0 n1 : Nat) : Prop := ¬ sp < 0 ∧ ¬ dp < 0 ∧ ¬ n < 0 ∧ sp.toNatClampNeg + n.toNatClampNeg ≤ n0 ∧ dp.toNatClampNeg + n.toNatClampNeg ≤ n1
theorem g_copy {idx t0 o0 t1 o1 n0 n1 : Nat} {sp dp n : Int32} {S1 : xSt} (hX : xOK K X own cc nL) {fr0 lo0 : Nat} (hR : xRm X fr0 lo0) (h1 : 1 ≤ fr0) (h2 : (st.map fun v => v.category).sum + (nativeFrameWords "java/lang/System" "arraycopy" 5 + 11) ≤ lo0) (hl : Cond.methodLink own idx arraycopyName ∈ xTB) (hnt : Cond.native arraycopyName ∈ xTB) (hs : Cond.static arraycopyName ∈ xTB) (hi : Cond.initialized "java/lang/System" ∈ xTB)
    (hV0 : (t0, o0) ∈ xvl K) (hV1 : (t1, o1) ∈ xvl K) (hE0 : ∀ f, xE K f t0 o0 = .inl (xcy K 0, n0, .inl f)) (hE1 : ∀ f, xE K f t1 o1 = .inl (xcy K 0, n1, .inl f)) (hok : xcpok sp dp n n0 n1) (d : decode cc pc = .ok (.invokestatic idx, 3)) (e9 : xua S t1 o1 (va_cpy (S t0 o0) (S t1 o1) sp.toNatClampNeg dp.toNatClampNeg n.toNatClampNeg) = S1) (kk : xG K X S1 (pc + 3) lv st) : xG K X S pc lv (.int n :: .int dp :: xr K t1 o1 :: .int sp :: xr K t0 o0 :: st) := by
  obtain ⟨p, l, e, R, s, m, args, below, meth, c, ce, sl, Q, A⟩ := X
  obtain ⟨hx, hb, hml, hown, hts, hA, hst, hvc⟩ := hX
  obtain ⟨r1, r2, r3, r4⟩ := hR
  intro H locs ls wd hS hv
  obtain ⟨k0, hk0, he0⟩ := xws_at (S := S) hV0
  obtain ⟨k1, hk1, he1⟩ := xws_at (S := S) hV1
  rw [hE0] at he0
  rw [hE1] at he1
  refine va_copyi hx hb hv.1.symm hown (hts _ hl) (hts _ hnt) (hts _ hs) (hts _ hi) wd.2.1 wd.1 (xWd_A wd.2.2 hA) hS k0 k1 0 0 he0 he1 rfl rfl rfl hok.1 hok.2.1 hok.2.2.1 hok.2.2.2.1 hok.2.2.2.2 (fun _ _ => rfl) (by omega) (by omega) d (fun H1 locs1 hP hD hS1 => ?_)
  rw [← hE1, xws_set wd.2.2 hk1, e9] at hP hD
  exact kk H1 locs1 ls ⟨hP, wd.2.1, ⟨hD.1, fun _ _ _ => trivial⟩⟩ hS1 hv
end XC
end
section
/-! rows of ints that a method makes for itself: the world grows -/
theorem W_weaken {p : Program} {l : Launch} {e : Env} {R : Room} {s : State} {m : MethodId} {args : Array Value} {below : List Frame} {meth : Method} {c : Code} {H : Heap} {locs locs2 : List Loc} {ce sl : Nat} {Q : State → Prop} {g : JFrame} (h : ∀ y ∈ locs, y.base < s.heap.size → y ∈ locs2) (kk : W p l e R s m args below meth c H locs2 ce sl Q g) : W p l e R s m args below meth c H locs ce sl Q g :=
  fun T hT X => kk T hT { X with same := X.same.weaken h (Nat.le_refl _) (Nat.le_refl _) }
def xEx (K K1 : xK) (j : Nat) : Prop := K1.1 = K.1 ∧ xcy K1 = xcy K ∧ xsa K1 = xsa K ∧ xxs K1 = xxs K ∧ xvl K1 = xvl K ++ [(33, j)] ∧ ∀ t o, ¬ (t = 33 ∧ o = j) → xad K1 t o = xad K t o
theorem xEx_r {K K1 : xK} {j t o : Nat} (h : xEx K K1 j) (ht : ¬ (t = 33 ∧ o = j)) : xr K t o = xr K1 t o := by
  show Value.ref _ = Value.ref _
  rw [h.2.2.2.2.2 t o ht]
theorem xEx_in {K K1 : xK} {j t o : Nat} (h : xEx K K1 j) (hv : (t, o) ∈ xvl K) : (t, o) ∈ xvl K1 := by
  rw [h.2.2.2.2.1]
  exact List.mem_append_left _ hv
theorem xEx_new {K K1 : xK} {j : Nat} (h : xEx K K1 j) : (33, j) ∈ xvl K1 := by
  rw [h.2.2.2.2.1]
  exact List.mem_append_right _ List.mem_cons_self
theorem xEx_no {K K1 : xK} {j i : Nat} (h : xEx K K1 j) (hn : (33, i) ∉ xvl K) (hi : ¬ i = j) : (33, i) ∉ xvl K1 := by
  rw [h.2.2.2.2.1]
  intro q
  rcases List.mem_append.mp q with q | q
  · exact hn q
  · have := List.mem_singleton.mp q
    exact hi (congrArg Prod.snd this)
theorem xE_ex {K K1 : xK} {j : Nat} (h : xEx K K1 j) (f : Nat → Int32) (t o : Nat) : xE K1 f t o = xE K f t o := by
  obtain ⟨-, hc, -, -, -, ha⟩ := h
  have hd : ∀ t o, ¬ t = 33 → xr K1 t o = xr K t o := fun t o q => by
    show Value.ref _ = Value.ref _
    rw [ha t o (fun z => q z.1)]
  have hs : ∀ o, xad K1 4 o = xad K 4 o := fun o => ha 4 o (fun z => absurd z.1 (by decide))
  match t with
  | 0 => simp only [xE, xfs, hd 10 _ (by decide), hd 11 _ (by decide), hd 12 _ (by decide), hd 13 _ (by decide)]
  | 1 => simp only [xE, xfs, hd 14 _ (by decide)]
  | 2 => simp only [xE, xfs, hd 15 _ (by decide), hd 16 _ (by decide), hd 17 _ (by decide), hd 18 _ (by decide)]
  | 3 => simp only [xE, xfs, hd 19 _ (by decide), hd 20 _ (by decide), hd 21 _ (by decide)]
  | 4 => simp only [xE, xfs, hd 22 _ (by decide), hd 23 _ (by decide), hd 24 _ (by decide)]
  | 5 => simp only [xE, xfs, hd 0 _ (by decide), hd 25 _ (by decide), hd 26 _ (by decide), hd 27 _ (by decide), hd 28 _ (by decide), hd 29 _ (by decide)]
  | 6 => simp only [xE, xfs, hd 1 _ (by decide), hd 2 _ (by decide), hd 3 _ (by decide), hd 4 _ (by decide), hd 5 _ (by decide), hd 30 _ (by decide), hd 31 _ (by decide), hd 32 _ (by decide)]
  | 7 => simp only [xE, xfs]
  | 8 => simp only [xE, hc]
  | 9 => simp only [xE, hc]
  | 10 => simp only [xE, hc]
  | 11 => simp only [xE, hc]
  | 12 => simp only [xE, hc]
  | 13 => simp only [xE, hc]
  | 14 => simp only [xE, hc, hs]
  | 15 => simp only [xE, hc]
  | 16 => simp only [xE, hc]
  | 17 => simp only [xE, hc]
  | 18 => simp only [xE, hc]
  | 19 => simp only [xE, hc]
  | 20 => simp only [xE, hc]
  | 21 => simp only [xE, hc]
  | 22 => simp only [xE, hc]
  | 23 => simp only [xE, hc]
  | 24 => simp only [xE, hc]
  | 25 => simp only [xE, hc]
  | 26 => simp only [xE, hc]
  | 27 => simp only [xE, hc]
  | 28 => simp only [xE, hc]
  | 29 => simp only [xE, hc]
  | 30 => simp only [xE, hc, hs]
  | 31 => simp only [xE, hc]
  | 32 => simp only [xE, hc]
  | 33 => simp only [xE, hc]
  | n + 34 => simp only [xE, hc]
theorem xVC_app {vl : List (Nat × Nat)} {j : Nat} (h : xVC vl) : xVC (vl ++ [(33, j)]) := by
  obtain ⟨h0, h1, h2, h3, h4, h5, h6, h7, h8, h9, h10, h11, h12, h13, h14, h15, h16, h17, h18, h19, h20, h21, h22, h23, h24, h25, h26, h27, h28, h29, h30, h31, h32, h33⟩ := h
  have hx : ∀ {t o : Nat}, (t, o) ∈ vl ++ [(33, j)] → ¬ t = 33 → (t, o) ∈ vl := by
    intro t o q ht
    rcases List.mem_append.mp q with q | q
    · exact q
    · exact absurd (congrArg Prod.fst (List.mem_singleton.mp q)) ht
  exact ⟨fun o q => List.mem_append_left _ (h0 o (hx q (by decide))), fun o q => List.mem_append_left _ (h1 o (hx q (by decide))), fun o q => List.mem_append_left _ (h2 o (hx q (by decide))), fun o q => List.mem_append_left _ (h3 o (hx q (by decide))), fun o q => List.mem_append_left _ (h4 o (hx q (by decide))), fun o q => List.mem_append_left _ (h5 o (hx q (by decide))), fun o q => List.mem_append_left _ (h6 o (hx q (by decide))), fun o q => List.mem_append_left _ (h7 o (hx q (by decide))), fun o q => List.mem_append_left _ (h8 o (hx q (by decide))), fun o q => List.mem_append_left _ (h9 o (hx q (by decide))), fun o q => List.mem_append_left _ (h10 o (hx q (by decide))), fun o q => List.mem_append_left _ (h11 o (hx q (by decide))), fun o q => List.mem_append_left _ (h12 o (hx q (by decide))), fun o q => List.mem_append_left _ (h13 o (hx q (by decide))), fun o q => List.mem_append_left _ (h14 o (hx q (by decide))), fun o q => List.mem_append_left _ (h15 o (hx q (by decide))), fun o q => List.mem_append_left _ (h16 o (hx q (by decide))), fun o q => List.mem_append_left _ (h17 o (hx q (by decide))), fun o q => List.mem_append_left _ (h18 o (hx q (by decide))), fun o q => List.mem_append_left _ (h19 o (hx q (by decide))), fun o q => List.mem_append_left _ (h20 o (hx q (by decide))), fun q => List.mem_append_left _ (h21 (hx q (by decide))), fun q => List.mem_append_left _ (h22 (hx q (by decide))), fun q => List.mem_append_left _ (h23 (hx q (by decide))), fun q => List.mem_append_left _ (h24 (hx q (by decide))), fun q => List.mem_append_left _ (h25 (hx q (by decide))), fun q => List.mem_append_left _ (h26 (hx q (by decide))), fun q => List.mem_append_left _ (h27 (hx q (by decide))), fun q => List.mem_append_left _ (h28 (hx q (by decide))), fun q => List.mem_append_left _ (h29 (hx q (by decide))), fun q => List.mem_append_left _ (h30 (hx q (by decide))), fun q => List.mem_append_left _ (h31 (hx q (by decide))), fun i hi q => List.mem_append_left _ (h32 i hi (hx q (by decide))), fun i hi q => List.mem_append_left _ (h33 i hi (hx q (by decide)))⟩
theorem xws_ex {K K1 : xK} {j : Nat} (h : xEx K K1 j) (hn : (33, j) ∉ xvl K) (S : xSt) : xws K1 S = xws K S ++ [(xad K1 33 j, .inl (xcy K 0, 64, .inl (S 33 j)))] := by
  unfold xws
  rw [h.2.2.2.2.1, List.map_append]
  congr 1
  · refine List.map_congr_left (fun q hq => ?_)
    rw [xE_ex h, h.2.2.2.2.2 q.1 q.2 (fun z => hn (by
      obtain ⟨a, b⟩ := q
      obtain ⟨z1, z2⟩ := z
      cases z1
      cases z2
      exact hq))]
  · show [(xad K1 33 j, xE K1 (S 33 j) 33 j)] = _
    rw [xE_ex h]
    rfl
theorem xtys_ex {K K1 : xK} {j : Nat} (h : xEx K K1 j) : xtys K1 = xtys K := by unfold xtys; rw [h.2.1]
theorem xWd_ex {K K1 : xK} {j : Nat} (h : xEx K K1 j) (hn : (33, j) ∉ xvl K) {S : xSt} {U : State} {H : Heap} (w : xWd K1 S U H) : xWd K S U H := by
  obtain ⟨w1, w2, w3⟩ := w
  rw [xws_ex h hn] at w1 w3
  rw [h.1] at w1
  rw [h.1, xtys_ex h] at w2
  have hap : ∀ (k : Nat) (q : Nat × va_E), (xws K S)[k]? = some q → (xws K S ++ [(xad K1 33 j, .inl (xcy K 0, 64, .inl (S 33 j)))])[k]? = some q := fun k q hk => by
    rw [List.getElem?_append_left (List.getElem?_eq_some_iff.mp hk).1]
    exact hk
  exact ⟨fun k q hk => w1 k q (hap k q hk), w2, ⟨fun i k p q hi hk => w3.1 i k p q (hap i p hi) (hap k q hk), fun _ _ _ => trivial⟩⟩
/-- the store that a caller sees: rows that were made for a call are gone -/
def xrst (S0 S : xSt) : xSt := fun t o => if t = 33 then S0 t o else S t o
theorem xrst_Wd {K : xK} (hn : ∀ o, (33, o) ∉ xvl K) (S0 S : xSt) {U : State} {H : Heap} (w : xWd K S U H) : xWd K (xrst S0 S) U H := by
  have he : xws K (xrst S0 S) = xws K S := by
    unfold xws
    refine List.map_congr_left (fun q hq => ?_)
    have : xrst S0 S q.1 q.2 = S q.1 q.2 := if_neg (fun z => hn q.2 (by
      obtain ⟨a, b⟩ := q
      cases z
      exact hq))
    rw [this]
  obtain ⟨w1, w2, w3⟩ := w
  exact ⟨by rw [he]; exact w1, w2, by rw [he]; exact w3⟩
def xMN (K0 K : xK) (ρ : xSt → xSt) (X : xX) (out : xR) (rt : Option FieldType) (rc rs : Nat) : Prop := match X with
  | (p, l, e, R, s, m, args, below, meth, c, ce, sl, Q, A) => (∃ mc ms, Q = MQ below (xQ K0 out) args s mc ms (xA K0) ∧ ce + rc ≤ mc ∧ sl + rs ≤ ms ∧ mc ≤ R.cells ∧ ms ≤ R.slots) ∧ A = (fun q => xA K0 q ∨ s.heap.size ≤ q) ∧ meth.sig.returnType = rt ∧ meth.locks = false ∧ ∀ S U H, xWd K S U H → xWd K0 (ρ S) U H
def kA (X : xX) (k n : Nat) : xX := match X with
  | (p, l, e, R, s, m, args, below, meth, c, ce, sl, Q, A) => (p, l, e, R, s, m, args, below, meth, c, ce + k, sl + n, Q, A)
theorem xOK_kA {K : xK} {X : xX} {own : String} {cc : ByteArray} {nL : Nat} (k n : Nat) (h : xOK K X own cc nL) : xOK K (kA X k n) own cc nL := by
  obtain ⟨p, l, e, R, s, m, args, below, meth, c, ce, sl, Q, A⟩ := X
  exact h
theorem xMN_kA {K0 K : xK} {ρ : xSt → xSt} {X : xX} {out : xR} {rt : Option FieldType} {rc rs k n rc2 rs2 : Nat} (h : xMN K0 K ρ X out rt rc rs) (h1 : k + rc2 ≤ rc) (h2 : n + rs2 ≤ rs) : xMN K0 K ρ (kA X k n) out rt rc2 rs2 := by
  obtain ⟨p, l, e, R, s, m, args, below, meth, c, ce, sl, Q, A⟩ := X
  obtain ⟨⟨mc, ms, a1, a2, a3, a4, a5⟩, h9⟩ := h
  exact ⟨⟨mc, ms, a1, by omega, by omega, a4, a5⟩, h9⟩
theorem xRm_kA {K0 K : xK} {ρ : xSt → xSt} {X : xX} {out : xR} {rt : Option FieldType} {rc rs k n fr lo : Nat} (hM : xMN K0 K ρ X out rt rc rs) (hR : xRm X fr lo) (h1 : k ≤ rc) (h2 : n ≤ rs) : xRm (kA X k n) fr lo := by
  obtain ⟨p, l, e, R, s, m, args, below, meth, c, ce, sl, Q, A⟩ := X
  obtain ⟨⟨mc, ms, a1, a2, a3, a4, a5⟩, h9⟩ := hM
  obtain ⟨r1, r2, r3, r4⟩ := hR
  exact ⟨r1, r2, show ce + k ≤ R.cells by omega, show sl + n ≤ R.slots by omega⟩
def xMetN (l : Launch) (K : xK) (y : MethodName) (b : ByteArray) (maxL : Nat) (ret : Option FieldType) (fr lo mc ms : Nat) (S : xSt) (args : List Value) (out : xR) : Prop :=
  Met l y (Cond.code y b maxL ret :: xTB) ({ frames := fr, cells := mc, slots := ms, locals := lo }) (va_Pc args (xPre K S)) (xQ K out) mc ms (xA K)
theorem va_Z_new {C n d : String} {v : Value} {A : Nat → Prop} {U : State} {H : Heap} (h : va_Z C n d v A U H) : va_Z C n d v (fun q => A q ∨ H.size ≤ q) U H := by
  obtain ⟨cf, kf, fi, f, a, cell, h1, h2, h3, h4, h5, h6, h7, h8⟩ := h
  exact ⟨cf, kf, fi, f, a, cell, h1, h2, h3, h4, h5, h6, h7, fun z => z.elim h8 (fun q => absurd (Array.getElem?_eq_some_iff.mp h5).1 (Nat.not_lt.mpr q))⟩
theorem va_T_new {ty : FieldType} {t N : Nat} {f : Nat → Value} {A : Nat → Prop} {U : State} {H : Heap} (h : va_T ty t N f A U H) : va_T ty t N f (fun q => A q ∨ H.size ≤ q) U H := by
  obtain ⟨cell, h1, h2, h3, h4, h5, h6, h7⟩ := h
  exact ⟨cell, h1, h2, h3, h4, h5, h6, fun z => z.elim h7 (fun q => absurd (Array.getElem?_eq_some_iff.mp h1).1 (Nat.not_lt.mpr q))⟩
theorem xStt_new {K : xK} {A : Nat → Prop} {U : State} {H : Heap} (h : xStt K A U H) : xStt K (fun q => A q ∨ H.size ≤ q) U H := by
  obtain ⟨a1, a2, b1, b2, c1, c2, c3⟩ := h
  exact ⟨va_Z_new a1, va_T_new a2, va_Z_new b1, va_T_new b2, va_Z_new c1, va_T_new c2, va_T_new c3⟩
theorem xMetN_of {l : Launch} {K : xK} {y : MethodName} {b : ByteArray} {maxL : Nat} {ret : Option FieldType} {fr lo mc ms : Nat} {S : xSt} {args : List Value} {out : xR} (own : String) (ρ : xSt → xSt) (hy : plainName y.cls = true) (hown : y.cls = own) (hvc : xVC (xvl K)) (hρ : ∀ S U H, xWd K S U H → xWd K (ρ S) U H) (hargs : (lg_sl args).length ≤ maxL)
    (body : ∀ X, xOK K X own b maxL → xMN K K ρ X out ret mc ms → xRm X fr lo → xG K X S 0 (lv_args 0 args) []) : xMetN l K y b maxL ret fr lo mc ms S args out := by
  refine Met.ofW (cc := b) (maxL := maxL) (ret := ret) hy rfl ?_
  intro p e s m args' below meth c s₁ B hml hv
  obtain ⟨rfl, hwd, hst, hnw⟩ := hv
  have hts := atoms_spec (ws := Cond.code y b maxL ret :: xTB) B.pre
  have hown2 : s.vm.findClass y.cls = some m.cls := findClass_of_methodNamed B.named
  rw [hown] at hown2
  rw [lg_entry_eq]
  exact body (p, l, e, _, s, m, args.toArray, below, meth, c, 0, 0, MQ below (xQ K out) args.toArray s mc ms (xA K), fun q => xA K q ∨ s.heap.size ≤ q) ⟨B.exec, B.bytes, hml, hown2, fun w hw => hts w (List.mem_cons_of_mem _ hw), fun t o h => Or.inl ⟨t, o, h, rfl⟩, xStt_new hst, hvc, hnw⟩ ⟨⟨mc, ms, rfl, by omega, by omega, Nat.le_refl _, Nat.le_refl _⟩, rfl, B.returns, B.notSynchronized, hρ⟩ ⟨Nat.le_refl _, Nat.le_refl _, Nat.zero_le _, Nat.zero_le _⟩ s.heap [] _ hwd va_S.rf (by rw [hml]; exact lv_entry args hargs)
theorem x_callN {p : Program} {l : Launch} {e : Env} {R : Room} {s : State} {m : MethodId} {args : Array Value} {below : List Frame} {meth : Method} {c : Code} {H : Heap} {locs : List Loc} {ce sl mc ms : Nat} {Q : State → Prop} {A0 : Nat → Prop} {K : xK} {S1 : xSt} {v : Option Value} {pc : Nat} {ls : Array Slot} {st0 rest : List Value} {a : Array Value}
    (hr : va_Run p l e R s m args below meth c H locs ce sl mc ms (F0 m pc ls st0) rest (xQ K (S1, v) a) (xA K)) (hS : va_S A0 s.heap H locs) (hA : ∀ t o, (t, o) ∈ xvl K → A0 (xad K t o))
    (kk : ∀ (H1 : Heap) (locs1 : List Loc), xWd K S1 s H1 → va_S A0 s.heap H1 locs1 → W p l e R s m args below meth c H1 locs1 (ce + mc) (sl + ms) Q (F0 m (pc + 3) ls (v.toList ++ rest))) : W p l e R s m args below meth c H locs ce sl Q (F0 m pc ls st0) := by
  intro T hT X
  obtain ⟨v', st₀, t, T', L, h0, X', hL, e1, e2, ⟨hv, hw, hz, hk⟩, st⟩ := hr T hT X
  cases hv
  rw [h0] at hz hk
  have hAA : ∀ q, xA K q → A0 q := by rintro q ⟨t, o, h, rfl⟩; exact hA t o h
  have hal : s.vm.Alike t.vm := by rw [← e2]; exact X'.warmed.alike
  obtain ⟨t2, a1, b1⟩ := kk T'.heap (locs ++ L) (by rw [e1]; exact xWd_moved hal.symm hw)
    ⟨Nat.le_trans hS.1 (by rw [e1]; exact hz), fun q h1 h2 => by rw [e1, hk q (Nat.lt_of_lt_of_le h1 hS.1) (fun z => h2 (hAA q z))]; exact hS.2.1 q h1 h2, fun q hq => by
      rcases List.mem_append.mp hq with h | h
      · exact hS.2.2 q h
      · exact hAA _ (hL q h)⟩ T' rfl X'
  exact ⟨t2, st t2 a1, b1⟩
section XN
variable {K K0 : xK} {X : xX} {own : String} {cc : ByteArray} {nL : Nat} {S : xSt} {pc : Nat} {lv : List (Nat × Value)} {st : List Value}
theorem g_callN {y : MethodName} {bytes : ByteArray} {maxL fr lo mc ms n idx : Nat} {ret : Option FieldType} {As stk st2 : List Value} {S1 : xSt} {v : Option Value} (hX : xOK K X own cc nL) {fr0 lo0 : Nat} (hR : xRm X fr0 lo0) (hR2 : xRm (kA X mc ms) fr0 lo0) (hM : ∀ l, xMetN l K y bytes maxL ret fr lo mc ms S As (S1, v)) (hC : xCS own idx y bytes maxL ret n)
    (hn : As.length = n) (hfl : fr + 1 ≤ fr0 ∧ 8 + (maxL + 11) + lo ≤ lo0) (hstk : stk = As.reverse ++ st) (hst2 : v.toList ++ st = st2) (hW : (st.map fun v => v.category).sum ≤ 8) (d : decode cc pc = .ok (.invokestatic idx, 3)) (kk : xG K (kA X mc ms) S1 (pc + 3) lv st2) : xG K X S pc lv stk := by
  obtain ⟨p, l, e, R, s, m, args, below, meth, c, ce, sl, Q, A⟩ := X
  obtain ⟨hx, hb, hml, hown, hts, hA, hst, hvc⟩ := hX
  obtain ⟨r1, r2, r3, r4⟩ := hR
  obtain ⟨-, -, r5, r6⟩ := hR2
  obtain ⟨⟨c1, c2, c3, c4, c5, c6⟩, c7⟩ := hC
  intro H locs ls wd hS hv
  subst hstk
  subst hst2
  have hRR : fr + 1 ≤ R.frames ∧ 8 + (maxL + 11) + lo ≤ R.locals := ⟨by omega, by omega⟩
  have hpv : PreS s H (va_Pc As (xPre K S)) As := ⟨xPre_blind, x_pre wd hS hA hst hvc.2 As⟩
  refine x_callN (v := v) (S1 := S1) (mc := mc) (ms := ms) (a := As.toArray) ?_ hS hA (fun H1 locs1 w1 hS1 => kk H1 locs1 ls w1 hS1 hv)
  rcases c1 with c1 | ⟨host, c1⟩
  · exact va_runS (ws := Cond.code y bytes maxL ret :: xTB) (As := As) ⟨hx, hb, hml, hown, hts⟩ (hM l) ⟨callB_of n hts (xTB_in c3) rfl rfl rfl (hts _ c2) (hts _ c1) ⟨c4, c5, c6⟩ hRR, hts _ c7⟩ hpv rfl hn (by rw [hv.1, hml]) rfl (by show 2 * 0 + _ ≤ 8; omega) d ⟨r5, r6⟩
  · exact va_runSN (ws := Cond.code y bytes maxL ret :: xTB) (As := As) ⟨hx, hb, hml, hown, hts⟩ (hM l) ⟨va_cnB n hts (xTB_in c3) rfl rfl rfl (hvc.2 _ c1) (hts _ c2) ⟨c4, c5, c6⟩ hRR, hts _ c7, trivial⟩ hpv rfl hn (by rw [hv.1, hml]) rfl (by show 2 * 0 + _ ≤ 8; omega) d ⟨r5, r6⟩
theorem g_newa {j : Nat} {ρ : xSt → xSt} {out : xR} {rt : Option FieldType} {rc rs fr lo : Nat} {S1 : xSt} (rc2 rs2 : Nat) (hX : xOK K X own cc nL) (hM : xMN K0 K ρ X out rt rc rs) (hR : xRm X fr lo) (hn : (33, j) ∉ xvl K) (h1 : 1 + rc2 ≤ rc) (h2 : 64 + rs2 ≤ rs) (harr : Cond.arrayClass .int ∈ xTB) (e9 : xua S 33 j (fun _ => 0) = S1) (d : decode cc pc = .ok (.newarray .int, 2))
    (kk : ∀ (K1 : xK), xEx K K1 j → xOK K1 (kA X 1 64) own cc nL → xMN K0 K1 ρ (kA X 1 64) out rt rc2 rs2 → xRm (kA X 1 64) fr lo → xG K1 (kA X 1 64) S1 (pc + 2) lv (xr K1 33 j :: st)) : xG K X S pc lv (.int 64 :: st) := by
  have hM2 := xMN_kA (k := 1) (n := 64) (rc2 := rc2) (rs2 := rs2) hM h1 h2
  have hR2 := xRm_kA (k := 1) (n := 64) hM hR (by omega) (by omega)
  obtain ⟨p, l, e, R, s, m, args, below, meth, c, ce, sl, Q, A⟩ := X
  obtain ⟨hx, hb, hml, hown, hts, hA, hst, hvc⟩ := hX
  obtain ⟨hQ, hA0, hr1, hr2, hρ⟩ := hM2
  obtain ⟨r1, r2, r3, r4⟩ := hR2
  have r3 : ce + 1 ≤ R.cells := r3
  have r4 : sl + 64 ≤ R.slots := r4
  have hAn : ∀ q, s.heap.size ≤ q → A q := fun q hq => by rw [hA0]; exact Or.inr hq
  intro H locs ls wd hS hv
  refine va_newa (atype := .int) (ty := .int) hx hb (hts _ harr) rfl wd.2.1 wd.1 (xWd_A wd.2.2 hA) hS hAn (a0 := (64, .inl (fun _ => 0))) (fun cA => by rw [vp_cell_i]; rfl) (by decide) (N' := 64) rfl (by decide) r3 r4 d (fun q cA H1 hK1 hP1 hD1 hS1 => ?_)
  have e1 : (xtys K ++ [(cA, FieldType.int)])[(xtys K).length]? = some (cA, FieldType.int) := by simp
  have f1 : s.vm.findClass ("[" ++ FieldType.int.toString) = some cA := (hK1.2 _ _ e1).2
  have f2 : s.vm.findClass ("[" ++ FieldType.int.toString) = some (xcy K 0) := (wd.2.1.2 0 _ rfl).2
  cases f1.symm.trans f2
  obtain ⟨K1, hK1e⟩ : ∃ K1 : xK, K1 = (K.1, fun t o => if t = 33 ∧ o = j then q else xad K t o, xvl K ++ [(33, j)], xcy K, xsa K, xxs K) := ⟨_, rfl⟩
  have hE : xEx K K1 j := by
    subst hK1e
    exact ⟨rfl, rfl, rfl, rfl, rfl, fun t o z => if_neg z⟩
  have hq : xad K1 33 j = q := by
    subst hK1e
    exact if_pos ⟨rfl, rfl⟩
  have hws : xws K S ++ [(q, .inl (xcy K 0, 64, .inl (fun _ => 0)))] = xws K1 S1 := by
    rw [xws_ex hE hn, hq, ← e9, xua_s]
    congr 1
    unfold xws
    refine List.map_congr_left (fun z hz => ?_)
    rw [xua_n _ _ (fun c => hn (by
      obtain ⟨a, b⟩ := z
      obtain ⟨c1, c2⟩ := c
      cases c1
      cases c2
      exact hz))]
  rw [hws] at hP1 hD1
  have hOK1 : xOK K1 (p, l, e, R, s, m, args, below, meth, c, ce + 1, sl + 64, Q, A) own cc nL := by
    refine ⟨hx, hb, hml, hown, hts, fun t o hto => ?_, ?_, ?_, hvc.2⟩
    · obtain ⟨k, -, hk2⟩ := xws_at (S := S1) hto
      exact hD1.2 k _ hk2
    · unfold xStt xrs at hst ⊢
      rw [hE.2.2.1, hE.2.2.2.1]
      exact hst
    · rw [hE.2.2.2.2.1]
      exact xVC_app hvc.1
  have hgo := kk K1 hE hOK1 ⟨hQ, hA0, hr1, hr2, fun S9 U9 H9 w9 => hρ S9 U9 H9 (xWd_ex hE hn w9)⟩ ⟨r1, r2, r3, r4⟩ H1 locs ls ⟨by rw [hE.1]; exact hP1, by rw [hE.1, xtys_ex hE]; exact wd.2.1, ⟨hD1.1, fun _ _ _ => trivial⟩⟩ hS1 hv
  have hrq : xr K1 33 j = Value.ref q := by
    show Value.ref _ = Value.ref _
    rw [hq]
  rw [hrq] at hgo
  exact hgo
theorem g_zretN {out : xR} {v : Int32} {ρ : xSt → xSt} {rc rs : Nat} (hX : xOK K X own cc nL) (hM : xMN K0 K ρ X out (some .boolean) rc rs) (hz : v &&& 1 = v) (e9 : (ρ S, some (Value.int v)) = out) (d : decode cc pc = .ok (.ireturn, 1)) : xG K X S pc lv [.int v] := by
  obtain ⟨p, l, e, R, s, m, args, below, meth, c, ce, sl, Q, A⟩ := X
  obtain ⟨hx, hb, hml, hown, hts, hA, hst, hvc⟩ := hX
  obtain ⟨⟨mc, ms, rfl, a2, a3, a4, a5⟩, rfl, hrt, hlk, hρ⟩ := hM
  intro H locs ls wd hS hv
  subst e9
  refine W_weaken (locs2 := locs.filter (fun y => decide (y.base < s.heap.size))) (fun y hy hlt => List.mem_filter.mpr ⟨hy, by simpa using hlt⟩) ?_
  refine W.widen (k := mc) (n := ms) (by omega) (by omega) ?_
  refine W.zret hx hb hrt (by show Value.int (v &&& 1) = _; rw [hz]) (fun t ht hW => ⟨rfl, by rw [ht]; exact xWd_moved hW.alike (hρ _ _ _ wd), ⟨by rw [ht]; exact hS.1, fun q hq hn => by rw [ht]; exact hS.2.1 q hq (fun z => z.elim hn (fun q2 => absurd hq (Nat.not_lt.mpr q2)))⟩⟩) (fun q hq => ?_) d hlk
  obtain ⟨h1, h2⟩ := List.mem_filter.mp hq
  have h2 : q.base < s.heap.size := by simpa using h2
  exact (hS.2.2 q h1).elim id (fun z => absurd h2 (Nat.not_lt.mpr z))
end XN
end
section
theorem xin0 : ∀ w ∈ u_ws RX0 TX0 5, w ∈ xTB := by
  show ∀ w ∈ [u_lay RX0 TX0 0, u_lay RX0 TX0 1, u_lay RX0 TX0 2, u_lay RX0 TX0 3, u_lay RX0 TX0 4], w ∈ xTB
  exact List.forall_mem_cons.mpr ⟨(xtb 133 (by decide +kernel) (by decide +kernel)), List.forall_mem_cons.mpr ⟨(xtb 135 (by decide +kernel) (by decide +kernel)), List.forall_mem_cons.mpr ⟨(xtb 137 (by decide +kernel) (by decide +kernel)), List.forall_mem_cons.mpr ⟨(xtb 139 (by decide +kernel) (by decide +kernel)), List.forall_mem_cons.mpr ⟨(xtb 141 (by decide +kernel) (by decide +kernel)), fun _ h => absurd h List.not_mem_nil⟩⟩⟩⟩⟩
theorem xin1 : ∀ w ∈ u_ws RX1 TX1 3, w ∈ xTB := by
  show ∀ w ∈ [u_lay RX1 TX1 0, u_lay RX1 TX1 1, u_lay RX1 TX1 2], w ∈ xTB
  exact List.forall_mem_cons.mpr ⟨(xtb 80 (by decide +kernel) (by decide +kernel)), List.forall_mem_cons.mpr ⟨(xtb 82 (by decide +kernel) (by decide +kernel)), List.forall_mem_cons.mpr ⟨(xtb 84 (by decide +kernel) (by decide +kernel)), fun _ h => absurd h List.not_mem_nil⟩⟩⟩
theorem xin2 : ∀ w ∈ u_ws RX2 TX2 5, w ∈ xTB := by
  show ∀ w ∈ [u_lay RX2 TX2 0, u_lay RX2 TX2 1, u_lay RX2 TX2 2, u_lay RX2 TX2 3, u_lay RX2 TX2 4], w ∈ xTB
  exact List.forall_mem_cons.mpr ⟨(xtb 98 (by decide +kernel) (by decide +kernel)), List.forall_mem_cons.mpr ⟨(xtb 100 (by decide +kernel) (by decide +kernel)), List.forall_mem_cons.mpr ⟨(xtb 102 (by decide +kernel) (by decide +kernel)), List.forall_mem_cons.mpr ⟨(xtb 104 (by decide +kernel) (by decide +kernel)), List.forall_mem_cons.mpr ⟨(xtb 106 (by decide +kernel) (by decide +kernel)), fun _ h => absurd h List.not_mem_nil⟩⟩⟩⟩⟩
theorem xin3 : ∀ w ∈ u_ws RX3 TX3 11, w ∈ xTB := by
  show ∀ w ∈ [u_lay RX3 TX3 0, u_lay RX3 TX3 1, u_lay RX3 TX3 2, u_lay RX3 TX3 3, u_lay RX3 TX3 4, u_lay RX3 TX3 5, u_lay RX3 TX3 6, u_lay RX3 TX3 7, u_lay RX3 TX3 8, u_lay RX3 TX3 9, u_lay RX3 TX3 10], w ∈ xTB
  exact List.forall_mem_cons.mpr ⟨(xtb 215 (by decide +kernel) (by decide +kernel)), List.forall_mem_cons.mpr ⟨(xtb 217 (by decide +kernel) (by decide +kernel)), List.forall_mem_cons.mpr ⟨(xtb 219 (by decide +kernel) (by decide +kernel)), List.forall_mem_cons.mpr ⟨(xtb 221 (by decide +kernel) (by decide +kernel)), List.forall_mem_cons.mpr ⟨(xtb 223 (by decide +kernel) (by decide +kernel)), List.forall_mem_cons.mpr ⟨(xtb 225 (by decide +kernel) (by decide +kernel)), List.forall_mem_cons.mpr ⟨(xtb 227 (by decide +kernel) (by decide +kernel)), List.forall_mem_cons.mpr ⟨(xtb 229 (by decide +kernel) (by decide +kernel)), List.forall_mem_cons.mpr ⟨(xtb 231 (by decide +kernel) (by decide +kernel)), List.forall_mem_cons.mpr ⟨(xtb 233 (by decide +kernel) (by decide +kernel)), List.forall_mem_cons.mpr ⟨(xtb 235 (by decide +kernel) (by decide +kernel)), fun _ h => absurd h List.not_mem_nil⟩⟩⟩⟩⟩⟩⟩⟩⟩⟩⟩
theorem xin4 : ∀ w ∈ u_ws RX4 TX4 4, w ∈ xTB := by
  show ∀ w ∈ [u_lay RX4 TX4 0, u_lay RX4 TX4 1, u_lay RX4 TX4 2, u_lay RX4 TX4 3], w ∈ xTB
  exact List.forall_mem_cons.mpr ⟨(xtb 57 (by decide +kernel) (by decide +kernel)), List.forall_mem_cons.mpr ⟨(xtb 59 (by decide +kernel) (by decide +kernel)), List.forall_mem_cons.mpr ⟨(xtb 61 (by decide +kernel) (by decide +kernel)), List.forall_mem_cons.mpr ⟨(xtb 63 (by decide +kernel) (by decide +kernel)), fun _ h => absurd h List.not_mem_nil⟩⟩⟩⟩
theorem xin5 : ∀ w ∈ u_ws RX5 TX5 12, w ∈ xTB := by
  show ∀ w ∈ [u_lay RX5 TX5 0, u_lay RX5 TX5 1, u_lay RX5 TX5 2, u_lay RX5 TX5 3, u_lay RX5 TX5 4, u_lay RX5 TX5 5, u_lay RX5 TX5 6, u_lay RX5 TX5 7, u_lay RX5 TX5 8, u_lay RX5 TX5 9, u_lay RX5 TX5 10, u_lay RX5 TX5 11], w ∈ xTB
  exact List.forall_mem_cons.mpr ⟨(xtb 166 (by decide +kernel) (by decide +kernel)), List.forall_mem_cons.mpr ⟨(xtb 168 (by decide +kernel) (by decide +kernel)), List.forall_mem_cons.mpr ⟨(xtb 170 (by decide +kernel) (by decide +kernel)), List.forall_mem_cons.mpr ⟨(xtb 172 (by decide +kernel) (by decide +kernel)), List.forall_mem_cons.mpr ⟨(xtb 174 (by decide +kernel) (by decide +kernel)), List.forall_mem_cons.mpr ⟨(xtb 176 (by decide +kernel) (by decide +kernel)), List.forall_mem_cons.mpr ⟨(xtb 178 (by decide +kernel) (by decide +kernel)), List.forall_mem_cons.mpr ⟨(xtb 180 (by decide +kernel) (by decide +kernel)), List.forall_mem_cons.mpr ⟨(xtb 182 (by decide +kernel) (by decide +kernel)), List.forall_mem_cons.mpr ⟨(xtb 184 (by decide +kernel) (by decide +kernel)), List.forall_mem_cons.mpr ⟨(xtb 186 (by decide +kernel) (by decide +kernel)), List.forall_mem_cons.mpr ⟨(xtb 188 (by decide +kernel) (by decide +kernel)), fun _ h => absurd h List.not_mem_nil⟩⟩⟩⟩⟩⟩⟩⟩⟩⟩⟩⟩
theorem xin6 : ∀ w ∈ u_ws RX6 TX6 11, w ∈ xTB := by
  show ∀ w ∈ [u_lay RX6 TX6 0, u_lay RX6 TX6 1, u_lay RX6 TX6 2, u_lay RX6 TX6 3, u_lay RX6 TX6 4, u_lay RX6 TX6 5, u_lay RX6 TX6 6, u_lay RX6 TX6 7, u_lay RX6 TX6 8, u_lay RX6 TX6 9, u_lay RX6 TX6 10], w ∈ xTB
  exact List.forall_mem_cons.mpr ⟨(xtb 345 (by decide +kernel) (by decide +kernel)), List.forall_mem_cons.mpr ⟨(xtb 347 (by decide +kernel) (by decide +kernel)), List.forall_mem_cons.mpr ⟨(xtb 349 (by decide +kernel) (by decide +kernel)), List.forall_mem_cons.mpr ⟨(xtb 351 (by decide +kernel) (by decide +kernel)), List.forall_mem_cons.mpr ⟨(xtb 353 (by decide +kernel) (by decide +kernel)), List.forall_mem_cons.mpr ⟨(xtb 355 (by decide +kernel) (by decide +kernel)), List.forall_mem_cons.mpr ⟨(xtb 357 (by decide +kernel) (by decide +kernel)), List.forall_mem_cons.mpr ⟨(xtb 359 (by decide +kernel) (by decide +kernel)), List.forall_mem_cons.mpr ⟨(xtb 361 (by decide +kernel) (by decide +kernel)), List.forall_mem_cons.mpr ⟨(xtb 363 (by decide +kernel) (by decide +kernel)), List.forall_mem_cons.mpr ⟨(xtb 365 (by decide +kernel) (by decide +kernel)), fun _ h => absurd h List.not_mem_nil⟩⟩⟩⟩⟩⟩⟩⟩⟩⟩⟩
theorem xin7 : ∀ w ∈ u_ws RX7 TX7 0, w ∈ xTB := by
  show ∀ w ∈ [], w ∈ xTB
  exact fun _ h => absurd h List.not_mem_nil
theorem xms_max : Cond.static Lib.Math.max.name ∈ xTB := (xtb 284 (by decide +kernel) (by decide +kernel))
theorem xmc_max : Cond.code Lib.Math.max.name Lib.Math.max.code 2 (some .int) ∈ xTB := (xtb 285 rfl rfl)
theorem xms_min : Cond.static Lib.Math.min.name ∈ xTB := (xtb 382 (by decide +kernel) (by decide +kernel))
theorem xmc_min : Cond.code Lib.Math.min.name Lib.Math.min.code 2 (some .int) ∈ xTB := (xtb 383 rfl rfl)
theorem xmi : Cond.initialized "java/lang/Math" ∈ xTB := (xtb 25 (by decide +kernel) (by decide +kernel))
theorem xcp_n : Cond.native arraycopyName ∈ xTB := (xtb 389 (by decide +kernel) (by decide +kernel))
theorem xcp_s : Cond.static arraycopyName ∈ xTB := (xtb 388 (by decide +kernel) (by decide +kernel))
theorem xcp_i : Cond.initialized "java/lang/System" ∈ xTB := (xtb 26 (by decide +kernel) (by decide +kernel))
theorem xf6_200 : xSL RX6 200 (xSn 0) := (Or.inl (xtb 375 (by decide +kernel) (by decide +kernel)))
theorem xf6_203 : xSL RX6 203 (xSn 1) := (Or.inl (xtb 376 (by decide +kernel) (by decide +kernel)))
theorem xc6_68 : xCS RX6 68 yX6_isSetting cX6_isSetting 2 (some .boolean) 2 := ⟨⟨(Or.inl (xtb 372 (by decide +kernel) (by decide +kernel))), (xtb 17 (by decide +kernel) (by decide +kernel)), (xtb 374 rfl rfl), by decide +kernel, by decide +kernel, by decide +kernel⟩, (xtb 373 (by decide +kernel) (by decide +kernel))⟩
theorem xf6_19 : xFR RX6 19 6 1 0 1 0 := ⟨⟨RX6, TX6, 11, tyX6, rfl, by decide, xin6, tyX6_ok, nmX6, (Or.inl (xtb 335 (by decide +kernel) (by decide +kernel))), fun _ _ _ => ⟨rfl, rfl⟩⟩, fun _ _ => rfl⟩
theorem xf6_12 : xFR RX6 12 6 0 0 4 0 := ⟨⟨RX6, TX6, 11, tyX6, rfl, by decide, xin6, tyX6_ok, nmX6, (Or.inl (xtb 334 (by decide +kernel) (by decide +kernel))), fun _ _ _ => ⟨rfl, rfl⟩⟩, fun _ _ => rfl⟩
theorem xf1_18 : xFI RX1 18 1 1 := ⟨⟨RX1, TX1, 3, tyX1, rfl, by decide, xin1, tyX1_ok, nmX1, (Or.inl (xtb 77 (by decide +kernel) (by decide +kernel))), fun _ _ _ => ⟨rfl, rfl⟩⟩, ⟨RX1, TX1, 3, rfl, rfl, by decide +kernel⟩, fun _ _ _ => rfl, fun _ _ _ _ => rfl⟩
theorem xf1_22 : xFI RX1 22 1 2 := ⟨⟨RX1, TX1, 3, tyX1, rfl, by decide, xin1, tyX1_ok, nmX1, (Or.inl (xtb 78 (by decide +kernel) (by decide +kernel))), fun _ _ _ => ⟨rfl, rfl⟩⟩, ⟨RX1, TX1, 3, rfl, rfl, by decide +kernel⟩, fun _ _ _ => rfl, fun _ _ _ _ => rfl⟩
theorem xm1_25 : Cond.methodLink RX1 25 Lib.Math.min.name ∈ xTB := (xtb 381 (by decide +kernel) (by decide +kernel))
theorem xf1_11 (o : Nat) : xFR RX1 11 1 0 o 14 o := ⟨⟨RX1, TX1, 3, tyX1, rfl, by decide, xin1, tyX1_ok, nmX1, (Or.inl (xtb 76 (by decide +kernel) (by decide +kernel))), fun _ _ _ => ⟨rfl, rfl⟩⟩, fun _ _ => rfl⟩
theorem xf6_76 (o : Nat) : xFR RX6 76 4 0 o 22 o := ⟨⟨RX4, TX4, 4, tyX4, rfl, by decide, xin4, tyX4_ok, nmX4, (Or.inl (xtb 51 (by decide +kernel) (by decide +kernel))), fun _ _ _ => ⟨rfl, rfl⟩⟩, fun _ _ => rfl⟩
theorem xm6_121 : Cond.methodLink RX6 121 arraycopyName ∈ xTB := (xtb 387 (by decide +kernel) (by decide +kernel))
theorem xf6_86 (o : Nat) : xFR RX6 86 4 1 o 23 o := ⟨⟨RX4, TX4, 4, tyX4, rfl, by decide, xin4, tyX4_ok, nmX4, (Or.inl (xtb 53 (by decide +kernel) (by decide +kernel))), fun _ _ _ => ⟨rfl, rfl⟩⟩, fun _ _ => rfl⟩
theorem xf6_99 (o : Nat) : xFR RX6 99 4 2 o 24 o := ⟨⟨RX4, TX4, 4, tyX4, rfl, by decide, xin4, tyX4_ok, nmX4, (Or.inl (xtb 55 (by decide +kernel) (by decide +kernel))), fun _ _ _ => ⟨rfl, rfl⟩⟩, fun _ _ => rfl⟩
theorem xf6_82 : xFI RX6 82 4 3 := ⟨⟨RX4, TX4, 4, tyX4, rfl, by decide, xin4, tyX4_ok, nmX4, (Or.inl (xtb 56 (by decide +kernel) (by decide +kernel))), fun _ _ _ => ⟨rfl, rfl⟩⟩, ⟨RX4, TX4, 4, rfl, rfl, by decide +kernel⟩, fun _ _ _ => rfl, fun _ _ _ _ => rfl⟩
theorem xc1_31 : xCS RX1 31 yX6_copyState cX6_copyState 2 none 2 := ⟨⟨(Or.inr ⟨"GrowingBook", (xnl 384 (by decide +kernel) rfl)⟩), (xtb 17 (by decide +kernel) (by decide +kernel)), (xtb 386 rfl rfl), by decide +kernel, by decide +kernel, by decide +kernel⟩, (xtb 385 (by decide +kernel) (by decide +kernel))⟩
theorem xc6_72 : xCV RX6 72 1 yX1_record cX1_record 2 none 1 := ⟨⟨(Or.inl (xtb 377 (by decide +kernel) (by decide +kernel))), (xtb 19 (by decide +kernel) (by decide +kernel)), (xtb 380 rfl rfl), by decide +kernel, by decide +kernel, by decide +kernel⟩, (xtb 378 (by decide +kernel) (by decide +kernel)), (xtb 379 (by decide +kernel) (by decide +kernel)), ⟨_, _, rfl⟩, fun _ _ _ => rfl⟩
theorem xf4_26 (o : Nat) : xFR RX4 26 4 2 o 24 o := ⟨⟨RX4, TX4, 4, tyX4, rfl, by decide, xin4, tyX4_ok, nmX4, (Or.inl (xtb 54 (by decide +kernel) (by decide +kernel))), fun _ _ _ => ⟨rfl, rfl⟩⟩, fun _ _ => rfl⟩
theorem xc4_29 : xCS RX4 29 yJ7_fill_53178 cJ7_fill_53178 4 none 2 := ⟨⟨(Or.inl (xtb 394 (by decide +kernel) (by decide +kernel))), (xtb 24 (by decide +kernel) (by decide +kernel)), (xtb 396 rfl rfl), by decide +kernel, by decide +kernel, by decide +kernel⟩, (xtb 395 (by decide +kernel) (by decide +kernel))⟩
theorem xc6_79 : xCV RX6 79 4 yX4_mendCodes cX4_mendCodes 1 none 0 := ⟨⟨(Or.inl (xtb 390 (by decide +kernel) (by decide +kernel))), (xtb 18 (by decide +kernel) (by decide +kernel)), (xtb 393 rfl rfl), by decide +kernel, by decide +kernel, by decide +kernel⟩, (xtb 391 (by decide +kernel) (by decide +kernel)), (xtb 392 (by decide +kernel) (by decide +kernel)), ⟨_, _, rfl⟩, fun _ _ _ => rfl⟩
theorem xf6_41 : xFR RX6 41 6 5 0 5 0 := ⟨⟨RX6, TX6, 11, tyX6, rfl, by decide, xin6, tyX6_ok, nmX6, (Or.inl (xtb 339 (by decide +kernel) (by decide +kernel))), fun _ _ _ => ⟨rfl, rfl⟩⟩, fun _ _ => rfl⟩
theorem xf5_12 (o : Nat) : xFR RX5 12 5 0 o 0 o := ⟨⟨RX5, TX5, 12, tyX5, rfl, by decide, xin5, tyX5_ok, nmX5, (Or.inl (xtb 144 (by decide +kernel) (by decide +kernel))), fun _ _ _ => ⟨rfl, rfl⟩⟩, fun _ _ => rfl⟩
theorem xf0_24 : xFI RX0 24 0 4 := ⟨⟨RX0, TX0, 5, tyX0, rfl, by decide, xin0, tyX0_ok, nmX0, (Or.inl (xtb 130 (by decide +kernel) (by decide +kernel))), fun _ _ _ => ⟨rfl, rfl⟩⟩, ⟨RX0, TX0, 5, rfl, rfl, by decide +kernel⟩, fun _ _ _ => rfl, fun _ _ _ _ => rfl⟩
theorem xf0_21 (o : Nat) : xFR RX0 21 0 3 o 13 o := ⟨⟨RX0, TX0, 5, tyX0, rfl, by decide, xin0, tyX0_ok, nmX0, (Or.inl (xtb 129 (by decide +kernel) (by decide +kernel))), fun _ _ _ => ⟨rfl, rfl⟩⟩, fun _ _ => rfl⟩
theorem xc0_28 : xCS RX0 28 yJ7_fill_fda19 cJ7_fill_fda19 5 none 4 := ⟨⟨(Or.inl (xtb 254 (by decide +kernel) (by decide +kernel))), (xtb 24 (by decide +kernel) (by decide +kernel)), (xtb 256 rfl rfl), by decide +kernel, by decide +kernel, by decide +kernel⟩, (xtb 255 (by decide +kernel) (by decide +kernel))⟩
theorem xc5_59 : xCV RX5 59 0 yX0_dropPhrases cX0_dropPhrases 1 none 0 := ⟨⟨(Or.inl (xtb 250 (by decide +kernel) (by decide +kernel))), (xtb 22 (by decide +kernel) (by decide +kernel)), (xtb 253 rfl rfl), by decide +kernel, by decide +kernel, by decide +kernel⟩, (xtb 251 (by decide +kernel) (by decide +kernel)), (xtb 252 (by decide +kernel) (by decide +kernel)), ⟨_, _, rfl⟩, fun _ _ _ => rfl⟩
theorem xf5_62 : xFI RX5 62 5 10 := ⟨⟨RX5, TX5, 12, tyX5, rfl, by decide, xin5, tyX5_ok, nmX5, (Or.inl (xtb 164 (by decide +kernel) (by decide +kernel))), fun _ _ _ => ⟨rfl, rfl⟩⟩, ⟨RX5, TX5, 12, rfl, rfl, by decide +kernel⟩, fun _ _ _ => rfl, fun _ _ _ _ => rfl⟩
theorem xf5_65 : xFI RX5 65 5 6 := ⟨⟨RX5, TX5, 12, tyX5, rfl, by decide, xin5, tyX5_ok, nmX5, (Or.inl (xtb 156 (by decide +kernel) (by decide +kernel))), fun _ _ _ => ⟨rfl, rfl⟩⟩, ⟨RX5, TX5, 12, rfl, rfl, by decide +kernel⟩, fun _ _ _ => rfl, fun _ _ _ _ => rfl⟩
theorem xf5_68 : xFI RX5 68 5 7 := ⟨⟨RX5, TX5, 12, tyX5, rfl, by decide, xin5, tyX5_ok, nmX5, (Or.inl (xtb 158 (by decide +kernel) (by decide +kernel))), fun _ _ _ => ⟨rfl, rfl⟩⟩, ⟨RX5, TX5, 12, rfl, rfl, by decide +kernel⟩, fun _ _ _ => rfl, fun _ _ _ _ => rfl⟩
theorem xf5_55 : xFI RX5 55 5 8 := ⟨⟨RX5, TX5, 12, tyX5, rfl, by decide, xin5, tyX5_ok, nmX5, (Or.inl (xtb 160 (by decide +kernel) (by decide +kernel))), fun _ _ _ => ⟨rfl, rfl⟩⟩, ⟨RX5, TX5, 12, rfl, rfl, by decide +kernel⟩, fun _ _ _ => rfl, fun _ _ _ _ => rfl⟩
theorem xf5_71 : xFI RX5 71 5 9 := ⟨⟨RX5, TX5, 12, tyX5, rfl, by decide, xin5, tyX5_ok, nmX5, (Or.inl (xtb 162 (by decide +kernel) (by decide +kernel))), fun _ _ _ => ⟨rfl, rfl⟩⟩, ⟨RX5, TX5, 12, rfl, rfl, by decide +kernel⟩, fun _ _ _ => rfl, fun _ _ _ _ => rfl⟩
theorem xc5_34 : xCV RX5 34 5 yX5_begin cX5_begin 2 none 1 := ⟨⟨(Or.inl (xtb 246 (by decide +kernel) (by decide +kernel))), (xtb 21 (by decide +kernel) (by decide +kernel)), (xtb 249 rfl rfl), by decide +kernel, by decide +kernel, by decide +kernel⟩, (xtb 248 (by decide +kernel) (by decide +kernel)), (xtb 1 (by decide +kernel) (by decide +kernel)), ⟨_, _, rfl⟩, fun _ _ _ => rfl⟩
theorem xf5_74 : xFI RX5 74 0 4 := ⟨⟨RX0, TX0, 5, tyX0, rfl, by decide, xin0, tyX0_ok, nmX0, (Or.inl (xtb 131 (by decide +kernel) (by decide +kernel))), fun _ _ _ => ⟨rfl, rfl⟩⟩, ⟨RX0, TX0, 5, rfl, rfl, by decide +kernel⟩, fun _ _ _ => rfl, fun _ _ _ _ => rfl⟩
theorem xf5_81 : xSL RX5 81 (xSn 0) := (Or.inr ⟨"GrowingBook", (xnl 271 (by decide +kernel) rfl)⟩)
theorem xf5_84 : xSL RX5 84 (xSn 1) := (Or.inr ⟨"GrowingBook", (xnl 273 (by decide +kernel) rfl)⟩)
theorem xc5_77 : xCS RX5 77 yX5_bitsOf cX5_bitsOf 2 (some .int) 1 := ⟨⟨(Or.inl (xtb 268 (by decide +kernel) (by decide +kernel))), (xtb 21 (by decide +kernel) (by decide +kernel)), (xtb 270 rfl rfl), by decide +kernel, by decide +kernel, by decide +kernel⟩, (xtb 269 (by decide +kernel) (by decide +kernel))⟩
theorem xf5_18 (o : Nat) : xFR RX5 18 5 1 o 25 o := ⟨⟨RX5, TX5, 12, tyX5, rfl, by decide, xin5, tyX5_ok, nmX5, (Or.inl (xtb 146 (by decide +kernel) (by decide +kernel))), fun _ _ _ => ⟨rfl, rfl⟩⟩, fun _ _ => rfl⟩
theorem xf5_22 (o : Nat) : xFR RX5 22 5 2 o 26 o := ⟨⟨RX5, TX5, 12, tyX5, rfl, by decide, xin5, tyX5_ok, nmX5, (Or.inl (xtb 148 (by decide +kernel) (by decide +kernel))), fun _ _ _ => ⟨rfl, rfl⟩⟩, fun _ _ => rfl⟩
theorem xf5_25 (o : Nat) : xFR RX5 25 5 3 o 27 o := ⟨⟨RX5, TX5, 12, tyX5, rfl, by decide, xin5, tyX5_ok, nmX5, (Or.inl (xtb 150 (by decide +kernel) (by decide +kernel))), fun _ _ _ => ⟨rfl, rfl⟩⟩, fun _ _ => rfl⟩
theorem xf5_28 (o : Nat) : xFR RX5 28 5 4 o 28 o := ⟨⟨RX5, TX5, 12, tyX5, rfl, by decide, xin5, tyX5_ok, nmX5, (Or.inl (xtb 152 (by decide +kernel) (by decide +kernel))), fun _ _ _ => ⟨rfl, rfl⟩⟩, fun _ _ => rfl⟩
theorem xf5_31 (o : Nat) : xFR RX5 31 5 5 o 29 o := ⟨⟨RX5, TX5, 12, tyX5, rfl, by decide, xin5, tyX5_ok, nmX5, (Or.inl (xtb 154 (by decide +kernel) (by decide +kernel))), fun _ _ _ => ⟨rfl, rfl⟩⟩, fun _ _ => rfl⟩
theorem xc5_43 : xCV RX5 43 5 yX5_writeCode cX5_writeCode 5 none 3 := ⟨⟨(Or.inl (xtb 264 (by decide +kernel) (by decide +kernel))), (xtb 21 (by decide +kernel) (by decide +kernel)), (xtb 267 rfl rfl), by decide +kernel, by decide +kernel, by decide +kernel⟩, (xtb 266 (by decide +kernel) (by decide +kernel)), (xtb 2 (by decide +kernel) (by decide +kernel)), ⟨_, _, rfl⟩, fun _ _ _ => rfl⟩
theorem xc5_38 : xCV RX5 38 0 yX0_longestAt cX0_longestAt 7 (some .int) 3 := ⟨⟨(Or.inl (xtb 260 (by decide +kernel) (by decide +kernel))), (xtb 22 (by decide +kernel) (by decide +kernel)), (xtb 263 rfl rfl), by decide +kernel, by decide +kernel, by decide +kernel⟩, (xtb 261 (by decide +kernel) (by decide +kernel)), (xtb 262 (by decide +kernel) (by decide +kernel)), ⟨_, _, rfl⟩, fun _ _ _ => rfl⟩
theorem xf5_42 (o : Nat) : xFR RX5 42 0 2 o 12 o := ⟨⟨RX0, TX0, 5, tyX0, rfl, by decide, xin0, tyX0_ok, nmX0, (Or.inl (xtb 127 (by decide +kernel) (by decide +kernel))), fun _ _ _ => ⟨rfl, rfl⟩⟩, fun _ _ => rfl⟩
theorem xf0_9 (o : Nat) : xFR RX0 9 0 0 o 10 o := ⟨⟨RX0, TX0, 5, tyX0, rfl, by decide, xin0, tyX0_ok, nmX0, (Or.inl (xtb 122 (by decide +kernel) (by decide +kernel))), fun _ _ _ => ⟨rfl, rfl⟩⟩, fun _ _ => rfl⟩
theorem xf0_15 (o : Nat) : xFR RX0 15 0 1 o 11 o := ⟨⟨RX0, TX0, 5, tyX0, rfl, by decide, xin0, tyX0_ok, nmX0, (Or.inl (xtb 124 (by decide +kernel) (by decide +kernel))), fun _ _ _ => ⟨rfl, rfl⟩⟩, fun _ _ => rfl⟩
theorem xf0_18 (o : Nat) : xFR RX0 18 0 2 o 12 o := ⟨⟨RX0, TX0, 5, tyX0, rfl, by decide, xin0, tyX0_ok, nmX0, (Or.inl (xtb 126 (by decide +kernel) (by decide +kernel))), fun _ _ _ => ⟨rfl, rfl⟩⟩, fun _ _ => rfl⟩
theorem xc5_87 : xCV RX5 87 0 yX0_addPhrase cX0_addPhrase 3 none 2 := ⟨⟨(Or.inl (xtb 279 (by decide +kernel) (by decide +kernel))), (xtb 22 (by decide +kernel) (by decide +kernel)), (xtb 282 rfl rfl), by decide +kernel, by decide +kernel, by decide +kernel⟩, (xtb 280 (by decide +kernel) (by decide +kernel)), (xtb 281 (by decide +kernel) (by decide +kernel)), ⟨_, _, rfl⟩, fun _ _ _ => rfl⟩
theorem xm5_90 : Cond.methodLink RX5 90 Lib.Math.max.name ∈ xTB := (xtb 283 (by decide +kernel) (by decide +kernel))
theorem xf5_96 : xFI RX5 96 5 11 := ⟨⟨RX5, TX5, 12, tyX5, rfl, by decide, xin5, tyX5_ok, nmX5, (Or.inl (xtb 165 (by decide +kernel) (by decide +kernel))), fun _ _ _ => ⟨rfl, rfl⟩⟩, ⟨RX5, TX5, 12, rfl, rfl, by decide +kernel⟩, fun _ _ _ => rfl, fun _ _ _ _ => rfl⟩
theorem xc5_47 : xCV RX5 47 5 yX5_grow cX5_grow 3 none 2 := ⟨⟨(Or.inl (xtb 275 (by decide +kernel) (by decide +kernel))), (xtb 21 (by decide +kernel) (by decide +kernel)), (xtb 278 rfl rfl), by decide +kernel, by decide +kernel, by decide +kernel⟩, (xtb 277 (by decide +kernel) (by decide +kernel)), (xtb 3 (by decide +kernel) (by decide +kernel)), ⟨_, _, rfl⟩, fun _ _ _ => rfl⟩
theorem xc5_103 : xCV RX5 103 5 yX5_signsOf cX5_signsOf 5 (some .int) 2 := ⟨⟨(Or.inl (xtb 294 (by decide +kernel) (by decide +kernel))), (xtb 21 (by decide +kernel) (by decide +kernel)), (xtb 297 rfl rfl), by decide +kernel, by decide +kernel, by decide +kernel⟩, (xtb 296 (by decide +kernel) (by decide +kernel)), (xtb 6 (by decide +kernel) (by decide +kernel)), ⟨_, _, rfl⟩, fun _ _ _ => rfl⟩
theorem xc5_99 : xCV RX5 99 5 yX5_losesBy cX5_losesBy 2 (some .boolean) 1 := ⟨⟨(Or.inl (xtb 290 (by decide +kernel) (by decide +kernel))), (xtb 21 (by decide +kernel) (by decide +kernel)), (xtb 293 rfl rfl), by decide +kernel, by decide +kernel, by decide +kernel⟩, (xtb 292 (by decide +kernel) (by decide +kernel)), (xtb 5 (by decide +kernel) (by decide +kernel)), ⟨_, _, rfl⟩, fun _ _ _ => rfl⟩
theorem xc5_51 : xCV RX5 51 5 yX5_mustClear cX5_mustClear 3 (some .boolean) 2 := ⟨⟨(Or.inl (xtb 286 (by decide +kernel) (by decide +kernel))), (xtb 21 (by decide +kernel) (by decide +kernel)), (xtb 289 rfl rfl), by decide +kernel, by decide +kernel, by decide +kernel⟩, (xtb 288 (by decide +kernel) (by decide +kernel)), (xtb 4 (by decide +kernel) (by decide +kernel)), ⟨_, _, rfl⟩, fun _ _ _ => rfl⟩
theorem xc6_217 : xCV RX6 217 5 yX5_writeOut cX5_writeOut 9 none 5 := ⟨⟨(Or.inl (xtb 242 (by decide +kernel) (by decide +kernel))), (xtb 21 (by decide +kernel) (by decide +kernel)), (xtb 245 rfl rfl), by decide +kernel, by decide +kernel, by decide +kernel⟩, (xtb 243 (by decide +kernel) (by decide +kernel)), (xtb 244 (by decide +kernel) (by decide +kernel)), ⟨_, _, rfl⟩, fun _ _ _ => rfl⟩
theorem xf6_142 : xFI RX6 142 5 6 := ⟨⟨RX5, TX5, 12, tyX5, rfl, by decide, xin5, tyX5_ok, nmX5, (Or.inl (xtb 157 (by decide +kernel) (by decide +kernel))), fun _ _ _ => ⟨rfl, rfl⟩⟩, ⟨RX5, TX5, 12, rfl, rfl, by decide +kernel⟩, fun _ _ _ => rfl, fun _ _ _ _ => rfl⟩
theorem xf6_48 : xFR RX6 48 6 6 0 3 0 := ⟨⟨RX6, TX6, 11, tyX6, rfl, by decide, xin6, tyX6_ok, nmX6, (Or.inl (xtb 340 (by decide +kernel) (by decide +kernel))), fun _ _ _ => ⟨rfl, rfl⟩⟩, fun _ _ => rfl⟩
theorem xf6_52 : xFR RX6 52 6 7 0 32 0 := ⟨⟨RX6, TX6, 11, tyX6, rfl, by decide, xin6, tyX6_ok, nmX6, (Or.inl (xtb 341 (by decide +kernel) (by decide +kernel))), fun _ _ _ => ⟨rfl, rfl⟩⟩, fun _ _ => rfl⟩
theorem xf3_40 : xFI RX3 40 3 8 := ⟨⟨RX3, TX3, 11, tyX3, rfl, by decide, xin3, tyX3_ok, nmX3, (Or.inl (xtb 212 (by decide +kernel) (by decide +kernel))), fun _ _ _ => ⟨rfl, rfl⟩⟩, ⟨RX3, TX3, 11, rfl, rfl, by decide +kernel⟩, fun _ _ _ => rfl, fun _ _ _ _ => rfl⟩
theorem xf3_44 : xFI RX3 44 3 1 := ⟨⟨RX3, TX3, 11, tyX3, rfl, by decide, xin3, tyX3_ok, nmX3, (Or.inl (xtb 200 (by decide +kernel) (by decide +kernel))), fun _ _ _ => ⟨rfl, rfl⟩⟩, ⟨RX3, TX3, 11, rfl, rfl, by decide +kernel⟩, fun _ _ _ => rfl, fun _ _ _ _ => rfl⟩
theorem xf3_47 : xFI RX3 47 3 3 := ⟨⟨RX3, TX3, 11, tyX3, rfl, by decide, xin3, tyX3_ok, nmX3, (Or.inl (xtb 204 (by decide +kernel) (by decide +kernel))), fun _ _ _ => ⟨rfl, rfl⟩⟩, ⟨RX3, TX3, 11, rfl, rfl, by decide +kernel⟩, fun _ _ _ => rfl, fun _ _ _ _ => rfl⟩
theorem xf3_50 : xFI RX3 50 3 4 := ⟨⟨RX3, TX3, 11, tyX3, rfl, by decide, xin3, tyX3_ok, nmX3, (Or.inl (xtb 206 (by decide +kernel) (by decide +kernel))), fun _ _ _ => ⟨rfl, rfl⟩⟩, ⟨RX3, TX3, 11, rfl, rfl, by decide +kernel⟩, fun _ _ _ => rfl, fun _ _ _ _ => rfl⟩
theorem xf3_53 : xFI RX3 53 3 5 := ⟨⟨RX3, TX3, 11, tyX3, rfl, by decide, xin3, tyX3_ok, nmX3, (Or.inl (xtb 208 (by decide +kernel) (by decide +kernel))), fun _ _ _ => ⟨rfl, rfl⟩⟩, ⟨RX3, TX3, 11, rfl, rfl, by decide +kernel⟩, fun _ _ _ => rfl, fun _ _ _ _ => rfl⟩
theorem xf3_56 : xFI RX3 56 3 2 := ⟨⟨RX3, TX3, 11, tyX3, rfl, by decide, xin3, tyX3_ok, nmX3, (Or.inl (xtb 202 (by decide +kernel) (by decide +kernel))), fun _ _ _ => ⟨rfl, rfl⟩⟩, ⟨RX3, TX3, 11, rfl, rfl, by decide +kernel⟩, fun _ _ _ => rfl, fun _ _ _ _ => rfl⟩
theorem xf3_59 : xFI RX3 59 3 10 := ⟨⟨RX3, TX3, 11, tyX3, rfl, by decide, xin3, tyX3_ok, nmX3, (Or.inl (xtb 214 (by decide +kernel) (by decide +kernel))), fun _ _ _ => ⟨rfl, rfl⟩⟩, ⟨RX3, TX3, 11, rfl, rfl, by decide +kernel⟩, fun _ _ _ => rfl, fun _ _ _ _ => rfl⟩
theorem xc3_30 : xCV RX3 30 3 yX3_dropPhrases cX3_dropPhrases 1 none 0 := ⟨⟨(Or.inl (xtb 306 (by decide +kernel) (by decide +kernel))), (xtb 23 (by decide +kernel) (by decide +kernel)), (xtb 309 rfl rfl), by decide +kernel, by decide +kernel, by decide +kernel⟩, (xtb 308 (by decide +kernel) (by decide +kernel)), (xtb 8 (by decide +kernel) (by decide +kernel)), ⟨_, _, rfl⟩, fun _ _ _ => rfl⟩
theorem xc3_22 : xCV RX3 22 3 yX3_begin cX3_begin 2 none 1 := ⟨⟨(Or.inl (xtb 302 (by decide +kernel) (by decide +kernel))), (xtb 23 (by decide +kernel) (by decide +kernel)), (xtb 305 rfl rfl), by decide +kernel, by decide +kernel, by decide +kernel⟩, (xtb 304 (by decide +kernel) (by decide +kernel)), (xtb 7 (by decide +kernel) (by decide +kernel)), ⟨_, _, rfl⟩, fun _ _ _ => rfl⟩
theorem xc3_26 : xCV RX3 26 3 yX3_noteFault cX3_noteFault 3 none 2 := ⟨⟨(Or.inl (xtb 310 (by decide +kernel) (by decide +kernel))), (xtb 23 (by decide +kernel) (by decide +kernel)), (xtb 313 rfl rfl), by decide +kernel, by decide +kernel, by decide +kernel⟩, (xtb 312 (by decide +kernel) (by decide +kernel)), (xtb 9 (by decide +kernel) (by decide +kernel)), ⟨_, _, rfl⟩, fun _ _ _ => rfl⟩
theorem xc3_62 : xCV RX3 62 3 yX3_canGrow cX3_canGrow 1 (some .boolean) 0 := ⟨⟨(Or.inl (xtb 318 (by decide +kernel) (by decide +kernel))), (xtb 23 (by decide +kernel) (by decide +kernel)), (xtb 321 rfl rfl), by decide +kernel, by decide +kernel, by decide +kernel⟩, (xtb 320 (by decide +kernel) (by decide +kernel)), (xtb 11 (by decide +kernel) (by decide +kernel)), ⟨_, _, rfl⟩, fun _ _ _ => rfl⟩
theorem xc3_33 : xCV RX3 33 3 yX3_canStand cX3_canStand 2 (some .boolean) 1 := ⟨⟨(Or.inl (xtb 314 (by decide +kernel) (by decide +kernel))), (xtb 23 (by decide +kernel) (by decide +kernel)), (xtb 317 rfl rfl), by decide +kernel, by decide +kernel, by decide +kernel⟩, (xtb 316 (by decide +kernel) (by decide +kernel)), (xtb 10 (by decide +kernel) (by decide +kernel)), ⟨_, _, rfl⟩, fun _ _ _ => rfl⟩
theorem xf3_66 : xFI RX3 66 3 9 := ⟨⟨RX3, TX3, 11, tyX3, rfl, by decide, xin3, tyX3_ok, nmX3, (Or.inl (xtb 213 (by decide +kernel) (by decide +kernel))), fun _ _ _ => ⟨rfl, rfl⟩⟩, ⟨RX3, TX3, 11, rfl, rfl, by decide +kernel⟩, fun _ _ _ => rfl, fun _ _ _ _ => rfl⟩
theorem xf3_19 (o : Nat) : xFR RX3 19 3 7 o 21 o := ⟨⟨RX3, TX3, 11, tyX3, rfl, by decide, xin3, tyX3_ok, nmX3, (Or.inl (xtb 211 (by decide +kernel) (by decide +kernel))), fun _ _ _ => ⟨rfl, rfl⟩⟩, fun _ _ => rfl⟩
theorem xf3_16 (o : Nat) : xFR RX3 16 3 6 o 20 o := ⟨⟨RX3, TX3, 11, tyX3, rfl, by decide, xin3, tyX3_ok, nmX3, (Or.inl (xtb 210 (by decide +kernel) (by decide +kernel))), fun _ _ _ => ⟨rfl, rfl⟩⟩, fun _ _ => rfl⟩
theorem xf3_10 (o : Nat) : xFR RX3 10 3 0 o 19 o := ⟨⟨RX3, TX3, 11, tyX3, rfl, by decide, xin3, tyX3_ok, nmX3, (Or.inl (xtb 198 (by decide +kernel) (by decide +kernel))), fun _ _ _ => ⟨rfl, rfl⟩⟩, fun _ _ => rfl⟩
theorem xk3_9 : Cond.constant RX3 9 (39621 : Int32) ∈ xTB := (xtb 197 (by decide +kernel) (by decide +kernel))
theorem xc3_69 : xCV RX3 69 3 yX3_readSign cX3_readSign 2 none 1 := ⟨⟨(Or.inl (xtb 326 (by decide +kernel) (by decide +kernel))), (xtb 23 (by decide +kernel) (by decide +kernel)), (xtb 329 rfl rfl), by decide +kernel, by decide +kernel, by decide +kernel⟩, (xtb 328 (by decide +kernel) (by decide +kernel)), (xtb 13 (by decide +kernel) (by decide +kernel)), ⟨_, _, rfl⟩, fun _ _ _ => rfl⟩
theorem xc3_72 : xCV RX3 72 3 yX3_readPhrase cX3_readPhrase 4 none 2 := ⟨⟨(Or.inl (xtb 330 (by decide +kernel) (by decide +kernel))), (xtb 23 (by decide +kernel) (by decide +kernel)), (xtb 333 rfl rfl), by decide +kernel, by decide +kernel, by decide +kernel⟩, (xtb 332 (by decide +kernel) (by decide +kernel)), (xtb 14 (by decide +kernel) (by decide +kernel)), ⟨_, _, rfl⟩, fun _ _ _ => rfl⟩
theorem xc3_37 : xCV RX3 37 3 yX3_readEntry cX3_readEntry 2 none 1 := ⟨⟨(Or.inl (xtb 322 (by decide +kernel) (by decide +kernel))), (xtb 23 (by decide +kernel) (by decide +kernel)), (xtb 325 rfl rfl), by decide +kernel, by decide +kernel, by decide +kernel⟩, (xtb 324 (by decide +kernel) (by decide +kernel)), (xtb 12 (by decide +kernel) (by decide +kernel)), ⟨_, _, rfl⟩, fun _ _ _ => rfl⟩
theorem xc6_221 : xCV RX6 221 3 yX3_readAll cX3_readAll 6 none 3 := ⟨⟨(Or.inl (xtb 298 (by decide +kernel) (by decide +kernel))), (xtb 23 (by decide +kernel) (by decide +kernel)), (xtb 301 rfl rfl), by decide +kernel, by decide +kernel, by decide +kernel⟩, (xtb 299 (by decide +kernel) (by decide +kernel)), (xtb 300 (by decide +kernel) (by decide +kernel)), ⟨_, _, rfl⟩, fun _ _ _ => rfl⟩
theorem xf6_127 (o : Nat) : xFR RX6 127 5 1 o 25 o := ⟨⟨RX5, TX5, 12, tyX5, rfl, by decide, xin5, tyX5_ok, nmX5, (Or.inl (xtb 147 (by decide +kernel) (by decide +kernel))), fun _ _ _ => ⟨rfl, rfl⟩⟩, fun _ _ => rfl⟩
theorem xc6_65 : xCV RX6 65 6 yX6_refresh cX6_refresh 2 none 0 := ⟨⟨(Or.inl (xtb 238 (by decide +kernel) (by decide +kernel))), (xtb 17 (by decide +kernel) (by decide +kernel)), (xtb 241 rfl rfl), by decide +kernel, by decide +kernel, by decide +kernel⟩, (xtb 240 (by decide +kernel) (by decide +kernel)), (xtb 0 (by decide +kernel) (by decide +kernel)), ⟨_, _, rfl⟩, fun _ _ _ => rfl⟩
theorem xc6_89 : xCS RX6 89 yJ7_fill_fda19 cJ7_fill_fda19 5 none 4 := ⟨⟨(Or.inl (xtb 401 (by decide +kernel) (by decide +kernel))), (xtb 24 (by decide +kernel) (by decide +kernel)), (xtb 256 rfl rfl), by decide +kernel, by decide +kernel, by decide +kernel⟩, (xtb 255 (by decide +kernel) (by decide +kernel))⟩
theorem xc6_95 : xCV RX6 95 6 yX6_isCode cX6_isCode 2 (some .boolean) 1 := ⟨⟨(Or.inl (xtb 421 (by decide +kernel) (by decide +kernel))), (xtb 17 (by decide +kernel) (by decide +kernel)), (xtb 424 rfl rfl), by decide +kernel, by decide +kernel, by decide +kernel⟩, (xtb 423 (by decide +kernel) (by decide +kernel)), (xtb 15 (by decide +kernel) (by decide +kernel)), ⟨_, _, rfl⟩, fun _ _ _ => rfl⟩
theorem xf6_130 (o : Nat) : xFR RX6 130 5 2 o 26 o := ⟨⟨RX5, TX5, 12, tyX5, rfl, by decide, xin5, tyX5_ok, nmX5, (Or.inl (xtb 149 (by decide +kernel) (by decide +kernel))), fun _ _ _ => ⟨rfl, rfl⟩⟩, fun _ _ => rfl⟩
theorem xf6_133 (o : Nat) : xFR RX6 133 5 3 o 27 o := ⟨⟨RX5, TX5, 12, tyX5, rfl, by decide, xin5, tyX5_ok, nmX5, (Or.inl (xtb 151 (by decide +kernel) (by decide +kernel))), fun _ _ _ => ⟨rfl, rfl⟩⟩, fun _ _ => rfl⟩
theorem xf6_136 (o : Nat) : xFR RX6 136 5 4 o 28 o := ⟨⟨RX5, TX5, 12, tyX5, rfl, by decide, xin5, tyX5_ok, nmX5, (Or.inl (xtb 153 (by decide +kernel) (by decide +kernel))), fun _ _ _ => ⟨rfl, rfl⟩⟩, fun _ _ => rfl⟩
theorem xf6_139 (o : Nat) : xFR RX6 139 5 5 o 29 o := ⟨⟨RX5, TX5, 12, tyX5, rfl, by decide, xin5, tyX5_ok, nmX5, (Or.inl (xtb 155 (by decide +kernel) (by decide +kernel))), fun _ _ _ => ⟨rfl, rfl⟩⟩, fun _ _ => rfl⟩
theorem xf6_145 : xFI RX6 145 5 7 := ⟨⟨RX5, TX5, 12, tyX5, rfl, by decide, xin5, tyX5_ok, nmX5, (Or.inl (xtb 159 (by decide +kernel) (by decide +kernel))), fun _ _ _ => ⟨rfl, rfl⟩⟩, ⟨RX5, TX5, 12, rfl, rfl, by decide +kernel⟩, fun _ _ _ => rfl, fun _ _ _ _ => rfl⟩
theorem xf6_148 : xFI RX6 148 5 8 := ⟨⟨RX5, TX5, 12, tyX5, rfl, by decide, xin5, tyX5_ok, nmX5, (Or.inl (xtb 161 (by decide +kernel) (by decide +kernel))), fun _ _ _ => ⟨rfl, rfl⟩⟩, ⟨RX5, TX5, 12, rfl, rfl, by decide +kernel⟩, fun _ _ _ => rfl, fun _ _ _ _ => rfl⟩
theorem xf6_151 (o : Nat) : xFR RX6 151 5 0 o 0 o := ⟨⟨RX5, TX5, 12, tyX5, rfl, by decide, xin5, tyX5_ok, nmX5, (Or.inl (xtb 145 (by decide +kernel) (by decide +kernel))), fun _ _ _ => ⟨rfl, rfl⟩⟩, fun _ _ => rfl⟩
theorem xf6_155 : xFI RX6 155 0 4 := ⟨⟨RX0, TX0, 5, tyX0, rfl, by decide, xin0, tyX0_ok, nmX0, (Or.inl (xtb 132 (by decide +kernel) (by decide +kernel))), fun _ _ _ => ⟨rfl, rfl⟩⟩, ⟨RX0, TX0, 5, rfl, rfl, by decide +kernel⟩, fun _ _ _ => rfl, fun _ _ _ _ => rfl⟩
theorem xf6_160 : xFI RX6 160 5 9 := ⟨⟨RX5, TX5, 12, tyX5, rfl, by decide, xin5, tyX5_ok, nmX5, (Or.inl (xtb 163 (by decide +kernel) (by decide +kernel))), fun _ _ _ => ⟨rfl, rfl⟩⟩, ⟨RX5, TX5, 12, rfl, rfl, by decide +kernel⟩, fun _ _ _ => rfl, fun _ _ _ _ => rfl⟩
theorem xc6_163 : xCV RX6 163 4 yX4_countSpoiled cX4_countSpoiled 3 (some .int) 0 := ⟨⟨(Or.inl (xtb 413 (by decide +kernel) (by decide +kernel))), (xtb 18 (by decide +kernel) (by decide +kernel)), (xtb 416 rfl rfl), by decide +kernel, by decide +kernel, by decide +kernel⟩, (xtb 414 (by decide +kernel) (by decide +kernel)), (xtb 415 (by decide +kernel) (by decide +kernel)), ⟨_, _, rfl⟩, fun _ _ _ => rfl⟩
theorem xf6_34 : xFR RX6 34 6 4 0 2 0 := ⟨⟨RX6, TX6, 11, tyX6, rfl, by decide, xin6, tyX6_ok, nmX6, (Or.inl (xtb 338 (by decide +kernel) (by decide +kernel))), fun _ _ _ => ⟨rfl, rfl⟩⟩, fun _ _ => rfl⟩
theorem xf6_106 : xFI RX6 106 2 4 := ⟨⟨RX2, TX2, 5, tyX2, rfl, by decide, xin2, tyX2_ok, nmX2, (Or.inl (xtb 97 (by decide +kernel) (by decide +kernel))), fun _ _ _ => ⟨rfl, rfl⟩⟩, ⟨RX2, TX2, 5, rfl, rfl, by decide +kernel⟩, fun _ _ _ => rfl, fun _ _ _ _ => rfl⟩
theorem xf6_166 : xFI RX6 166 1 2 := ⟨⟨RX1, TX1, 3, tyX1, rfl, by decide, xin1, tyX1_ok, nmX1, (Or.inl (xtb 79 (by decide +kernel) (by decide +kernel))), fun _ _ _ => ⟨rfl, rfl⟩⟩, ⟨RX1, TX1, 3, rfl, rfl, by decide +kernel⟩, fun _ _ _ => rfl, fun _ _ _ _ => rfl⟩
theorem xf6_169 (o : Nat) : xFR RX6 169 0 2 o 12 o := ⟨⟨RX0, TX0, 5, tyX0, rfl, by decide, xin0, tyX0_ok, nmX0, (Or.inl (xtb 128 (by decide +kernel) (by decide +kernel))), fun _ _ _ => ⟨rfl, rfl⟩⟩, fun _ _ => rfl⟩
theorem xf6_170 (o : Nat) : xFR RX6 170 0 1 o 11 o := ⟨⟨RX0, TX0, 5, tyX0, rfl, by decide, xin0, tyX0_ok, nmX0, (Or.inl (xtb 125 (by decide +kernel) (by decide +kernel))), fun _ _ _ => ⟨rfl, rfl⟩⟩, fun _ _ => rfl⟩
theorem xf6_173 (o : Nat) : xFR RX6 173 0 0 o 10 o := ⟨⟨RX0, TX0, 5, tyX0, rfl, by decide, xin0, tyX0_ok, nmX0, (Or.inl (xtb 123 (by decide +kernel) (by decide +kernel))), fun _ _ _ => ⟨rfl, rfl⟩⟩, fun _ _ => rfl⟩
theorem xf6_176 : xFI RX6 176 3 1 := ⟨⟨RX3, TX3, 11, tyX3, rfl, by decide, xin3, tyX3_ok, nmX3, (Or.inl (xtb 201 (by decide +kernel) (by decide +kernel))), fun _ _ _ => ⟨rfl, rfl⟩⟩, ⟨RX3, TX3, 11, rfl, rfl, by decide +kernel⟩, fun _ _ _ => rfl, fun _ _ _ _ => rfl⟩
theorem xf6_179 : xFI RX6 179 3 4 := ⟨⟨RX3, TX3, 11, tyX3, rfl, by decide, xin3, tyX3_ok, nmX3, (Or.inl (xtb 207 (by decide +kernel) (by decide +kernel))), fun _ _ _ => ⟨rfl, rfl⟩⟩, ⟨RX3, TX3, 11, rfl, rfl, by decide +kernel⟩, fun _ _ _ => rfl, fun _ _ _ _ => rfl⟩
theorem xf6_182 : xFI RX6 182 3 5 := ⟨⟨RX3, TX3, 11, tyX3, rfl, by decide, xin3, tyX3_ok, nmX3, (Or.inl (xtb 209 (by decide +kernel) (by decide +kernel))), fun _ _ _ => ⟨rfl, rfl⟩⟩, ⟨RX3, TX3, 11, rfl, rfl, by decide +kernel⟩, fun _ _ _ => rfl, fun _ _ _ _ => rfl⟩
theorem xf6_185 : xFI RX6 185 3 2 := ⟨⟨RX3, TX3, 11, tyX3, rfl, by decide, xin3, tyX3_ok, nmX3, (Or.inl (xtb 203 (by decide +kernel) (by decide +kernel))), fun _ _ _ => ⟨rfl, rfl⟩⟩, ⟨RX3, TX3, 11, rfl, rfl, by decide +kernel⟩, fun _ _ _ => rfl, fun _ _ _ _ => rfl⟩
theorem xf6_186 : xFI RX6 186 3 3 := ⟨⟨RX3, TX3, 11, tyX3, rfl, by decide, xin3, tyX3_ok, nmX3, (Or.inl (xtb 205 (by decide +kernel) (by decide +kernel))), fun _ _ _ => ⟨rfl, rfl⟩⟩, ⟨RX3, TX3, 11, rfl, rfl, by decide +kernel⟩, fun _ _ _ => rfl, fun _ _ _ _ => rfl⟩
theorem xm3_75 : Cond.methodLink RX3 75 Lib.Math.min.name ∈ xTB := (xtb 461 (by decide +kernel) (by decide +kernel))
theorem xc6_189 : xCV RX6 189 3 yX3_firstDifference cX3_firstDifference 5 (some .int) 2 := ⟨⟨(Or.inl (xtb 457 (by decide +kernel) (by decide +kernel))), (xtb 23 (by decide +kernel) (by decide +kernel)), (xtb 460 rfl rfl), by decide +kernel, by decide +kernel, by decide +kernel⟩, (xtb 458 (by decide +kernel) (by decide +kernel)), (xtb 459 (by decide +kernel) (by decide +kernel)), ⟨_, _, rfl⟩, fun _ _ _ => rfl⟩
theorem xk6_193 : Cond.constant RX6 193 (39621 : Int32) ∈ xTB := (xtb 452 (by decide +kernel) (by decide +kernel))
theorem xf6_194 (o : Nat) : xFR RX6 194 3 0 o 19 o := ⟨⟨RX3, TX3, 11, tyX3, rfl, by decide, xin3, tyX3_ok, nmX3, (Or.inl (xtb 199 (by decide +kernel) (by decide +kernel))), fun _ _ _ => ⟨rfl, rfl⟩⟩, fun _ _ => rfl⟩
theorem xk9_7 : Cond.constant RL 7 (4194303 : Int32) ∈ xTB := (xtb 405 (by decide +kernel) (by decide +kernel))
theorem xc9_8 : xCV RL 8 6 yX6_count cX6_count 2 (some .int) 1 := ⟨⟨(Or.inl (xtb 409 (by decide +kernel) (by decide +kernel))), (xtb 17 (by decide +kernel) (by decide +kernel)), (xtb 412 rfl rfl), by decide +kernel, by decide +kernel, by decide +kernel⟩, (xtb 410 (by decide +kernel) (by decide +kernel)), (xtb 411 (by decide +kernel) (by decide +kernel)), ⟨_, _, rfl⟩, fun _ _ _ => rfl⟩
theorem xc9_14 : xCV RL 14 6 yX6_sign cX6_sign 2 (some .int) 1 := ⟨⟨(Or.inl (xtb 431 (by decide +kernel) (by decide +kernel))), (xtb 17 (by decide +kernel) (by decide +kernel)), (xtb 434 rfl rfl), by decide +kernel, by decide +kernel, by decide +kernel⟩, (xtb 432 (by decide +kernel) (by decide +kernel)), (xtb 433 (by decide +kernel) (by decide +kernel)), ⟨_, _, rfl⟩, fun _ _ _ => rfl⟩
theorem xc9_17 : xCV RL 17 6 yX6_ofCode cX6_ofCode 3 (some .int) 2 := ⟨⟨(Or.inl (xtb 417 (by decide +kernel) (by decide +kernel))), (xtb 17 (by decide +kernel) (by decide +kernel)), (xtb 420 rfl rfl), by decide +kernel, by decide +kernel, by decide +kernel⟩, (xtb 418 (by decide +kernel) (by decide +kernel)), (xtb 419 (by decide +kernel) (by decide +kernel)), ⟨_, _, rfl⟩, fun _ _ _ => rfl⟩
theorem xc9_21 : xCS RL 21 yL_bits cL_bits 2 (some .int) 1 := ⟨⟨(Or.inl (xtb 428 (by decide +kernel) (by decide +kernel))), (xtb 16 (by decide +kernel) (by decide +kernel)), (xtb 430 rfl rfl), by decide +kernel, by decide +kernel, by decide +kernel⟩, (xtb 429 (by decide +kernel) (by decide +kernel))⟩
theorem xc9_26 : xCS RL 26 yL_isAlike cL_isAlike 6 (some .boolean) 4 := ⟨⟨(Or.inl (xtb 435 (by decide +kernel) (by decide +kernel))), (xtb 16 (by decide +kernel) (by decide +kernel)), (xtb 437 rfl rfl), by decide +kernel, by decide +kernel, by decide +kernel⟩, (xtb 436 (by decide +kernel) (by decide +kernel))⟩
theorem xc9_30 : xCV RL 30 6 yX6_entry cX6_entry 3 (some .int) 2 := ⟨⟨(Or.inl (xtb 441 (by decide +kernel) (by decide +kernel))), (xtb 17 (by decide +kernel) (by decide +kernel)), (xtb 444 rfl rfl), by decide +kernel, by decide +kernel, by decide +kernel⟩, (xtb 442 (by decide +kernel) (by decide +kernel)), (xtb 443 (by decide +kernel) (by decide +kernel)), ⟨_, _, rfl⟩, fun _ _ _ => rfl⟩
theorem xc9_36 : xCV RL 36 6 yX6_reading cX6_reading 2 (some .int) 1 := ⟨⟨(Or.inl (xtb 453 (by decide +kernel) (by decide +kernel))), (xtb 17 (by decide +kernel) (by decide +kernel)), (xtb 456 rfl rfl), by decide +kernel, by decide +kernel, by decide +kernel⟩, (xtb 454 (by decide +kernel) (by decide +kernel)), (xtb 455 (by decide +kernel) (by decide +kernel)), ⟨_, _, rfl⟩, fun _ _ _ => rfl⟩
theorem xc9_33 : xCV RL 33 6 yX6_read cX6_read 2 (some .int) 1 := ⟨⟨(Or.inl (xtb 448 (by decide +kernel) (by decide +kernel))), (xtb 17 (by decide +kernel) (by decide +kernel)), (xtb 451 rfl rfl), by decide +kernel, by decide +kernel, by decide +kernel⟩, (xtb 449 (by decide +kernel) (by decide +kernel)), (xtb 450 (by decide +kernel) (by decide +kernel)), ⟨_, _, rfl⟩, fun _ _ _ => rfl⟩
theorem xc9_39 : xCS RL 39 yL_areCodes cL_areCodes 23 (some .boolean) 1 := ⟨⟨(Or.inl (xtb 425 (by decide +kernel) (by decide +kernel))), (xtb 16 (by decide +kernel) (by decide +kernel)), (xtb 427 rfl rfl), by decide +kernel, by decide +kernel, by decide +kernel⟩, (xtb 426 (by decide +kernel) (by decide +kernel))⟩
theorem xc9_43 : xCS RL 43 yL_areEntries cL_areEntries 5 (some .boolean) 1 := ⟨⟨(Or.inl (xtb 438 (by decide +kernel) (by decide +kernel))), (xtb 16 (by decide +kernel) (by decide +kernel)), (xtb 440 rfl rfl), by decide +kernel, by decide +kernel, by decide +kernel⟩, (xtb 439 (by decide +kernel) (by decide +kernel))⟩
theorem xc9_46 : xCS RL 46 yL_isRead cL_isRead 20 (some .boolean) 1 := ⟨⟨(Or.inl (xtb 445 (by decide +kernel) (by decide +kernel))), (xtb 16 (by decide +kernel) (by decide +kernel)), (xtb 447 rfl rfl), by decide +kernel, by decide +kernel, by decide +kernel⟩, (xtb 446 (by decide +kernel) (by decide +kernel))⟩
theorem xc9_49 : xCV RL 49 6 yX6_spoil cX6_spoil 3 (some .int) 2 := ⟨⟨(Or.inl (xtb 472 (by decide +kernel) (by decide +kernel))), (xtb 17 (by decide +kernel) (by decide +kernel)), (xtb 475 rfl rfl), by decide +kernel, by decide +kernel, by decide +kernel⟩, (xtb 473 (by decide +kernel) (by decide +kernel)), (xtb 474 (by decide +kernel) (by decide +kernel)), ⟨_, _, rfl⟩, fun _ _ _ => rfl⟩
theorem xc9_52 : xCS RL 52 yL_cell cL_cell 3 (some .int) 3 := ⟨⟨(Or.inl (xtb 402 (by decide +kernel) (by decide +kernel))), (xtb 16 (by decide +kernel) (by decide +kernel)), (xtb 404 rfl rfl), by decide +kernel, by decide +kernel, by decide +kernel⟩, (xtb 403 (by decide +kernel) (by decide +kernel))⟩
theorem xc9_65 : xCS RL 65 yL_isSpoiled cL_isSpoiled 5 (some .boolean) 3 := ⟨⟨(Or.inl (xtb 469 (by decide +kernel) (by decide +kernel))), (xtb 16 (by decide +kernel) (by decide +kernel)), (xtb 471 rfl rfl), by decide +kernel, by decide +kernel, by decide +kernel⟩, (xtb 470 (by decide +kernel) (by decide +kernel))⟩
theorem xc9_56 : xCV RL 56 6 yX6_add cX6_add 3 (some .int) 2 := ⟨⟨(Or.inl (xtb 397 (by decide +kernel) (by decide +kernel))), (xtb 17 (by decide +kernel) (by decide +kernel)), (xtb 400 rfl rfl), by decide +kernel, by decide +kernel, by decide +kernel⟩, (xtb 398 (by decide +kernel) (by decide +kernel)), (xtb 399 (by decide +kernel) (by decide +kernel)), ⟨_, _, rfl⟩, fun _ _ _ => rfl⟩
theorem xc9_59 : xCV RL 59 6 yX6_cut cX6_cut 2 (some .int) 1 := ⟨⟨(Or.inl (xtb 465 (by decide +kernel) (by decide +kernel))), (xtb 17 (by decide +kernel) (by decide +kernel)), (xtb 468 rfl rfl), by decide +kernel, by decide +kernel, by decide +kernel⟩, (xtb 466 (by decide +kernel) (by decide +kernel)), (xtb 467 (by decide +kernel) (by decide +kernel)), ⟨_, _, rfl⟩, fun _ _ _ => rfl⟩
theorem xc9_62 : xCV RL 62 6 yX6_set cX6_set 4 (some .int) 2 := ⟨⟨(Or.inl (xtb 368 (by decide +kernel) (by decide +kernel))), (xtb 17 (by decide +kernel) (by decide +kernel)), (xtb 371 rfl rfl), by decide +kernel, by decide +kernel, by decide +kernel⟩, (xtb 369 (by decide +kernel) (by decide +kernel)), (xtb 370 (by decide +kernel) (by decide +kernel)), ⟨_, _, rfl⟩, fun _ _ _ => rfl⟩
theorem xarI : Cond.arrayClass .int ∈ xTB := (xtb 66 (by decide +kernel) (by decide +kernel))
theorem xin_lt {i : Int32} {n : Nat} (h : vp_in i n) : i.toNatClampNeg < n := by
  rcases Nat.lt_or_ge i.toNatClampNeg n with q | q
  · exact q
  · exact absurd (Or.inr q) h
theorem xua_xua (S : xSt) (t o : Nat) (f g : Nat → Int32) : xua (xua S t o f) t o g = xua S t o g := by
  funext t' o'
  by_cases h : t' = t ∧ o' = o
  · simp only [xua, if_pos h]
  · simp only [xua, if_neg h]
theorem xua_same (S : xSt) (t o : Nat) : xua S t o (S t o) = S := by
  funext t' o'
  by_cases h : t' = t ∧ o' = o
  · obtain ⟨rfl, rfl⟩ := h
    simp [xua]
  · simp only [xua, if_neg h]
/-- how often a loop may go round -/
def xFU : Nat := 1000000
/-! java.util.Arrays.fill over a row of ints -/
def ffill2 (S : xSt) (t o n : Nat) (v : Int32) : Option xR := some (xua S t o (fun j => if j < n then v else S t o j), none)
def ffill4 (S : xSt) (t o n : Nat) (a b v : Int32) : Option xR := xne (a ≤ b ∧ 0 ≤ a ∧ b ≤ nI n) (some (xua S t o (fun j => if a.toNatClampNeg ≤ j ∧ j < b.toNatClampNeg then v else S t o j), none))
set_option maxRecDepth 100000 in
theorem cfill2 {l : Launch} {K : xK} {t o n : Nat} (hvc : xVC (xvl K)) (hV : (t, o) ∈ xvl K) (hE : ∀ f, xE K f t o = .inl (xcy K 0, n, .inl f)) {S : xSt} {v : Int32} {out : xR} (h : ffill2 S t o n v = some out) (hn : n < 2 ^ 31 := by decide) : xMet l K yJ7_fill_53178 cJ7_fill_53178 4 none 0 0 S [xr K t o, .int v] out := by
  refine xMet_of RJ7 (by decide +kernel) rfl hvc (Nat.le_of_ble_eq_true rfl) ?_
  intro X hX hM hR
  show xG K X S 0 [(0, xr K t o), (1, .int v)] []
  have h := Option.some.inj h
  refine g_iconst (v := nI 0) hX dJ7_fill_53178_0 (by decide) ?_
  refine g_istore_n (lv2 := [(2, .int (nI 0)), (0, xr K t o), (1, .int v)]) hX dJ7_fill_53178_1 rfl (by decide) rfl ?_
  refine g_aload_n hX dJ7_fill_53178_2 rfl 1 rfl ?_
  refine g_alen (q := 0) (v := nI n) (ty := .int) hX hV (hE _) rfl rfl dJ7_fill_53178_3 ?_
  refine g_istore_n (lv2 := [(3, .int (nI n)), (2, .int (nI 0)), (0, xr K t o), (1, .int v)]) hX dJ7_fill_53178_4 rfl (by decide) rfl ?_
  have L : ∀ d k, k + d = n → xG K X (xua S t o (fun j => if j < k then v else S t o j)) 5 [(2, .int (nI k)), (3, .int (nI n)), (0, xr K t o), (1, .int v)] [] := by
    intro d
    induction d with
    | zero =>
      intro k hk
      have hk : k = n := by omega
      subst hk
      refine g_iload_n hX dJ7_fill_53178_5 rfl 0 rfl ?_
      refine g_iload_n hX dJ7_fill_53178_6 rfl 1 rfl ?_
      refine g_icmp_ge hX 20 dJ7_fill_53178_7 (by decide) (fun _ => ?_) (fun hc => absurd (nI_le (Nat.le_refl k) hn) hc)
      exact g_vret hX hM h dJ7_fill_53178_20
    | succ d ih =>
      intro k hk
      refine g_iload_n hX dJ7_fill_53178_5 rfl 0 rfl ?_
      refine g_iload_n hX dJ7_fill_53178_6 rfl 1 rfl ?_
      refine g_icmp_ge hX 20 dJ7_fill_53178_7 (by decide) (fun hc => absurd hc (nI_ge (by omega) hn)) (fun _ => ?_)
      refine g_aload_n hX dJ7_fill_53178_10 rfl 2 rfl ?_
      refine g_iload_n hX dJ7_fill_53178_11 rfl 0 rfl ?_
      refine g_iload_n hX dJ7_fill_53178_12 rfl 3 rfl ?_
      refine g_iast (n := n) (S1 := xua S t o (fun j => if j < k + 1 then v else S t o j)) hX hV hE (vp_in_nI (by omega) hn) dJ7_fill_53178_13 ?_ ?_
      · rw [xup, xua_xua, xua_s, nI_clamp (by omega)]
        congr 1
        funext j
        simp only [upd]
        by_cases h1 : j = k
        · rw [if_pos h1, if_pos (by omega)]
        · rw [if_neg h1]
          by_cases h2 : j < k
          · rw [if_pos h2, if_pos (by omega)]
          · rw [if_neg h2, if_neg (by omega)]
      · refine g_iinc (v := nI (k + 1)) (lv2 := [(2, .int (nI (k + 1))), (3, .int (nI n)), (0, xr K t o), (1, .int v)]) hX dJ7_fill_53178_14 0 rfl (by rw [nI_succ]; rfl) (by decide) rfl ?_
        refine g_goto hX 5 dJ7_fill_53178_17 (by decide) ?_
        exact ih (k + 1) (by omega)
  have h0 := L n 0 (by omega)
  have e0 : xua S t o (fun j => if j < 0 then v else S t o j) = S := by
    have : (fun j => if j < 0 then v else S t o j) = S t o := by funext j; simp
    rw [this, xua_same]
  rw [e0] at h0
  exact g_sub [1, 0, 2, 3] rfl h0
set_option maxRecDepth 100000 in
theorem crange {l : Launch} {K : xK} (hvc : xVC (xvl K)) {S : xSt} {n a b : Int32} (h1 : a ≤ b) (h2 : 0 ≤ a) (h3 : b ≤ n) : xMet l K yJ7_rangeCheck_23922 cJ7_rangeCheck_23922 3 none 0 0 S [.int n, .int a, .int b] (S, none) := by
  refine xMet_of RJ7 (by decide +kernel) rfl hvc (Nat.le_of_ble_eq_true rfl) ?_
  intro X hX hM hR
  show xG K X S 0 [(0, .int n), (1, .int a), (2, .int b)] []
  refine g_iload_n hX dJ7_rangeCheck_23922_0 rfl 1 rfl ?_
  refine g_iload_n hX dJ7_rangeCheck_23922_1 rfl 2 rfl ?_
  refine g_icmp_le hX 46 dJ7_rangeCheck_23922_2 (by decide) (fun _ => ?_) (fun hc => absurd h1 hc)
  refine g_iload_n hX dJ7_rangeCheck_23922_46 rfl 1 rfl ?_
  refine g_if_ge hX 59 dJ7_rangeCheck_23922_47 (by decide) (fun _ => ?_) (fun hc => absurd h2 hc)
  refine g_iload_n hX dJ7_rangeCheck_23922_59 rfl 2 rfl ?_
  refine g_iload_n hX dJ7_rangeCheck_23922_60 rfl 0 rfl ?_
  refine g_icmp_le hX 73 dJ7_rangeCheck_23922_61 (by decide) (fun _ => ?_) (fun hc => absurd h3 hc)
  exact g_vret hX hM rfl dJ7_rangeCheck_23922_73
theorem xcJ7 : xCS RJ7 13 yJ7_rangeCheck_23922 cJ7_rangeCheck_23922 3 none 3 := ⟨⟨(Or.inl (xtb 257 (by decide +kernel) (by decide +kernel))), (xtb 24 (by decide +kernel) (by decide +kernel)), (xtb 259 rfl rfl), by decide +kernel, by decide +kernel, by decide +kernel⟩, (xtb 258 (by decide +kernel) (by decide +kernel))⟩
set_option maxRecDepth 100000 in
theorem cfill4 {l : Launch} {K : xK} {t o n : Nat} (hvc : xVC (xvl K)) (hV : (t, o) ∈ xvl K) (hE : ∀ f, xE K f t o = .inl (xcy K 0, n, .inl f)) {S : xSt} {a b v : Int32} {out : xR} (h : ffill4 S t o n a b v = some out) (hn : n < 2 ^ 31 := by decide) : xMet l K yJ7_fill_fda19 cJ7_fill_fda19 5 none 1 22 S [xr K t o, .int a, .int b, .int v] out := by
  refine xMet_of RJ7 (by decide +kernel) rfl hvc (Nat.le_of_ble_eq_true rfl) ?_
  intro X hX hM hR
  show xG K X S 0 [(0, xr K t o), (1, .int a), (2, .int b), (3, .int v)] []
  obtain ⟨⟨h1, h2, h3⟩, h⟩ := xne_inv h
  have h := Option.some.inj h
  obtain ⟨q, hq, rfl⟩ := nI_of2 (n := n) (nI_toInt hn) (fun hc => Int32.lt_irrefl (Int32.lt_of_lt_of_le hc (Int32.le_trans h2 h1))) h3
  obtain ⟨p, hp, rfl⟩ := nI_of2 (n := q) (nI_toInt (by omega)) (fun hc => Int32.lt_irrefl (Int32.lt_of_lt_of_le hc h2)) h1
  rw [nI_clamp (by omega), nI_clamp (by omega)] at h
  refine g_aload_n hX dJ7_fill_fda19_0 rfl 0 rfl ?_
  refine g_alen (q := 0) (v := nI n) (ty := .int) hX hV (hE _) rfl rfl dJ7_fill_fda19_1 ?_
  refine g_iload_n hX dJ7_fill_fda19_2 rfl 1 rfl ?_
  refine g_iload_n hX dJ7_fill_fda19_3 rfl 2 rfl ?_
  refine g_callS hX hR (fun l => crange (l := l) hX.vc h1 h2 h3) xcJ7 rfl ⟨by decide, by decide⟩ rfl rfl (Nat.le_of_ble_eq_true rfl) dJ7_fill_fda19_4 ?_
  refine g_iload_n hX dJ7_fill_fda19_7 rfl 1 rfl ?_
  refine g_istore (lv2 := [(4, .int (nI p)), (0, xr K t o), (1, .int (nI p)), (2, .int (nI q)), (3, .int v)]) hX dJ7_fill_fda19_8 (by decide) rfl ?_
  have L : ∀ d k, p ≤ k → k + d = q → xG K X (xua S t o (fun j => if p ≤ j ∧ j < k then v else S t o j)) 10 [(4, .int (nI k)), (0, xr K t o), (1, .int (nI p)), (2, .int (nI q)), (3, .int v)] [] := by
    intro d
    induction d with
    | zero =>
      intro k hpk hk
      have hk : k = q := by omega
      subst hk
      refine g_iload hX dJ7_fill_fda19_10 0 rfl ?_
      refine g_iload_n hX dJ7_fill_fda19_12 rfl 3 rfl ?_
      refine g_icmp_ge hX 27 dJ7_fill_fda19_13 (by decide) (fun _ => ?_) (fun hc => absurd (nI_le (Nat.le_refl k) (by omega)) hc)
      exact g_vret hX hM h dJ7_fill_fda19_27
    | succ d ih =>
      intro k hpk hk
      refine g_iload hX dJ7_fill_fda19_10 0 rfl ?_
      refine g_iload_n hX dJ7_fill_fda19_12 rfl 3 rfl ?_
      refine g_icmp_ge hX 27 dJ7_fill_fda19_13 (by decide) (fun hc => absurd hc (nI_ge (by omega) (by omega))) (fun _ => ?_)
      refine g_aload_n hX dJ7_fill_fda19_16 rfl 1 rfl ?_
      refine g_iload hX dJ7_fill_fda19_17 0 rfl ?_
      refine g_iload_n hX dJ7_fill_fda19_19 rfl 4 rfl ?_
      refine g_iast (n := n) (S1 := xua S t o (fun j => if p ≤ j ∧ j < k + 1 then v else S t o j)) hX hV hE (vp_in_nI (by omega) hn) dJ7_fill_fda19_20 ?_ ?_
      · rw [xup, xua_xua, xua_s, nI_clamp (by omega)]
        congr 1
        funext j
        simp only [upd]
        by_cases h1 : j = k
        · rw [if_pos h1, if_pos (by omega)]
        · rw [if_neg h1]
          by_cases h2 : p ≤ j ∧ j < k
          · rw [if_pos h2, if_pos (by omega)]
          · rw [if_neg h2, if_neg (by omega)]
      · refine g_iinc (v := nI (k + 1)) (lv2 := [(4, .int (nI (k + 1))), (0, xr K t o), (1, .int (nI p)), (2, .int (nI q)), (3, .int v)]) hX dJ7_fill_fda19_21 0 rfl (by rw [nI_succ]; rfl) (by decide) rfl ?_
        refine g_goto hX 10 dJ7_fill_fda19_24 (by decide) ?_
        exact ih (k + 1) (by omega) (by omega)
  have h0 := L (q - p) p (Nat.le_refl p) (by omega)
  have e0 : xua S t o (fun j => if p ≤ j ∧ j < p then v else S t o j) = S := by
    have : (fun j => if p ≤ j ∧ j < p then v else S t o j) = S t o := by
      funext j
      rw [if_neg (by omega)]
    rw [this, xua_same]
  rw [e0] at h0
  exact h0
end
section
def f6_isSetting (S : xSt)  (a0 : Int32) (a1 : Int32) : Option xR :=
  if a0 < 0 then
    xne ((0 : Int32) &&& 1 = (0 : Int32)) (some (S, some (.int (0 : Int32))))
  else
    if (2 : Int32) < a0 then
      xne ((0 : Int32) &&& 1 = (0 : Int32)) (some (S, some (.int (0 : Int32))))
    else
      xat a0 3 fun j1 =>
      if a1 < (xSf 0 j1) then
        xne ((0 : Int32) &&& 1 = (0 : Int32)) (some (S, some (.int (0 : Int32))))
      else
        xat a0 3 fun j2 =>
        if (xSf 1 j2) < a1 then
          xne ((0 : Int32) &&& 1 = (0 : Int32)) (some (S, some (.int (0 : Int32))))
        else
          xne ((1 : Int32) &&& 1 = (1 : Int32)) (some (S, some (.int (1 : Int32))))
def f6_copyState (S : xSt) (o1 : Nat) (o2 : Nat)  : Option xR :=
  xne (xcpok (0 : Int32) (0 : Int32) (3 : Int32) 3 3) <|
  xlet (xua S 22 o2 (va_cpy (S 22 o1) (S 22 o2) ((0 : Int32)).toNatClampNeg ((0 : Int32)).toNatClampNeg ((3 : Int32)).toNatClampNeg)) fun S1 =>
  xne (xcpok (0 : Int32) (0 : Int32) (240 : Int32) 240 240) <|
  xlet (xua S1 23 o2 (va_cpy (S1 23 o1) (S1 23 o2) ((0 : Int32)).toNatClampNeg ((0 : Int32)).toNatClampNeg ((240 : Int32)).toNatClampNeg)) fun S2 =>
  xne (xcpok (0 : Int32) (0 : Int32) (281 : Int32) 281 281) <|
  xlet (xua S2 24 o2 (va_cpy (S2 24 o1) (S2 24 o2) ((0 : Int32)).toNatClampNeg ((0 : Int32)).toNatClampNeg ((281 : Int32)).toNatClampNeg)) fun S3 =>
  xlet (xup S3 4 o2 3 (S3 4 o1 3)) fun S4 =>
  some (S4, none)
def f1_record_J19 (o1 : Nat)  (S : xSt) (k0 : Int32) : Option xR :=
  xlet (xup S 1 0 1 k0) fun S1 =>
  xlet (xup S1 1 0 2 (if (6 : Int32) < ((S1 1 0 2) + (1 : Int32)) then (6 : Int32) else ((S1 1 0 2) + (1 : Int32)))) fun S2 =>
  xat (S2 1 0 1) 6 fun j3 =>
  xbV (f6_copyState S2 o1 (1 + j3)) fun S4 =>
  some (S4, none)
def f1_record (S : xSt) (o1 : Nat)  : Option xR :=
  if (S 1 0 1) < (5 : Int32) then
    f1_record_J19 o1 S ((S 1 0 1) + (1 : Int32))
  else
    f1_record_J19 o1 S (0 : Int32)
def f4_mendCodes (S : xSt) (o : Nat)  : Option xR :=
  xbV (ffill2 S 24 o 281 (0 : Int32)) fun S1 =>
  some (S1, none)
def f0_dropPhrases (S : xSt) (o : Nat)  : Option xR :=
  xlet (xup S 0 o 4 (10 : Int32)) fun S1 =>
  xbV (ffill4 S1 13 o 4096 (0 : Int32) (80 : Int32) (0 : Int32)) fun S2 =>
  some (S2, none)
def f5_begin (S : xSt) (o : Nat) (a1 : Int32) : Option xR :=
  xbV (f0_dropPhrases S o) fun S1 =>
  xlet (xup S1 5 o 10 ((1 : Int32) <<< (a1 &&& 31))) fun S2 =>
  xlet (xup S2 5 o 6 (0 : Int32)) fun S3 =>
  xlet (xup S3 5 o 7 (0 : Int32)) fun S4 =>
  xlet (xup S4 5 o 8 (0 : Int32)) fun S5 =>
  xlet (xup S5 5 o 9 (0 : Int32)) fun S6 =>
  some (S6, none)
def b5_bitsOf_L6   (k6 : xSt → Int32 → Int32 → Option xR) (S : xSt) (i0 : Int32) (i1 : Int32) : Option xR :=
  xat (0 : Int32) 3 fun j1 =>
  if (xSf 1 j1) ≤ i1 then
    some (S, some (.int i1))
  else
    if (i0 >>> (i1 &&& 31)) = 0 then
      some (S, some (.int i1))
    else
      k6 S i0 (i1 + (1 : Int32))
def f5_bitsOf_L6   : Nat → xSt → Int32 → Int32 → Option xR
  | 0 => fun _ _ _ => none
  | n + 1 => b5_bitsOf_L6   (f5_bitsOf_L6   n)
def f5_bitsOf (S : xSt)  (a0 : Int32) : Option xR :=
  xat (0 : Int32) 3 fun j1 =>
  f5_bitsOf_L6 xFU S a0 (xSf 0 j1)
def f5_writeCode (S : xSt) (o : Nat) (a1 : Int32) (a2 : Int32) (a3 : Int32) : Option xR :=
  if (S 5 o 6) < (281 : Int32) then
    xbI (f5_bitsOf S ((S 0 o 4) - (1 : Int32))) fun S1 r2 =>
    xat (S1 5 o 6) 281 fun j3 =>
    xlet (xup S1 25 o j3 a1) fun S4 =>
    xat (S4 5 o 6) 281 fun j5 =>
    xlet (xup S4 26 o j5 r2) fun S6 =>
    xat (S6 5 o 6) 281 fun j7 =>
    xlet (xup S6 27 o j7 a2) fun S8 =>
    xat (S8 5 o 6) 281 fun j9 =>
    xlet (xup S8 28 o j9 a3) fun S10 =>
    xat (S10 5 o 6) 281 fun j11 =>
    xlet (xup S10 29 o j11 (S10 0 o 4)) fun S12 =>
    xlet (xup S12 5 o 7 ((S12 5 o 7) + r2)) fun S13 =>
    xlet (xup S13 5 o 6 ((S13 5 o 6) + (1 : Int32))) fun S14 =>
    some (S14, none)
  else
    some (S, none)
def b0_longestAt_L10 (o : Nat) (o1 : Nat)  (k10 : xSt → Int32 → Int32 → Int32 → Option xR) (S : xSt) (i3 : Int32) (i4 : Int32) (i5 : Int32) : Option xR :=
  if i3 ≤ i5 then
    some (S, some (.int i4))
  else
    xat i5 240 fun j1 =>
    xat ((i4 * (8 : Int32)) + (S 23 o1 j1)) 4096 fun j2 =>
    if (S 13 o j2) = 0 then
      some (S, some (.int i4))
    else
      k10 S i3 (S 13 o j2) (i5 + (1 : Int32))
def f0_longestAt_L10 (o : Nat) (o1 : Nat)  : Nat → xSt → Int32 → Int32 → Int32 → Option xR
  | 0 => fun _ _ _ _ => none
  | n + 1 => b0_longestAt_L10 o o1  (f0_longestAt_L10 o o1  n)
def f0_longestAt (S : xSt) (o : Nat) (o1 : Nat) (a2 : Int32) (a3 : Int32) : Option xR :=
  xat a2 240 fun j1 =>
  f0_longestAt_L10 o o1 xFU S a3 (S 23 o1 j1) (a2 + (1 : Int32))
def f0_addPhrase (S : xSt) (o : Nat) (a1 : Int32) (a2 : Int32) : Option xR :=
  if (S 0 o 4) < (512 : Int32) then
    xat (S 0 o 4) 512 fun j1 =>
    xlet (xup S 10 o j1 a1) fun S2 =>
    xat (S2 0 o 4) 512 fun j3 =>
    xlet (xup S2 11 o j3 a2) fun S4 =>
    xat a1 512 fun j5 =>
    xat (S4 0 o 4) 512 fun j6 =>
    xlet (xup S4 12 o j6 ((S4 12 o j5) + (1 : Int32))) fun S7 =>
    xat ((a1 * (8 : Int32)) + a2) 4096 fun j8 =>
    xlet (xup S7 13 o j8 (S7 0 o 4)) fun S9 =>
    xbV (ffill4 S9 13 o 4096 ((S9 0 o 4) * (8 : Int32)) (((S9 0 o 4) + (1 : Int32)) * (8 : Int32)) (0 : Int32)) fun S10 =>
    xlet (xup S10 0 o 4 ((S10 0 o 4) + (1 : Int32))) fun S11 =>
    some (S11, none)
  else
    some (S, none)
def f5_grow (S : xSt) (o : Nat) (a1 : Int32) (a2 : Int32) : Option xR :=
  if (S 0 o 4) < (S 5 o 10) then
    xbV (f0_addPhrase S o a1 a2) fun S1 =>
    xat a1 512 fun j2 =>
    xlet (xup S1 5 o 9 (if (S1 5 o 9) < ((S1 12 o j2) + (1 : Int32)) then ((S1 12 o j2) + (1 : Int32)) else (S1 5 o 9))) fun S3 =>
    xlet (xup S3 5 o 11 (S3 5 o 6)) fun S4 =>
    some (S4, none)
  else
    some (S, none)
def b5_signsOf_L5 (o : Nat)  (k5 : xSt → Int32 → Int32 → Int32 → Option xR) (S : xSt) (i2 : Int32) (i3 : Int32) (i4 : Int32) : Option xR :=
  if i2 ≤ i4 then
    some (S, some (.int i3))
  else
    xat i4 281 fun j1 =>
    k5 S i2 (i3 + (S 28 o j1)) (i4 + (1 : Int32))
def f5_signsOf_L5 (o : Nat)  : Nat → xSt → Int32 → Int32 → Int32 → Option xR
  | 0 => fun _ _ _ _ => none
  | n + 1 => b5_signsOf_L5 o  (f5_signsOf_L5 o  n)
def f5_signsOf (S : xSt) (o : Nat) (a1 : Int32) (a2 : Int32) : Option xR :=
  f5_signsOf_L5 o xFU S a2 (0 : Int32) a1
def f5_losesBy (S : xSt) (o : Nat) (a1 : Int32) : Option xR :=
  if ((2 : Int32) * a1) ≤ ((S 5 o 6) - (S 5 o 11)) then
    xbI (f5_signsOf S o ((S 5 o 6) - a1) (S 5 o 6)) fun S1 r2 =>
    xbI (f5_signsOf S1 o ((S1 5 o 6) - ((2 : Int32) * a1)) ((S1 5 o 6) - a1)) fun S3 r4 =>
    if r4 ≤ r2 then
      xne ((0 : Int32) &&& 1 = (0 : Int32)) (some (S3, some (.int (0 : Int32))))
    else
      xne ((1 : Int32) &&& 1 = (1 : Int32)) (some (S3, some (.int (1 : Int32))))
  else
    xne ((0 : Int32) &&& 1 = (0 : Int32)) (some (S, some (.int (0 : Int32))))
def f5_mustClear_J33 (o : Nat)  (S : xSt)  : Option xR :=
  xne ((1 : Int32) &&& 1 = (1 : Int32)) (some (S, some (.int (1 : Int32))))
def f5_mustClear (S : xSt) (o : Nat) (a1 : Int32) (a2 : Int32) : Option xR :=
  if a1 = 0 then
    xne ((0 : Int32) &&& 1 = (0 : Int32)) (some (S, some (.int (0 : Int32))))
  else
    if (S 5 o 10) ≤ (S 0 o 4) then
      if a1 = (1 : Int32) then
        f5_mustClear_J33 o S 
      else
        xbI (f5_losesBy S o a2) fun S1 r2 =>
        if r2 = 0 then
          xne ((0 : Int32) &&& 1 = (0 : Int32)) (some (S1, some (.int (0 : Int32))))
        else
          f5_mustClear_J33 o S1 
    else
      xne ((0 : Int32) &&& 1 = (0 : Int32)) (some (S, some (.int (0 : Int32))))
def f5_writeOut_J130 (o : Nat) (o1 : Nat)  (S : xSt)  : Option xR :=
  xbV (f5_writeCode S o (9 : Int32) (-6 : Int32) (0 : Int32)) fun S1 =>
  some (S1, none)
def f5_writeOut_J124 (o : Nat) (o1 : Nat) (k11 : xSt → Int32 → Int32 → Int32 → Int32 → Int32 → Option xR) (S : xSt) (i2 : Int32) (i4 : Int32) (i5 : Int32) (i6 : Int32) (i7 : Int32) : Option xR :=
  k11 S i2 i4 i5 i6 (i7 + (1 : Int32))
def b5_writeOut_L11 (o : Nat) (o1 : Nat)  (k11 : xSt → Int32 → Int32 → Int32 → Int32 → Int32 → Option xR) (S : xSt) (i2 : Int32) (i4 : Int32) (i5 : Int32) (i6 : Int32) (i7 : Int32) : Option xR :=
  if (240 : Int32) ≤ i7 then
    f5_writeOut_J130 o o1 S 
  else
    if i2 ≤ i6 then
      f5_writeOut_J130 o o1 S 
    else
      xbI (f0_longestAt S o o1 i6 i2) fun S1 r2 =>
      xat r2 512 fun j3 =>
      xbV (f5_writeCode S1 o r2 i6 (S1 12 o j3)) fun S4 =>
      xat r2 512 fun j5 =>
      if i2 ≤ (i6 + (S4 12 o j5)) then
        f5_writeOut_J124 o o1 k11 S4 i2 i4 i5 (i6 + (S4 12 o j5)) i7
      else
        xat (i6 + (S4 12 o j5)) 240 fun j6 =>
        xbV (f5_grow S4 o r2 (S4 23 o1 j6)) fun S7 =>
        xbI (f5_mustClear S7 o i4 i5) fun S8 r9 =>
        if r9 = 0 then
          f5_writeOut_J124 o o1 k11 S8 i2 i4 i5 (i6 + (S4 12 o j5)) i7
        else
          xbV (f5_writeCode S8 o (8 : Int32) (-6 : Int32) (0 : Int32)) fun S10 =>
          xlet (xup S10 5 o 8 ((S10 5 o 8) + (1 : Int32))) fun S11 =>
          xbV (f0_dropPhrases S11 o) fun S12 =>
          f5_writeOut_J124 o o1 k11 S12 i2 i4 i5 (i6 + (S4 12 o j5)) i7
def f5_writeOut_L11 (o : Nat) (o1 : Nat)  : Nat → xSt → Int32 → Int32 → Int32 → Int32 → Int32 → Option xR
  | 0 => fun _ _ _ _ _ _ => none
  | n + 1 => b5_writeOut_L11 o o1  (f5_writeOut_L11 o o1  n)
def f5_writeOut (S : xSt) (o : Nat) (o1 : Nat) (a2 : Int32) (a3 : Int32) (a4 : Int32) (a5 : Int32) : Option xR :=
  xbV (f5_begin S o a3) fun S1 =>
  f5_writeOut_L11 o o1 xFU S1 a2 a4 a5 (0 : Int32) (0 : Int32)
def f3_dropPhrases (S : xSt) (o : Nat)  : Option xR :=
  xlet (xup S 3 o 2 (10 : Int32)) fun S1 =>
  xlet (xup S1 3 o 10 (0 : Int32)) fun S2 =>
  some (S2, none)
def f3_begin (S : xSt) (o : Nat) (a1 : Int32) : Option xR :=
  xlet (xup S 3 o 8 ((1 : Int32) <<< (a1 &&& 31))) fun S1 =>
  xlet (xup S1 3 o 1 (0 : Int32)) fun S2 =>
  xlet (xup S2 3 o 3 (0 : Int32)) fun S3 =>
  xlet (xup S3 3 o 4 (-6 : Int32)) fun S4 =>
  xlet (xup S4 3 o 5 (0 : Int32)) fun S5 =>
  xbV (f3_dropPhrases S5 o) fun S6 =>
  some (S6, none)
def f3_noteFault (S : xSt) (o : Nat) (a1 : Int32) (a2 : Int32) : Option xR :=
  xlet (xup S 3 o 4 a1) fun S1 =>
  xlet (xup S1 3 o 5 a2) fun S2 =>
  some (S2, none)
def f3_canGrow (S : xSt) (o : Nat)  : Option xR :=
  if (S 3 o 10) ≤ 0 then
    xne ((0 : Int32) &&& 1 = (0 : Int32)) (some (S, some (.int (0 : Int32))))
  else
    if (S 3 o 8) ≤ (S 3 o 2) then
      xne ((0 : Int32) &&& 1 = (0 : Int32)) (some (S, some (.int (0 : Int32))))
    else
      if (512 : Int32) ≤ (S 3 o 2) then
        xne ((0 : Int32) &&& 1 = (0 : Int32)) (some (S, some (.int (0 : Int32))))
      else
        xne ((1 : Int32) &&& 1 = (1 : Int32)) (some (S, some (.int (1 : Int32))))
def f3_canStand_J27 (o : Nat)  (S : xSt)  : Option xR :=
  xne ((1 : Int32) &&& 1 = (1 : Int32)) (some (S, some (.int (1 : Int32))))
def f3_canStand (S : xSt) (o : Nat) (a1 : Int32) : Option xR :=
  if a1 < 0 then
    xne ((0 : Int32) &&& 1 = (0 : Int32)) (some (S, some (.int (0 : Int32))))
  else
    if a1 < (S 3 o 2) then
      f3_canStand_J27 o S 
    else
      if a1 = (S 3 o 2) then
        xbI (f3_canGrow S o) fun S1 r2 =>
        if r2 = 0 then
          xne ((0 : Int32) &&& 1 = (0 : Int32)) (some (S1, some (.int (0 : Int32))))
        else
          f3_canStand_J27 o S1 
      else
        xne ((0 : Int32) &&& 1 = (0 : Int32)) (some (S, some (.int (0 : Int32))))
def f3_readSign (S : xSt) (o : Nat) (a1 : Int32) : Option xR :=
  if (39621 : Int32) ≤ (S 3 o 1) then
    some (S, none)
  else
    xat (S 3 o 1) 39621 fun j1 =>
    xlet (xup S 19 o j1 a1) fun S2 =>
    xlet (xup S2 3 o 1 ((S2 3 o 1) + (1 : Int32))) fun S3 =>
    some (S3, none)
def b3_readPhrase_L2 (o : Nat)  (k2 : xSt → Int32 → Int32 → Int32 → Option xR) (S : xSt) (i1 : Int32) (i2 : Int32) (i3 : Int32) : Option xR :=
  if (i1 + i2) ≤ i3 then
    some (S, none)
  else
    if (S 3 o 1) ≤ i3 then
      some (S, none)
    else
      xat i3 39621 fun j1 =>
      xbV (f3_readSign S o (S 19 o j1)) fun S2 =>
      k2 S2 i1 i2 (i3 + (1 : Int32))
def f3_readPhrase_L2 (o : Nat)  : Nat → xSt → Int32 → Int32 → Int32 → Option xR
  | 0 => fun _ _ _ _ => none
  | n + 1 => b3_readPhrase_L2 o  (f3_readPhrase_L2 o  n)
def f3_readPhrase (S : xSt) (o : Nat) (a1 : Int32) (a2 : Int32) : Option xR :=
  f3_readPhrase_L2 o xFU S a1 a2 a1
def f3_readEntry_J67 (o : Nat)  (S : xSt) (i1 : Int32) : Option xR :=
  xlet (xup S 3 o 9 (S 3 o 1)) fun S1 =>
  if (8 : Int32) ≤ i1 then
    xat i1 512 fun j2 =>
    xlet (xup S1 3 o 10 (S1 21 o j2)) fun S3 =>
    xat i1 512 fun j4 =>
    xat i1 512 fun j5 =>
    xbV (f3_readPhrase S3 o (S3 20 o j4) (S3 21 o j5)) fun S6 =>
    some (S6, none)
  else
    xlet (xup S1 3 o 10 (1 : Int32)) fun S7 =>
    xbV (f3_readSign S7 o i1) fun S8 =>
    some (S8, none)
def f3_readEntry_J18 (o : Nat)  (S : xSt) (i1 : Int32) (k0 : Int32) (k1 : Int32) : Option xR :=
  xlet (xup S 3 o 3 (k1 + k0)) fun S1 =>
  xbI (f3_canGrow S1 o) fun S2 r3 =>
  if r3 = 0 then
    f3_readEntry_J67 o S2 i1
  else
    xat (S2 3 o 2) 512 fun j4 =>
    xlet (xup S2 20 o j4 (S2 3 o 9)) fun S5 =>
    xat (S5 3 o 2) 512 fun j6 =>
    xlet (xup S5 21 o j6 ((S5 3 o 10) + (1 : Int32))) fun S7 =>
    xlet (xup S7 3 o 2 ((S7 3 o 2) + (1 : Int32))) fun S8 =>
    f3_readEntry_J67 o S8 i1
def f3_readEntry (S : xSt) (o : Nat) (a1 : Int32) : Option xR :=
  if a1 = (S 3 o 2) then
    f3_readEntry_J18 o S a1 (1 : Int32) (S 3 o 3)
  else
    f3_readEntry_J18 o S a1 (0 : Int32) (S 3 o 3)
def f3_readAll_J91 (o : Nat) (o1 : Nat)  (S : xSt) (i2 : Int32) : Option xR :=
  xbV (f3_noteFault S o i2 (2 : Int32)) fun S1 =>
  some (S1, none)
def f3_readAll_J77 (o : Nat) (o1 : Nat)  (S : xSt) (i4 : Int32) : Option xR :=
  xbV (f3_noteFault S o i4 (1 : Int32)) fun S1 =>
  some (S1, none)
def f3_readAll_J85 (o : Nat) (o1 : Nat) (k8 : xSt → Int32 → Int32 → Option xR) (S : xSt) (i2 : Int32) (i4 : Int32) : Option xR :=
  k8 S i2 (i4 + (1 : Int32))
def f3_readAll_J27 (o : Nat) (o1 : Nat)  (S : xSt) (i2 : Int32) (i4 : Int32) : Option xR :=
  if i2 ≤ (i4 + (1 : Int32)) then
    some (S, none)
  else
    xbV (f3_noteFault S o (i4 + (1 : Int32)) (3 : Int32)) fun S1 =>
    some (S1, none)
def b3_readAll_L8 (o : Nat) (o1 : Nat)  (k8 : xSt → Int32 → Int32 → Option xR) (S : xSt) (i2 : Int32) (i4 : Int32) : Option xR :=
  if i2 ≤ i4 then
    f3_readAll_J91 o o1 S i2
  else
    xat i4 281 fun j1 =>
    if (S 32 o1 j1) = (9 : Int32) then
      f3_readAll_J27 o o1 S i2 i4
    else
      if (S 32 o1 j1) = (8 : Int32) then
        xbV (f3_dropPhrases S o) fun S5 =>
        f3_readAll_J85 o o1 k8 S5 i2 i4
      else
        xbI (f3_canStand S o (S 32 o1 j1)) fun S2 r3 =>
        if r3 = 0 then
          f3_readAll_J77 o o1 S2 i4
        else
          xbV (f3_readEntry S2 o (S 32 o1 j1)) fun S4 =>
          f3_readAll_J85 o o1 k8 S4 i2 i4
def f3_readAll_L8 (o : Nat) (o1 : Nat)  : Nat → xSt → Int32 → Int32 → Option xR
  | 0 => fun _ _ _ => none
  | n + 1 => b3_readAll_L8 o o1  (f3_readAll_L8 o o1  n)
def f3_readAll (S : xSt) (o : Nat) (o1 : Nat) (a2 : Int32) (a3 : Int32) : Option xR :=
  xbV (f3_begin S o a3) fun S1 =>
  f3_readAll_L8 o o1 xFU S1 a2 (0 : Int32)
def f6_refresh_J92   (S : xSt)  : Option xR :=
  xat (0 : Int32) 3 fun j1 =>
  xbV (f3_readAll S 0 0 (S 5 0 6) (S 22 0 j1)) fun S2 =>
  some (S2, none)
def b6_refresh_L50   (k50 : xSt → Int32 → Option xR) (S : xSt) (i1 : Int32) : Option xR :=
  if (S 5 0 6) ≤ i1 then
    f6_refresh_J92 S 
  else
    xat i1 281 fun j1 =>
    xat i1 281 fun j2 =>
    xat i1 281 fun j3 =>
    xlet (xup S 32 0 j3 ((S 25 0 j1) ^^^ (S 24 0 j2))) fun S4 =>
    k50 S4 (i1 + (1 : Int32))
def f6_refresh_L50   : Nat → xSt → Int32 → Option xR
  | 0 => fun _ _ => none
  | n + 1 => b6_refresh_L50   (f6_refresh_L50   n)
def f6_refresh (S : xSt)   : Option xR :=
  xat (0 : Int32) 3 fun j1 =>
  xat (1 : Int32) 3 fun j2 =>
  xat (2 : Int32) 3 fun j3 =>
  xbV (f5_writeOut S 0 0 (S 4 0 3) (S 22 0 j1) (S 22 0 j2) (S 22 0 j3)) fun S4 =>
  f6_refresh_L50 xFU S4 (0 : Int32)
def f6_set (S : xSt)  (a1 : Int32) (a2 : Int32) : Option xR :=
  xbI (f6_isSetting S a1 a2) fun S1 r2 =>
  if r2 = 0 then
    some (S1, some (.int (-2 : Int32)))
  else
    xbV (f1_record S1 0) fun S3 =>
    xat a1 3 fun j4 =>
    xat a1 3 fun j5 =>
    xlet (xup S3 22 0 j5 a2) fun S6 =>
    xbV (f4_mendCodes S6 0) fun S7 =>
    xbV (f6_refresh S7) fun S8 =>
    some (S8, some (.int (S3 22 0 j4)))
def f6_add (S : xSt)  (a1 : Int32) (a2 : Int32) : Option xR :=
  if a1 < 0 then
    some (S, some (.int (-2 : Int32)))
  else
    if (8 : Int32) ≤ a1 then
      some (S, some (.int (-2 : Int32)))
    else
      if a2 < (1 : Int32) then
        some (S, some (.int (-2 : Int32)))
      else
        if a2 ≤ (240 : Int32) then
          if ((S 4 0 3) + a2) ≤ (240 : Int32) then
            xbV (f1_record S 0) fun S1 =>
            xbV (ffill4 S1 23 0 240 (S1 4 0 3) ((S1 4 0 3) + a2) a1) fun S2 =>
            xlet (xup S2 4 0 3 ((S2 4 0 3) + a2)) fun S3 =>
            xbV (f4_mendCodes S3 0) fun S4 =>
            xbV (f6_refresh S4) fun S5 =>
            some (S5, some (.int (S5 4 0 3)))
          else
            some (S, some (.int (-4 : Int32)))
        else
          some (S, some (.int (-2 : Int32)))
def f6_cut (S : xSt)  (a1 : Int32) : Option xR :=
  if a1 < (1 : Int32) then
    some (S, some (.int (-2 : Int32)))
  else
    if a1 ≤ (240 : Int32) then
      if a1 ≤ (S 4 0 3) then
        xbV (f1_record S 0) fun S1 =>
        xlet (xup S1 4 0 3 ((S1 4 0 3) - a1)) fun S2 =>
        xbV (f4_mendCodes S2 0) fun S3 =>
        xbV (f6_refresh S3) fun S4 =>
        some (S4, some (.int (S4 4 0 3)))
      else
        some (S, some (.int (-5 : Int32)))
    else
      some (S, some (.int (-2 : Int32)))
def f6_isCode (S : xSt)  (a1 : Int32) : Option xR :=
  if a1 < 0 then
    xne ((0 : Int32) &&& 1 = (0 : Int32)) (some (S, some (.int (0 : Int32))))
  else
    if (S 5 0 6) ≤ a1 then
      xne ((0 : Int32) &&& 1 = (0 : Int32)) (some (S, some (.int (0 : Int32))))
    else
      if (281 : Int32) ≤ a1 then
        xne ((0 : Int32) &&& 1 = (0 : Int32)) (some (S, some (.int (0 : Int32))))
      else
        xne ((1 : Int32) &&& 1 = (1 : Int32)) (some (S, some (.int (1 : Int32))))
def f6_spoil (S : xSt)  (a1 : Int32) (a2 : Int32) : Option xR :=
  xbI (f6_isCode S a1) fun S1 r2 =>
  if r2 = 0 then
    some (S1, some (.int (-1 : Int32)))
  else
    if a2 < (1 : Int32) then
      some (S1, some (.int (-2 : Int32)))
    else
      if a2 ≤ (511 : Int32) then
        xbV (f1_record S1 0) fun S3 =>
        xat a1 281 fun j4 =>
        xat a1 281 fun j5 =>
        xlet (xup S3 24 0 j5 ((S3 24 0 j4) ^^^ a2)) fun S6 =>
        xbV (f6_refresh S6) fun S7 =>
        xat a1 281 fun j8 =>
        some (S7, some (.int (S7 32 0 j8)))
      else
        some (S1, some (.int (-2 : Int32)))
def f6_sign_J15   (S : xSt)  : Option xR :=
  some (S, some (.int (-1 : Int32)))
def f6_sign (S : xSt)  (a1 : Int32) : Option xR :=
  if a1 < 0 then
    f6_sign_J15 S 
  else
    if a1 < (S 4 0 3) then
      xat a1 240 fun j1 =>
      some (S, some (.int (S 23 0 j1)))
    else
      f6_sign_J15 S 
def f6_ofCode (S : xSt)  (a1 : Int32) (a2 : Int32) : Option xR :=
  xbI (f6_isCode S a1) fun S1 r2 =>
  if r2 = 0 then
    some (S1, some (.int (-1 : Int32)))
  else
    if a2.toInt < 0 ∨ 5 < a2.toInt then
      some (S1, some (.int (-2 : Int32)))
    else match (a2.toInt - 0).toNat with
    | 0 =>
      xat a1 281 fun j3 =>
      some (S1, some (.int (S1 25 0 j3)))
    | 1 =>
      xat a1 281 fun j4 =>
      some (S1, some (.int (S1 32 0 j4)))
    | 2 =>
      xat a1 281 fun j5 =>
      some (S1, some (.int (S1 26 0 j5)))
    | 3 =>
      xat a1 281 fun j6 =>
      some (S1, some (.int (S1 27 0 j6)))
    | 4 =>
      xat a1 281 fun j7 =>
      some (S1, some (.int (S1 28 0 j7)))
    | 5 =>
      xat a1 281 fun j8 =>
      some (S1, some (.int (S1 29 0 j8)))
    | _ => none
def f4_countSpoiled_J26 (o : Nat) (k4 : xSt → Int32 → Int32 → Option xR) (S : xSt) (i2 : Int32) (k0 : Int32) (k1 : Int32) : Option xR :=
  k4 S (k1 + k0) (i2 + (1 : Int32))
def b4_countSpoiled_L4 (o : Nat)  (k4 : xSt → Int32 → Int32 → Option xR) (S : xSt) (i1 : Int32) (i2 : Int32) : Option xR :=
  if (281 : Int32) ≤ i2 then
    some (S, some (.int i1))
  else
    xat i2 281 fun j1 =>
    if (S 24 o j1) = 0 then
      f4_countSpoiled_J26 o k4 S i2 (0 : Int32) i1
    else
      f4_countSpoiled_J26 o k4 S i2 (1 : Int32) i1
def f4_countSpoiled_L4 (o : Nat)  : Nat → xSt → Int32 → Int32 → Option xR
  | 0 => fun _ _ _ => none
  | n + 1 => b4_countSpoiled_L4 o  (f4_countSpoiled_L4 o  n)
def f4_countSpoiled (S : xSt) (o : Nat)  : Option xR :=
  f4_countSpoiled_L4 o xFU S (0 : Int32) (0 : Int32)
def f6_count (S : xSt)  (a1 : Int32) : Option xR :=
  if a1.toInt < 0 ∨ 11 < a1.toInt then
    some (S, some (.int (-2 : Int32)))
  else match (a1.toInt - 0).toNat with
  | 0 =>
    some (S, some (.int (S 4 0 3)))
  | 1 =>
    some (S, some (.int (S 5 0 6)))
  | 2 =>
    some (S, some (.int (S 5 0 7)))
  | 3 =>
    some (S, some (.int (S 5 0 8)))
  | 4 =>
    some (S, some (.int (S 0 0 4)))
  | 5 =>
    some (S, some (.int (S 5 0 9)))
  | 6 =>
    xbI (f4_countSpoiled S 0) fun S1 r2 =>
    some (S1, some (.int r2))
  | 7 =>
    some (S, some (.int (S 2 0 4)))
  | 8 =>
    some (S, some (.int (S 1 0 2)))
  | 9 =>
    xat (0 : Int32) 3 fun j3 =>
    some (S, some (.int (S 22 0 j3)))
  | 10 =>
    xat (1 : Int32) 3 fun j4 =>
    some (S, some (.int (S 22 0 j4)))
  | 11 =>
    xat (2 : Int32) 3 fun j5 =>
    some (S, some (.int (S 22 0 j5)))
  | _ => none
def f6_entry (S : xSt)  (a1 : Int32) (a2 : Int32) : Option xR :=
  if a1 < 0 then
    some (S, some (.int (-1 : Int32)))
  else
    if (S 0 0 4) ≤ a1 then
      some (S, some (.int (-1 : Int32)))
    else
      if a1 < (512 : Int32) then
        if a2.toInt < 0 ∨ 2 < a2.toInt then
          some (S, some (.int (-2 : Int32)))
        else match (a2.toInt - 0).toNat with
        | 0 =>
          xat a1 512 fun j1 =>
          some (S, some (.int (S 12 0 j1)))
        | 1 =>
          xat a1 512 fun j2 =>
          some (S, some (.int (S 11 0 j2)))
        | 2 =>
          xat a1 512 fun j3 =>
          some (S, some (.int (S 10 0 j3)))
        | _ => none
      else
        some (S, some (.int (-1 : Int32)))
def f3_firstDifference_J41 (o : Nat) (o1 : Nat)  (S : xSt) (i2 : Int32) (i3 : Int32) : Option xR :=
  if (S 3 o 1) = i2 then
    some (S, some (.int (-6 : Int32)))
  else
    some (S, some (.int i3))
def b3_firstDifference_L12 (o : Nat) (o1 : Nat)  (k12 : xSt → Int32 → Int32 → Int32 → Option xR) (S : xSt) (i2 : Int32) (i3 : Int32) (i4 : Int32) : Option xR :=
  if i3 ≤ i4 then
    f3_firstDifference_J41 o o1 S i2 i3
  else
    xat i4 39621 fun j1 =>
    xat i4 240 fun j2 =>
    if (S 19 o j1) = (S 23 o1 j2) then
      k12 S i2 i3 (i4 + (1 : Int32))
    else
      some (S, some (.int i4))
def f3_firstDifference_L12 (o : Nat) (o1 : Nat)  : Nat → xSt → Int32 → Int32 → Int32 → Option xR
  | 0 => fun _ _ _ _ => none
  | n + 1 => b3_firstDifference_L12 o o1  (f3_firstDifference_L12 o o1  n)
def f3_firstDifference (S : xSt) (o : Nat) (o1 : Nat) (a2 : Int32) : Option xR :=
  f3_firstDifference_L12 o o1 xFU S a2 (if a2 < (S 3 o 1) then a2 else (S 3 o 1)) (0 : Int32)
def f6_reading (S : xSt)  (a1 : Int32) : Option xR :=
  if a1.toInt < 0 ∨ 5 < a1.toInt then
    some (S, some (.int (-2 : Int32)))
  else match (a1.toInt - 0).toNat with
  | 0 =>
    some (S, some (.int (S 3 0 1)))
  | 1 =>
    some (S, some (.int (S 3 0 4)))
  | 2 =>
    some (S, some (.int (S 3 0 5)))
  | 3 =>
    some (S, some (.int (S 3 0 2)))
  | 4 =>
    some (S, some (.int (S 3 0 3)))
  | 5 =>
    xbI (f3_firstDifference S 0 0 (S 4 0 3)) fun S1 r2 =>
    some (S1, some (.int r2))
  | _ => none
def f6_read_J21   (S : xSt)  : Option xR :=
  some (S, some (.int (-1 : Int32)))
def f6_read (S : xSt)  (a1 : Int32) : Option xR :=
  if a1 < 0 then
    f6_read_J21 S 
  else
    if (S 3 0 1) ≤ a1 then
      f6_read_J21 S 
    else
      if a1 < (39621 : Int32) then
        xat a1 39621 fun j1 =>
        some (S, some (.int (S 19 0 j1)))
      else
        f6_read_J21 S 
def fW_cell_J28  (L : Nat) (xs : Nat → Int32)  (S : xSt) (i2 : Int32) (k0 : Int32) : Option xR :=
  xne (¬ i2 = 0) <|
  some (S, some (.int (k0 - k0 / i2 * i2)))
def fW_cell (S : xSt)  (L : Nat) (xs : Nat → Int32) (a1 : Int32) (a2 : Int32) : Option xR :=
  if (nI L) = 0 then
    fW_cell_J28 L xs S a2 ((a1 * (37 : Int32)) + (5 : Int32))
  else
    xne (¬ (nI L) = 0) <|
    xat (a1 - a1 / (nI L) * (nI L)) L fun j1 =>
    xne (¬ (7 : Int32) = 0) <|
    fW_cell_J28 L xs S a2 (((xs j1) >>> ((a1 - a1 / (7 : Int32) * (7 : Int32)) &&& 31)) &&& (4194303 : Int32))
def bW_bits_L2   (k2 : xSt → Int32 → Int32 → Option xR) (S : xSt) (i0 : Int32) (i1 : Int32) : Option xR :=
  if (i0 - (1 : Int32)) < ((1 : Int32) <<< (i1 &&& 31)) then
    some (S, some (.int i1))
  else
    k2 S i0 (i1 + (1 : Int32))
def fW_bits_L2   : Nat → xSt → Int32 → Int32 → Option xR
  | 0 => fun _ _ _ => none
  | n + 1 => bW_bits_L2   (fW_bits_L2   n)
def fW_bits (S : xSt)  (a0 : Int32) : Option xR :=
  fW_bits_L2 xFU S a0 (4 : Int32)
def fW_isAlike_J67  (k32 : xSt → Int32 → Int32 → Int32 → Int32 → Int32 → Option xR) (S : xSt) (i1 : Int32) (i2 : Int32) (i3 : Int32) (i5 : Int32) (k0 : Int32) : Option xR :=
  k32 S i1 i2 i3 k0 (i5 + (1 : Int32))
def bW_isAlike_L32   (k32 : xSt → Int32 → Int32 → Int32 → Int32 → Int32 → Option xR) (S : xSt) (i1 : Int32) (i2 : Int32) (i3 : Int32) (i4 : Int32) (i5 : Int32) : Option xR :=
  if i3 ≤ i5 then
    xne (i4 &&& 1 = i4) (some (S, some (.int i4)))
  else
    if i4 = 0 then
      xne (i4 &&& 1 = i4) (some (S, some (.int i4)))
    else
      xbI (f6_sign S (i1 + i5)) fun S1 r2 =>
      xbI (f6_sign S1 (i2 + i5)) fun S3 r4 =>
      if r2 = r4 then
        fW_isAlike_J67 k32 S3 i1 i2 i3 i5 (1 : Int32)
      else
        fW_isAlike_J67 k32 S3 i1 i2 i3 i5 (0 : Int32)
def fW_isAlike_L32   : Nat → xSt → Int32 → Int32 → Int32 → Int32 → Int32 → Option xR
  | 0 => fun _ _ _ _ _ _ => none
  | n + 1 => bW_isAlike_L32   (fW_isAlike_L32   n)
def fW_isAlike_J27   (S : xSt) (i1 : Int32) (i2 : Int32) (i3 : Int32) (k0 : Int32) : Option xR :=
  fW_isAlike_L32 xFU S i1 i2 i3 k0 (0 : Int32)
def fW_isAlike_J26   (S : xSt) (i1 : Int32) (i2 : Int32) (i3 : Int32) : Option xR :=
  fW_isAlike_J27 S i1 i2 i3 (0 : Int32)
def fW_isAlike (S : xSt)  (a1 : Int32) (a2 : Int32) (a3 : Int32) : Option xR :=
  xbI (f6_count S (0 : Int32)) fun S1 r2 =>
  if r2 < (a1 + a3) then
    fW_isAlike_J26 S1 a1 a2 a3
  else
    xbI (f6_count S1 (0 : Int32)) fun S3 r4 =>
    if r4 < (a2 + a3) then
      fW_isAlike_J26 S3 a1 a2 a3
    else
      fW_isAlike_J27 S3 a1 a2 a3 (1 : Int32)
def fW_areCodes_J695   (S : xSt) (i1 : Int32) (i2 : Int32) (i9 : Int32) (i11 : Int32) (i13 : Int32) (i14 : Int32) (i15 : Int32) : Option xR :=
  if i9 = i2 then
    xbI (f6_count S (2 : Int32)) fun S1 r2 =>
    if r2 = i13 then
      xbI (f6_count S1 (3 : Int32)) fun S3 r4 =>
      if r4 = i14 then
        xbI (f6_count S3 (4 : Int32)) fun S5 r6 =>
        if r6 = i11 then
          xbI (f6_count S5 (5 : Int32)) fun S7 r8 =>
          if r8 = i15 then
            xbI (f6_ofCode S7 i1 (0 : Int32)) fun S9 r10 =>
            if r10 = (-1 : Int32) then
              xne ((1 : Int32) &&& 1 = (1 : Int32)) (some (S9, some (.int (1 : Int32))))
            else
              xne ((0 : Int32) &&& 1 = (0 : Int32)) (some (S9, some (.int (0 : Int32))))
          else
            xne ((0 : Int32) &&& 1 = (0 : Int32)) (some (S7, some (.int (0 : Int32))))
        else
          xne ((0 : Int32) &&& 1 = (0 : Int32)) (some (S5, some (.int (0 : Int32))))
      else
        xne ((0 : Int32) &&& 1 = (0 : Int32)) (some (S3, some (.int (0 : Int32))))
    else
      xne ((0 : Int32) &&& 1 = (0 : Int32)) (some (S1, some (.int (0 : Int32))))
  else
    xne ((0 : Int32) &&& 1 = (0 : Int32)) (some (S, some (.int (0 : Int32))))
def fW_areCodes_J689  (k134 : xSt → Int32 → Int32 → Int32 → Int32 → Int32 → Int32 → Int32 → Int32 → Int32 → Int32 → Int32 → Int32 → Int32 → Int32 → Option xR) (S : xSt) (i1 : Int32) (i2 : Int32) (i3 : Int32) (i4 : Int32) (i5 : Int32) (i9 : Int32) (i10 : Int32) (i11 : Int32) (i12 : Int32) (i13 : Int32) (i14 : Int32) (i15 : Int32) (i16 : Int32) (i17 : Int32) : Option xR :=
  k134 S i1 i2 i3 i4 i5 i9 i10 i11 i12 i13 i14 i15 i16 (i17 + (1 : Int32))
def fW_areCodes_J270  (k134 : xSt → Int32 → Int32 → Int32 → Int32 → Int32 → Int32 → Int32 → Int32 → Int32 → Int32 → Int32 → Int32 → Int32 → Int32 → Option xR) (S : xSt) (i1 : Int32) (i2 : Int32) (i3 : Int32) (i4 : Int32) (i5 : Int32) (i9 : Int32) (i12 : Int32) (i13 : Int32) (i14 : Int32) (i15 : Int32) (i17 : Int32) (k0 : Int32) : Option xR :=
  fW_areCodes_J689 k134 S i1 i2 i3 i4 i5 i9 (i17 + (1 : Int32)) k0 i12 i13 i14 i15 (0 : Int32) i17
def fW_areCodes_J255  (k134 : xSt → Int32 → Int32 → Int32 → Int32 → Int32 → Int32 → Int32 → Int32 → Int32 → Int32 → Int32 → Int32 → Int32 → Int32 → Option xR) (S : xSt) (i1 : Int32) (i2 : Int32) (i3 : Int32) (i4 : Int32) (i5 : Int32) (i9 : Int32) (i11 : Int32) (i12 : Int32) (i13 : Int32) (i15 : Int32) (i16 : Int32) (i17 : Int32) (k0 : Int32) (k1 : Int32) : Option xR :=
  if i16 = 0 then
    fW_areCodes_J270 k134 S i1 i2 i3 i4 i5 i9 i12 i13 (k1 + k0) i15 i17 i11
  else
    fW_areCodes_J270 k134 S i1 i2 i3 i4 i5 i9 i12 i13 (k1 + k0) i15 i17 (10 : Int32)
def fW_areCodes_J243  (k134 : xSt → Int32 → Int32 → Int32 → Int32 → Int32 → Int32 → Int32 → Int32 → Int32 → Int32 → Int32 → Int32 → Int32 → Int32 → Option xR) (S : xSt) (i1 : Int32) (i2 : Int32) (i3 : Int32) (i4 : Int32) (i5 : Int32) (i9 : Int32) (i11 : Int32) (i12 : Int32) (i13 : Int32) (i14 : Int32) (i15 : Int32) (i16 : Int32) (i17 : Int32) : Option xR :=
  if i16 = 0 then
    fW_areCodes_J255 k134 S i1 i2 i3 i4 i5 i9 i11 i12 i13 i15 i16 i17 (0 : Int32) i14
  else
    fW_areCodes_J255 k134 S i1 i2 i3 i4 i5 i9 i11 i12 i13 i15 i16 i17 (1 : Int32) i14
def fW_areCodes_J207  (k134 : xSt → Int32 → Int32 → Int32 → Int32 → Int32 → Int32 → Int32 → Int32 → Int32 → Int32 → Int32 → Int32 → Int32 → Int32 → Option xR) (S : xSt) (i1 : Int32) (i2 : Int32) (i3 : Int32) (i4 : Int32) (i5 : Int32) (i9 : Int32) (i11 : Int32) (i12 : Int32) (i13 : Int32) (i14 : Int32) (i15 : Int32) (i16 : Int32) (i17 : Int32) (k0 : Int32) (k1 : Int32) : Option xR :=
  if k1 = k0 then
    xat i17 64 fun j1 =>
    if (S 33 1 j1) = (-6 : Int32) then
      xat i17 64 fun j2 =>
      if (S 33 2 j2) = 0 then
        if i16 = 0 then
          if i17 = (i1 - (1 : Int32)) then
            fW_areCodes_J243 k134 S i1 i2 i3 i4 i5 i9 i11 i12 i13 i14 i15 i16 i17
          else
            xne ((0 : Int32) &&& 1 = (0 : Int32)) (some (S, some (.int (0 : Int32))))
        else
          fW_areCodes_J243 k134 S i1 i2 i3 i4 i5 i9 i11 i12 i13 i14 i15 i16 i17
      else
        xne ((0 : Int32) &&& 1 = (0 : Int32)) (some (S, some (.int (0 : Int32))))
    else
      xne ((0 : Int32) &&& 1 = (0 : Int32)) (some (S, some (.int (0 : Int32))))
  else
    xne ((0 : Int32) &&& 1 = (0 : Int32)) (some (S, some (.int (0 : Int32))))
def fW_areCodes_J190  (k134 : xSt → Int32 → Int32 → Int32 → Int32 → Int32 → Int32 → Int32 → Int32 → Int32 → Int32 → Int32 → Int32 → Int32 → Int32 → Option xR) (S : xSt) (i1 : Int32) (i2 : Int32) (i3 : Int32) (i4 : Int32) (i5 : Int32) (i9 : Int32) (i11 : Int32) (i12 : Int32) (i13 : Int32) (i14 : Int32) (i15 : Int32) (i16 : Int32) (i17 : Int32) : Option xR :=
  xat i17 64 fun j1 =>
  if i16 = 0 then
    fW_areCodes_J207 k134 S i1 i2 i3 i4 i5 i9 i11 i12 i13 i14 i15 i16 i17 (9 : Int32) (S 33 0 j1)
  else
    fW_areCodes_J207 k134 S i1 i2 i3 i4 i5 i9 i11 i12 i13 i14 i15 i16 i17 (8 : Int32) (S 33 0 j1)
def fW_areCodes_J687  (k134 : xSt → Int32 → Int32 → Int32 → Int32 → Int32 → Int32 → Int32 → Int32 → Int32 → Int32 → Int32 → Int32 → Int32 → Int32 → Option xR) (S : xSt) (i1 : Int32) (i2 : Int32) (i3 : Int32) (i4 : Int32) (i5 : Int32) (i9 : Int32) (i10 : Int32) (i11 : Int32) (i12 : Int32) (i13 : Int32) (i14 : Int32) (i15 : Int32) (i17 : Int32) (k0 : Int32) : Option xR :=
  fW_areCodes_J689 k134 S i1 i2 i3 i4 i5 i9 i10 i11 i12 i13 i14 i15 k0 i17
def fW_areCodes_J686  (k134 : xSt → Int32 → Int32 → Int32 → Int32 → Int32 → Int32 → Int32 → Int32 → Int32 → Int32 → Int32 → Int32 → Int32 → Int32 → Option xR) (S : xSt) (i1 : Int32) (i2 : Int32) (i3 : Int32) (i4 : Int32) (i5 : Int32) (i9 : Int32) (i10 : Int32) (i11 : Int32) (i12 : Int32) (i13 : Int32) (i14 : Int32) (i15 : Int32) (i17 : Int32) : Option xR :=
  fW_areCodes_J687 k134 S i1 i2 i3 i4 i5 i9 i10 i11 i12 i13 i14 i15 i17 (0 : Int32)
def fW_areCodes_J682  (k134 : xSt → Int32 → Int32 → Int32 → Int32 → Int32 → Int32 → Int32 → Int32 → Int32 → Int32 → Int32 → Int32 → Int32 → Int32 → Option xR) (S : xSt) (i1 : Int32) (i2 : Int32) (i3 : Int32) (i4 : Int32) (i5 : Int32) (i9 : Int32) (i10 : Int32) (i11 : Int32) (i12 : Int32) (i13 : Int32) (i14 : Int32) (i15 : Int32) (i17 : Int32) : Option xR :=
  fW_areCodes_J687 k134 S i1 i2 i3 i4 i5 i9 i10 i11 i12 i13 i14 i15 i17 (1 : Int32)
def fW_areCodes_J657  (k134 : xSt → Int32 → Int32 → Int32 → Int32 → Int32 → Int32 → Int32 → Int32 → Int32 → Int32 → Int32 → Int32 → Int32 → Int32 → Option xR) (S : xSt) (i1 : Int32) (i2 : Int32) (i3 : Int32) (i4 : Int32) (i5 : Int32) (i9 : Int32) (i10 : Int32) (i11 : Int32) (i12 : Int32) (i13 : Int32) (i14 : Int32) (i15 : Int32) (i17 : Int32) (i20 : Int32) (i21 : Int32) : Option xR :=
  if i11 = i3 then
    if i4 = (1 : Int32) then
      fW_areCodes_J682 k134 S i1 i2 i3 i4 i5 i9 i10 i11 i12 i13 i14 i15 i17
    else
      if i4 = (2 : Int32) then
        if i21 ≤ i20 then
          fW_areCodes_J686 k134 S i1 i2 i3 i4 i5 i9 i10 i11 i12 i13 i14 i15 i17
        else
          fW_areCodes_J682 k134 S i1 i2 i3 i4 i5 i9 i10 i11 i12 i13 i14 i15 i17
      else
        fW_areCodes_J686 k134 S i1 i2 i3 i4 i5 i9 i10 i11 i12 i13 i14 i15 i17
  else
    fW_areCodes_J686 k134 S i1 i2 i3 i4 i5 i9 i10 i11 i12 i13 i14 i15 i17
def bW_areCodes_L601  (k134 : xSt → Int32 → Int32 → Int32 → Int32 → Int32 → Int32 → Int32 → Int32 → Int32 → Int32 → Int32 → Int32 → Int32 → Int32 → Option xR) (k601 : xSt → Int32 → Int32 → Int32 → Int32 → Int32 → Int32 → Int32 → Int32 → Int32 → Int32 → Int32 → Int32 → Int32 → Int32 → Int32 → Int32 → Option xR) (S : xSt) (i1 : Int32) (i2 : Int32) (i3 : Int32) (i4 : Int32) (i5 : Int32) (i9 : Int32) (i10 : Int32) (i11 : Int32) (i12 : Int32) (i13 : Int32) (i14 : Int32) (i15 : Int32) (i17 : Int32) (i20 : Int32) (i21 : Int32) (i22 : Int32) : Option xR :=
  if i5 ≤ i22 then
    fW_areCodes_J657 k134 S i1 i2 i3 i4 i5 i9 i10 i11 i12 i13 i14 i15 i17 i20 i21
  else
    if ((i17 + (1 : Int32)) - i12) < ((2 : Int32) * i5) then
      fW_areCodes_J657 k134 S i1 i2 i3 i4 i5 i9 i10 i11 i12 i13 i14 i15 i17 i20 i21
    else
      xat (i17 - i22) 64 fun j1 =>
      xat ((i17 - i5) - i22) 64 fun j2 =>
      k601 S i1 i2 i3 i4 i5 i9 i10 i11 i12 i13 i14 i15 i17 (i20 + (S 33 2 j1)) (i21 + (S 33 2 j2)) (i22 + (1 : Int32))
def fW_areCodes_L601  (k134 : xSt → Int32 → Int32 → Int32 → Int32 → Int32 → Int32 → Int32 → Int32 → Int32 → Int32 → Int32 → Int32 → Int32 → Int32 → Option xR) : Nat → xSt → Int32 → Int32 → Int32 → Int32 → Int32 → Int32 → Int32 → Int32 → Int32 → Int32 → Int32 → Int32 → Int32 → Int32 → Int32 → Int32 → Option xR
  | 0 => fun _ _ _ _ _ _ _ _ _ _ _ _ _ _ _ _ _ => none
  | n + 1 => bW_areCodes_L601  k134 (fW_areCodes_L601  k134 n)
def fW_areCodes_J590  (k134 : xSt → Int32 → Int32 → Int32 → Int32 → Int32 → Int32 → Int32 → Int32 → Int32 → Int32 → Int32 → Int32 → Int32 → Int32 → Option xR) (S : xSt) (i1 : Int32) (i2 : Int32) (i3 : Int32) (i4 : Int32) (i5 : Int32) (i9 : Int32) (i10 : Int32) (i11 : Int32) (i13 : Int32) (i14 : Int32) (i15 : Int32) (i17 : Int32) (k0 : Int32) : Option xR :=
  fW_areCodes_L601 k134 xFU S i1 i2 i3 i4 i5 i9 i10 i11 k0 i13 i14 i15 i17 (0 : Int32) (0 : Int32) (0 : Int32)
def fW_areCodes_J574  (k134 : xSt → Int32 → Int32 → Int32 → Int32 → Int32 → Int32 → Int32 → Int32 → Int32 → Int32 → Int32 → Int32 → Int32 → Int32 → Option xR) (S : xSt) (i1 : Int32) (i2 : Int32) (i3 : Int32) (i4 : Int32) (i5 : Int32) (i9 : Int32) (i10 : Int32) (i11 : Int32) (i12 : Int32) (i13 : Int32) (i14 : Int32) (i17 : Int32) (i19 : Int32) (k0 : Int32) : Option xR :=
  if i19 = 0 then
    fW_areCodes_J590 k134 S i1 i2 i3 i4 i5 i9 i10 i11 i13 i14 k0 i17 i12
  else
    fW_areCodes_J590 k134 S i1 i2 i3 i4 i5 i9 i10 i11 i13 i14 k0 i17 (i17 + (1 : Int32))
def fW_areCodes_J572  (k134 : xSt → Int32 → Int32 → Int32 → Int32 → Int32 → Int32 → Int32 → Int32 → Int32 → Int32 → Int32 → Int32 → Int32 → Int32 → Option xR) (S : xSt) (i1 : Int32) (i2 : Int32) (i3 : Int32) (i4 : Int32) (i5 : Int32) (i9 : Int32) (i10 : Int32) (i11 : Int32) (i12 : Int32) (i13 : Int32) (i14 : Int32) (i15 : Int32) (i17 : Int32) (i19 : Int32) : Option xR :=
  fW_areCodes_J574 k134 S i1 i2 i3 i4 i5 i9 i10 i11 i12 i13 i14 i17 i19 i15
def fW_areCodes_J542  (k134 : xSt → Int32 → Int32 → Int32 → Int32 → Int32 → Int32 → Int32 → Int32 → Int32 → Int32 → Int32 → Int32 → Int32 → Int32 → Option xR) (S : xSt) (i1 : Int32) (i2 : Int32) (i3 : Int32) (i4 : Int32) (i5 : Int32) (i9 : Int32) (i10 : Int32) (i12 : Int32) (i13 : Int32) (i14 : Int32) (i15 : Int32) (i17 : Int32) (i19 : Int32) (k0 : Int32) (k1 : Int32) : Option xR :=
  if i19 = 0 then
    fW_areCodes_J572 k134 S i1 i2 i3 i4 i5 i9 i10 (k1 + k0) i12 i13 i14 i15 i17 i19
  else
    xat i17 64 fun j1 =>
    if ((S 33 2 j1) + (1 : Int32)) ≤ i15 then
      fW_areCodes_J572 k134 S i1 i2 i3 i4 i5 i9 i10 (k1 + k0) i12 i13 i14 i15 i17 i19
    else
      xat i17 64 fun j2 =>
      fW_areCodes_J574 k134 S i1 i2 i3 i4 i5 i9 i10 (k1 + k0) i12 i13 i14 i17 i19 ((S 33 2 j2) + (1 : Int32))
def fW_areCodes_J528  (k134 : xSt → Int32 → Int32 → Int32 → Int32 → Int32 → Int32 → Int32 → Int32 → Int32 → Int32 → Int32 → Int32 → Int32 → Int32 → Option xR) (S : xSt) (i1 : Int32) (i2 : Int32) (i3 : Int32) (i4 : Int32) (i5 : Int32) (i9 : Int32) (i10 : Int32) (i11 : Int32) (i12 : Int32) (i13 : Int32) (i14 : Int32) (i15 : Int32) (i17 : Int32) (k0 : Int32) : Option xR :=
  if k0 = 0 then
    fW_areCodes_J542 k134 S i1 i2 i3 i4 i5 i9 i10 i12 i13 i14 i15 i17 k0 (0 : Int32) i11
  else
    fW_areCodes_J542 k134 S i1 i2 i3 i4 i5 i9 i10 i12 i13 i14 i15 i17 k0 (1 : Int32) i11
def fW_areCodes_J501  (k134 : xSt → Int32 → Int32 → Int32 → Int32 → Int32 → Int32 → Int32 → Int32 → Int32 → Int32 → Int32 → Int32 → Int32 → Int32 → Option xR) (S : xSt) (i1 : Int32) (i2 : Int32) (i3 : Int32) (i4 : Int32) (i5 : Int32) (i9 : Int32) (i10 : Int32) (i11 : Int32) (i12 : Int32) (i13 : Int32) (i14 : Int32) (i15 : Int32) (i16 : Int32) (i17 : Int32) : Option xR :=
  xat i17 64 fun j1 =>
  if i2 ≤ (i9 + (S 33 2 j1)) then
    fW_areCodes_J689 k134 S i1 i2 i3 i4 i5 (i9 + (S 33 2 j1)) i10 i11 i12 i13 i14 i15 i16 i17
  else
    if i3 ≤ i11 then
      fW_areCodes_J528 k134 S i1 i2 i3 i4 i5 (i9 + (S 33 2 j1)) i10 i11 i12 i13 i14 i15 i17 (0 : Int32)
    else
      fW_areCodes_J528 k134 S i1 i2 i3 i4 i5 (i9 + (S 33 2 j1)) i10 i11 i12 i13 i14 i15 i17 (1 : Int32)
def fW_areCodes_J495  (k134 : xSt → Int32 → Int32 → Int32 → Int32 → Int32 → Int32 → Int32 → Int32 → Int32 → Int32 → Int32 → Int32 → Int32 → Int32 → Option xR) (k430 : xSt → Int32 → Int32 → Int32 → Int32 → Int32 → Int32 → Int32 → Int32 → Int32 → Int32 → Int32 → Int32 → Int32 → Int32 → Int32 → Option xR) (S : xSt) (i1 : Int32) (i2 : Int32) (i3 : Int32) (i4 : Int32) (i5 : Int32) (i9 : Int32) (i10 : Int32) (i11 : Int32) (i12 : Int32) (i13 : Int32) (i14 : Int32) (i15 : Int32) (i16 : Int32) (i17 : Int32) (i19 : Int32) : Option xR :=
  k430 S i1 i2 i3 i4 i5 i9 i10 i11 i12 i13 i14 i15 i16 i17 (i19 + (1 : Int32))
def bW_areCodes_L430  (k134 : xSt → Int32 → Int32 → Int32 → Int32 → Int32 → Int32 → Int32 → Int32 → Int32 → Int32 → Int32 → Int32 → Int32 → Int32 → Option xR) (k430 : xSt → Int32 → Int32 → Int32 → Int32 → Int32 → Int32 → Int32 → Int32 → Int32 → Int32 → Int32 → Int32 → Int32 → Int32 → Int32 → Option xR) (S : xSt) (i1 : Int32) (i2 : Int32) (i3 : Int32) (i4 : Int32) (i5 : Int32) (i9 : Int32) (i10 : Int32) (i11 : Int32) (i12 : Int32) (i13 : Int32) (i14 : Int32) (i15 : Int32) (i16 : Int32) (i17 : Int32) (i19 : Int32) : Option xR :=
  if i11 ≤ i19 then
    fW_areCodes_J501 k134 S i1 i2 i3 i4 i5 i9 i10 i11 i12 i13 i14 i15 i16 i17
  else
    xat ((i10 + i19) - (10 : Int32)) 64 fun j1 =>
    xat i17 64 fun j2 =>
    if ((S 33 2 j1) + (1 : Int32)) ≤ (S 33 2 j2) then
      fW_areCodes_J495 k134 k430 S i1 i2 i3 i4 i5 i9 i10 i11 i12 i13 i14 i15 i16 i17 i19
    else
      if i2 < (i9 + ((S 33 2 j1) + (1 : Int32))) then
        fW_areCodes_J495 k134 k430 S i1 i2 i3 i4 i5 i9 i10 i11 i12 i13 i14 i15 i16 i17 i19
      else
        xat ((i10 + i19) - (10 : Int32)) 64 fun j3 =>
        xbI (fW_isAlike S i9 (S 33 1 j3) ((S 33 2 j1) + (1 : Int32))) fun S4 r5 =>
        if r5 = 0 then
          fW_areCodes_J495 k134 k430 S4 i1 i2 i3 i4 i5 i9 i10 i11 i12 i13 i14 i15 i16 i17 i19
        else
          xne ((0 : Int32) &&& 1 = (0 : Int32)) (some (S4, some (.int (0 : Int32))))
def fW_areCodes_L430  (k134 : xSt → Int32 → Int32 → Int32 → Int32 → Int32 → Int32 → Int32 → Int32 → Int32 → Int32 → Int32 → Int32 → Int32 → Int32 → Option xR) : Nat → xSt → Int32 → Int32 → Int32 → Int32 → Int32 → Int32 → Int32 → Int32 → Int32 → Int32 → Int32 → Int32 → Int32 → Int32 → Int32 → Option xR
  | 0 => fun _ _ _ _ _ _ _ _ _ _ _ _ _ _ _ _ => none
  | n + 1 => bW_areCodes_L430  k134 (fW_areCodes_L430  k134 n)
def fW_areCodes_J426  (k134 : xSt → Int32 → Int32 → Int32 → Int32 → Int32 → Int32 → Int32 → Int32 → Int32 → Int32 → Int32 → Int32 → Int32 → Int32 → Option xR) (S : xSt) (i1 : Int32) (i2 : Int32) (i3 : Int32) (i4 : Int32) (i5 : Int32) (i9 : Int32) (i10 : Int32) (i11 : Int32) (i12 : Int32) (i13 : Int32) (i14 : Int32) (i15 : Int32) (i16 : Int32) (i17 : Int32) : Option xR :=
  fW_areCodes_L430 k134 xFU S i1 i2 i3 i4 i5 i9 i10 i11 i12 i13 i14 i15 i16 i17 (10 : Int32)
def fW_areCodes_J371  (k134 : xSt → Int32 → Int32 → Int32 → Int32 → Int32 → Int32 → Int32 → Int32 → Int32 → Int32 → Int32 → Int32 → Int32 → Int32 → Option xR) (S : xSt) (i1 : Int32) (i2 : Int32) (i3 : Int32) (i4 : Int32) (i5 : Int32) (i9 : Int32) (i10 : Int32) (i11 : Int32) (i12 : Int32) (i13 : Int32) (i14 : Int32) (i15 : Int32) (i16 : Int32) (i17 : Int32) (i18 : Int32) : Option xR :=
  if i18 < (10 : Int32) then
    fW_areCodes_J426 k134 S i1 i2 i3 i4 i5 i9 i10 i11 i12 i13 i14 i15 i16 i17
  else
    xat i17 64 fun j1 =>
    xat ((i10 + i18) - (10 : Int32)) 64 fun j2 =>
    if (S 33 2 j1) = ((S 33 2 j2) + (1 : Int32)) then
      xat ((i10 + i18) - (10 : Int32)) 64 fun j3 =>
      xat i17 64 fun j4 =>
      xbI (fW_isAlike S i9 (S 33 1 j3) (S 33 2 j4)) fun S5 r6 =>
      if r6 = 0 then
        xne ((0 : Int32) &&& 1 = (0 : Int32)) (some (S5, some (.int (0 : Int32))))
      else
        fW_areCodes_J426 k134 S5 i1 i2 i3 i4 i5 i9 i10 i11 i12 i13 i14 i15 i16 i17
    else
      xne ((0 : Int32) &&& 1 = (0 : Int32)) (some (S, some (.int (0 : Int32))))
def fW_areCodes_J348  (k134 : xSt → Int32 → Int32 → Int32 → Int32 → Int32 → Int32 → Int32 → Int32 → Int32 → Int32 → Int32 → Int32 → Int32 → Int32 → Option xR) (S : xSt) (i1 : Int32) (i2 : Int32) (i3 : Int32) (i4 : Int32) (i5 : Int32) (i9 : Int32) (i10 : Int32) (i11 : Int32) (i12 : Int32) (i13 : Int32) (i14 : Int32) (i15 : Int32) (i16 : Int32) (i17 : Int32) (i18 : Int32) (k0 : Int32) (k1 : Int32) : Option xR :=
  if k1 = k0 then
    if (8 : Int32) ≤ i18 then
      fW_areCodes_J371 k134 S i1 i2 i3 i4 i5 i9 i10 i11 i12 i13 i14 i15 i16 i17 i18
    else
      xbI (f6_sign S i9) fun S1 r2 =>
      if i18 = r2 then
        fW_areCodes_J371 k134 S1 i1 i2 i3 i4 i5 i9 i10 i11 i12 i13 i14 i15 i16 i17 i18
      else
        xne ((0 : Int32) &&& 1 = (0 : Int32)) (some (S1, some (.int (0 : Int32))))
  else
    xne ((0 : Int32) &&& 1 = (0 : Int32)) (some (S, some (.int (0 : Int32))))
def fW_areCodes_J334  (k134 : xSt → Int32 → Int32 → Int32 → Int32 → Int32 → Int32 → Int32 → Int32 → Int32 → Int32 → Int32 → Int32 → Int32 → Int32 → Option xR) (S : xSt) (i1 : Int32) (i2 : Int32) (i3 : Int32) (i4 : Int32) (i5 : Int32) (i9 : Int32) (i10 : Int32) (i11 : Int32) (i12 : Int32) (i13 : Int32) (i14 : Int32) (i15 : Int32) (i16 : Int32) (i17 : Int32) (i18 : Int32) (k0 : Int32) : Option xR :=
  xat i17 64 fun j1 =>
  if (S 33 2 j1) = (1 : Int32) then
    fW_areCodes_J348 k134 S i1 i2 i3 i4 i5 i9 i10 i11 i12 i13 i14 i15 i16 i17 i18 (1 : Int32) k0
  else
    fW_areCodes_J348 k134 S i1 i2 i3 i4 i5 i9 i10 i11 i12 i13 i14 i15 i16 i17 i18 (0 : Int32) k0
def bW_areCodes_L134   (k134 : xSt → Int32 → Int32 → Int32 → Int32 → Int32 → Int32 → Int32 → Int32 → Int32 → Int32 → Int32 → Int32 → Int32 → Int32 → Option xR) (S : xSt) (i1 : Int32) (i2 : Int32) (i3 : Int32) (i4 : Int32) (i5 : Int32) (i9 : Int32) (i10 : Int32) (i11 : Int32) (i12 : Int32) (i13 : Int32) (i14 : Int32) (i15 : Int32) (i16 : Int32) (i17 : Int32) : Option xR :=
  if i1 ≤ i17 then
    fW_areCodes_J695 S i1 i2 i9 i11 i13 i14 i15
  else
    xbI (fW_bits S i11) fun S1 r2 =>
    xbI (f6_ofCode S1 i17 (5 : Int32)) fun S3 r4 =>
    if r4 = i11 then
      xbI (f6_ofCode S3 i17 (2 : Int32)) fun S5 r6 =>
      xbI (fW_bits S5 i11) fun S7 r8 =>
      if r6 = r8 then
        if i16 = 0 then
          if i9 = i2 then
            fW_areCodes_J190 k134 S7 i1 i2 i3 i4 i5 i9 i11 i12 (i13 + r2) i14 i15 i16 i17
          else
            xat i17 64 fun j9 =>
            xat i17 64 fun j10 =>
            if (S7 33 1 j10) = i9 then
              if (S7 33 0 j9) = (8 : Int32) then
                xne ((0 : Int32) &&& 1 = (0 : Int32)) (some (S7, some (.int (0 : Int32))))
              else
                if (S7 33 0 j9) = (9 : Int32) then
                  xne ((0 : Int32) &&& 1 = (0 : Int32)) (some (S7, some (.int (0 : Int32))))
                else
                  if i11 ≤ (S7 33 0 j9) then
                    xne ((0 : Int32) &&& 1 = (0 : Int32)) (some (S7, some (.int (0 : Int32))))
                  else
                    if (8 : Int32) ≤ (S7 33 0 j9) then
                      fW_areCodes_J334 k134 S7 i1 i2 i3 i4 i5 i9 i10 i11 i12 (i13 + r2) i14 i15 i16 i17 (S7 33 0 j9) (0 : Int32)
                    else
                      fW_areCodes_J334 k134 S7 i1 i2 i3 i4 i5 i9 i10 i11 i12 (i13 + r2) i14 i15 i16 i17 (S7 33 0 j9) (1 : Int32)
            else
              xne ((0 : Int32) &&& 1 = (0 : Int32)) (some (S7, some (.int (0 : Int32))))
        else
          fW_areCodes_J190 k134 S7 i1 i2 i3 i4 i5 i9 i11 i12 (i13 + r2) i14 i15 i16 i17
      else
        xne ((0 : Int32) &&& 1 = (0 : Int32)) (some (S7, some (.int (0 : Int32))))
    else
      xne ((0 : Int32) &&& 1 = (0 : Int32)) (some (S3, some (.int (0 : Int32))))
def fW_areCodes_L134   : Nat → xSt → Int32 → Int32 → Int32 → Int32 → Int32 → Int32 → Int32 → Int32 → Int32 → Int32 → Int32 → Int32 → Int32 → Int32 → Option xR
  | 0 => fun _ _ _ _ _ _ _ _ _ _ _ _ _ _ _ => none
  | n + 1 => bW_areCodes_L134   (fW_areCodes_L134   n)
def fW_areCodes_J106   (S : xSt) (i1 : Int32) (i2 : Int32) (i3 : Int32) (i4 : Int32) (i5 : Int32) : Option xR :=
  fW_areCodes_L134 xFU S i1 i2 i3 i4 i5 (0 : Int32) (0 : Int32) (10 : Int32) (0 : Int32) (0 : Int32) (0 : Int32) (0 : Int32) (0 : Int32) (0 : Int32)
def bW_areCodes_L58   (k58 : xSt → Int32 → Int32 → Int32 → Int32 → Int32 → Int32 → Option xR) (S : xSt) (i1 : Int32) (i2 : Int32) (i3 : Int32) (i4 : Int32) (i5 : Int32) (i9 : Int32) : Option xR :=
  if i1 ≤ i9 then
    fW_areCodes_J106 S i1 i2 i3 i4 i5
  else
    xbI (f6_ofCode S i9 (0 : Int32)) fun S1 r2 =>
    xat i9 64 fun j3 =>
    xlet (xup S1 33 0 j3 r2) fun S4 =>
    xbI (f6_ofCode S4 i9 (3 : Int32)) fun S5 r6 =>
    xat i9 64 fun j7 =>
    xlet (xup S5 33 1 j7 r6) fun S8 =>
    xbI (f6_ofCode S8 i9 (4 : Int32)) fun S9 r10 =>
    xat i9 64 fun j11 =>
    xlet (xup S9 33 2 j11 r10) fun S12 =>
    k58 S12 i1 i2 i3 i4 i5 (i9 + (1 : Int32))
def fW_areCodes_L58   : Nat → xSt → Int32 → Int32 → Int32 → Int32 → Int32 → Int32 → Option xR
  | 0 => fun _ _ _ _ _ _ _ => none
  | n + 1 => bW_areCodes_L58   (fW_areCodes_L58   n)
def fW_areCodes (S : xSt) : Option xR :=
  xbI (f6_count S (1 : Int32)) fun S1 r2 =>
  xbI (f6_count S1 (0 : Int32)) fun S3 r4 =>
  xbI (f6_count S3 (9 : Int32)) fun S5 r6 =>
  xbI (f6_count S5 (10 : Int32)) fun S7 r8 =>
  xbI (f6_count S7 (11 : Int32)) fun S9 r10 =>
  xlet (xua S9 33 0 (fun _ => 0)) fun S11 =>
  xlet (xua S11 33 1 (fun _ => 0)) fun S12 =>
  xlet (xua S12 33 2 (fun _ => 0)) fun S13 =>
  fW_areCodes_L58 xFU S13 r2 r4 ((1 : Int32) <<< (r6 &&& 31)) r8 r10 (0 : Int32)
def hW_areCodes (S : xSt) : Option xR := (fW_areCodes S).map (fun r => (xrst S r.1, r.2))
def fW_areEntries_J191   (S : xSt)  : Option xR :=
  xbI (f6_count S (4 : Int32)) fun S1 r2 =>
  xbI (f6_entry S1 r2 (0 : Int32)) fun S3 r4 =>
  if r4 = (-1 : Int32) then
    xne ((1 : Int32) &&& 1 = (1 : Int32)) (some (S3, some (.int (1 : Int32))))
  else
    xne ((0 : Int32) &&& 1 = (0 : Int32)) (some (S3, some (.int (0 : Int32))))
def fW_areEntries_J185  (k42 : xSt → Int32 → Int32 → Option xR) (S : xSt) (i2 : Int32) (i3 : Int32) : Option xR :=
  k42 S i2 (i3 + (1 : Int32))
def fW_areEntries_J113   (S : xSt)  : Option xR :=
  xne ((0 : Int32) &&& 1 = (0 : Int32)) (some (S, some (.int (0 : Int32))))
def fW_areEntries_J99  (k42 : xSt → Int32 → Int32 → Option xR) (S : xSt) (i2 : Int32) (i3 : Int32) (k0 : Int32) (k1 : Int32) : Option xR :=
  if k1 = k0 then
    xbI (f6_entry S i3 (2 : Int32)) fun S1 r2 =>
    if r2 = (-6 : Int32) then
      fW_areEntries_J185 k42 S1 i2 i3
    else
      fW_areEntries_J113 S1 
  else
    xne ((0 : Int32) &&& 1 = (0 : Int32)) (some (S, some (.int (0 : Int32))))
def fW_areEntries_J78  (k42 : xSt → Int32 → Int32 → Option xR) (S : xSt) (i2 : Int32) (i3 : Int32) (k0 : Int32) (k1 : Int32) : Option xR :=
  if k1 = k0 then
    xbI (f6_entry S i3 (1 : Int32)) fun S1 r2 =>
    if (8 : Int32) ≤ i3 then
      fW_areEntries_J99 k42 S1 i2 i3 (-6 : Int32) r2
    else
      fW_areEntries_J99 k42 S1 i2 i3 i3 r2
  else
    xne ((0 : Int32) &&& 1 = (0 : Int32)) (some (S, some (.int (0 : Int32))))
def bW_areEntries_L42   (k42 : xSt → Int32 → Int32 → Option xR) (S : xSt) (i2 : Int32) (i3 : Int32) : Option xR :=
  xbI (f6_count S (4 : Int32)) fun S1 r2 =>
  if r2 ≤ i3 then
    fW_areEntries_J191 S1 
  else
    xbI (f6_entry S1 i3 (0 : Int32)) fun S3 r4 =>
    if (10 : Int32) ≤ i3 then
      xbI (f6_ofCode S3 ((i2 + i3) - (10 : Int32)) (4 : Int32)) fun S5 r6 =>
      if r4 = (r6 + (1 : Int32)) then
        xbI (f6_entry S5 i3 (2 : Int32)) fun S7 r8 =>
        xbI (f6_ofCode S7 ((i2 + i3) - (10 : Int32)) (0 : Int32)) fun S9 r10 =>
        if r8 = r10 then
          xbI (f6_entry S9 i3 (1 : Int32)) fun S11 r12 =>
          xbI (f6_ofCode S11 ((i2 + i3) - (10 : Int32)) (3 : Int32)) fun S13 r14 =>
          xbI (f6_sign S13 ((r14 + r4) - (1 : Int32))) fun S15 r16 =>
          if r12 = r16 then
            fW_areEntries_J185 k42 S15 i2 i3
          else
            xne ((0 : Int32) &&& 1 = (0 : Int32)) (some (S15, some (.int (0 : Int32))))
        else
          xne ((0 : Int32) &&& 1 = (0 : Int32)) (some (S9, some (.int (0 : Int32))))
      else
        xne ((0 : Int32) &&& 1 = (0 : Int32)) (some (S5, some (.int (0 : Int32))))
    else
      if (8 : Int32) ≤ i3 then
        fW_areEntries_J78 k42 S3 i2 i3 (0 : Int32) r4
      else
        fW_areEntries_J78 k42 S3 i2 i3 (1 : Int32) r4
def fW_areEntries_L42   : Nat → xSt → Int32 → Int32 → Option xR
  | 0 => fun _ _ _ => none
  | n + 1 => bW_areEntries_L42   (fW_areEntries_L42   n)
def fW_areEntries_J40   (S : xSt) (i2 : Int32) : Option xR :=
  fW_areEntries_L42 xFU S i2 (0 : Int32)
def fW_areEntries_J33  (k10 : xSt → Int32 → Int32 → Int32 → Option xR) (S : xSt) (i1 : Int32) (i3 : Int32) (k0 : Int32) : Option xR :=
  k10 S i1 k0 (i3 + (1 : Int32))
def bW_areEntries_L10   (k10 : xSt → Int32 → Int32 → Int32 → Option xR) (S : xSt) (i1 : Int32) (i2 : Int32) (i3 : Int32) : Option xR :=
  if i1 ≤ i3 then
    fW_areEntries_J40 S i2
  else
    xbI (f6_ofCode S i3 (0 : Int32)) fun S1 r2 =>
    if r2 = (8 : Int32) then
      fW_areEntries_J33 k10 S1 i1 i3 (i3 + (1 : Int32))
    else
      fW_areEntries_J33 k10 S1 i1 i3 i2
def fW_areEntries_L10   : Nat → xSt → Int32 → Int32 → Int32 → Option xR
  | 0 => fun _ _ _ _ => none
  | n + 1 => bW_areEntries_L10   (fW_areEntries_L10   n)
def fW_areEntries (S : xSt)   : Option xR :=
  xbI (f6_count S (1 : Int32)) fun S1 r2 =>
  fW_areEntries_L10 xFU S1 r2 (0 : Int32) (0 : Int32)
def fW_isRead_J511   (S : xSt) (i8 : Int32) (k0 : Int32) (k1 : Int32) : Option xR :=
  if k1 = k0 then
    xbI (f6_read S i8) fun S1 r2 =>
    if r2 = (-1 : Int32) then
      xbI (f6_read S1 (-1 : Int32)) fun S3 r4 =>
      if r4 = (-1 : Int32) then
        xne ((1 : Int32) &&& 1 = (1 : Int32)) (some (S3, some (.int (1 : Int32))))
      else
        xne ((0 : Int32) &&& 1 = (0 : Int32)) (some (S3, some (.int (0 : Int32))))
    else
      xne ((0 : Int32) &&& 1 = (0 : Int32)) (some (S1, some (.int (0 : Int32))))
  else
    xne ((0 : Int32) &&& 1 = (0 : Int32)) (some (S, some (.int (0 : Int32))))
def fW_isRead_J509   (S : xSt) (i8 : Int32) (i13 : Int32) (k0 : Int32) : Option xR :=
  fW_isRead_J511 S i8 i13 k0
def fW_isRead_J475   (S : xSt) (i8 : Int32) (i13 : Int32) (k0 : Int32) : Option xR :=
  if k0 = 0 then
    xne ((0 : Int32) &&& 1 = (0 : Int32)) (some (S, some (.int (0 : Int32))))
  else
    xbI (f6_reading S (5 : Int32)) fun S1 r2 =>
    if i13 = i8 then
      xbI (f6_count S1 (0 : Int32)) fun S3 r4 =>
      if i8 = r4 then
        fW_isRead_J511 S3 i8 (-6 : Int32) r2
      else
        fW_isRead_J509 S3 i8 i13 r2
    else
      fW_isRead_J509 S1 i8 i13 r2
def fW_isRead_J474   (S : xSt) (i8 : Int32) (i13 : Int32) : Option xR :=
  fW_isRead_J475 S i8 i13 (0 : Int32)
def fW_isRead_J420   (S : xSt) (i5 : Int32) (i8 : Int32) (i9 : Int32) (i10 : Int32) (i11 : Int32) (i13 : Int32) : Option xR :=
  xbI (f6_reading S (0 : Int32)) fun S1 r2 =>
  if r2 = i8 then
    xbI (f6_reading S1 (1 : Int32)) fun S3 r4 =>
    if r4 = i10 then
      xbI (f6_reading S3 (2 : Int32)) fun S5 r6 =>
      if r6 = i11 then
        xbI (f6_reading S5 (3 : Int32)) fun S7 r8 =>
        if r8 = i5 then
          xbI (f6_reading S7 (4 : Int32)) fun S9 r10 =>
          if r10 = i9 then
            fW_isRead_J475 S9 i8 i13 (1 : Int32)
          else
            fW_isRead_J474 S9 i8 i13
        else
          fW_isRead_J474 S7 i8 i13
      else
        fW_isRead_J474 S5 i8 i13
    else
      fW_isRead_J474 S3 i8 i13
  else
    fW_isRead_J474 S1 i8 i13
def bW_isRead_L382   (k382 : xSt → Int32 → Int32 → Int32 → Int32 → Int32 → Int32 → Option xR) (S : xSt) (i5 : Int32) (i8 : Int32) (i9 : Int32) (i10 : Int32) (i11 : Int32) (i13 : Int32) : Option xR :=
  if i8 ≤ i13 then
    fW_isRead_J420 S i5 i8 i9 i10 i11 i13
  else
    xbI (f6_count S (0 : Int32)) fun S1 r2 =>
    if r2 ≤ i13 then
      fW_isRead_J420 S1 i5 i8 i9 i10 i11 i13
    else
      xbI (f6_read S1 i13) fun S3 r4 =>
      xbI (f6_sign S3 i13) fun S5 r6 =>
      if r4 = r6 then
        k382 S5 i5 i8 i9 i10 i11 (i13 + (1 : Int32))
      else
        fW_isRead_J420 S5 i5 i8 i9 i10 i11 i13
def fW_isRead_L382   : Nat → xSt → Int32 → Int32 → Int32 → Int32 → Int32 → Int32 → Option xR
  | 0 => fun _ _ _ _ _ _ _ => none
  | n + 1 => bW_isRead_L382   (fW_isRead_L382   n)
def fW_isRead_J379   (S : xSt) (i5 : Int32) (i8 : Int32) (i9 : Int32) (i10 : Int32) (i11 : Int32) : Option xR :=
  fW_isRead_L382 xFU S i5 i8 i9 i10 i11 (0 : Int32)
def fW_isRead_J363   (S : xSt) (i1 : Int32) (i5 : Int32) (i8 : Int32) (i9 : Int32) (i10 : Int32) (i11 : Int32) (i12 : Int32) : Option xR :=
  if i11 = 0 then
    if i12 = 0 then
      fW_isRead_J379 S i5 i8 i9 i1 (2 : Int32)
    else
      fW_isRead_J379 S i5 i8 i9 i10 i11
  else
    fW_isRead_J379 S i5 i8 i9 i10 i11
def fW_isRead_J357  (k55 : xSt → Int32 → Int32 → Int32 → Int32 → Int32 → Int32 → Int32 → Int32 → Int32 → Int32 → Int32 → Option xR) (S : xSt) (i1 : Int32) (i2 : Int32) (i5 : Int32) (i6 : Int32) (i7 : Int32) (i8 : Int32) (i9 : Int32) (i10 : Int32) (i11 : Int32) (i12 : Int32) (i13 : Int32) : Option xR :=
  k55 S i1 i2 i5 i6 i7 i8 i9 i10 i11 i12 (i13 + (1 : Int32))
def fW_isRead_J344  (k55 : xSt → Int32 → Int32 → Int32 → Int32 → Int32 → Int32 → Int32 → Int32 → Int32 → Int32 → Int32 → Option xR) (S : xSt) (i1 : Int32) (i2 : Int32) (i6 : Int32) (i7 : Int32) (i8 : Int32) (i9 : Int32) (i10 : Int32) (i11 : Int32) (i12 : Int32) (i13 : Int32) (k0 : Int32) (k1 : Int32) : Option xR :=
  fW_isRead_J357 k55 S i1 i2 (k1 + k0) i6 i7 i8 i9 i10 i11 i12 i13
def fW_isRead_J343  (k55 : xSt → Int32 → Int32 → Int32 → Int32 → Int32 → Int32 → Int32 → Int32 → Int32 → Int32 → Int32 → Option xR) (S : xSt) (i1 : Int32) (i2 : Int32) (i6 : Int32) (i7 : Int32) (i8 : Int32) (i9 : Int32) (i10 : Int32) (i11 : Int32) (i12 : Int32) (i13 : Int32) (k0 : Int32) : Option xR :=
  fW_isRead_J344 k55 S i1 i2 i6 i7 i8 i9 i10 i11 i12 i13 (0 : Int32) k0
def fW_isRead_J323  (k55 : xSt → Int32 → Int32 → Int32 → Int32 → Int32 → Int32 → Int32 → Int32 → Int32 → Int32 → Int32 → Option xR) (S : xSt) (i1 : Int32) (i2 : Int32) (i5 : Int32) (i6 : Int32) (i7 : Int32) (i8 : Int32) (i10 : Int32) (i11 : Int32) (i12 : Int32) (i13 : Int32) (i15 : Int32) (k0 : Int32) (k1 : Int32) : Option xR :=
  if i15 = 0 then
    fW_isRead_J343 k55 S i1 i2 i6 i7 i8 (k1 + k0) i10 i11 i12 i13 i5
  else
    if i2 ≤ i5 then
      fW_isRead_J343 k55 S i1 i2 i6 i7 i8 (k1 + k0) i10 i11 i12 i13 i5
    else
      fW_isRead_J344 k55 S i1 i2 i6 i7 i8 (k1 + k0) i10 i11 i12 i13 (1 : Int32) i5
def fW_isRead_J288  (k55 : xSt → Int32 → Int32 → Int32 → Int32 → Int32 → Int32 → Int32 → Int32 → Int32 → Int32 → Int32 → Option xR) (S : xSt) (i1 : Int32) (i2 : Int32) (i5 : Int32) (i6 : Int32) (i7 : Int32) (i8 : Int32) (i9 : Int32) (i10 : Int32) (i11 : Int32) (i12 : Int32) (i13 : Int32) (i15 : Int32) (i16 : Int32) (i18 : Int32) : Option xR :=
  xat i7 64 fun j1 =>
  xlet (xup S 33 0 j1 i8) fun S2 =>
  xat i7 64 fun j3 =>
  xlet (xup S2 33 1 j3 i18) fun S4 =>
  if i16 = 0 then
    fW_isRead_J323 k55 S4 i1 i2 i5 i6 (i7 + (1 : Int32)) (i8 + i18) i10 i11 i12 i13 i15 (0 : Int32) i9
  else
    fW_isRead_J323 k55 S4 i1 i2 i5 i6 (i7 + (1 : Int32)) (i8 + i18) i10 i11 i12 i13 i15 (1 : Int32) i9
def bW_isRead_L252  (k55 : xSt → Int32 → Int32 → Int32 → Int32 → Int32 → Int32 → Int32 → Int32 → Int32 → Int32 → Int32 → Option xR) (k252 : xSt → Int32 → Int32 → Int32 → Int32 → Int32 → Int32 → Int32 → Int32 → Int32 → Int32 → Int32 → Int32 → Int32 → Int32 → Int32 → Int32 → Option xR) (S : xSt) (i1 : Int32) (i2 : Int32) (i5 : Int32) (i6 : Int32) (i7 : Int32) (i8 : Int32) (i9 : Int32) (i10 : Int32) (i11 : Int32) (i12 : Int32) (i13 : Int32) (i15 : Int32) (i16 : Int32) (i17 : Int32) (i18 : Int32) (i19 : Int32) : Option xR :=
  if i18 ≤ i19 then
    fW_isRead_J288 k55 S i1 i2 i5 i6 i7 i8 i9 i10 i11 i12 i13 i15 i16 i18
  else
    xbI (f6_read S (i8 + i19)) fun S1 r2 =>
    xbI (f6_read S1 (i17 + i19)) fun S3 r4 =>
    if r2 = r4 then
      k252 S3 i1 i2 i5 i6 i7 i8 i9 i10 i11 i12 i13 i15 i16 i17 i18 (i19 + (1 : Int32))
    else
      xne ((0 : Int32) &&& 1 = (0 : Int32)) (some (S3, some (.int (0 : Int32))))
def fW_isRead_L252  (k55 : xSt → Int32 → Int32 → Int32 → Int32 → Int32 → Int32 → Int32 → Int32 → Int32 → Int32 → Int32 → Option xR) : Nat → xSt → Int32 → Int32 → Int32 → Int32 → Int32 → Int32 → Int32 → Int32 → Int32 → Int32 → Int32 → Int32 → Int32 → Int32 → Int32 → Int32 → Option xR
  | 0 => fun _ _ _ _ _ _ _ _ _ _ _ _ _ _ _ _ _ => none
  | n + 1 => bW_isRead_L252  k55 (fW_isRead_L252  k55 n)
def fW_isRead_J249  (k55 : xSt → Int32 → Int32 → Int32 → Int32 → Int32 → Int32 → Int32 → Int32 → Int32 → Int32 → Int32 → Option xR) (S : xSt) (i1 : Int32) (i2 : Int32) (i5 : Int32) (i6 : Int32) (i7 : Int32) (i8 : Int32) (i9 : Int32) (i10 : Int32) (i11 : Int32) (i12 : Int32) (i13 : Int32) (i15 : Int32) (i16 : Int32) (i17 : Int32) (i18 : Int32) : Option xR :=
  fW_isRead_L252 k55 xFU S i1 i2 i5 i6 i7 i8 i9 i10 i11 i12 i13 i15 i16 i17 i18 (0 : Int32)
def fW_isRead_J227  (k55 : xSt → Int32 → Int32 → Int32 → Int32 → Int32 → Int32 → Int32 → Int32 → Int32 → Int32 → Int32 → Option xR) (S : xSt) (i1 : Int32) (i2 : Int32) (i5 : Int32) (i6 : Int32) (i7 : Int32) (i8 : Int32) (i9 : Int32) (i10 : Int32) (i11 : Int32) (i12 : Int32) (i13 : Int32) (i14 : Int32) (i15 : Int32) (i16 : Int32) (i17 : Int32) (k0 : Int32) : Option xR :=
  if (8 : Int32) ≤ i14 then
    fW_isRead_J249 k55 S i1 i2 i5 i6 i7 i8 i9 i10 i11 i12 i13 i15 i16 i17 k0
  else
    xbI (f6_read S i8) fun S1 r2 =>
    if r2 = i14 then
      fW_isRead_J249 k55 S1 i1 i2 i5 i6 i7 i8 i9 i10 i11 i12 i13 i15 i16 i17 k0
    else
      xne ((0 : Int32) &&& 1 = (0 : Int32)) (some (S1, some (.int (0 : Int32))))
def fW_isRead_J201  (k55 : xSt → Int32 → Int32 → Int32 → Int32 → Int32 → Int32 → Int32 → Int32 → Int32 → Int32 → Int32 → Option xR) (S : xSt) (i1 : Int32) (i2 : Int32) (i5 : Int32) (i6 : Int32) (i7 : Int32) (i8 : Int32) (i9 : Int32) (i10 : Int32) (i11 : Int32) (i12 : Int32) (i13 : Int32) (i14 : Int32) (i15 : Int32) (i16 : Int32) (k0 : Int32) : Option xR :=
  if (8 : Int32) ≤ i14 then
    xat ((i6 + i14) - (10 : Int32)) 64 fun j1 =>
    fW_isRead_J227 k55 S i1 i2 i5 i6 i7 i8 i9 i10 i11 i12 i13 i14 i15 i16 k0 ((S 33 1 j1) + (1 : Int32))
  else
    fW_isRead_J227 k55 S i1 i2 i5 i6 i7 i8 i9 i10 i11 i12 i13 i14 i15 i16 k0 (1 : Int32)
def fW_isRead_J179  (k55 : xSt → Int32 → Int32 → Int32 → Int32 → Int32 → Int32 → Int32 → Int32 → Int32 → Int32 → Int32 → Option xR) (S : xSt) (i1 : Int32) (i2 : Int32) (i5 : Int32) (i6 : Int32) (i7 : Int32) (i8 : Int32) (i9 : Int32) (i10 : Int32) (i11 : Int32) (i12 : Int32) (i13 : Int32) (i14 : Int32) (i15 : Int32) (i16 : Int32) : Option xR :=
  if (8 : Int32) ≤ i14 then
    xat ((i6 + i14) - (10 : Int32)) 64 fun j1 =>
    fW_isRead_J201 k55 S i1 i2 i5 i6 i7 i8 i9 i10 i11 i12 i13 i14 i15 i16 (S 33 0 j1)
  else
    fW_isRead_J201 k55 S i1 i2 i5 i6 i7 i8 i9 i10 i11 i12 i13 i14 i15 i16 i8
def fW_isRead_J112  (k55 : xSt → Int32 → Int32 → Int32 → Int32 → Int32 → Int32 → Int32 → Int32 → Int32 → Int32 → Int32 → Option xR) (S : xSt) (i1 : Int32) (i2 : Int32) (i5 : Int32) (i6 : Int32) (i7 : Int32) (i8 : Int32) (i9 : Int32) (i10 : Int32) (i11 : Int32) (i12 : Int32) (i13 : Int32) (i14 : Int32) (i15 : Int32) (k0 : Int32) : Option xR :=
  if i12 = 0 then
    if i14 = (9 : Int32) then
      fW_isRead_J357 k55 S i1 i2 i5 i6 i7 i8 i9 i10 i11 (1 : Int32) i13
    else
      if i14 = (8 : Int32) then
        fW_isRead_J357 k55 S i1 i2 (10 : Int32) i7 i7 i8 i9 i10 i11 i12 i13
      else
        if i14 < (8 : Int32) then
          fW_isRead_J179 k55 S i1 i2 i5 i6 i7 i8 i9 i10 i11 i12 i13 i14 i15 k0
        else
          if i14 < i5 then
            fW_isRead_J179 k55 S i1 i2 i5 i6 i7 i8 i9 i10 i11 i12 i13 i14 i15 k0
          else
            if k0 = 0 then
              fW_isRead_J357 k55 S i1 i2 i5 i6 i7 i8 i9 i13 (1 : Int32) i12 i13
            else
              fW_isRead_J179 k55 S i1 i2 i5 i6 i7 i8 i9 i10 i11 i12 i13 i14 i15 k0
  else
    fW_isRead_J357 k55 S i1 i2 i5 i6 i7 i8 i9 i13 (3 : Int32) i12 i13
def fW_isRead_J111  (k55 : xSt → Int32 → Int32 → Int32 → Int32 → Int32 → Int32 → Int32 → Int32 → Int32 → Int32 → Int32 → Option xR) (S : xSt) (i1 : Int32) (i2 : Int32) (i5 : Int32) (i6 : Int32) (i7 : Int32) (i8 : Int32) (i9 : Int32) (i10 : Int32) (i11 : Int32) (i12 : Int32) (i13 : Int32) (i14 : Int32) (i15 : Int32) : Option xR :=
  fW_isRead_J112 k55 S i1 i2 i5 i6 i7 i8 i9 i10 i11 i12 i13 i14 i15 (0 : Int32)
def fW_isRead_J87  (k55 : xSt → Int32 → Int32 → Int32 → Int32 → Int32 → Int32 → Int32 → Int32 → Int32 → Int32 → Int32 → Option xR) (S : xSt) (i1 : Int32) (i2 : Int32) (i5 : Int32) (i6 : Int32) (i7 : Int32) (i8 : Int32) (i9 : Int32) (i10 : Int32) (i11 : Int32) (i12 : Int32) (i13 : Int32) (i14 : Int32) (k0 : Int32) : Option xR :=
  if i14 = i5 then
    if k0 = 0 then
      fW_isRead_J111 k55 S i1 i2 i5 i6 i7 i8 i9 i10 i11 i12 i13 i14 k0
    else
      if i2 ≤ i5 then
        fW_isRead_J111 k55 S i1 i2 i5 i6 i7 i8 i9 i10 i11 i12 i13 i14 k0
      else
        fW_isRead_J112 k55 S i1 i2 i5 i6 i7 i8 i9 i10 i11 i12 i13 i14 k0 (1 : Int32)
  else
    fW_isRead_J111 k55 S i1 i2 i5 i6 i7 i8 i9 i10 i11 i12 i13 i14 k0
def bW_isRead_L55   (k55 : xSt → Int32 → Int32 → Int32 → Int32 → Int32 → Int32 → Int32 → Int32 → Int32 → Int32 → Int32 → Option xR) (S : xSt) (i1 : Int32) (i2 : Int32) (i5 : Int32) (i6 : Int32) (i7 : Int32) (i8 : Int32) (i9 : Int32) (i10 : Int32) (i11 : Int32) (i12 : Int32) (i13 : Int32) : Option xR :=
  if i1 ≤ i13 then
    fW_isRead_J363 S i1 i5 i8 i9 i10 i11 i12
  else
    if i11 = 0 then
      xbI (f6_ofCode S i13 (1 : Int32)) fun S1 r2 =>
      if i7 ≤ i6 then
        fW_isRead_J87 k55 S1 i1 i2 i5 i6 i7 i8 i9 i10 i11 i12 i13 r2 (0 : Int32)
      else
        fW_isRead_J87 k55 S1 i1 i2 i5 i6 i7 i8 i9 i10 i11 i12 i13 r2 (1 : Int32)
    else
      fW_isRead_J363 S i1 i5 i8 i9 i10 i11 i12
def fW_isRead_L55   : Nat → xSt → Int32 → Int32 → Int32 → Int32 → Int32 → Int32 → Int32 → Int32 → Int32 → Int32 → Int32 → Option xR
  | 0 => fun _ _ _ _ _ _ _ _ _ _ _ _ => none
  | n + 1 => bW_isRead_L55   (fW_isRead_L55   n)
def fW_isRead (S : xSt) : Option xR :=
  xbI (f6_count S (1 : Int32)) fun S1 r2 =>
  xbI (f6_count S1 (9 : Int32)) fun S3 r4 =>
  xlet (xua S3 33 0 (fun _ => 0)) fun S5 =>
  xlet (xua S5 33 1 (fun _ => 0)) fun S6 =>
  fW_isRead_L55 xFU S6 r2 ((1 : Int32) <<< (r4 &&& 31)) (10 : Int32) (0 : Int32) (0 : Int32) (0 : Int32) (0 : Int32) (-6 : Int32) (0 : Int32) (0 : Int32) (0 : Int32)
def hW_isRead (S : xSt) : Option xR := (fW_isRead S).map (fun r => (xrst S r.1, r.2))
def fW_agree_J95   (S : xSt)  : Option xR :=
  xne ((1 : Int32) &&& 1 = (1 : Int32)) (some (S, some (.int (1 : Int32))))
def fW_agree_J42   (S : xSt) (i1 : Int32) : Option xR :=
  xbI (f6_count S (6 : Int32)) fun S1 r2 =>
  if r2 = i1 then
    xbI (hW_areCodes S1) fun S3 r4 =>
    if r4 = 0 then
      xne ((0 : Int32) &&& 1 = (0 : Int32)) (some (S3, some (.int (0 : Int32))))
    else
      xbI (fW_areEntries S3) fun S5 r6 =>
      if r6 = 0 then
        xne ((0 : Int32) &&& 1 = (0 : Int32)) (some (S5, some (.int (0 : Int32))))
      else
        xbI (hW_isRead S5) fun S7 r8 =>
        if r8 = 0 then
          xne ((0 : Int32) &&& 1 = (0 : Int32)) (some (S7, some (.int (0 : Int32))))
        else
          if 0 < i1 then
            fW_agree_J95 S7 
          else
            xbI (f6_reading S7 (5 : Int32)) fun S9 r10 =>
            if r10 = (-6 : Int32) then
              xbI (f6_reading S9 (2 : Int32)) fun S11 r12 =>
              if r12 = 0 then
                fW_agree_J95 S11 
              else
                xne ((0 : Int32) &&& 1 = (0 : Int32)) (some (S11, some (.int (0 : Int32))))
            else
              xne ((0 : Int32) &&& 1 = (0 : Int32)) (some (S9, some (.int (0 : Int32))))
  else
    xne ((0 : Int32) &&& 1 = (0 : Int32)) (some (S1, some (.int (0 : Int32))))
def fW_agree_J34  (k4 : xSt → Int32 → Int32 → Option xR) (S : xSt) (i2 : Int32) (k0 : Int32) (k1 : Int32) : Option xR :=
  k4 S (k1 + k0) (i2 + (1 : Int32))
def bW_agree_L4   (k4 : xSt → Int32 → Int32 → Option xR) (S : xSt) (i1 : Int32) (i2 : Int32) : Option xR :=
  xbI (f6_count S (1 : Int32)) fun S1 r2 =>
  if r2 ≤ i2 then
    fW_agree_J42 S1 i1
  else
    xbI (f6_ofCode S1 i2 (0 : Int32)) fun S3 r4 =>
    xbI (f6_ofCode S3 i2 (1 : Int32)) fun S5 r6 =>
    if r4 = r6 then
      fW_agree_J34 k4 S5 i2 (0 : Int32) i1
    else
      fW_agree_J34 k4 S5 i2 (1 : Int32) i1
def fW_agree_L4   : Nat → xSt → Int32 → Int32 → Option xR
  | 0 => fun _ _ _ => none
  | n + 1 => bW_agree_L4   (fW_agree_L4   n)
def fW_agree (S : xSt) : Option xR :=
  fW_agree_L4 xFU S (0 : Int32) (0 : Int32)
def fW_isSpoiled_J19   (S : xSt) (i1 : Int32) (i2 : Int32) (k0 : Int32) : Option xR :=
  xbI (f6_spoil S i1 i2) fun S1 r2 =>
  if 0 ≤ k0 then
    if r2 = (k0 ^^^ i2) then
      xbI (f6_ofCode S1 i1 (1 : Int32)) fun S3 r4 =>
      if r4 = r2 then
        xne ((1 : Int32) &&& 1 = (1 : Int32)) (some (S3, some (.int (1 : Int32))))
      else
        xne ((0 : Int32) &&& 1 = (0 : Int32)) (some (S3, some (.int (0 : Int32))))
    else
      xne ((0 : Int32) &&& 1 = (0 : Int32)) (some (S1, some (.int (0 : Int32))))
  else
    if r2 = (-1 : Int32) then
      xne ((1 : Int32) &&& 1 = (1 : Int32)) (some (S1, some (.int (1 : Int32))))
    else
      xne ((0 : Int32) &&& 1 = (0 : Int32)) (some (S1, some (.int (0 : Int32))))
def fW_isSpoiled (S : xSt)  (a1 : Int32) (a2 : Int32) : Option xR :=
  xbI (f6_count S (1 : Int32)) fun S1 r2 =>
  if r2 ≤ a1 then
    fW_isSpoiled_J19 S1 a1 a2 (-1 : Int32)
  else
    xbI (f6_ofCode S1 a1 (1 : Int32)) fun S3 r4 =>
    fW_isSpoiled_J19 S3 a1 a2 r4
def fW_isAct_J344  (L : Nat) (xs : Nat → Int32)  (S : xSt) (k0 : Int32) (k1 : Int32) : Option xR :=
  xbI (fW_isSpoiled S k1 k0) fun S1 r2 =>
  xne (r2 &&& 1 = r2) (some (S1, some (.int r2)))
def fW_isAct_J134  (L : Nat) (xs : Nat → Int32)  (S : xSt)  : Option xR :=
  xne ((1 : Int32) &&& 1 = (1 : Int32)) (some (S, some (.int (1 : Int32))))
def fW_isAct_J69  (L : Nat) (xs : Nat → Int32)  (S : xSt) (i2 : Int32) (i3 : Int32) (k0 : Int32) (k1 : Int32) : Option xR :=
  xbI (fW_cell S L xs k1 k0) fun S1 r2 =>
  xbI (fW_cell S1 L xs (i2 + (3 : Int32)) (3 : Int32)) fun S3 r4 =>
  if (34 : Int32) < (i3 + ((1 : Int32) + r4)) then
    fW_isAct_J134 L xs S3 
  else
    xbI (f6_add S3 r2 ((1 : Int32) + r4)) fun S5 r6 =>
    if r6 = (i3 + ((1 : Int32) + r4)) then
      xbI (f6_sign S5 ((i3 + ((1 : Int32) + r4)) - (1 : Int32))) fun S7 r8 =>
      if r8 = r2 then
        xbI (f6_count S7 (6 : Int32)) fun S9 r10 =>
        if r10 = 0 then
          fW_isAct_J134 L xs S9 
        else
          xne ((0 : Int32) &&& 1 = (0 : Int32)) (some (S9, some (.int (0 : Int32))))
      else
        xne ((0 : Int32) &&& 1 = (0 : Int32)) (some (S7, some (.int (0 : Int32))))
    else
      xne ((0 : Int32) &&& 1 = (0 : Int32)) (some (S5, some (.int (0 : Int32))))
def fW_isAct_J174  (L : Nat) (xs : Nat → Int32)  (S : xSt) (k0 : Int32) (k1 : Int32) : Option xR :=
  if k1 = k0 then
    xne ((1 : Int32) &&& 1 = (1 : Int32)) (some (S, some (.int (1 : Int32))))
  else
    xne ((0 : Int32) &&& 1 = (0 : Int32)) (some (S, some (.int (0 : Int32))))
def fW_isAct_J238  (L : Nat) (xs : Nat → Int32)  (S : xSt) (i7 : Int32) (k0 : Int32) : Option xR :=
  xbI (f6_count S ((9 : Int32) + i7)) fun S1 r2 =>
  xbI (f6_set S1 i7 k0) fun S3 r4 =>
  if r4 = r2 then
    xbI (f6_count S3 ((9 : Int32) + i7)) fun S5 r6 =>
    if r6 = k0 then
      xbI (f6_count S5 (6 : Int32)) fun S7 r8 =>
      if r8 = 0 then
        xne ((1 : Int32) &&& 1 = (1 : Int32)) (some (S7, some (.int (1 : Int32))))
      else
        xne ((0 : Int32) &&& 1 = (0 : Int32)) (some (S7, some (.int (0 : Int32))))
    else
      xne ((0 : Int32) &&& 1 = (0 : Int32)) (some (S5, some (.int (0 : Int32))))
  else
    xne ((0 : Int32) &&& 1 = (0 : Int32)) (some (S3, some (.int (0 : Int32))))
def fW_isAct (S : xSt)  (L : Nat) (xs : Nat → Int32) (a2 : Int32) : Option xR :=
  xbI (f6_count S (0 : Int32)) fun S1 r2 =>
  xbI (fW_cell S1 L xs a2 (10 : Int32)) fun S3 r4 =>
  if r4.toInt < 0 ∨ 4 < r4.toInt then
    xbI (f6_count S3 (1 : Int32)) fun S5 r6 =>
    xbI (fW_cell S5 L xs (a2 + (1 : Int32)) (r6 + (1 : Int32))) fun S7 r8 =>
    xbI (fW_cell S7 L xs (a2 + (2 : Int32)) (3 : Int32)) fun S9 r10 =>
    if r10 = 0 then
      xbI (fW_cell S9 L xs (a2 + (3 : Int32)) (511 : Int32)) fun S13 r14 =>
      fW_isAct_J344 L xs S13 ((1 : Int32) + r14) r8
    else
      xbI (fW_cell S9 L xs (a2 + (3 : Int32)) (5 : Int32)) fun S11 r12 =>
      fW_isAct_J344 L xs S11 ((1 : Int32) <<< (r12 &&& 31)) r8
  else match (r4.toInt - 0).toNat with
  | 0 =>
    xbI (fW_cell S3 L xs (a2 + (2 : Int32)) (3 : Int32)) fun S15 r16 =>
    if r16 = 0 then
      fW_isAct_J69 L xs S15 a2 r2 (8 : Int32) (a2 + (1 : Int32))
    else
      fW_isAct_J69 L xs S15 a2 r2 (2 : Int32) (a2 + (1 : Int32))
  | 1 =>
    xbI (fW_cell S3 L xs (a2 + (2 : Int32)) (3 : Int32)) fun S17 r18 =>
    if r18 = 0 then
      fW_isAct_J69 L xs S17 a2 r2 (8 : Int32) (a2 + (1 : Int32))
    else
      fW_isAct_J69 L xs S17 a2 r2 (2 : Int32) (a2 + (1 : Int32))
  | 2 =>
    xbI (fW_cell S3 L xs (a2 + (2 : Int32)) (3 : Int32)) fun S19 r20 =>
    if r20 = 0 then
      fW_isAct_J69 L xs S19 a2 r2 (8 : Int32) (a2 + (1 : Int32))
    else
      fW_isAct_J69 L xs S19 a2 r2 (2 : Int32) (a2 + (1 : Int32))
  | 3 =>
    xbI (fW_cell S3 L xs (a2 + (1 : Int32)) (12 : Int32)) fun S21 r22 =>
    xbI (f6_cut S21 ((1 : Int32) + r22)) fun S23 r24 =>
    if ((1 : Int32) + r22) ≤ r2 then
      fW_isAct_J174 L xs S23 (r2 - ((1 : Int32) + r22)) r24
    else
      fW_isAct_J174 L xs S23 (-5 : Int32) r24
  | 4 =>
    xbI (fW_cell S3 L xs (a2 + (1 : Int32)) (3 : Int32)) fun S25 r26 =>
    if r26 = 0 then
      xbI (fW_cell S25 L xs (a2 + (2 : Int32)) (3 : Int32)) fun S31 r32 =>
      fW_isAct_J238 L xs S31 r26 ((4 : Int32) + r32)
    else
      if r26 = (1 : Int32) then
        xbI (fW_cell S25 L xs (a2 + (2 : Int32)) (3 : Int32)) fun S29 r30 =>
        fW_isAct_J238 L xs S29 r26 r30
      else
        xbI (fW_cell S25 L xs (a2 + (2 : Int32)) (3 : Int32)) fun S27 r28 =>
        fW_isAct_J238 L xs S27 r26 ((4 : Int32) + r28)
  | _ => none
end
section
set_option maxRecDepth 100000 in
theorem c6_copyState {l : Launch} {K : xK} {o1 : Nat} {o2 : Nat} (hvc : xVC (xvl K)) (hV1 : (4, o1) ∈ xvl K) (hV2 : (4, o2) ∈ xvl K) {S : xSt}  {out : xR} (h : f6_copyState S o1 o2  = some out) : xMet l K yX6_copyState cX6_copyState 2 none 1 18 S [xr K 4 o1, xr K 4 o2] out := by
  refine xMet_of RX6 (by decide +kernel) rfl hvc (Nat.le_of_ble_eq_true rfl) ?_
  intro X hX hM hR
  show xG K X S 0 [(0, xr K 4 o1), (1, xr K 4 o2)] []
  unfold f6_copyState at h
  refine g_aload_n hX dX6_copyState_0 rfl 0 rfl ?_
  refine g_ifnull hX dX6_copyState_1 ?_
  refine g_aload_n hX dX6_copyState_4 rfl 1 rfl ?_
  refine g_ifnonnull hX 9 dX6_copyState_5 (by decide) ?_
  refine g_aload_n hX dX6_copyState_9 rfl 0 rfl ?_
  refine g_getR hX hV1 (xf6_76 _) dX6_copyState_10 ?_
  refine g_iconst (v := (0 : Int32)) hX dX6_copyState_13 (by decide) ?_
  refine g_aload_n hX dX6_copyState_14 rfl 1 rfl ?_
  refine g_getR hX hV2 (xf6_76 _) dX6_copyState_15 ?_
  refine g_iconst (v := (0 : Int32)) hX dX6_copyState_18 (by decide) ?_
  refine g_aload_n hX dX6_copyState_19 rfl 0 rfl ?_
  refine g_getR hX hV1 (xf6_76 _) dX6_copyState_20 ?_
  refine g_alen (q := 0) (v := (3 : Int32)) hX (xvc_4_0 hX.vc hV1) rfl rfl (by show Int32.ofNat 3 = _; decide) dX6_copyState_23 ?_
  obtain ⟨hn, h⟩ := xne_inv h
  obtain ⟨S1, eS1, h⟩ := xlet_inv h
  refine g_copy hX hR (by decide) (Nat.le_of_ble_eq_true rfl) xm6_121 xcp_n xcp_s xcp_i (xvc_4_0 hX.vc hV1) (xvc_4_0 hX.vc hV2) (fun _ => rfl) (fun _ => rfl) hn dX6_copyState_24 eS1 ?_
  refine g_aload_n hX dX6_copyState_27 rfl 0 rfl ?_
  refine g_getR hX hV1 (xf6_86 _) dX6_copyState_28 ?_
  refine g_iconst (v := (0 : Int32)) hX dX6_copyState_31 (by decide) ?_
  refine g_aload_n hX dX6_copyState_32 rfl 1 rfl ?_
  refine g_getR hX hV2 (xf6_86 _) dX6_copyState_33 ?_
  refine g_iconst (v := (0 : Int32)) hX dX6_copyState_36 (by decide) ?_
  refine g_sipush (v := (240 : Int32)) hX dX6_copyState_37 (by decide) ?_
  obtain ⟨hn, h⟩ := xne_inv h
  obtain ⟨S2, eS2, h⟩ := xlet_inv h
  refine g_copy hX hR (by decide) (Nat.le_of_ble_eq_true rfl) xm6_121 xcp_n xcp_s xcp_i (xvc_4_1 hX.vc hV1) (xvc_4_1 hX.vc hV2) (fun _ => rfl) (fun _ => rfl) hn dX6_copyState_40 eS2 ?_
  refine g_aload_n hX dX6_copyState_43 rfl 0 rfl ?_
  refine g_getR hX hV1 (xf6_99 _) dX6_copyState_44 ?_
  refine g_iconst (v := (0 : Int32)) hX dX6_copyState_47 (by decide) ?_
  refine g_aload_n hX dX6_copyState_48 rfl 1 rfl ?_
  refine g_getR hX hV2 (xf6_99 _) dX6_copyState_49 ?_
  refine g_iconst (v := (0 : Int32)) hX dX6_copyState_52 (by decide) ?_
  refine g_sipush (v := (281 : Int32)) hX dX6_copyState_53 (by decide) ?_
  obtain ⟨hn, h⟩ := xne_inv h
  obtain ⟨S3, eS3, h⟩ := xlet_inv h
  refine g_copy hX hR (by decide) (Nat.le_of_ble_eq_true rfl) xm6_121 xcp_n xcp_s xcp_i (xvc_4_2 hX.vc hV1) (xvc_4_2 hX.vc hV2) (fun _ => rfl) (fun _ => rfl) hn dX6_copyState_56 eS3 ?_
  refine g_aload_n hX dX6_copyState_59 rfl 1 rfl ?_
  refine g_aload_n hX dX6_copyState_60 rfl 0 rfl ?_
  refine g_getI hX hV1 xf6_82 dX6_copyState_61 ?_
  obtain ⟨S4, eS4, h⟩ := xlet_inv h
  refine g_putI hX hV2 xf6_82 dX6_copyState_64 eS4 ?_
  exact g_vret hX hM (Option.some.inj h) dX6_copyState_67
set_option maxRecDepth 100000 in
theorem c4_mendCodes {l : Launch} {K : xK} {o : Nat} (hvc : xVC (xvl K)) (hV : (4, o) ∈ xvl K) {S : xSt}  {out : xR} (h : f4_mendCodes S o  = some out) : xMet l K yX4_mendCodes cX4_mendCodes 1 none 1 23 S [xr K 4 o] out := by
  refine xMet_of RX4 (by decide +kernel) rfl hvc (Nat.le_of_ble_eq_true rfl) ?_
  intro X hX hM hR
  show xG K X S 0 [(0, xr K 4 o)] []
  unfold f4_mendCodes at h
  refine g_aload_n hX dX4_mendCodes_0 rfl 0 rfl ?_
  refine g_getR hX hV (xf4_26 _) dX4_mendCodes_1 ?_
  refine g_iconst (v := (0 : Int32)) hX dX4_mendCodes_4 (by decide) ?_
  obtain ⟨S1, hcS1, h⟩ := xbV_inv h
  refine g_callS hX hR (fun l => cfill2 (l := l) hX.vc (xvc_4_2 hX.vc hV) (fun _ => rfl) hcS1) xc4_29 rfl ⟨by decide, by decide⟩ rfl rfl (Nat.le_of_ble_eq_true rfl) dX4_mendCodes_5 ?_
  exact g_vret hX hM (Option.some.inj h) dX4_mendCodes_8
set_option maxRecDepth 100000 in
theorem c0_dropPhrases {l : Launch} {K : xK} {o : Nat} (hvc : xVC (xvl K)) (hV : (0, o) ∈ xvl K) {S : xSt}  {out : xR} (h : f0_dropPhrases S o  = some out) : xMet l K yX0_dropPhrases cX0_dropPhrases 1 none 2 46 S [xr K 0 o] out := by
  refine xMet_of RX0 (by decide +kernel) rfl hvc (Nat.le_of_ble_eq_true rfl) ?_
  intro X hX hM hR
  show xG K X S 0 [(0, xr K 0 o)] []
  unfold f0_dropPhrases at h
  refine g_aload_n hX dX0_dropPhrases_0 rfl 0 rfl ?_
  refine g_bipush (v := (10 : Int32)) hX dX0_dropPhrases_1 (by decide) ?_
  obtain ⟨S1, eS1, h⟩ := xlet_inv h
  refine g_putI hX hV xf0_24 dX0_dropPhrases_3 eS1 ?_
  refine g_aload_n hX dX0_dropPhrases_6 rfl 0 rfl ?_
  refine g_getR hX hV (xf0_21 _) dX0_dropPhrases_7 ?_
  refine g_iconst (v := (0 : Int32)) hX dX0_dropPhrases_10 (by decide) ?_
  refine g_bipush (v := (80 : Int32)) hX dX0_dropPhrases_11 (by decide) ?_
  refine g_iconst (v := (0 : Int32)) hX dX0_dropPhrases_13 (by decide) ?_
  obtain ⟨S2, hcS2, h⟩ := xbV_inv h
  refine g_callS hX hR (fun l => cfill4 (l := l) hX.vc (xvc_0_3 hX.vc hV) (fun _ => rfl) hcS2) xc0_28 rfl ⟨by decide, by decide⟩ rfl rfl (Nat.le_of_ble_eq_true rfl) dX0_dropPhrases_14 ?_
  exact g_vret hX hM (Option.some.inj h) dX0_dropPhrases_17
set_option maxRecDepth 100000 in
theorem c5_begin {l : Launch} {K : xK} {o : Nat} (hvc : xVC (xvl K)) (hV : (5, o) ∈ xvl K) {S : xSt} {a1 : Int32} {out : xR} (h : f5_begin S o a1 = some out) : xMet l K yX5_begin cX5_begin 2 none 3 66 S [xr K 5 o, .int a1] out := by
  refine xMet_of RX5 (by decide +kernel) rfl hvc (Nat.le_of_ble_eq_true rfl) ?_
  intro X hX hM hR
  show xG K X S 0 [(0, xr K 5 o), (1, .int a1)] []
  unfold f5_begin at h
  refine g_aload_n hX dX5_begin_0 rfl 0 rfl ?_
  refine g_getR hX hV (xf5_12 _) dX5_begin_1 ?_
  obtain ⟨S1, hcS1, h⟩ := xbV_inv h
  refine g_callV hX hR (xvc_5_0 hX.vc hV) (fun l => c0_dropPhrases (l := l) hX.vc (xvc_5_0 hX.vc hV) hcS1) xc5_59 rfl ⟨by decide, by decide⟩ rfl rfl (Nat.le_of_ble_eq_true rfl) dX5_begin_4 ?_
  refine g_aload_n hX dX5_begin_7 rfl 0 rfl ?_
  refine g_iconst (v := (1 : Int32)) hX dX5_begin_8 (by decide) ?_
  refine g_iload_n hX dX5_begin_9 rfl 1 rfl ?_
  refine g_ishl hX dX5_begin_10 ?_
  obtain ⟨S2, eS2, h⟩ := xlet_inv h
  refine g_putI hX hV xf5_62 dX5_begin_11 eS2 ?_
  refine g_aload_n hX dX5_begin_14 rfl 0 rfl ?_
  refine g_iconst (v := (0 : Int32)) hX dX5_begin_15 (by decide) ?_
  obtain ⟨S3, eS3, h⟩ := xlet_inv h
  refine g_putI hX hV xf5_65 dX5_begin_16 eS3 ?_
  refine g_aload_n hX dX5_begin_19 rfl 0 rfl ?_
  refine g_iconst (v := (0 : Int32)) hX dX5_begin_20 (by decide) ?_
  obtain ⟨S4, eS4, h⟩ := xlet_inv h
  refine g_putI hX hV xf5_68 dX5_begin_21 eS4 ?_
  refine g_aload_n hX dX5_begin_24 rfl 0 rfl ?_
  refine g_iconst (v := (0 : Int32)) hX dX5_begin_25 (by decide) ?_
  obtain ⟨S5, eS5, h⟩ := xlet_inv h
  refine g_putI hX hV xf5_55 dX5_begin_26 eS5 ?_
  refine g_aload_n hX dX5_begin_29 rfl 0 rfl ?_
  refine g_iconst (v := (0 : Int32)) hX dX5_begin_30 (by decide) ?_
  obtain ⟨S6, eS6, h⟩ := xlet_inv h
  refine g_putI hX hV xf5_71 dX5_begin_31 eS6 ?_
  exact g_vret hX hM (Option.some.inj h) dX5_begin_34
set_option maxRecDepth 100000 in
theorem sb5_bitsOf_L6 {K : xK} {X : xX} {out : xR}  (hX : xOK K X RX5 cX5_bitsOf 2) (hM : xM K X out (some .int)) (hR : xRm X 0 0)   {k6 : xSt → Int32 → Int32 → Option xR} (hk6 : ∀ (S : xSt) (i0 : Int32) (i1 : Int32), k6 S i0 i1 = some out → xG K X S 6 [(0, .int i0), (1, .int i1)] []) {S : xSt} {i0 : Int32} {i1 : Int32} (h : b5_bitsOf_L6   k6 S i0 i1 = some out) : xG K X S 6 [(0, .int i0), (1, .int i1)] [] := by
  unfold b5_bitsOf_L6 at h
  refine g_iload_n hX dX5_bitsOf_6 rfl 1 rfl ?_
  refine g_gets (k := 1) hX (by decide) xf5_84 dX5_bitsOf_7 ?_
  refine g_iconst (v := (0 : Int32)) hX dX5_bitsOf_10 (by decide) ?_
  obtain ⟨hbj1, h⟩ := xat_inv h
  refine g_ialdS hX (by decide) hbj1 dX5_bitsOf_11 ?_
  refine g_icmp_ge hX 27 dX5_bitsOf_12 (by decide) (fun hc => ?_) (fun hc => ?_)
  · have h := xif_t hc h
    refine g_iload_n hX dX5_bitsOf_27 rfl 1 rfl ?_
    exact g_iret hX hM (Option.some.inj h) dX5_bitsOf_28
  · have h := xif_f hc h
    refine g_iload_n hX dX5_bitsOf_15 rfl 0 rfl ?_
    refine g_iload_n hX dX5_bitsOf_16 rfl 1 rfl ?_
    refine g_ishr hX dX5_bitsOf_17 ?_
    refine g_if_eq hX 27 dX5_bitsOf_18 (by decide) (fun hc => ?_) (fun hc => ?_)
    · have h := xif_t hc h
      refine g_iload_n hX dX5_bitsOf_27 rfl 1 rfl ?_
      exact g_iret hX hM (Option.some.inj h) dX5_bitsOf_28
    · have h := xif_f hc h
      refine g_iinc (v := (i1 + (1 : Int32))) (lv2 := [(1, .int (i1 + (1 : Int32))), (0, .int i0)]) hX dX5_bitsOf_21 1 rfl rfl (by decide) rfl ?_
      refine g_goto hX 6 dX5_bitsOf_24 (by decide) ?_
      exact g_sub [1, 0] (by rfl) (hk6 _ _ _ h)
theorem sf5_bitsOf_L6 {K : xK} {X : xX} {out : xR}  (hX : xOK K X RX5 cX5_bitsOf 2) (hM : xM K X out (some .int)) (hR : xRm X 0 0)   : ∀ (n : Nat) (S : xSt) (i0 : Int32) (i1 : Int32) (h : f5_bitsOf_L6   n S i0 i1 = some out), xG K X S 6 [(0, .int i0), (1, .int i1)] [] := by
  intro n
  induction n with
  | zero => intro S i0 i1 h; cases h
  | succ n ih => intro S i0 i1 h; exact sb5_bitsOf_L6 hX hM hR   ih h
set_option maxRecDepth 100000 in
theorem c5_bitsOf {l : Launch} {K : xK}  (hvc : xVC (xvl K))  {S : xSt} {a0 : Int32} {out : xR} (h : f5_bitsOf S  a0 = some out) : xMet l K yX5_bitsOf cX5_bitsOf 2 (some .int) 0 0 S [.int a0] out := by
  refine xMet_of RX5 (by decide +kernel) rfl hvc (Nat.le_of_ble_eq_true rfl) ?_
  intro X hX hM hR
  show xG K X S 0 [(0, .int a0)] []
  unfold f5_bitsOf at h
  refine g_gets (k := 0) hX (by decide) xf5_81 dX5_bitsOf_0 ?_
  refine g_iconst (v := (0 : Int32)) hX dX5_bitsOf_3 (by decide) ?_
  obtain ⟨hbj1, h⟩ := xat_inv h
  refine g_ialdS hX (by decide) hbj1 dX5_bitsOf_4 ?_
  refine g_istore_n (lv2 := [(1, .int (xSf 0 ((0 : Int32)).toNatClampNeg)), (0, .int a0)]) hX dX5_bitsOf_5 rfl (by decide) rfl ?_
  exact g_sub [1, 0] (by rfl) (sf5_bitsOf_L6 hX hM hR _ _ _ _ h)
set_option maxRecDepth 100000 in
theorem c5_writeCode {l : Launch} {K : xK} {o : Nat} (hvc : xVC (xvl K)) (hV : (5, o) ∈ xvl K) {S : xSt} {a1 : Int32} {a2 : Int32} {a3 : Int32} {out : xR} (h : f5_writeCode S o a1 a2 a3 = some out) : xMet l K yX5_writeCode cX5_writeCode 5 none 1 21 S [xr K 5 o, .int a1, .int a2, .int a3] out := by
  refine xMet_of RX5 (by decide +kernel) rfl hvc (Nat.le_of_ble_eq_true rfl) ?_
  intro X hX hM hR
  show xG K X S 0 [(0, xr K 5 o), (1, .int a1), (2, .int a2), (3, .int a3)] []
  unfold f5_writeCode at h
  refine g_aload_n hX dX5_writeCode_0 rfl 0 rfl ?_
  refine g_getI hX hV xf5_65 dX5_writeCode_1 ?_
  refine g_sipush (v := (281 : Int32)) hX dX5_writeCode_4 (by decide) ?_
  refine g_icmp_lt hX 11 dX5_writeCode_7 (by decide) (fun hc => ?_) (fun hc => ?_)
  · have h := xif_t hc h
    refine g_aload_n hX dX5_writeCode_11 rfl 0 rfl ?_
    refine g_getR hX hV (xf5_12 _) dX5_writeCode_12 ?_
    refine g_getI hX (xvc_5_0 hX.vc hV) xf5_74 dX5_writeCode_15 ?_
    refine g_iconst (v := (1 : Int32)) hX dX5_writeCode_18 (by decide) ?_
    refine g_isub hX dX5_writeCode_19 ?_
    obtain ⟨S1, r2, hcS1, h⟩ := xbI_inv h
    refine g_callS hX hR (fun l => c5_bitsOf (l := l) hX.vc hcS1) xc5_77 rfl ⟨by decide, by decide⟩ rfl rfl (Nat.le_of_ble_eq_true rfl) dX5_writeCode_20 ?_
    refine g_istore (lv2 := [(4, .int r2), (0, xr K 5 o), (1, .int a1), (2, .int a2), (3, .int a3)]) hX dX5_writeCode_23 (by decide) rfl ?_
    refine g_aload_n hX dX5_writeCode_25 rfl 1 rfl ?_
    refine g_getR hX hV (xf5_18 _) dX5_writeCode_26 ?_
    refine g_aload_n hX dX5_writeCode_29 rfl 1 rfl ?_
    refine g_getI hX hV xf5_65 dX5_writeCode_30 ?_
    refine g_iload_n hX dX5_writeCode_33 rfl 2 rfl ?_
    obtain ⟨hbj3, h⟩ := xat_inv h
    obtain ⟨S4, eS4, h⟩ := xlet_inv h
    refine g_iast (n := 281) hX (xvc_5_1 hX.vc hV) (fun _ => rfl) hbj3 dX5_writeCode_34 eS4 ?_
    refine g_aload_n hX dX5_writeCode_35 rfl 1 rfl ?_
    refine g_getR hX hV (xf5_22 _) dX5_writeCode_36 ?_
    refine g_aload_n hX dX5_writeCode_39 rfl 1 rfl ?_
    refine g_getI hX hV xf5_65 dX5_writeCode_40 ?_
    refine g_iload hX dX5_writeCode_43 0 rfl ?_
    obtain ⟨hbj5, h⟩ := xat_inv h
    obtain ⟨S6, eS6, h⟩ := xlet_inv h
    refine g_iast (n := 281) hX (xvc_5_2 hX.vc hV) (fun _ => rfl) hbj5 dX5_writeCode_45 eS6 ?_
    refine g_aload_n hX dX5_writeCode_46 rfl 1 rfl ?_
    refine g_getR hX hV (xf5_25 _) dX5_writeCode_47 ?_
    refine g_aload_n hX dX5_writeCode_50 rfl 1 rfl ?_
    refine g_getI hX hV xf5_65 dX5_writeCode_51 ?_
    refine g_iload_n hX dX5_writeCode_54 rfl 3 rfl ?_
    obtain ⟨hbj7, h⟩ := xat_inv h
    obtain ⟨S8, eS8, h⟩ := xlet_inv h
    refine g_iast (n := 281) hX (xvc_5_3 hX.vc hV) (fun _ => rfl) hbj7 dX5_writeCode_55 eS8 ?_
    refine g_aload_n hX dX5_writeCode_56 rfl 1 rfl ?_
    refine g_getR hX hV (xf5_28 _) dX5_writeCode_57 ?_
    refine g_aload_n hX dX5_writeCode_60 rfl 1 rfl ?_
    refine g_getI hX hV xf5_65 dX5_writeCode_61 ?_
    refine g_iload_n hX dX5_writeCode_64 rfl 4 rfl ?_
    obtain ⟨hbj9, h⟩ := xat_inv h
    obtain ⟨S10, eS10, h⟩ := xlet_inv h
    refine g_iast (n := 281) hX (xvc_5_4 hX.vc hV) (fun _ => rfl) hbj9 dX5_writeCode_65 eS10 ?_
    refine g_aload_n hX dX5_writeCode_66 rfl 1 rfl ?_
    refine g_getR hX hV (xf5_31 _) dX5_writeCode_67 ?_
    refine g_aload_n hX dX5_writeCode_70 rfl 1 rfl ?_
    refine g_getI hX hV xf5_65 dX5_writeCode_71 ?_
    refine g_aload_n hX dX5_writeCode_74 rfl 1 rfl ?_
    refine g_getR hX hV (xf5_12 _) dX5_writeCode_75 ?_
    refine g_getI hX (xvc_5_0 hX.vc hV) xf5_74 dX5_writeCode_78 ?_
    obtain ⟨hbj11, h⟩ := xat_inv h
    obtain ⟨S12, eS12, h⟩ := xlet_inv h
    refine g_iast (n := 281) hX (xvc_5_5 hX.vc hV) (fun _ => rfl) hbj11 dX5_writeCode_81 eS12 ?_
    refine g_aload_n hX dX5_writeCode_82 rfl 1 rfl ?_
    refine g_dup hX dX5_writeCode_83 rfl ?_
    refine g_getI hX hV xf5_68 dX5_writeCode_84 ?_
    refine g_iload hX dX5_writeCode_87 0 rfl ?_
    refine g_iadd hX dX5_writeCode_89 ?_
    obtain ⟨S13, eS13, h⟩ := xlet_inv h
    refine g_putI hX hV xf5_68 dX5_writeCode_90 eS13 ?_
    refine g_aload_n hX dX5_writeCode_93 rfl 1 rfl ?_
    refine g_dup hX dX5_writeCode_94 rfl ?_
    refine g_getI hX hV xf5_65 dX5_writeCode_95 ?_
    refine g_iconst (v := (1 : Int32)) hX dX5_writeCode_98 (by decide) ?_
    refine g_iadd hX dX5_writeCode_99 ?_
    obtain ⟨S14, eS14, h⟩ := xlet_inv h
    refine g_putI hX hV xf5_65 dX5_writeCode_100 eS14 ?_
    exact g_vret hX hM (Option.some.inj h) dX5_writeCode_103
  · have h := xif_f hc h
    exact g_vret hX hM (Option.some.inj h) dX5_writeCode_10
set_option maxRecDepth 100000 in
theorem sb0_longestAt_L10 {K : xK} {X : xX} {out : xR} {o : Nat} {o1 : Nat} (hX : xOK K X RX0 cX0_longestAt 7) (hM : xM K X out (some .int)) (hR : xRm X 0 0) (hV : (0, o) ∈ xvl K) (hV1 : (23, o1) ∈ xvl K)  {k10 : xSt → Int32 → Int32 → Int32 → Option xR} (hk10 : ∀ (S : xSt) (i3 : Int32) (i4 : Int32) (i5 : Int32), k10 S i3 i4 i5 = some out → xG K X S 10 [(0, xr K 0 o), (1, xr K 23 o1), (3, .int i3), (4, .int i4), (5, .int i5)] []) {S : xSt} {i3 : Int32} {i4 : Int32} {i5 : Int32} (h : b0_longestAt_L10 o o1  k10 S i3 i4 i5 = some out) : xG K X S 10 [(0, xr K 0 o), (1, xr K 23 o1), (3, .int i3), (4, .int i4), (5, .int i5)] [] := by
  unfold b0_longestAt_L10 at h
  refine g_iload hX dX0_longestAt_10 4 rfl ?_
  refine g_iload_n hX dX0_longestAt_12 rfl 2 rfl ?_
  refine g_icmp_ge hX 51 dX0_longestAt_13 (by decide) (fun hc => ?_) (fun hc => ?_)
  · have h := xif_t hc h
    refine g_iload hX dX0_longestAt_51 3 rfl ?_
    exact g_iret hX hM (Option.some.inj h) dX0_longestAt_53
  · have h := xif_f hc h
    refine g_aload_n hX dX0_longestAt_16 rfl 0 rfl ?_
    refine g_getR hX hV (xf0_21 _) dX0_longestAt_17 ?_
    refine g_iload hX dX0_longestAt_20 3 rfl ?_
    refine g_bipush (v := (8 : Int32)) hX dX0_longestAt_22 (by decide) ?_
    refine g_imul hX dX0_longestAt_24 ?_
    refine g_aload_n hX dX0_longestAt_25 rfl 1 rfl ?_
    refine g_iload hX dX0_longestAt_26 4 rfl ?_
    obtain ⟨hbj1, h⟩ := xat_inv h
    refine g_iald (n := 240) hX hV1 rfl hbj1 dX0_longestAt_28 ?_
    refine g_iadd hX dX0_longestAt_29 ?_
    obtain ⟨hbj2, h⟩ := xat_inv h
    refine g_iald (n := 4096) hX (xvc_0_3 hX.vc hV) rfl hbj2 dX0_longestAt_30 ?_
    refine g_istore (lv2 := [(6, .int (S 13 o (((i4 * (8 : Int32)) + (S 23 o1 (i5).toNatClampNeg))).toNatClampNeg)), (0, xr K 0 o), (1, xr K 23 o1), (3, .int i3), (4, .int i4), (5, .int i5)]) hX dX0_longestAt_31 (by decide) rfl ?_
    refine g_iload hX dX0_longestAt_33 0 rfl ?_
    refine g_if_ne hX 41 dX0_longestAt_35 (by decide) (fun hc => ?_) (fun hc => ?_)
    · have h := xif_f hc h
      refine g_iload hX dX0_longestAt_41 0 rfl ?_
      refine g_istore (lv2 := [(4, .int (S 13 o (((i4 * (8 : Int32)) + (S 23 o1 (i5).toNatClampNeg))).toNatClampNeg)), (6, .int (S 13 o (((i4 * (8 : Int32)) + (S 23 o1 (i5).toNatClampNeg))).toNatClampNeg)), (0, xr K 0 o), (1, xr K 23 o1), (3, .int i3), (5, .int i5)]) hX dX0_longestAt_43 (by decide) rfl ?_
      refine g_iinc (v := (i5 + (1 : Int32))) (lv2 := [(5, .int (i5 + (1 : Int32))), (4, .int (S 13 o (((i4 * (8 : Int32)) + (S 23 o1 (i5).toNatClampNeg))).toNatClampNeg)), (6, .int (S 13 o (((i4 * (8 : Int32)) + (S 23 o1 (i5).toNatClampNeg))).toNatClampNeg)), (0, xr K 0 o), (1, xr K 23 o1), (3, .int i3)]) hX dX0_longestAt_45 5 rfl rfl (by decide) rfl ?_
      refine g_goto hX 10 dX0_longestAt_48 (by decide) ?_
      exact g_sub [3, 4, 5, 1, 0] (by rfl) (hk10 _ _ _ _ h)
    · have h := xif_t hc h
      refine g_iload hX dX0_longestAt_38 4 rfl ?_
      exact g_iret hX hM (Option.some.inj h) dX0_longestAt_40
theorem sf0_longestAt_L10 {K : xK} {X : xX} {out : xR} {o : Nat} {o1 : Nat} (hX : xOK K X RX0 cX0_longestAt 7) (hM : xM K X out (some .int)) (hR : xRm X 0 0) (hV : (0, o) ∈ xvl K) (hV1 : (23, o1) ∈ xvl K)  : ∀ (n : Nat) (S : xSt) (i3 : Int32) (i4 : Int32) (i5 : Int32) (h : f0_longestAt_L10 o o1  n S i3 i4 i5 = some out), xG K X S 10 [(0, xr K 0 o), (1, xr K 23 o1), (3, .int i3), (4, .int i4), (5, .int i5)] [] := by
  intro n
  induction n with
  | zero => intro S i3 i4 i5 h; cases h
  | succ n ih => intro S i3 i4 i5 h; exact sb0_longestAt_L10 hX hM hR hV hV1  ih h
set_option maxRecDepth 100000 in
theorem c0_longestAt {l : Launch} {K : xK} {o : Nat} {o1 : Nat} (hvc : xVC (xvl K)) (hV : (0, o) ∈ xvl K) (hV1 : (23, o1) ∈ xvl K) {S : xSt} {a2 : Int32} {a3 : Int32} {out : xR} (h : f0_longestAt S o o1 a2 a3 = some out) : xMet l K yX0_longestAt cX0_longestAt 7 (some .int) 0 0 S [xr K 0 o, xr K 23 o1, .int a2, .int a3] out := by
  refine xMet_of RX0 (by decide +kernel) rfl hvc (Nat.le_of_ble_eq_true rfl) ?_
  intro X hX hM hR
  show xG K X S 0 [(0, xr K 0 o), (1, xr K 23 o1), (2, .int a2), (3, .int a3)] []
  unfold f0_longestAt at h
  refine g_aload_n hX dX0_longestAt_0 rfl 1 rfl ?_
  refine g_iload_n hX dX0_longestAt_1 rfl 2 rfl ?_
  obtain ⟨hbj1, h⟩ := xat_inv h
  refine g_iald (n := 240) hX hV1 rfl hbj1 dX0_longestAt_2 ?_
  refine g_istore (lv2 := [(4, .int (S 23 o1 (a2).toNatClampNeg)), (0, xr K 0 o), (1, xr K 23 o1), (2, .int a2), (3, .int a3)]) hX dX0_longestAt_3 (by decide) rfl ?_
  refine g_iload_n hX dX0_longestAt_5 rfl 3 rfl ?_
  refine g_iconst (v := (1 : Int32)) hX dX0_longestAt_6 (by decide) ?_
  refine g_iadd hX dX0_longestAt_7 ?_
  refine g_istore (lv2 := [(5, .int (a2 + (1 : Int32))), (4, .int (S 23 o1 (a2).toNatClampNeg)), (0, xr K 0 o), (1, xr K 23 o1), (2, .int a2), (3, .int a3)]) hX dX0_longestAt_8 (by decide) rfl ?_
  exact g_sub [2, 3, 5, 1, 0] (by rfl) (sf0_longestAt_L10 hX hM hR hV hV1 _ _ _ _ _ h)
set_option maxRecDepth 100000 in
theorem c0_addPhrase {l : Launch} {K : xK} {o : Nat} (hvc : xVC (xvl K)) (hV : (0, o) ∈ xvl K) {S : xSt} {a1 : Int32} {a2 : Int32} {out : xR} (h : f0_addPhrase S o a1 a2 = some out) : xMet l K yX0_addPhrase cX0_addPhrase 3 none 2 46 S [xr K 0 o, .int a1, .int a2] out := by
  refine xMet_of RX0 (by decide +kernel) rfl hvc (Nat.le_of_ble_eq_true rfl) ?_
  intro X hX hM hR
  show xG K X S 0 [(0, xr K 0 o), (1, .int a1), (2, .int a2)] []
  unfold f0_addPhrase at h
  refine g_aload_n hX dX0_addPhrase_0 rfl 0 rfl ?_
  refine g_getI hX hV xf0_24 dX0_addPhrase_1 ?_
  refine g_sipush (v := (512 : Int32)) hX dX0_addPhrase_4 (by decide) ?_
  refine g_icmp_lt hX 11 dX0_addPhrase_7 (by decide) (fun hc => ?_) (fun hc => ?_)
  · have h := xif_t hc h
    refine g_aload_n hX dX0_addPhrase_11 rfl 0 rfl ?_
    refine g_getR hX hV (xf0_9 _) dX0_addPhrase_12 ?_
    refine g_aload_n hX dX0_addPhrase_15 rfl 0 rfl ?_
    refine g_getI hX hV xf0_24 dX0_addPhrase_16 ?_
    refine g_iload_n hX dX0_addPhrase_19 rfl 1 rfl ?_
    obtain ⟨hbj1, h⟩ := xat_inv h
    obtain ⟨S2, eS2, h⟩ := xlet_inv h
    refine g_iast (n := 512) hX (xvc_0_0 hX.vc hV) (fun _ => rfl) hbj1 dX0_addPhrase_20 eS2 ?_
    refine g_aload_n hX dX0_addPhrase_21 rfl 0 rfl ?_
    refine g_getR hX hV (xf0_15 _) dX0_addPhrase_22 ?_
    refine g_aload_n hX dX0_addPhrase_25 rfl 0 rfl ?_
    refine g_getI hX hV xf0_24 dX0_addPhrase_26 ?_
    refine g_iload_n hX dX0_addPhrase_29 rfl 2 rfl ?_
    obtain ⟨hbj3, h⟩ := xat_inv h
    obtain ⟨S4, eS4, h⟩ := xlet_inv h
    refine g_iast (n := 512) hX (xvc_0_1 hX.vc hV) (fun _ => rfl) hbj3 dX0_addPhrase_30 eS4 ?_
    refine g_aload_n hX dX0_addPhrase_31 rfl 0 rfl ?_
    refine g_getR hX hV (xf0_18 _) dX0_addPhrase_32 ?_
    refine g_aload_n hX dX0_addPhrase_35 rfl 0 rfl ?_
    refine g_getI hX hV xf0_24 dX0_addPhrase_36 ?_
    refine g_aload_n hX dX0_addPhrase_39 rfl 0 rfl ?_
    refine g_getR hX hV (xf0_18 _) dX0_addPhrase_40 ?_
    refine g_iload_n hX dX0_addPhrase_43 rfl 1 rfl ?_
    obtain ⟨hbj5, h⟩ := xat_inv h
    refine g_iald (n := 512) hX (xvc_0_2 hX.vc hV) rfl hbj5 dX0_addPhrase_44 ?_
    refine g_iconst (v := (1 : Int32)) hX dX0_addPhrase_45 (by decide) ?_
    refine g_iadd hX dX0_addPhrase_46 ?_
    obtain ⟨hbj6, h⟩ := xat_inv h
    obtain ⟨S7, eS7, h⟩ := xlet_inv h
    refine g_iast (n := 512) hX (xvc_0_2 hX.vc hV) (fun _ => rfl) hbj6 dX0_addPhrase_47 eS7 ?_
    refine g_aload_n hX dX0_addPhrase_48 rfl 0 rfl ?_
    refine g_getR hX hV (xf0_21 _) dX0_addPhrase_49 ?_
    refine g_iload_n hX dX0_addPhrase_52 rfl 1 rfl ?_
    refine g_bipush (v := (8 : Int32)) hX dX0_addPhrase_53 (by decide) ?_
    refine g_imul hX dX0_addPhrase_55 ?_
    refine g_iload_n hX dX0_addPhrase_56 rfl 2 rfl ?_
    refine g_iadd hX dX0_addPhrase_57 ?_
    refine g_aload_n hX dX0_addPhrase_58 rfl 0 rfl ?_
    refine g_getI hX hV xf0_24 dX0_addPhrase_59 ?_
    obtain ⟨hbj8, h⟩ := xat_inv h
    obtain ⟨S9, eS9, h⟩ := xlet_inv h
    refine g_iast (n := 4096) hX (xvc_0_3 hX.vc hV) (fun _ => rfl) hbj8 dX0_addPhrase_62 eS9 ?_
    refine g_aload_n hX dX0_addPhrase_63 rfl 0 rfl ?_
    refine g_getR hX hV (xf0_21 _) dX0_addPhrase_64 ?_
    refine g_aload_n hX dX0_addPhrase_67 rfl 0 rfl ?_
    refine g_getI hX hV xf0_24 dX0_addPhrase_68 ?_
    refine g_bipush (v := (8 : Int32)) hX dX0_addPhrase_71 (by decide) ?_
    refine g_imul hX dX0_addPhrase_73 ?_
    refine g_aload_n hX dX0_addPhrase_74 rfl 0 rfl ?_
    refine g_getI hX hV xf0_24 dX0_addPhrase_75 ?_
    refine g_iconst (v := (1 : Int32)) hX dX0_addPhrase_78 (by decide) ?_
    refine g_iadd hX dX0_addPhrase_79 ?_
    refine g_bipush (v := (8 : Int32)) hX dX0_addPhrase_80 (by decide) ?_
    refine g_imul hX dX0_addPhrase_82 ?_
    refine g_iconst (v := (0 : Int32)) hX dX0_addPhrase_83 (by decide) ?_
    obtain ⟨S10, hcS10, h⟩ := xbV_inv h
    refine g_callS hX hR (fun l => cfill4 (l := l) hX.vc (xvc_0_3 hX.vc hV) (fun _ => rfl) hcS10) xc0_28 rfl ⟨by decide, by decide⟩ rfl rfl (Nat.le_of_ble_eq_true rfl) dX0_addPhrase_84 ?_
    refine g_aload_n hX dX0_addPhrase_87 rfl 0 rfl ?_
    refine g_dup hX dX0_addPhrase_88 rfl ?_
    refine g_getI hX hV xf0_24 dX0_addPhrase_89 ?_
    refine g_iconst (v := (1 : Int32)) hX dX0_addPhrase_92 (by decide) ?_
    refine g_iadd hX dX0_addPhrase_93 ?_
    obtain ⟨S11, eS11, h⟩ := xlet_inv h
    refine g_putI hX hV xf0_24 dX0_addPhrase_94 eS11 ?_
    exact g_vret hX hM (Option.some.inj h) dX0_addPhrase_97
  · have h := xif_f hc h
    exact g_vret hX hM (Option.some.inj h) dX0_addPhrase_10
set_option maxRecDepth 100000 in
theorem c5_grow {l : Launch} {K : xK} {o : Nat} (hvc : xVC (xvl K)) (hV : (5, o) ∈ xvl K) {S : xSt} {a1 : Int32} {a2 : Int32} {out : xR} (h : f5_grow S o a1 a2 = some out) : xMet l K yX5_grow cX5_grow 3 none 3 68 S [xr K 5 o, .int a1, .int a2] out := by
  refine xMet_of RX5 (by decide +kernel) rfl hvc (Nat.le_of_ble_eq_true rfl) ?_
  intro X hX hM hR
  show xG K X S 0 [(0, xr K 5 o), (1, .int a1), (2, .int a2)] []
  unfold f5_grow at h
  refine g_aload_n hX dX5_grow_0 rfl 0 rfl ?_
  refine g_getR hX hV (xf5_12 _) dX5_grow_1 ?_
  refine g_getI hX (xvc_5_0 hX.vc hV) xf5_74 dX5_grow_4 ?_
  refine g_aload_n hX dX5_grow_7 rfl 0 rfl ?_
  refine g_getI hX hV xf5_62 dX5_grow_8 ?_
  refine g_icmp_lt hX 15 dX5_grow_11 (by decide) (fun hc => ?_) (fun hc => ?_)
  · have h := xif_t hc h
    refine g_aload_n hX dX5_grow_15 rfl 0 rfl ?_
    refine g_getR hX hV (xf5_12 _) dX5_grow_16 ?_
    refine g_iload_n hX dX5_grow_19 rfl 1 rfl ?_
    refine g_iload_n hX dX5_grow_20 rfl 2 rfl ?_
    obtain ⟨S1, hcS1, h⟩ := xbV_inv h
    refine g_callV hX hR (xvc_5_0 hX.vc hV) (fun l => c0_addPhrase (l := l) hX.vc (xvc_5_0 hX.vc hV) hcS1) xc5_87 rfl ⟨by decide, by decide⟩ rfl rfl (Nat.le_of_ble_eq_true rfl) dX5_grow_21 ?_
    refine g_aload_n hX dX5_grow_24 rfl 0 rfl ?_
    refine g_aload_n hX dX5_grow_25 rfl 0 rfl ?_
    refine g_getI hX hV xf5_71 dX5_grow_26 ?_
    refine g_aload_n hX dX5_grow_29 rfl 0 rfl ?_
    refine g_getR hX hV (xf5_12 _) dX5_grow_30 ?_
    refine g_getR hX (xvc_5_0 hX.vc hV) (xf5_42 _) dX5_grow_33 ?_
    refine g_iload_n hX dX5_grow_36 rfl 1 rfl ?_
    obtain ⟨hbj2, h⟩ := xat_inv h
    refine g_iald (n := 512) hX (xvc_0_2 hX.vc (xvc_5_0 hX.vc hV)) rfl hbj2 dX5_grow_37 ?_
    refine g_iconst (v := (1 : Int32)) hX dX5_grow_38 (by decide) ?_
    refine g_iadd hX dX5_grow_39 ?_
    refine g_max hX hR (by decide) (Nat.le_of_ble_eq_true rfl) xm5_90 xms_max xmi xmc_max dX5_grow_40 ?_
    obtain ⟨S3, eS3, h⟩ := xlet_inv h
    refine g_putI hX hV xf5_71 dX5_grow_43 eS3 ?_
    refine g_aload_n hX dX5_grow_46 rfl 0 rfl ?_
    refine g_aload_n hX dX5_grow_47 rfl 0 rfl ?_
    refine g_getI hX hV xf5_65 dX5_grow_48 ?_
    obtain ⟨S4, eS4, h⟩ := xlet_inv h
    refine g_putI hX hV xf5_96 dX5_grow_51 eS4 ?_
    exact g_vret hX hM (Option.some.inj h) dX5_grow_54
  · have h := xif_f hc h
    exact g_vret hX hM (Option.some.inj h) dX5_grow_14
set_option maxRecDepth 100000 in
theorem sb5_signsOf_L5 {K : xK} {X : xX} {out : xR} {o : Nat} (hX : xOK K X RX5 cX5_signsOf 5) (hM : xM K X out (some .int)) (hR : xRm X 0 0) (hV : (5, o) ∈ xvl K)  {k5 : xSt → Int32 → Int32 → Int32 → Option xR} (hk5 : ∀ (S : xSt) (i2 : Int32) (i3 : Int32) (i4 : Int32), k5 S i2 i3 i4 = some out → xG K X S 5 [(0, xr K 5 o), (2, .int i2), (3, .int i3), (4, .int i4)] []) {S : xSt} {i2 : Int32} {i3 : Int32} {i4 : Int32} (h : b5_signsOf_L5 o  k5 S i2 i3 i4 = some out) : xG K X S 5 [(0, xr K 5 o), (2, .int i2), (3, .int i3), (4, .int i4)] [] := by
  unfold b5_signsOf_L5 at h
  refine g_iload hX dX5_signsOf_5 3 rfl ?_
  refine g_iload_n hX dX5_signsOf_7 rfl 1 rfl ?_
  refine g_icmp_ge hX 27 dX5_signsOf_8 (by decide) (fun hc => ?_) (fun hc => ?_)
  · have h := xif_t hc h
    refine g_iload_n hX dX5_signsOf_27 rfl 2 rfl ?_
    exact g_iret hX hM (Option.some.inj h) dX5_signsOf_28
  · have h := xif_f hc h
    refine g_iload_n hX dX5_signsOf_11 rfl 2 rfl ?_
    refine g_aload_n hX dX5_signsOf_12 rfl 0 rfl ?_
    refine g_getR hX hV (xf5_28 _) dX5_signsOf_13 ?_
    refine g_iload hX dX5_signsOf_16 3 rfl ?_
    obtain ⟨hbj1, h⟩ := xat_inv h
    refine g_iald (n := 281) hX (xvc_5_4 hX.vc hV) rfl hbj1 dX5_signsOf_18 ?_
    refine g_iadd hX dX5_signsOf_19 ?_
    refine g_istore_n (lv2 := [(3, .int (i3 + (S 28 o (i4).toNatClampNeg))), (0, xr K 5 o), (2, .int i2), (4, .int i4)]) hX dX5_signsOf_20 rfl (by decide) rfl ?_
    refine g_iinc (v := (i4 + (1 : Int32))) (lv2 := [(4, .int (i4 + (1 : Int32))), (3, .int (i3 + (S 28 o (i4).toNatClampNeg))), (0, xr K 5 o), (2, .int i2)]) hX dX5_signsOf_21 3 rfl rfl (by decide) rfl ?_
    refine g_goto hX 5 dX5_signsOf_24 (by decide) ?_
    exact g_sub [2, 3, 1, 0] (by rfl) (hk5 _ _ _ _ h)
theorem sf5_signsOf_L5 {K : xK} {X : xX} {out : xR} {o : Nat} (hX : xOK K X RX5 cX5_signsOf 5) (hM : xM K X out (some .int)) (hR : xRm X 0 0) (hV : (5, o) ∈ xvl K)  : ∀ (n : Nat) (S : xSt) (i2 : Int32) (i3 : Int32) (i4 : Int32) (h : f5_signsOf_L5 o  n S i2 i3 i4 = some out), xG K X S 5 [(0, xr K 5 o), (2, .int i2), (3, .int i3), (4, .int i4)] [] := by
  intro n
  induction n with
  | zero => intro S i2 i3 i4 h; cases h
  | succ n ih => intro S i2 i3 i4 h; exact sb5_signsOf_L5 hX hM hR hV  ih h
set_option maxRecDepth 100000 in
theorem c5_signsOf {l : Launch} {K : xK} {o : Nat} (hvc : xVC (xvl K)) (hV : (5, o) ∈ xvl K) {S : xSt} {a1 : Int32} {a2 : Int32} {out : xR} (h : f5_signsOf S o a1 a2 = some out) : xMet l K yX5_signsOf cX5_signsOf 5 (some .int) 0 0 S [xr K 5 o, .int a1, .int a2] out := by
  refine xMet_of RX5 (by decide +kernel) rfl hvc (Nat.le_of_ble_eq_true rfl) ?_
  intro X hX hM hR
  show xG K X S 0 [(0, xr K 5 o), (1, .int a1), (2, .int a2)] []
  unfold f5_signsOf at h
  refine g_iconst (v := (0 : Int32)) hX dX5_signsOf_0 (by decide) ?_
  refine g_istore_n (lv2 := [(3, .int (0 : Int32)), (0, xr K 5 o), (1, .int a1), (2, .int a2)]) hX dX5_signsOf_1 rfl (by decide) rfl ?_
  refine g_iload_n hX dX5_signsOf_2 rfl 2 rfl ?_
  refine g_istore (lv2 := [(4, .int a1), (3, .int (0 : Int32)), (0, xr K 5 o), (1, .int a1), (2, .int a2)]) hX dX5_signsOf_3 (by decide) rfl ?_
  exact g_sub [2, 4, 1, 0] (by rfl) (sf5_signsOf_L5 hX hM hR hV _ _ _ _ _ h)
set_option maxRecDepth 100000 in
theorem c5_losesBy {l : Launch} {K : xK} {o : Nat} (hvc : xVC (xvl K)) (hV : (5, o) ∈ xvl K) {S : xSt} {a1 : Int32} {out : xR} (h : f5_losesBy S o a1 = some out) : xMet l K yX5_losesBy cX5_losesBy 2 (some .boolean) 1 24 S [xr K 5 o, .int a1] out := by
  refine xMet_of RX5 (by decide +kernel) rfl hvc (Nat.le_of_ble_eq_true rfl) ?_
  intro X hX hM hR
  show xG K X S 0 [(0, xr K 5 o), (1, .int a1)] []
  unfold f5_losesBy at h
  refine g_aload_n hX dX5_losesBy_0 rfl 0 rfl ?_
  refine g_getI hX hV xf5_65 dX5_losesBy_1 ?_
  refine g_aload_n hX dX5_losesBy_4 rfl 0 rfl ?_
  refine g_getI hX hV xf5_96 dX5_losesBy_5 ?_
  refine g_isub hX dX5_losesBy_8 ?_
  refine g_iconst (v := (2 : Int32)) hX dX5_losesBy_9 (by decide) ?_
  refine g_iload_n hX dX5_losesBy_10 rfl 1 rfl ?_
  refine g_imul hX dX5_losesBy_11 ?_
  refine g_icmp_ge hX 17 dX5_losesBy_12 (by decide) (fun hc => ?_) (fun hc => ?_)
  · have h := xif_t hc h
    refine g_aload_n hX dX5_losesBy_17 rfl 0 rfl ?_
    refine g_aload_n hX dX5_losesBy_18 rfl 0 rfl ?_
    refine g_getI hX hV xf5_65 dX5_losesBy_19 ?_
    refine g_iload_n hX dX5_losesBy_22 rfl 1 rfl ?_
    refine g_isub hX dX5_losesBy_23 ?_
    refine g_aload_n hX dX5_losesBy_24 rfl 0 rfl ?_
    refine g_getI hX hV xf5_65 dX5_losesBy_25 ?_
    obtain ⟨S1, r2, hcS1, h⟩ := xbI_inv h
    refine g_callV hX hR hV (fun l => c5_signsOf (l := l) hX.vc hV hcS1) xc5_103 rfl ⟨by decide, by decide⟩ rfl rfl (Nat.le_of_ble_eq_true rfl) dX5_losesBy_28 ?_
    refine g_aload_n hX dX5_losesBy_31 rfl 0 rfl ?_
    refine g_aload_n hX dX5_losesBy_32 rfl 0 rfl ?_
    refine g_getI hX hV xf5_65 dX5_losesBy_33 ?_
    refine g_iconst (v := (2 : Int32)) hX dX5_losesBy_36 (by decide) ?_
    refine g_iload_n hX dX5_losesBy_37 rfl 1 rfl ?_
    refine g_imul hX dX5_losesBy_38 ?_
    refine g_isub hX dX5_losesBy_39 ?_
    refine g_aload_n hX dX5_losesBy_40 rfl 0 rfl ?_
    refine g_getI hX hV xf5_65 dX5_losesBy_41 ?_
    refine g_iload_n hX dX5_losesBy_44 rfl 1 rfl ?_
    refine g_isub hX dX5_losesBy_45 ?_
    obtain ⟨S3, r4, hcS3, h⟩ := xbI_inv h
    refine g_callV hX hR hV (fun l => c5_signsOf (l := l) hX.vc hV hcS3) xc5_103 rfl ⟨by decide, by decide⟩ rfl rfl (Nat.le_of_ble_eq_true rfl) dX5_losesBy_46 ?_
    refine g_icmp_ge hX 56 dX5_losesBy_49 (by decide) (fun hc => ?_) (fun hc => ?_)
    · have h := xif_t hc h
      refine g_iconst (v := (0 : Int32)) hX dX5_losesBy_56 (by decide) ?_
      obtain ⟨hz, h⟩ := xne_inv h
      exact g_zret hX hM hz (Option.some.inj h) dX5_losesBy_57
    · have h := xif_f hc h
      refine g_iconst (v := (1 : Int32)) hX dX5_losesBy_52 (by decide) ?_
      refine g_goto hX 57 dX5_losesBy_53 (by decide) ?_
      obtain ⟨hz, h⟩ := xne_inv h
      exact g_zret hX hM hz (Option.some.inj h) dX5_losesBy_57
  · have h := xif_f hc h
    refine g_iconst (v := (0 : Int32)) hX dX5_losesBy_15 (by decide) ?_
    obtain ⟨hz, h⟩ := xne_inv h
    exact g_zret hX hM hz (Option.some.inj h) dX5_losesBy_16
set_option maxRecDepth 100000 in
theorem sf5_mustClear_J33 {K : xK} {X : xX} {out : xR} {o : Nat} (hX : xOK K X RX5 cX5_mustClear 3) (hM : xM K X out (some .boolean)) (hR : xRm X 2 45) (hV : (5, o) ∈ xvl K)  {S : xSt}  (h : f5_mustClear_J33 o  S  = some out) : xG K X S 33 [] [] := by
  unfold f5_mustClear_J33 at h
  refine g_iconst (v := (1 : Int32)) hX dX5_mustClear_33 (by decide) ?_
  refine g_goto hX 38 dX5_mustClear_34 (by decide) ?_
  obtain ⟨hz, h⟩ := xne_inv h
  exact g_zret hX hM hz (Option.some.inj h) dX5_mustClear_38
set_option maxRecDepth 100000 in
theorem c5_mustClear {l : Launch} {K : xK} {o : Nat} (hvc : xVC (xvl K)) (hV : (5, o) ∈ xvl K) {S : xSt} {a1 : Int32} {a2 : Int32} {out : xR} (h : f5_mustClear S o a1 a2 = some out) : xMet l K yX5_mustClear cX5_mustClear 3 (some .boolean) 2 45 S [xr K 5 o, .int a1, .int a2] out := by
  refine xMet_of RX5 (by decide +kernel) rfl hvc (Nat.le_of_ble_eq_true rfl) ?_
  intro X hX hM hR
  show xG K X S 0 [(0, xr K 5 o), (1, .int a1), (2, .int a2)] []
  unfold f5_mustClear at h
  refine g_iload_n hX dX5_mustClear_0 rfl 1 rfl ?_
  refine g_if_eq hX 18 dX5_mustClear_1 (by decide) (fun hc => ?_) (fun hc => ?_)
  · have h := xif_t hc h
    refine g_iconst (v := (0 : Int32)) hX dX5_mustClear_18 (by decide) ?_
    obtain ⟨hz, h⟩ := xne_inv h
    exact g_zret hX hM hz (Option.some.inj h) dX5_mustClear_19
  · have h := xif_f hc h
    refine g_aload_n hX dX5_mustClear_4 rfl 0 rfl ?_
    refine g_getR hX hV (xf5_12 _) dX5_mustClear_5 ?_
    refine g_getI hX (xvc_5_0 hX.vc hV) xf5_74 dX5_mustClear_8 ?_
    refine g_aload_n hX dX5_mustClear_11 rfl 0 rfl ?_
    refine g_getI hX hV xf5_62 dX5_mustClear_12 ?_
    refine g_icmp_ge hX 20 dX5_mustClear_15 (by decide) (fun hc => ?_) (fun hc => ?_)
    · have h := xif_t hc h
      refine g_iload_n hX dX5_mustClear_20 rfl 1 rfl ?_
      refine g_iconst (v := (1 : Int32)) hX dX5_mustClear_21 (by decide) ?_
      refine g_icmp_eq hX 33 dX5_mustClear_22 (by decide) (fun hc => ?_) (fun hc => ?_)
      · have h := xif_t hc h
        exact g_sub [] (by rfl) (sf5_mustClear_J33 hX hM hR hV h)
      · have h := xif_f hc h
        refine g_aload_n hX dX5_mustClear_25 rfl 0 rfl ?_
        refine g_iload_n hX dX5_mustClear_26 rfl 2 rfl ?_
        obtain ⟨S1, r2, hcS1, h⟩ := xbI_inv h
        refine g_callV hX hR hV (fun l => c5_losesBy (l := l) hX.vc hV hcS1) xc5_99 rfl ⟨by decide, by decide⟩ rfl rfl (Nat.le_of_ble_eq_true rfl) dX5_mustClear_27 ?_
        refine g_if_eq hX 37 dX5_mustClear_30 (by decide) (fun hc => ?_) (fun hc => ?_)
        · have h := xif_t hc h
          refine g_iconst (v := (0 : Int32)) hX dX5_mustClear_37 (by decide) ?_
          obtain ⟨hz, h⟩ := xne_inv h
          exact g_zret hX hM hz (Option.some.inj h) dX5_mustClear_38
        · have h := xif_f hc h
          exact g_sub [] (by rfl) (sf5_mustClear_J33 hX hM hR hV h)
    · have h := xif_f hc h
      refine g_iconst (v := (0 : Int32)) hX dX5_mustClear_18 (by decide) ?_
      obtain ⟨hz, h⟩ := xne_inv h
      exact g_zret hX hM hz (Option.some.inj h) dX5_mustClear_19
set_option maxRecDepth 100000 in
theorem sf5_writeOut_J130 {K : xK} {X : xX} {out : xR} {o : Nat} {o1 : Nat} (hX : xOK K X RX5 cX5_writeOut 9) (hM : xM K X out none) (hR : xRm X 4 90) (hV : (5, o) ∈ xvl K) (hV1 : (23, o1) ∈ xvl K)  {S : xSt}  (h : f5_writeOut_J130 o o1  S  = some out) : xG K X S 130 [(0, xr K 5 o)] [] := by
  unfold f5_writeOut_J130 at h
  refine g_aload_n hX dX5_writeOut_130 rfl 0 rfl ?_
  refine g_bipush (v := (9 : Int32)) hX dX5_writeOut_131 (by decide) ?_
  refine g_bipush (v := (-6 : Int32)) hX dX5_writeOut_133 (by decide) ?_
  refine g_iconst (v := (0 : Int32)) hX dX5_writeOut_135 (by decide) ?_
  obtain ⟨S1, hcS1, h⟩ := xbV_inv h
  refine g_callV hX hR hV (fun l => c5_writeCode (l := l) hX.vc hV hcS1) xc5_43 rfl ⟨by decide, by decide⟩ rfl rfl (Nat.le_of_ble_eq_true rfl) dX5_writeOut_136 ?_
  exact g_vret hX hM (Option.some.inj h) dX5_writeOut_139
set_option maxRecDepth 100000 in
theorem sf5_writeOut_J124 {K : xK} {X : xX} {out : xR} {o : Nat} {o1 : Nat} (hX : xOK K X RX5 cX5_writeOut 9) (hM : xM K X out none) (hR : xRm X 4 90) (hV : (5, o) ∈ xvl K) (hV1 : (23, o1) ∈ xvl K) {k11 : xSt → Int32 → Int32 → Int32 → Int32 → Int32 → Option xR} (hk11 : ∀ (S : xSt) (i2 : Int32) (i4 : Int32) (i5 : Int32) (i6 : Int32) (i7 : Int32), k11 S i2 i4 i5 i6 i7 = some out → xG K X S 11 [(0, xr K 5 o), (1, xr K 23 o1), (2, .int i2), (4, .int i4), (5, .int i5), (6, .int i6), (7, .int i7)] []) {S : xSt} {i2 : Int32} {i4 : Int32} {i5 : Int32} {i6 : Int32} {i7 : Int32} (h : f5_writeOut_J124 o o1 k11 S i2 i4 i5 i6 i7 = some out) : xG K X S 124 [(0, xr K 5 o), (1, xr K 23 o1), (2, .int i2), (4, .int i4), (5, .int i5), (6, .int i6), (7, .int i7)] [] := by
  unfold f5_writeOut_J124 at h
  refine g_iinc (v := (i7 + (1 : Int32))) (lv2 := [(7, .int (i7 + (1 : Int32))), (0, xr K 5 o), (1, xr K 23 o1), (2, .int i2), (4, .int i4), (5, .int i5), (6, .int i6)]) hX dX5_writeOut_124 6 rfl rfl (by decide) rfl ?_
  refine g_goto hX 11 dX5_writeOut_127 (by decide) ?_
  exact g_sub [1, 2, 3, 4, 5, 6, 0] (by rfl) (hk11 _ _ _ _ _ _ h)
set_option maxRecDepth 100000 in
theorem sb5_writeOut_L11 {K : xK} {X : xX} {out : xR} {o : Nat} {o1 : Nat} (hX : xOK K X RX5 cX5_writeOut 9) (hM : xM K X out none) (hR : xRm X 4 90) (hV : (5, o) ∈ xvl K) (hV1 : (23, o1) ∈ xvl K)  {k11 : xSt → Int32 → Int32 → Int32 → Int32 → Int32 → Option xR} (hk11 : ∀ (S : xSt) (i2 : Int32) (i4 : Int32) (i5 : Int32) (i6 : Int32) (i7 : Int32), k11 S i2 i4 i5 i6 i7 = some out → xG K X S 11 [(0, xr K 5 o), (1, xr K 23 o1), (2, .int i2), (4, .int i4), (5, .int i5), (6, .int i6), (7, .int i7)] []) {S : xSt} {i2 : Int32} {i4 : Int32} {i5 : Int32} {i6 : Int32} {i7 : Int32} (h : b5_writeOut_L11 o o1  k11 S i2 i4 i5 i6 i7 = some out) : xG K X S 11 [(0, xr K 5 o), (1, xr K 23 o1), (2, .int i2), (4, .int i4), (5, .int i5), (6, .int i6), (7, .int i7)] [] := by
  unfold b5_writeOut_L11 at h
  refine g_iload hX dX5_writeOut_11 6 rfl ?_
  refine g_sipush (v := (240 : Int32)) hX dX5_writeOut_13 (by decide) ?_
  refine g_icmp_ge hX 130 dX5_writeOut_16 (by decide) (fun hc => ?_) (fun hc => ?_)
  · have h := xif_t hc h
    exact g_sub [0] (by rfl) (sf5_writeOut_J130 hX hM hR hV hV1 h)
  · have h := xif_f hc h
    refine g_iload hX dX5_writeOut_19 5 rfl ?_
    refine g_iload_n hX dX5_writeOut_21 rfl 2 rfl ?_
    refine g_icmp_ge hX 130 dX5_writeOut_22 (by decide) (fun hc => ?_) (fun hc => ?_)
    · have h := xif_t hc h
      exact g_sub [0] (by rfl) (sf5_writeOut_J130 hX hM hR hV hV1 h)
    · have h := xif_f hc h
      refine g_aload_n hX dX5_writeOut_25 rfl 0 rfl ?_
      refine g_getR hX hV (xf5_12 _) dX5_writeOut_26 ?_
      refine g_aload_n hX dX5_writeOut_29 rfl 1 rfl ?_
      refine g_iload hX dX5_writeOut_30 5 rfl ?_
      refine g_iload_n hX dX5_writeOut_32 rfl 2 rfl ?_
      obtain ⟨S1, r2, hcS1, h⟩ := xbI_inv h
      refine g_callV hX hR (xvc_5_0 hX.vc hV) (fun l => c0_longestAt (l := l) hX.vc (xvc_5_0 hX.vc hV) hV1 hcS1) xc5_38 rfl ⟨by decide, by decide⟩ rfl rfl (Nat.le_of_ble_eq_true rfl) dX5_writeOut_33 ?_
      refine g_istore (lv2 := [(8, .int r2), (0, xr K 5 o), (1, xr K 23 o1), (2, .int i2), (4, .int i4), (5, .int i5), (6, .int i6), (7, .int i7)]) hX dX5_writeOut_36 (by decide) rfl ?_
      refine g_aload_n hX dX5_writeOut_38 rfl 1 rfl ?_
      refine g_iload hX dX5_writeOut_39 0 rfl ?_
      refine g_iload hX dX5_writeOut_41 6 rfl ?_
      refine g_aload_n hX dX5_writeOut_43 rfl 1 rfl ?_
      refine g_getR hX hV (xf5_12 _) dX5_writeOut_44 ?_
      refine g_getR hX (xvc_5_0 hX.vc hV) (xf5_42 _) dX5_writeOut_47 ?_
      refine g_iload hX dX5_writeOut_50 0 rfl ?_
      obtain ⟨hbj3, h⟩ := xat_inv h
      refine g_iald (n := 512) hX (xvc_0_2 hX.vc (xvc_5_0 hX.vc hV)) rfl hbj3 dX5_writeOut_52 ?_
      obtain ⟨S4, hcS4, h⟩ := xbV_inv h
      refine g_callV hX hR hV (fun l => c5_writeCode (l := l) hX.vc hV hcS4) xc5_43 rfl ⟨by decide, by decide⟩ rfl rfl (Nat.le_of_ble_eq_true rfl) dX5_writeOut_53 ?_
      refine g_iload hX dX5_writeOut_56 6 rfl ?_
      refine g_aload_n hX dX5_writeOut_58 rfl 1 rfl ?_
      refine g_getR hX hV (xf5_12 _) dX5_writeOut_59 ?_
      refine g_getR hX (xvc_5_0 hX.vc hV) (xf5_42 _) dX5_writeOut_62 ?_
      refine g_iload hX dX5_writeOut_65 0 rfl ?_
      obtain ⟨hbj5, h⟩ := xat_inv h
      refine g_iald (n := 512) hX (xvc_0_2 hX.vc (xvc_5_0 hX.vc hV)) rfl hbj5 dX5_writeOut_67 ?_
      refine g_iadd hX dX5_writeOut_68 ?_
      refine g_istore (lv2 := [(6, .int (i6 + (S4 12 o (r2).toNatClampNeg))), (8, .int r2), (0, xr K 5 o), (1, xr K 23 o1), (2, .int i2), (4, .int i4), (5, .int i5), (7, .int i7)]) hX dX5_writeOut_69 (by decide) rfl ?_
      refine g_iload hX dX5_writeOut_71 0 rfl ?_
      refine g_iload_n hX dX5_writeOut_73 rfl 4 rfl ?_
      refine g_icmp_ge hX 124 dX5_writeOut_74 (by decide) (fun hc => ?_) (fun hc => ?_)
      · have h := xif_t hc h
        exact g_sub [2, 3, 4, 5, 6, 0, 7] (by rfl) (sf5_writeOut_J124 hX hM hR hV hV1 hk11 h)
      · have h := xif_f hc h
        refine g_aload_n hX dX5_writeOut_77 rfl 2 rfl ?_
        refine g_iload hX dX5_writeOut_78 1 rfl ?_
        refine g_aload_n hX dX5_writeOut_80 rfl 3 rfl ?_
        refine g_iload hX dX5_writeOut_81 0 rfl ?_
        obtain ⟨hbj6, h⟩ := xat_inv h
        refine g_iald (n := 240) hX hV1 rfl hbj6 dX5_writeOut_83 ?_
        obtain ⟨S7, hcS7, h⟩ := xbV_inv h
        refine g_callV hX hR hV (fun l => c5_grow (l := l) hX.vc hV hcS7) xc5_47 rfl ⟨by decide, by decide⟩ rfl rfl (Nat.le_of_ble_eq_true rfl) dX5_writeOut_84 ?_
        refine g_aload_n hX dX5_writeOut_87 rfl 2 rfl ?_
        refine g_iload hX dX5_writeOut_88 5 rfl ?_
        refine g_iload hX dX5_writeOut_90 6 rfl ?_
        obtain ⟨S8, r9, hcS8, h⟩ := xbI_inv h
        refine g_callV hX hR hV (fun l => c5_mustClear (l := l) hX.vc hV hcS8) xc5_51 rfl ⟨by decide, by decide⟩ rfl rfl (Nat.le_of_ble_eq_true rfl) dX5_writeOut_92 ?_
        refine g_if_eq hX 124 dX5_writeOut_95 (by decide) (fun hc => ?_) (fun hc => ?_)
        · have h := xif_t hc h
          exact g_sub [2, 3, 4, 5, 6, 0, 7] (by rfl) (sf5_writeOut_J124 hX hM hR hV hV1 hk11 h)
        · have h := xif_f hc h
          refine g_aload_n hX dX5_writeOut_98 rfl 2 rfl ?_
          refine g_bipush (v := (8 : Int32)) hX dX5_writeOut_99 (by decide) ?_
          refine g_bipush (v := (-6 : Int32)) hX dX5_writeOut_101 (by decide) ?_
          refine g_iconst (v := (0 : Int32)) hX dX5_writeOut_103 (by decide) ?_
          obtain ⟨S10, hcS10, h⟩ := xbV_inv h
          refine g_callV hX hR hV (fun l => c5_writeCode (l := l) hX.vc hV hcS10) xc5_43 rfl ⟨by decide, by decide⟩ rfl rfl (Nat.le_of_ble_eq_true rfl) dX5_writeOut_104 ?_
          refine g_aload_n hX dX5_writeOut_107 rfl 2 rfl ?_
          refine g_dup hX dX5_writeOut_108 rfl ?_
          refine g_getI hX hV xf5_55 dX5_writeOut_109 ?_
          refine g_iconst (v := (1 : Int32)) hX dX5_writeOut_112 (by decide) ?_
          refine g_iadd hX dX5_writeOut_113 ?_
          obtain ⟨S11, eS11, h⟩ := xlet_inv h
          refine g_putI hX hV xf5_55 dX5_writeOut_114 eS11 ?_
          refine g_aload_n hX dX5_writeOut_117 rfl 2 rfl ?_
          refine g_getR hX hV (xf5_12 _) dX5_writeOut_118 ?_
          obtain ⟨S12, hcS12, h⟩ := xbV_inv h
          refine g_callV hX hR (xvc_5_0 hX.vc hV) (fun l => c0_dropPhrases (l := l) hX.vc (xvc_5_0 hX.vc hV) hcS12) xc5_59 rfl ⟨by decide, by decide⟩ rfl rfl (Nat.le_of_ble_eq_true rfl) dX5_writeOut_121 ?_
          exact g_sub [2, 3, 4, 5, 6, 0, 7] (by rfl) (sf5_writeOut_J124 hX hM hR hV hV1 hk11 h)
theorem sf5_writeOut_L11 {K : xK} {X : xX} {out : xR} {o : Nat} {o1 : Nat} (hX : xOK K X RX5 cX5_writeOut 9) (hM : xM K X out none) (hR : xRm X 4 90) (hV : (5, o) ∈ xvl K) (hV1 : (23, o1) ∈ xvl K)  : ∀ (n : Nat) (S : xSt) (i2 : Int32) (i4 : Int32) (i5 : Int32) (i6 : Int32) (i7 : Int32) (h : f5_writeOut_L11 o o1  n S i2 i4 i5 i6 i7 = some out), xG K X S 11 [(0, xr K 5 o), (1, xr K 23 o1), (2, .int i2), (4, .int i4), (5, .int i5), (6, .int i6), (7, .int i7)] [] := by
  intro n
  induction n with
  | zero => intro S i2 i4 i5 i6 i7 h; cases h
  | succ n ih => intro S i2 i4 i5 i6 i7 h; exact sb5_writeOut_L11 hX hM hR hV hV1  ih h
set_option maxRecDepth 100000 in
theorem c5_writeOut {l : Launch} {K : xK} {o : Nat} {o1 : Nat} (hvc : xVC (xvl K)) (hV : (5, o) ∈ xvl K) (hV1 : (23, o1) ∈ xvl K) {S : xSt} {a2 : Int32} {a3 : Int32} {a4 : Int32} {a5 : Int32} {out : xR} (h : f5_writeOut S o o1 a2 a3 a4 a5 = some out) : xMet l K yX5_writeOut cX5_writeOut 9 none 4 90 S [xr K 5 o, xr K 23 o1, .int a2, .int a3, .int a4, .int a5] out := by
  refine xMet_of RX5 (by decide +kernel) rfl hvc (Nat.le_of_ble_eq_true rfl) ?_
  intro X hX hM hR
  show xG K X S 0 [(0, xr K 5 o), (1, xr K 23 o1), (2, .int a2), (3, .int a3), (4, .int a4), (5, .int a5)] []
  unfold f5_writeOut at h
  refine g_aload_n hX dX5_writeOut_0 rfl 0 rfl ?_
  refine g_iload_n hX dX5_writeOut_1 rfl 3 rfl ?_
  obtain ⟨S1, hcS1, h⟩ := xbV_inv h
  refine g_callV hX hR hV (fun l => c5_begin (l := l) hX.vc hV hcS1) xc5_34 rfl ⟨by decide, by decide⟩ rfl rfl (Nat.le_of_ble_eq_true rfl) dX5_writeOut_2 ?_
  refine g_iconst (v := (0 : Int32)) hX dX5_writeOut_5 (by decide) ?_
  refine g_istore (lv2 := [(6, .int (0 : Int32)), (0, xr K 5 o), (1, xr K 23 o1), (2, .int a2), (3, .int a3), (4, .int a4), (5, .int a5)]) hX dX5_writeOut_6 (by decide) rfl ?_
  refine g_iconst (v := (0 : Int32)) hX dX5_writeOut_8 (by decide) ?_
  refine g_istore (lv2 := [(7, .int (0 : Int32)), (6, .int (0 : Int32)), (0, xr K 5 o), (1, xr K 23 o1), (2, .int a2), (3, .int a3), (4, .int a4), (5, .int a5)]) hX dX5_writeOut_9 (by decide) rfl ?_
  exact g_sub [2, 3, 4, 6, 7, 1, 0] (by rfl) (sf5_writeOut_L11 hX hM hR hV hV1 _ _ _ _ _ _ _ h)
set_option maxRecDepth 100000 in
theorem sf4_countSpoiled_J26 {K : xK} {X : xX} {out : xR} {o : Nat} (hX : xOK K X RX4 cX4_countSpoiled 3) (hM : xM K X out (some .int)) (hR : xRm X 0 0) (hV : (4, o) ∈ xvl K) {k4 : xSt → Int32 → Int32 → Option xR} (hk4 : ∀ (S : xSt) (i1 : Int32) (i2 : Int32), k4 S i1 i2 = some out → xG K X S 4 [(0, xr K 4 o), (1, .int i1), (2, .int i2)] []) {S : xSt} {i2 : Int32} {k0 : Int32} {k1 : Int32} (h : f4_countSpoiled_J26 o k4 S i2 k0 k1 = some out) : xG K X S 26 [(0, xr K 4 o), (2, .int i2)] [.int k0, .int k1] := by
  unfold f4_countSpoiled_J26 at h
  refine g_iadd hX dX4_countSpoiled_26 ?_
  refine g_istore_n (lv2 := [(1, .int (k1 + k0)), (0, xr K 4 o), (2, .int i2)]) hX dX4_countSpoiled_27 rfl (by decide) rfl ?_
  refine g_iinc (v := (i2 + (1 : Int32))) (lv2 := [(2, .int (i2 + (1 : Int32))), (1, .int (k1 + k0)), (0, xr K 4 o)]) hX dX4_countSpoiled_28 2 rfl rfl (by decide) rfl ?_
  refine g_goto hX 4 dX4_countSpoiled_31 (by decide) ?_
  exact g_sub [2, 1, 0] (by rfl) (hk4 _ _ _ h)
set_option maxRecDepth 100000 in
theorem sb4_countSpoiled_L4 {K : xK} {X : xX} {out : xR} {o : Nat} (hX : xOK K X RX4 cX4_countSpoiled 3) (hM : xM K X out (some .int)) (hR : xRm X 0 0) (hV : (4, o) ∈ xvl K)  {k4 : xSt → Int32 → Int32 → Option xR} (hk4 : ∀ (S : xSt) (i1 : Int32) (i2 : Int32), k4 S i1 i2 = some out → xG K X S 4 [(0, xr K 4 o), (1, .int i1), (2, .int i2)] []) {S : xSt} {i1 : Int32} {i2 : Int32} (h : b4_countSpoiled_L4 o  k4 S i1 i2 = some out) : xG K X S 4 [(0, xr K 4 o), (1, .int i1), (2, .int i2)] [] := by
  unfold b4_countSpoiled_L4 at h
  refine g_iload_n hX dX4_countSpoiled_4 rfl 2 rfl ?_
  refine g_sipush (v := (281 : Int32)) hX dX4_countSpoiled_5 (by decide) ?_
  refine g_icmp_ge hX 34 dX4_countSpoiled_8 (by decide) (fun hc => ?_) (fun hc => ?_)
  · have h := xif_t hc h
    refine g_iload_n hX dX4_countSpoiled_34 rfl 1 rfl ?_
    exact g_iret hX hM (Option.some.inj h) dX4_countSpoiled_35
  · have h := xif_f hc h
    refine g_iload_n hX dX4_countSpoiled_11 rfl 1 rfl ?_
    refine g_aload_n hX dX4_countSpoiled_12 rfl 0 rfl ?_
    refine g_getR hX hV (xf4_26 _) dX4_countSpoiled_13 ?_
    refine g_iload_n hX dX4_countSpoiled_16 rfl 2 rfl ?_
    obtain ⟨hbj1, h⟩ := xat_inv h
    refine g_iald (n := 281) hX (xvc_4_2 hX.vc hV) rfl hbj1 dX4_countSpoiled_17 ?_
    refine g_if_eq hX 25 dX4_countSpoiled_18 (by decide) (fun hc => ?_) (fun hc => ?_)
    · have h := xif_t hc h
      refine g_iconst (v := (0 : Int32)) hX dX4_countSpoiled_25 (by decide) ?_
      exact g_sub [0, 2] (by rfl) (sf4_countSpoiled_J26 hX hM hR hV hk4 h)
    · have h := xif_f hc h
      refine g_iconst (v := (1 : Int32)) hX dX4_countSpoiled_21 (by decide) ?_
      refine g_goto hX 26 dX4_countSpoiled_22 (by decide) ?_
      exact g_sub [0, 2] (by rfl) (sf4_countSpoiled_J26 hX hM hR hV hk4 h)
theorem sf4_countSpoiled_L4 {K : xK} {X : xX} {out : xR} {o : Nat} (hX : xOK K X RX4 cX4_countSpoiled 3) (hM : xM K X out (some .int)) (hR : xRm X 0 0) (hV : (4, o) ∈ xvl K)  : ∀ (n : Nat) (S : xSt) (i1 : Int32) (i2 : Int32) (h : f4_countSpoiled_L4 o  n S i1 i2 = some out), xG K X S 4 [(0, xr K 4 o), (1, .int i1), (2, .int i2)] [] := by
  intro n
  induction n with
  | zero => intro S i1 i2 h; cases h
  | succ n ih => intro S i1 i2 h; exact sb4_countSpoiled_L4 hX hM hR hV  ih h
set_option maxRecDepth 100000 in
theorem c4_countSpoiled {l : Launch} {K : xK} {o : Nat} (hvc : xVC (xvl K)) (hV : (4, o) ∈ xvl K) {S : xSt}  {out : xR} (h : f4_countSpoiled S o  = some out) : xMet l K yX4_countSpoiled cX4_countSpoiled 3 (some .int) 0 0 S [xr K 4 o] out := by
  refine xMet_of RX4 (by decide +kernel) rfl hvc (Nat.le_of_ble_eq_true rfl) ?_
  intro X hX hM hR
  show xG K X S 0 [(0, xr K 4 o)] []
  unfold f4_countSpoiled at h
  refine g_iconst (v := (0 : Int32)) hX dX4_countSpoiled_0 (by decide) ?_
  refine g_istore_n (lv2 := [(1, .int (0 : Int32)), (0, xr K 4 o)]) hX dX4_countSpoiled_1 rfl (by decide) rfl ?_
  refine g_iconst (v := (0 : Int32)) hX dX4_countSpoiled_2 (by decide) ?_
  refine g_istore_n (lv2 := [(2, .int (0 : Int32)), (1, .int (0 : Int32)), (0, xr K 4 o)]) hX dX4_countSpoiled_3 rfl (by decide) rfl ?_
  exact g_sub [2, 1, 0] (by rfl) (sf4_countSpoiled_L4 hX hM hR hV _ _ _ _ h)
end
section
set_option maxRecDepth 100000 in
theorem sf1_record_J19 {K : xK} {X : xX} {out : xR} {o1 : Nat} (hX : xOK K X RX1 cX1_record 2) (hM : xM K X out none) (hR : xRm X 2 39) (hV : (1, 0) ∈ xvl K) (hV1 : (4, o1) ∈ xvl K)  {S : xSt} {k0 : Int32} (h : f1_record_J19 o1  S k0 = some out) : xG K X S 19 [(0, xr K 1 0), (1, xr K 4 o1)] [.int k0, xr K 1 0] := by
  unfold f1_record_J19 at h
  obtain ⟨S1, eS1, h⟩ := xlet_inv h
  refine g_putI hX hV xf1_18 dX1_record_19 eS1 ?_
  refine g_aload_n hX dX1_record_22 rfl 0 rfl ?_
  refine g_aload_n hX dX1_record_23 rfl 0 rfl ?_
  refine g_getI hX hV xf1_22 dX1_record_24 ?_
  refine g_iconst (v := (1 : Int32)) hX dX1_record_27 (by decide) ?_
  refine g_iadd hX dX1_record_28 ?_
  refine g_bipush (v := (6 : Int32)) hX dX1_record_29 (by decide) ?_
  refine g_min hX hR (by decide) (Nat.le_of_ble_eq_true rfl) xm1_25 xms_min xmi xmc_min dX1_record_31 ?_
  obtain ⟨S2, eS2, h⟩ := xlet_inv h
  refine g_putI hX hV xf1_22 dX1_record_34 eS2 ?_
  refine g_aload_n hX dX1_record_37 rfl 1 rfl ?_
  refine g_aload_n hX dX1_record_38 rfl 0 rfl ?_
  refine g_getR hX hV (xf1_11 _) dX1_record_39 ?_
  refine g_aload_n hX dX1_record_42 rfl 0 rfl ?_
  refine g_getI hX hV xf1_18 dX1_record_43 ?_
  obtain ⟨hbj3, h⟩ := xat_inv h
  refine g_aald (b := 1) hX (xvc_1_0 hX.vc hV) rfl hbj3 dX1_record_46 ?_
  obtain ⟨S4, hcS4, h⟩ := xbV_inv h
  refine g_callS hX hR (fun l => c6_copyState (l := l) hX.vc hV1 (xvc_s14 hX.vc (xvc_1_0 hX.vc hV) (xin_lt hbj3)) hcS4) xc1_31 rfl ⟨by decide, by decide⟩ rfl rfl (Nat.le_of_ble_eq_true rfl) dX1_record_47 ?_
  exact g_vret hX hM (Option.some.inj h) dX1_record_50
set_option maxRecDepth 100000 in
theorem c1_record {l : Launch} {K : xK} {o1 : Nat} (hvc : xVC (xvl K)) (hV : (1, 0) ∈ xvl K) (hV1 : (4, o1) ∈ xvl K) {S : xSt}  {out : xR} (h : f1_record S o1  = some out) : xMet l K yX1_record cX1_record 2 none 2 39 S [xr K 1 0, xr K 4 o1] out := by
  refine xMet_of RX1 (by decide +kernel) rfl hvc (Nat.le_of_ble_eq_true rfl) ?_
  intro X hX hM hR
  show xG K X S 0 [(0, xr K 1 0), (1, xr K 4 o1)] []
  unfold f1_record at h
  refine g_aload_n hX dX1_record_0 rfl 0 rfl ?_
  refine g_aload_n hX dX1_record_1 rfl 0 rfl ?_
  refine g_getI hX hV xf1_18 dX1_record_2 ?_
  refine g_iconst (v := (5 : Int32)) hX dX1_record_5 (by decide) ?_
  refine g_icmp_lt hX 13 dX1_record_6 (by decide) (fun hc => ?_) (fun hc => ?_)
  · have h := xif_t hc h
    refine g_aload_n hX dX1_record_13 rfl 0 rfl ?_
    refine g_getI hX hV xf1_18 dX1_record_14 ?_
    refine g_iconst (v := (1 : Int32)) hX dX1_record_17 (by decide) ?_
    refine g_iadd hX dX1_record_18 ?_
    exact sf1_record_J19 hX hM hR hV hV1 h
  · have h := xif_f hc h
    refine g_iconst (v := (0 : Int32)) hX dX1_record_9 (by decide) ?_
    refine g_goto hX 19 dX1_record_10 (by decide) ?_
    exact sf1_record_J19 hX hM hR hV hV1 h
set_option maxRecDepth 100000 in
theorem c3_dropPhrases {l : Launch} {K : xK} {o : Nat} (hvc : xVC (xvl K)) (hV : (3, o) ∈ xvl K) {S : xSt}  {out : xR} (h : f3_dropPhrases S o  = some out) : xMet l K yX3_dropPhrases cX3_dropPhrases 1 none 0 0 S [xr K 3 o] out := by
  refine xMet_of RX3 (by decide +kernel) rfl hvc (Nat.le_of_ble_eq_true rfl) ?_
  intro X hX hM hR
  show xG K X S 0 [(0, xr K 3 o)] []
  unfold f3_dropPhrases at h
  refine g_aload_n hX dX3_dropPhrases_0 rfl 0 rfl ?_
  refine g_bipush (v := (10 : Int32)) hX dX3_dropPhrases_1 (by decide) ?_
  obtain ⟨S1, eS1, h⟩ := xlet_inv h
  refine g_putI hX hV xf3_56 dX3_dropPhrases_3 eS1 ?_
  refine g_aload_n hX dX3_dropPhrases_6 rfl 0 rfl ?_
  refine g_iconst (v := (0 : Int32)) hX dX3_dropPhrases_7 (by decide) ?_
  obtain ⟨S2, eS2, h⟩ := xlet_inv h
  refine g_putI hX hV xf3_59 dX3_dropPhrases_8 eS2 ?_
  exact g_vret hX hM (Option.some.inj h) dX3_dropPhrases_11
set_option maxRecDepth 100000 in
theorem c3_begin {l : Launch} {K : xK} {o : Nat} (hvc : xVC (xvl K)) (hV : (3, o) ∈ xvl K) {S : xSt} {a1 : Int32} {out : xR} (h : f3_begin S o a1 = some out) : xMet l K yX3_begin cX3_begin 2 none 1 20 S [xr K 3 o, .int a1] out := by
  refine xMet_of RX3 (by decide +kernel) rfl hvc (Nat.le_of_ble_eq_true rfl) ?_
  intro X hX hM hR
  show xG K X S 0 [(0, xr K 3 o), (1, .int a1)] []
  unfold f3_begin at h
  refine g_aload_n hX dX3_begin_0 rfl 0 rfl ?_
  refine g_iconst (v := (1 : Int32)) hX dX3_begin_1 (by decide) ?_
  refine g_iload_n hX dX3_begin_2 rfl 1 rfl ?_
  refine g_ishl hX dX3_begin_3 ?_
  obtain ⟨S1, eS1, h⟩ := xlet_inv h
  refine g_putI hX hV xf3_40 dX3_begin_4 eS1 ?_
  refine g_aload_n hX dX3_begin_7 rfl 0 rfl ?_
  refine g_iconst (v := (0 : Int32)) hX dX3_begin_8 (by decide) ?_
  obtain ⟨S2, eS2, h⟩ := xlet_inv h
  refine g_putI hX hV xf3_44 dX3_begin_9 eS2 ?_
  refine g_aload_n hX dX3_begin_12 rfl 0 rfl ?_
  refine g_iconst (v := (0 : Int32)) hX dX3_begin_13 (by decide) ?_
  obtain ⟨S3, eS3, h⟩ := xlet_inv h
  refine g_putI hX hV xf3_47 dX3_begin_14 eS3 ?_
  refine g_aload_n hX dX3_begin_17 rfl 0 rfl ?_
  refine g_bipush (v := (-6 : Int32)) hX dX3_begin_18 (by decide) ?_
  obtain ⟨S4, eS4, h⟩ := xlet_inv h
  refine g_putI hX hV xf3_50 dX3_begin_20 eS4 ?_
  refine g_aload_n hX dX3_begin_23 rfl 0 rfl ?_
  refine g_iconst (v := (0 : Int32)) hX dX3_begin_24 (by decide) ?_
  obtain ⟨S5, eS5, h⟩ := xlet_inv h
  refine g_putI hX hV xf3_53 dX3_begin_25 eS5 ?_
  refine g_aload_n hX dX3_begin_28 rfl 0 rfl ?_
  obtain ⟨S6, hcS6, h⟩ := xbV_inv h
  refine g_callV hX hR hV (fun l => c3_dropPhrases (l := l) hX.vc hV hcS6) xc3_30 rfl ⟨by decide, by decide⟩ rfl rfl (Nat.le_of_ble_eq_true rfl) dX3_begin_29 ?_
  exact g_vret hX hM (Option.some.inj h) dX3_begin_32
set_option maxRecDepth 100000 in
theorem c3_noteFault {l : Launch} {K : xK} {o : Nat} (hvc : xVC (xvl K)) (hV : (3, o) ∈ xvl K) {S : xSt} {a1 : Int32} {a2 : Int32} {out : xR} (h : f3_noteFault S o a1 a2 = some out) : xMet l K yX3_noteFault cX3_noteFault 3 none 0 0 S [xr K 3 o, .int a1, .int a2] out := by
  refine xMet_of RX3 (by decide +kernel) rfl hvc (Nat.le_of_ble_eq_true rfl) ?_
  intro X hX hM hR
  show xG K X S 0 [(0, xr K 3 o), (1, .int a1), (2, .int a2)] []
  unfold f3_noteFault at h
  refine g_aload_n hX dX3_noteFault_0 rfl 0 rfl ?_
  refine g_iload_n hX dX3_noteFault_1 rfl 1 rfl ?_
  obtain ⟨S1, eS1, h⟩ := xlet_inv h
  refine g_putI hX hV xf3_50 dX3_noteFault_2 eS1 ?_
  refine g_aload_n hX dX3_noteFault_5 rfl 0 rfl ?_
  refine g_iload_n hX dX3_noteFault_6 rfl 2 rfl ?_
  obtain ⟨S2, eS2, h⟩ := xlet_inv h
  refine g_putI hX hV xf3_53 dX3_noteFault_7 eS2 ?_
  exact g_vret hX hM (Option.some.inj h) dX3_noteFault_10
set_option maxRecDepth 100000 in
theorem c3_canGrow {l : Launch} {K : xK} {o : Nat} (hvc : xVC (xvl K)) (hV : (3, o) ∈ xvl K) {S : xSt}  {out : xR} (h : f3_canGrow S o  = some out) : xMet l K yX3_canGrow cX3_canGrow 1 (some .boolean) 0 0 S [xr K 3 o] out := by
  refine xMet_of RX3 (by decide +kernel) rfl hvc (Nat.le_of_ble_eq_true rfl) ?_
  intro X hX hM hR
  show xG K X S 0 [(0, xr K 3 o)] []
  unfold f3_canGrow at h
  refine g_aload_n hX dX3_canGrow_0 rfl 0 rfl ?_
  refine g_getI hX hV xf3_59 dX3_canGrow_1 ?_
  refine g_if_le hX 32 dX3_canGrow_4 (by decide) (fun hc => ?_) (fun hc => ?_)
  · have h := xif_t hc h
    refine g_iconst (v := (0 : Int32)) hX dX3_canGrow_32 (by decide) ?_
    obtain ⟨hz, h⟩ := xne_inv h
    exact g_zret hX hM hz (Option.some.inj h) dX3_canGrow_33
  · have h := xif_f hc h
    refine g_aload_n hX dX3_canGrow_7 rfl 0 rfl ?_
    refine g_getI hX hV xf3_56 dX3_canGrow_8 ?_
    refine g_aload_n hX dX3_canGrow_11 rfl 0 rfl ?_
    refine g_getI hX hV xf3_40 dX3_canGrow_12 ?_
    refine g_icmp_ge hX 32 dX3_canGrow_15 (by decide) (fun hc => ?_) (fun hc => ?_)
    · have h := xif_t hc h
      refine g_iconst (v := (0 : Int32)) hX dX3_canGrow_32 (by decide) ?_
      obtain ⟨hz, h⟩ := xne_inv h
      exact g_zret hX hM hz (Option.some.inj h) dX3_canGrow_33
    · have h := xif_f hc h
      refine g_aload_n hX dX3_canGrow_18 rfl 0 rfl ?_
      refine g_getI hX hV xf3_56 dX3_canGrow_19 ?_
      refine g_sipush (v := (512 : Int32)) hX dX3_canGrow_22 (by decide) ?_
      refine g_icmp_ge hX 32 dX3_canGrow_25 (by decide) (fun hc => ?_) (fun hc => ?_)
      · have h := xif_t hc h
        refine g_iconst (v := (0 : Int32)) hX dX3_canGrow_32 (by decide) ?_
        obtain ⟨hz, h⟩ := xne_inv h
        exact g_zret hX hM hz (Option.some.inj h) dX3_canGrow_33
      · have h := xif_f hc h
        refine g_iconst (v := (1 : Int32)) hX dX3_canGrow_28 (by decide) ?_
        refine g_goto hX 33 dX3_canGrow_29 (by decide) ?_
        obtain ⟨hz, h⟩ := xne_inv h
        exact g_zret hX hM hz (Option.some.inj h) dX3_canGrow_33
set_option maxRecDepth 100000 in
theorem sf3_canStand_J27 {K : xK} {X : xX} {out : xR} {o : Nat} (hX : xOK K X RX3 cX3_canStand 2) (hM : xM K X out (some .boolean)) (hR : xRm X 1 20) (hV : (3, o) ∈ xvl K)  {S : xSt}  (h : f3_canStand_J27 o  S  = some out) : xG K X S 27 [] [] := by
  unfold f3_canStand_J27 at h
  refine g_iconst (v := (1 : Int32)) hX dX3_canStand_27 (by decide) ?_
  refine g_goto hX 32 dX3_canStand_28 (by decide) ?_
  obtain ⟨hz, h⟩ := xne_inv h
  exact g_zret hX hM hz (Option.some.inj h) dX3_canStand_32
set_option maxRecDepth 100000 in
theorem c3_canStand {l : Launch} {K : xK} {o : Nat} (hvc : xVC (xvl K)) (hV : (3, o) ∈ xvl K) {S : xSt} {a1 : Int32} {out : xR} (h : f3_canStand S o a1 = some out) : xMet l K yX3_canStand cX3_canStand 2 (some .boolean) 1 20 S [xr K 3 o, .int a1] out := by
  refine xMet_of RX3 (by decide +kernel) rfl hvc (Nat.le_of_ble_eq_true rfl) ?_
  intro X hX hM hR
  show xG K X S 0 [(0, xr K 3 o), (1, .int a1)] []
  unfold f3_canStand at h
  refine g_iload_n hX dX3_canStand_0 rfl 1 rfl ?_
  refine g_if_lt hX 31 dX3_canStand_1 (by decide) (fun hc => ?_) (fun hc => ?_)
  · have h := xif_t hc h
    refine g_iconst (v := (0 : Int32)) hX dX3_canStand_31 (by decide) ?_
    obtain ⟨hz, h⟩ := xne_inv h
    exact g_zret hX hM hz (Option.some.inj h) dX3_canStand_32
  · have h := xif_f hc h
    refine g_iload_n hX dX3_canStand_4 rfl 1 rfl ?_
    refine g_aload_n hX dX3_canStand_5 rfl 0 rfl ?_
    refine g_getI hX hV xf3_56 dX3_canStand_6 ?_
    refine g_icmp_lt hX 27 dX3_canStand_9 (by decide) (fun hc => ?_) (fun hc => ?_)
    · have h := xif_t hc h
      exact g_sub [] (by rfl) (sf3_canStand_J27 hX hM hR hV h)
    · have h := xif_f hc h
      refine g_iload_n hX dX3_canStand_12 rfl 1 rfl ?_
      refine g_aload_n hX dX3_canStand_13 rfl 0 rfl ?_
      refine g_getI hX hV xf3_56 dX3_canStand_14 ?_
      refine g_icmp_ne hX 31 dX3_canStand_17 (by decide) (fun hc => ?_) (fun hc => ?_)
      · have h := xif_f hc h
        refine g_iconst (v := (0 : Int32)) hX dX3_canStand_31 (by decide) ?_
        obtain ⟨hz, h⟩ := xne_inv h
        exact g_zret hX hM hz (Option.some.inj h) dX3_canStand_32
      · have h := xif_t hc h
        refine g_aload_n hX dX3_canStand_20 rfl 0 rfl ?_
        obtain ⟨S1, r2, hcS1, h⟩ := xbI_inv h
        refine g_callV hX hR hV (fun l => c3_canGrow (l := l) hX.vc hV hcS1) xc3_62 rfl ⟨by decide, by decide⟩ rfl rfl (Nat.le_of_ble_eq_true rfl) dX3_canStand_21 ?_
        refine g_if_eq hX 31 dX3_canStand_24 (by decide) (fun hc => ?_) (fun hc => ?_)
        · have h := xif_t hc h
          refine g_iconst (v := (0 : Int32)) hX dX3_canStand_31 (by decide) ?_
          obtain ⟨hz, h⟩ := xne_inv h
          exact g_zret hX hM hz (Option.some.inj h) dX3_canStand_32
        · have h := xif_f hc h
          exact g_sub [] (by rfl) (sf3_canStand_J27 hX hM hR hV h)
set_option maxRecDepth 100000 in
theorem c3_readSign {l : Launch} {K : xK} {o : Nat} (hvc : xVC (xvl K)) (hV : (3, o) ∈ xvl K) {S : xSt} {a1 : Int32} {out : xR} (h : f3_readSign S o a1 = some out) : xMet l K yX3_readSign cX3_readSign 2 none 0 0 S [xr K 3 o, .int a1] out := by
  refine xMet_of RX3 (by decide +kernel) rfl hvc (Nat.le_of_ble_eq_true rfl) ?_
  intro X hX hM hR
  show xG K X S 0 [(0, xr K 3 o), (1, .int a1)] []
  unfold f3_readSign at h
  refine g_aload_n hX dX3_readSign_0 rfl 0 rfl ?_
  refine g_getI hX hV xf3_44 dX3_readSign_1 ?_
  refine g_ldc (v := (39621 : Int32)) hX dX3_readSign_4 xk3_9 ?_
  refine g_icmp_ge hX 29 dX3_readSign_6 (by decide) (fun hc => ?_) (fun hc => ?_)
  · have h := xif_t hc h
    exact g_vret hX hM (Option.some.inj h) dX3_readSign_29
  · have h := xif_f hc h
    refine g_aload_n hX dX3_readSign_9 rfl 0 rfl ?_
    refine g_getR hX hV (xf3_10 _) dX3_readSign_10 ?_
    refine g_aload_n hX dX3_readSign_13 rfl 0 rfl ?_
    refine g_getI hX hV xf3_44 dX3_readSign_14 ?_
    refine g_iload_n hX dX3_readSign_17 rfl 1 rfl ?_
    obtain ⟨hbj1, h⟩ := xat_inv h
    obtain ⟨S2, eS2, h⟩ := xlet_inv h
    refine g_iast (n := 39621) hX (xvc_3_0 hX.vc hV) (fun _ => rfl) hbj1 dX3_readSign_18 eS2 ?_
    refine g_aload_n hX dX3_readSign_19 rfl 0 rfl ?_
    refine g_dup hX dX3_readSign_20 rfl ?_
    refine g_getI hX hV xf3_44 dX3_readSign_21 ?_
    refine g_iconst (v := (1 : Int32)) hX dX3_readSign_24 (by decide) ?_
    refine g_iadd hX dX3_readSign_25 ?_
    obtain ⟨S3, eS3, h⟩ := xlet_inv h
    refine g_putI hX hV xf3_44 dX3_readSign_26 eS3 ?_
    exact g_vret hX hM (Option.some.inj h) dX3_readSign_29
set_option maxRecDepth 100000 in
theorem sb3_readPhrase_L2 {K : xK} {X : xX} {out : xR} {o : Nat} (hX : xOK K X RX3 cX3_readPhrase 4) (hM : xM K X out none) (hR : xRm X 1 21) (hV : (3, o) ∈ xvl K)  {k2 : xSt → Int32 → Int32 → Int32 → Option xR} (hk2 : ∀ (S : xSt) (i1 : Int32) (i2 : Int32) (i3 : Int32), k2 S i1 i2 i3 = some out → xG K X S 2 [(0, xr K 3 o), (1, .int i1), (2, .int i2), (3, .int i3)] []) {S : xSt} {i1 : Int32} {i2 : Int32} {i3 : Int32} (h : b3_readPhrase_L2 o  k2 S i1 i2 i3 = some out) : xG K X S 2 [(0, xr K 3 o), (1, .int i1), (2, .int i2), (3, .int i3)] [] := by
  unfold b3_readPhrase_L2 at h
  refine g_iload_n hX dX3_readPhrase_2 rfl 3 rfl ?_
  refine g_iload_n hX dX3_readPhrase_3 rfl 1 rfl ?_
  refine g_iload_n hX dX3_readPhrase_4 rfl 2 rfl ?_
  refine g_iadd hX dX3_readPhrase_5 ?_
  refine g_icmp_ge hX 33 dX3_readPhrase_6 (by decide) (fun hc => ?_) (fun hc => ?_)
  · have h := xif_t hc h
    exact g_vret hX hM (Option.some.inj h) dX3_readPhrase_33
  · have h := xif_f hc h
    refine g_iload_n hX dX3_readPhrase_9 rfl 3 rfl ?_
    refine g_aload_n hX dX3_readPhrase_10 rfl 0 rfl ?_
    refine g_getI hX hV xf3_44 dX3_readPhrase_11 ?_
    refine g_icmp_ge hX 33 dX3_readPhrase_14 (by decide) (fun hc => ?_) (fun hc => ?_)
    · have h := xif_t hc h
      exact g_vret hX hM (Option.some.inj h) dX3_readPhrase_33
    · have h := xif_f hc h
      refine g_aload_n hX dX3_readPhrase_17 rfl 0 rfl ?_
      refine g_aload_n hX dX3_readPhrase_18 rfl 0 rfl ?_
      refine g_getR hX hV (xf3_10 _) dX3_readPhrase_19 ?_
      refine g_iload_n hX dX3_readPhrase_22 rfl 3 rfl ?_
      obtain ⟨hbj1, h⟩ := xat_inv h
      refine g_iald (n := 39621) hX (xvc_3_0 hX.vc hV) rfl hbj1 dX3_readPhrase_23 ?_
      obtain ⟨S2, hcS2, h⟩ := xbV_inv h
      refine g_callV hX hR hV (fun l => c3_readSign (l := l) hX.vc hV hcS2) xc3_69 rfl ⟨by decide, by decide⟩ rfl rfl (Nat.le_of_ble_eq_true rfl) dX3_readPhrase_24 ?_
      refine g_iinc (v := (i3 + (1 : Int32))) (lv2 := [(3, .int (i3 + (1 : Int32))), (0, xr K 3 o), (1, .int i1), (2, .int i2)]) hX dX3_readPhrase_27 3 rfl rfl (by decide) rfl ?_
      refine g_goto hX 2 dX3_readPhrase_30 (by decide) ?_
      exact g_sub [1, 2, 3, 0] (by rfl) (hk2 _ _ _ _ h)
theorem sf3_readPhrase_L2 {K : xK} {X : xX} {out : xR} {o : Nat} (hX : xOK K X RX3 cX3_readPhrase 4) (hM : xM K X out none) (hR : xRm X 1 21) (hV : (3, o) ∈ xvl K)  : ∀ (n : Nat) (S : xSt) (i1 : Int32) (i2 : Int32) (i3 : Int32) (h : f3_readPhrase_L2 o  n S i1 i2 i3 = some out), xG K X S 2 [(0, xr K 3 o), (1, .int i1), (2, .int i2), (3, .int i3)] [] := by
  intro n
  induction n with
  | zero => intro S i1 i2 i3 h; cases h
  | succ n ih => intro S i1 i2 i3 h; exact sb3_readPhrase_L2 hX hM hR hV  ih h
set_option maxRecDepth 100000 in
theorem c3_readPhrase {l : Launch} {K : xK} {o : Nat} (hvc : xVC (xvl K)) (hV : (3, o) ∈ xvl K) {S : xSt} {a1 : Int32} {a2 : Int32} {out : xR} (h : f3_readPhrase S o a1 a2 = some out) : xMet l K yX3_readPhrase cX3_readPhrase 4 none 1 21 S [xr K 3 o, .int a1, .int a2] out := by
  refine xMet_of RX3 (by decide +kernel) rfl hvc (Nat.le_of_ble_eq_true rfl) ?_
  intro X hX hM hR
  show xG K X S 0 [(0, xr K 3 o), (1, .int a1), (2, .int a2)] []
  unfold f3_readPhrase at h
  refine g_iload_n hX dX3_readPhrase_0 rfl 1 rfl ?_
  refine g_istore_n (lv2 := [(3, .int a1), (0, xr K 3 o), (1, .int a1), (2, .int a2)]) hX dX3_readPhrase_1 rfl (by decide) rfl ?_
  exact g_sub [1, 2, 3, 0] (by rfl) (sf3_readPhrase_L2 hX hM hR hV _ _ _ _ _ h)
set_option maxRecDepth 100000 in
theorem sf3_readEntry_J67 {K : xK} {X : xX} {out : xR} {o : Nat} (hX : xOK K X RX3 cX3_readEntry 2) (hM : xM K X out none) (hR : xRm X 2 44) (hV : (3, o) ∈ xvl K)  {S : xSt} {i1 : Int32} (h : f3_readEntry_J67 o  S i1 = some out) : xG K X S 67 [(0, xr K 3 o), (1, .int i1)] [] := by
  unfold f3_readEntry_J67 at h
  refine g_aload_n hX dX3_readEntry_67 rfl 0 rfl ?_
  refine g_aload_n hX dX3_readEntry_68 rfl 0 rfl ?_
  refine g_getI hX hV xf3_44 dX3_readEntry_69 ?_
  obtain ⟨S1, eS1, h⟩ := xlet_inv h
  refine g_putI hX hV xf3_66 dX3_readEntry_72 eS1 ?_
  refine g_iload_n hX dX3_readEntry_75 rfl 1 rfl ?_
  refine g_bipush (v := (8 : Int32)) hX dX3_readEntry_76 (by decide) ?_
  refine g_icmp_ge hX 94 dX3_readEntry_78 (by decide) (fun hc => ?_) (fun hc => ?_)
  · have h := xif_t hc h
    refine g_aload_n hX dX3_readEntry_94 rfl 0 rfl ?_
    refine g_aload_n hX dX3_readEntry_95 rfl 0 rfl ?_
    refine g_getR hX hV (xf3_19 _) dX3_readEntry_96 ?_
    refine g_iload_n hX dX3_readEntry_99 rfl 1 rfl ?_
    obtain ⟨hbj2, h⟩ := xat_inv h
    refine g_iald (n := 512) hX (xvc_3_7 hX.vc hV) rfl hbj2 dX3_readEntry_100 ?_
    obtain ⟨S3, eS3, h⟩ := xlet_inv h
    refine g_putI hX hV xf3_59 dX3_readEntry_101 eS3 ?_
    refine g_aload_n hX dX3_readEntry_104 rfl 0 rfl ?_
    refine g_aload_n hX dX3_readEntry_105 rfl 0 rfl ?_
    refine g_getR hX hV (xf3_16 _) dX3_readEntry_106 ?_
    refine g_iload_n hX dX3_readEntry_109 rfl 1 rfl ?_
    obtain ⟨hbj4, h⟩ := xat_inv h
    refine g_iald (n := 512) hX (xvc_3_6 hX.vc hV) rfl hbj4 dX3_readEntry_110 ?_
    refine g_aload_n hX dX3_readEntry_111 rfl 0 rfl ?_
    refine g_getR hX hV (xf3_19 _) dX3_readEntry_112 ?_
    refine g_iload_n hX dX3_readEntry_115 rfl 1 rfl ?_
    obtain ⟨hbj5, h⟩ := xat_inv h
    refine g_iald (n := 512) hX (xvc_3_7 hX.vc hV) rfl hbj5 dX3_readEntry_116 ?_
    obtain ⟨S6, hcS6, h⟩ := xbV_inv h
    refine g_callV hX hR hV (fun l => c3_readPhrase (l := l) hX.vc hV hcS6) xc3_72 rfl ⟨by decide, by decide⟩ rfl rfl (Nat.le_of_ble_eq_true rfl) dX3_readEntry_117 ?_
    exact g_vret hX hM (Option.some.inj h) dX3_readEntry_120
  · have h := xif_f hc h
    refine g_aload_n hX dX3_readEntry_81 rfl 0 rfl ?_
    refine g_iconst (v := (1 : Int32)) hX dX3_readEntry_82 (by decide) ?_
    obtain ⟨S7, eS7, h⟩ := xlet_inv h
    refine g_putI hX hV xf3_59 dX3_readEntry_83 eS7 ?_
    refine g_aload_n hX dX3_readEntry_86 rfl 0 rfl ?_
    refine g_iload_n hX dX3_readEntry_87 rfl 1 rfl ?_
    obtain ⟨S8, hcS8, h⟩ := xbV_inv h
    refine g_callV hX hR hV (fun l => c3_readSign (l := l) hX.vc hV hcS8) xc3_69 rfl ⟨by decide, by decide⟩ rfl rfl (Nat.le_of_ble_eq_true rfl) dX3_readEntry_88 ?_
    refine g_goto hX 120 dX3_readEntry_91 (by decide) ?_
    exact g_vret hX hM (Option.some.inj h) dX3_readEntry_120
set_option maxRecDepth 100000 in
theorem sf3_readEntry_J18 {K : xK} {X : xX} {out : xR} {o : Nat} (hX : xOK K X RX3 cX3_readEntry 2) (hM : xM K X out none) (hR : xRm X 2 44) (hV : (3, o) ∈ xvl K)  {S : xSt} {i1 : Int32} {k0 : Int32} {k1 : Int32} (h : f3_readEntry_J18 o  S i1 k0 k1 = some out) : xG K X S 18 [(0, xr K 3 o), (1, .int i1)] [.int k0, .int k1, xr K 3 o] := by
  unfold f3_readEntry_J18 at h
  refine g_iadd hX dX3_readEntry_18 ?_
  obtain ⟨S1, eS1, h⟩ := xlet_inv h
  refine g_putI hX hV xf3_47 dX3_readEntry_19 eS1 ?_
  refine g_aload_n hX dX3_readEntry_22 rfl 0 rfl ?_
  obtain ⟨S2, r3, hcS2, h⟩ := xbI_inv h
  refine g_callV hX hR hV (fun l => c3_canGrow (l := l) hX.vc hV hcS2) xc3_62 rfl ⟨by decide, by decide⟩ rfl rfl (Nat.le_of_ble_eq_true rfl) dX3_readEntry_23 ?_
  refine g_if_eq hX 67 dX3_readEntry_26 (by decide) (fun hc => ?_) (fun hc => ?_)
  · have h := xif_t hc h
    exact sf3_readEntry_J67 hX hM hR hV h
  · have h := xif_f hc h
    refine g_aload_n hX dX3_readEntry_29 rfl 0 rfl ?_
    refine g_getR hX hV (xf3_16 _) dX3_readEntry_30 ?_
    refine g_aload_n hX dX3_readEntry_33 rfl 0 rfl ?_
    refine g_getI hX hV xf3_56 dX3_readEntry_34 ?_
    refine g_aload_n hX dX3_readEntry_37 rfl 0 rfl ?_
    refine g_getI hX hV xf3_66 dX3_readEntry_38 ?_
    obtain ⟨hbj4, h⟩ := xat_inv h
    obtain ⟨S5, eS5, h⟩ := xlet_inv h
    refine g_iast (n := 512) hX (xvc_3_6 hX.vc hV) (fun _ => rfl) hbj4 dX3_readEntry_41 eS5 ?_
    refine g_aload_n hX dX3_readEntry_42 rfl 0 rfl ?_
    refine g_getR hX hV (xf3_19 _) dX3_readEntry_43 ?_
    refine g_aload_n hX dX3_readEntry_46 rfl 0 rfl ?_
    refine g_getI hX hV xf3_56 dX3_readEntry_47 ?_
    refine g_aload_n hX dX3_readEntry_50 rfl 0 rfl ?_
    refine g_getI hX hV xf3_59 dX3_readEntry_51 ?_
    refine g_iconst (v := (1 : Int32)) hX dX3_readEntry_54 (by decide) ?_
    refine g_iadd hX dX3_readEntry_55 ?_
    obtain ⟨hbj6, h⟩ := xat_inv h
    obtain ⟨S7, eS7, h⟩ := xlet_inv h
    refine g_iast (n := 512) hX (xvc_3_7 hX.vc hV) (fun _ => rfl) hbj6 dX3_readEntry_56 eS7 ?_
    refine g_aload_n hX dX3_readEntry_57 rfl 0 rfl ?_
    refine g_dup hX dX3_readEntry_58 rfl ?_
    refine g_getI hX hV xf3_56 dX3_readEntry_59 ?_
    refine g_iconst (v := (1 : Int32)) hX dX3_readEntry_62 (by decide) ?_
    refine g_iadd hX dX3_readEntry_63 ?_
    obtain ⟨S8, eS8, h⟩ := xlet_inv h
    refine g_putI hX hV xf3_56 dX3_readEntry_64 eS8 ?_
    exact sf3_readEntry_J67 hX hM hR hV h
set_option maxRecDepth 100000 in
theorem c3_readEntry {l : Launch} {K : xK} {o : Nat} (hvc : xVC (xvl K)) (hV : (3, o) ∈ xvl K) {S : xSt} {a1 : Int32} {out : xR} (h : f3_readEntry S o a1 = some out) : xMet l K yX3_readEntry cX3_readEntry 2 none 2 44 S [xr K 3 o, .int a1] out := by
  refine xMet_of RX3 (by decide +kernel) rfl hvc (Nat.le_of_ble_eq_true rfl) ?_
  intro X hX hM hR
  show xG K X S 0 [(0, xr K 3 o), (1, .int a1)] []
  unfold f3_readEntry at h
  refine g_aload_n hX dX3_readEntry_0 rfl 0 rfl ?_
  refine g_dup hX dX3_readEntry_1 rfl ?_
  refine g_getI hX hV xf3_47 dX3_readEntry_2 ?_
  refine g_iload_n hX dX3_readEntry_5 rfl 1 rfl ?_
  refine g_aload_n hX dX3_readEntry_6 rfl 0 rfl ?_
  refine g_getI hX hV xf3_56 dX3_readEntry_7 ?_
  refine g_icmp_ne hX 17 dX3_readEntry_10 (by decide) (fun hc => ?_) (fun hc => ?_)
  · have h := xif_f hc h
    refine g_iconst (v := (0 : Int32)) hX dX3_readEntry_17 (by decide) ?_
    exact sf3_readEntry_J18 hX hM hR hV h
  · have h := xif_t hc h
    refine g_iconst (v := (1 : Int32)) hX dX3_readEntry_13 (by decide) ?_
    refine g_goto hX 18 dX3_readEntry_14 (by decide) ?_
    exact sf3_readEntry_J18 hX hM hR hV h
set_option maxRecDepth 100000 in
theorem sf3_readAll_J91 {K : xK} {X : xX} {out : xR} {o : Nat} {o1 : Nat} (hX : xOK K X RX3 cX3_readAll 6) (hM : xM K X out none) (hR : xRm X 3 65) (hV : (3, o) ∈ xvl K) (hV1 : (32, o1) ∈ xvl K)  {S : xSt} {i2 : Int32} (h : f3_readAll_J91 o o1  S i2 = some out) : xG K X S 91 [(0, xr K 3 o), (2, .int i2)] [] := by
  unfold f3_readAll_J91 at h
  refine g_aload_n hX dX3_readAll_91 rfl 0 rfl ?_
  refine g_iload_n hX dX3_readAll_92 rfl 1 rfl ?_
  refine g_iconst (v := (2 : Int32)) hX dX3_readAll_93 (by decide) ?_
  obtain ⟨S1, hcS1, h⟩ := xbV_inv h
  refine g_callV hX hR hV (fun l => c3_noteFault (l := l) hX.vc hV hcS1) xc3_26 rfl ⟨by decide, by decide⟩ rfl rfl (Nat.le_of_ble_eq_true rfl) dX3_readAll_94 ?_
  exact g_vret hX hM (Option.some.inj h) dX3_readAll_97
set_option maxRecDepth 100000 in
theorem sf3_readAll_J77 {K : xK} {X : xX} {out : xR} {o : Nat} {o1 : Nat} (hX : xOK K X RX3 cX3_readAll 6) (hM : xM K X out none) (hR : xRm X 3 65) (hV : (3, o) ∈ xvl K) (hV1 : (32, o1) ∈ xvl K)  {S : xSt} {i4 : Int32} (h : f3_readAll_J77 o o1  S i4 = some out) : xG K X S 77 [(0, xr K 3 o), (4, .int i4)] [] := by
  unfold f3_readAll_J77 at h
  refine g_aload_n hX dX3_readAll_77 rfl 0 rfl ?_
  refine g_iload hX dX3_readAll_78 1 rfl ?_
  refine g_iconst (v := (1 : Int32)) hX dX3_readAll_80 (by decide) ?_
  obtain ⟨S1, hcS1, h⟩ := xbV_inv h
  refine g_callV hX hR hV (fun l => c3_noteFault (l := l) hX.vc hV hcS1) xc3_26 rfl ⟨by decide, by decide⟩ rfl rfl (Nat.le_of_ble_eq_true rfl) dX3_readAll_81 ?_
  exact g_vret hX hM (Option.some.inj h) dX3_readAll_84
set_option maxRecDepth 100000 in
theorem sf3_readAll_J85 {K : xK} {X : xX} {out : xR} {o : Nat} {o1 : Nat} (hX : xOK K X RX3 cX3_readAll 6) (hM : xM K X out none) (hR : xRm X 3 65) (hV : (3, o) ∈ xvl K) (hV1 : (32, o1) ∈ xvl K) {k8 : xSt → Int32 → Int32 → Option xR} (hk8 : ∀ (S : xSt) (i2 : Int32) (i4 : Int32), k8 S i2 i4 = some out → xG K X S 8 [(0, xr K 3 o), (1, xr K 32 o1), (2, .int i2), (4, .int i4)] []) {S : xSt} {i2 : Int32} {i4 : Int32} (h : f3_readAll_J85 o o1 k8 S i2 i4 = some out) : xG K X S 85 [(0, xr K 3 o), (1, xr K 32 o1), (2, .int i2), (4, .int i4)] [] := by
  unfold f3_readAll_J85 at h
  refine g_iinc (v := (i4 + (1 : Int32))) (lv2 := [(4, .int (i4 + (1 : Int32))), (0, xr K 3 o), (1, xr K 32 o1), (2, .int i2)]) hX dX3_readAll_85 3 rfl rfl (by decide) rfl ?_
  refine g_goto hX 8 dX3_readAll_88 (by decide) ?_
  exact g_sub [1, 2, 3, 0] (by rfl) (hk8 _ _ _ h)
set_option maxRecDepth 100000 in
theorem sf3_readAll_J27 {K : xK} {X : xX} {out : xR} {o : Nat} {o1 : Nat} (hX : xOK K X RX3 cX3_readAll 6) (hM : xM K X out none) (hR : xRm X 3 65) (hV : (3, o) ∈ xvl K) (hV1 : (32, o1) ∈ xvl K)  {S : xSt} {i2 : Int32} {i4 : Int32} (h : f3_readAll_J27 o o1  S i2 i4 = some out) : xG K X S 27 [(0, xr K 3 o), (2, .int i2), (4, .int i4)] [] := by
  unfold f3_readAll_J27 at h
  refine g_iload hX dX3_readAll_27 2 rfl ?_
  refine g_iconst (v := (1 : Int32)) hX dX3_readAll_29 (by decide) ?_
  refine g_iadd hX dX3_readAll_30 ?_
  refine g_iload_n hX dX3_readAll_31 rfl 1 rfl ?_
  refine g_icmp_ge hX 44 dX3_readAll_32 (by decide) (fun hc => ?_) (fun hc => ?_)
  · have h := xif_t hc h
    exact g_vret hX hM (Option.some.inj h) dX3_readAll_44
  · have h := xif_f hc h
    refine g_aload_n hX dX3_readAll_35 rfl 0 rfl ?_
    refine g_iload hX dX3_readAll_36 2 rfl ?_
    refine g_iconst (v := (1 : Int32)) hX dX3_readAll_38 (by decide) ?_
    refine g_iadd hX dX3_readAll_39 ?_
    refine g_iconst (v := (3 : Int32)) hX dX3_readAll_40 (by decide) ?_
    obtain ⟨S1, hcS1, h⟩ := xbV_inv h
    refine g_callV hX hR hV (fun l => c3_noteFault (l := l) hX.vc hV hcS1) xc3_26 rfl ⟨by decide, by decide⟩ rfl rfl (Nat.le_of_ble_eq_true rfl) dX3_readAll_41 ?_
    exact g_vret hX hM (Option.some.inj h) dX3_readAll_44
set_option maxRecDepth 100000 in
theorem sb3_readAll_L8 {K : xK} {X : xX} {out : xR} {o : Nat} {o1 : Nat} (hX : xOK K X RX3 cX3_readAll 6) (hM : xM K X out none) (hR : xRm X 3 65) (hV : (3, o) ∈ xvl K) (hV1 : (32, o1) ∈ xvl K)  {k8 : xSt → Int32 → Int32 → Option xR} (hk8 : ∀ (S : xSt) (i2 : Int32) (i4 : Int32), k8 S i2 i4 = some out → xG K X S 8 [(0, xr K 3 o), (1, xr K 32 o1), (2, .int i2), (4, .int i4)] []) {S : xSt} {i2 : Int32} {i4 : Int32} (h : b3_readAll_L8 o o1  k8 S i2 i4 = some out) : xG K X S 8 [(0, xr K 3 o), (1, xr K 32 o1), (2, .int i2), (4, .int i4)] [] := by
  unfold b3_readAll_L8 at h
  refine g_iload hX dX3_readAll_8 3 rfl ?_
  refine g_iload_n hX dX3_readAll_10 rfl 2 rfl ?_
  refine g_icmp_ge hX 91 dX3_readAll_11 (by decide) (fun hc => ?_) (fun hc => ?_)
  · have h := xif_t hc h
    exact g_sub [0, 2] (by rfl) (sf3_readAll_J91 hX hM hR hV hV1 h)
  · have h := xif_f hc h
    refine g_aload_n hX dX3_readAll_14 rfl 1 rfl ?_
    refine g_iload hX dX3_readAll_15 3 rfl ?_
    obtain ⟨hbj1, h⟩ := xat_inv h
    refine g_iald (n := 281) hX hV1 rfl hbj1 dX3_readAll_17 ?_
    refine g_istore (lv2 := [(5, .int (S 32 o1 (i4).toNatClampNeg)), (0, xr K 3 o), (1, xr K 32 o1), (2, .int i2), (4, .int i4)]) hX dX3_readAll_18 (by decide) rfl ?_
    refine g_iload hX dX3_readAll_20 0 rfl ?_
    refine g_bipush (v := (9 : Int32)) hX dX3_readAll_22 (by decide) ?_
    refine g_icmp_ne hX 45 dX3_readAll_24 (by decide) (fun hc => ?_) (fun hc => ?_)
    · have h := xif_f hc h
      refine g_iload hX dX3_readAll_45 0 rfl ?_
      refine g_bipush (v := (8 : Int32)) hX dX3_readAll_47 (by decide) ?_
      refine g_icmp_ne hX 59 dX3_readAll_49 (by decide) (fun hc => ?_) (fun hc => ?_)
      · have h := xif_f hc h
        refine g_aload_n hX dX3_readAll_59 rfl 1 rfl ?_
        refine g_iload hX dX3_readAll_60 0 rfl ?_
        obtain ⟨S2, r3, hcS2, h⟩ := xbI_inv h
        refine g_callV hX hR hV (fun l => c3_canStand (l := l) hX.vc hV hcS2) xc3_33 rfl ⟨by decide, by decide⟩ rfl rfl (Nat.le_of_ble_eq_true rfl) dX3_readAll_62 ?_
        refine g_if_eq hX 77 dX3_readAll_65 (by decide) (fun hc => ?_) (fun hc => ?_)
        · have h := xif_t hc h
          exact g_sub [1, 4] (by rfl) (sf3_readAll_J77 hX hM hR hV hV1 h)
        · have h := xif_f hc h
          refine g_aload_n hX dX3_readAll_68 rfl 1 rfl ?_
          refine g_iload hX dX3_readAll_69 0 rfl ?_
          obtain ⟨S4, hcS4, h⟩ := xbV_inv h
          refine g_callV hX hR hV (fun l => c3_readEntry (l := l) hX.vc hV hcS4) xc3_37 rfl ⟨by decide, by decide⟩ rfl rfl (Nat.le_of_ble_eq_true rfl) dX3_readAll_71 ?_
          refine g_goto hX 85 dX3_readAll_74 (by decide) ?_
          exact g_sub [1, 2, 3, 4] (by rfl) (sf3_readAll_J85 hX hM hR hV hV1 hk8 h)
      · have h := xif_t hc h
        refine g_aload_n hX dX3_readAll_52 rfl 1 rfl ?_
        obtain ⟨S5, hcS5, h⟩ := xbV_inv h
        refine g_callV hX hR hV (fun l => c3_dropPhrases (l := l) hX.vc hV hcS5) xc3_30 rfl ⟨by decide, by decide⟩ rfl rfl (Nat.le_of_ble_eq_true rfl) dX3_readAll_53 ?_
        refine g_goto hX 85 dX3_readAll_56 (by decide) ?_
        exact g_sub [1, 2, 3, 4] (by rfl) (sf3_readAll_J85 hX hM hR hV hV1 hk8 h)
    · have h := xif_t hc h
      exact g_sub [1, 3, 4] (by rfl) (sf3_readAll_J27 hX hM hR hV hV1 h)
theorem sf3_readAll_L8 {K : xK} {X : xX} {out : xR} {o : Nat} {o1 : Nat} (hX : xOK K X RX3 cX3_readAll 6) (hM : xM K X out none) (hR : xRm X 3 65) (hV : (3, o) ∈ xvl K) (hV1 : (32, o1) ∈ xvl K)  : ∀ (n : Nat) (S : xSt) (i2 : Int32) (i4 : Int32) (h : f3_readAll_L8 o o1  n S i2 i4 = some out), xG K X S 8 [(0, xr K 3 o), (1, xr K 32 o1), (2, .int i2), (4, .int i4)] [] := by
  intro n
  induction n with
  | zero => intro S i2 i4 h; cases h
  | succ n ih => intro S i2 i4 h; exact sb3_readAll_L8 hX hM hR hV hV1  ih h
set_option maxRecDepth 100000 in
theorem c3_readAll {l : Launch} {K : xK} {o : Nat} {o1 : Nat} (hvc : xVC (xvl K)) (hV : (3, o) ∈ xvl K) (hV1 : (32, o1) ∈ xvl K) {S : xSt} {a2 : Int32} {a3 : Int32} {out : xR} (h : f3_readAll S o o1 a2 a3 = some out) : xMet l K yX3_readAll cX3_readAll 6 none 3 65 S [xr K 3 o, xr K 32 o1, .int a2, .int a3] out := by
  refine xMet_of RX3 (by decide +kernel) rfl hvc (Nat.le_of_ble_eq_true rfl) ?_
  intro X hX hM hR
  show xG K X S 0 [(0, xr K 3 o), (1, xr K 32 o1), (2, .int a2), (3, .int a3)] []
  unfold f3_readAll at h
  refine g_aload_n hX dX3_readAll_0 rfl 0 rfl ?_
  refine g_iload_n hX dX3_readAll_1 rfl 3 rfl ?_
  obtain ⟨S1, hcS1, h⟩ := xbV_inv h
  refine g_callV hX hR hV (fun l => c3_begin (l := l) hX.vc hV hcS1) xc3_22 rfl ⟨by decide, by decide⟩ rfl rfl (Nat.le_of_ble_eq_true rfl) dX3_readAll_2 ?_
  refine g_iconst (v := (0 : Int32)) hX dX3_readAll_5 (by decide) ?_
  refine g_istore (lv2 := [(4, .int (0 : Int32)), (0, xr K 3 o), (1, xr K 32 o1), (2, .int a2), (3, .int a3)]) hX dX3_readAll_6 (by decide) rfl ?_
  exact g_sub [1, 2, 3, 0] (by rfl) (sf3_readAll_L8 hX hM hR hV hV1 _ _ _ _ h)
set_option maxRecDepth 100000 in
theorem sf3_firstDifference_J41 {K : xK} {X : xX} {out : xR} {o : Nat} {o1 : Nat} (hX : xOK K X RX3 cX3_firstDifference 5) (hM : xM K X out (some .int)) (hR : xRm X 1 13) (hV : (3, o) ∈ xvl K) (hV1 : (23, o1) ∈ xvl K)  {S : xSt} {i2 : Int32} {i3 : Int32} (h : f3_firstDifference_J41 o o1  S i2 i3 = some out) : xG K X S 41 [(0, xr K 3 o), (2, .int i2), (3, .int i3)] [] := by
  unfold f3_firstDifference_J41 at h
  refine g_aload_n hX dX3_firstDifference_41 rfl 0 rfl ?_
  refine g_getI hX hV xf3_44 dX3_firstDifference_42 ?_
  refine g_iload_n hX dX3_firstDifference_45 rfl 1 rfl ?_
  refine g_icmp_ne hX 54 dX3_firstDifference_46 (by decide) (fun hc => ?_) (fun hc => ?_)
  · have h := xif_f hc h
    refine g_iload_n hX dX3_firstDifference_54 rfl 2 rfl ?_
    exact g_iret hX hM (Option.some.inj h) dX3_firstDifference_55
  · have h := xif_t hc h
    refine g_bipush (v := (-6 : Int32)) hX dX3_firstDifference_49 (by decide) ?_
    refine g_goto hX 55 dX3_firstDifference_51 (by decide) ?_
    exact g_iret hX hM (Option.some.inj h) dX3_firstDifference_55
set_option maxRecDepth 100000 in
theorem sb3_firstDifference_L12 {K : xK} {X : xX} {out : xR} {o : Nat} {o1 : Nat} (hX : xOK K X RX3 cX3_firstDifference 5) (hM : xM K X out (some .int)) (hR : xRm X 1 13) (hV : (3, o) ∈ xvl K) (hV1 : (23, o1) ∈ xvl K)  {k12 : xSt → Int32 → Int32 → Int32 → Option xR} (hk12 : ∀ (S : xSt) (i2 : Int32) (i3 : Int32) (i4 : Int32), k12 S i2 i3 i4 = some out → xG K X S 12 [(0, xr K 3 o), (1, xr K 23 o1), (2, .int i2), (3, .int i3), (4, .int i4)] []) {S : xSt} {i2 : Int32} {i3 : Int32} {i4 : Int32} (h : b3_firstDifference_L12 o o1  k12 S i2 i3 i4 = some out) : xG K X S 12 [(0, xr K 3 o), (1, xr K 23 o1), (2, .int i2), (3, .int i3), (4, .int i4)] [] := by
  unfold b3_firstDifference_L12 at h
  refine g_iload hX dX3_firstDifference_12 4 rfl ?_
  refine g_iload_n hX dX3_firstDifference_14 rfl 3 rfl ?_
  refine g_icmp_ge hX 41 dX3_firstDifference_15 (by decide) (fun hc => ?_) (fun hc => ?_)
  · have h := xif_t hc h
    exact g_sub [0, 2, 3] (by rfl) (sf3_firstDifference_J41 hX hM hR hV hV1 h)
  · have h := xif_f hc h
    refine g_aload_n hX dX3_firstDifference_18 rfl 0 rfl ?_
    refine g_getR hX hV (xf3_10 _) dX3_firstDifference_19 ?_
    refine g_iload hX dX3_firstDifference_22 4 rfl ?_
    obtain ⟨hbj1, h⟩ := xat_inv h
    refine g_iald (n := 39621) hX (xvc_3_0 hX.vc hV) rfl hbj1 dX3_firstDifference_24 ?_
    refine g_aload_n hX dX3_firstDifference_25 rfl 1 rfl ?_
    refine g_iload hX dX3_firstDifference_26 4 rfl ?_
    obtain ⟨hbj2, h⟩ := xat_inv h
    refine g_iald (n := 240) hX hV1 rfl hbj2 dX3_firstDifference_28 ?_
    refine g_icmp_eq hX 35 dX3_firstDifference_29 (by decide) (fun hc => ?_) (fun hc => ?_)
    · have h := xif_t hc h
      refine g_iinc (v := (i4 + (1 : Int32))) (lv2 := [(4, .int (i4 + (1 : Int32))), (0, xr K 3 o), (1, xr K 23 o1), (2, .int i2), (3, .int i3)]) hX dX3_firstDifference_35 4 rfl rfl (by decide) rfl ?_
      refine g_goto hX 12 dX3_firstDifference_38 (by decide) ?_
      exact g_sub [1, 2, 3, 4, 0] (by rfl) (hk12 _ _ _ _ h)
    · have h := xif_f hc h
      refine g_iload hX dX3_firstDifference_32 4 rfl ?_
      exact g_iret hX hM (Option.some.inj h) dX3_firstDifference_34
theorem sf3_firstDifference_L12 {K : xK} {X : xX} {out : xR} {o : Nat} {o1 : Nat} (hX : xOK K X RX3 cX3_firstDifference 5) (hM : xM K X out (some .int)) (hR : xRm X 1 13) (hV : (3, o) ∈ xvl K) (hV1 : (23, o1) ∈ xvl K)  : ∀ (n : Nat) (S : xSt) (i2 : Int32) (i3 : Int32) (i4 : Int32) (h : f3_firstDifference_L12 o o1  n S i2 i3 i4 = some out), xG K X S 12 [(0, xr K 3 o), (1, xr K 23 o1), (2, .int i2), (3, .int i3), (4, .int i4)] [] := by
  intro n
  induction n with
  | zero => intro S i2 i3 i4 h; cases h
  | succ n ih => intro S i2 i3 i4 h; exact sb3_firstDifference_L12 hX hM hR hV hV1  ih h
set_option maxRecDepth 100000 in
theorem c3_firstDifference {l : Launch} {K : xK} {o : Nat} {o1 : Nat} (hvc : xVC (xvl K)) (hV : (3, o) ∈ xvl K) (hV1 : (23, o1) ∈ xvl K) {S : xSt} {a2 : Int32} {out : xR} (h : f3_firstDifference S o o1 a2 = some out) : xMet l K yX3_firstDifference cX3_firstDifference 5 (some .int) 1 13 S [xr K 3 o, xr K 23 o1, .int a2] out := by
  refine xMet_of RX3 (by decide +kernel) rfl hvc (Nat.le_of_ble_eq_true rfl) ?_
  intro X hX hM hR
  show xG K X S 0 [(0, xr K 3 o), (1, xr K 23 o1), (2, .int a2)] []
  unfold f3_firstDifference at h
  refine g_aload_n hX dX3_firstDifference_0 rfl 0 rfl ?_
  refine g_getI hX hV xf3_44 dX3_firstDifference_1 ?_
  refine g_iload_n hX dX3_firstDifference_4 rfl 2 rfl ?_
  refine g_min hX hR (by decide) (Nat.le_of_ble_eq_true rfl) xm3_75 xms_min xmi xmc_min dX3_firstDifference_5 ?_
  refine g_istore_n (lv2 := [(3, .int (if a2 < (S 3 o 1) then a2 else (S 3 o 1))), (0, xr K 3 o), (1, xr K 23 o1), (2, .int a2)]) hX dX3_firstDifference_8 rfl (by decide) rfl ?_
  refine g_iconst (v := (0 : Int32)) hX dX3_firstDifference_9 (by decide) ?_
  refine g_istore (lv2 := [(4, .int (0 : Int32)), (3, .int (if a2 < (S 3 o 1) then a2 else (S 3 o 1))), (0, xr K 3 o), (1, xr K 23 o1), (2, .int a2)]) hX dX3_firstDifference_10 (by decide) rfl ?_
  exact g_sub [2, 3, 4, 1, 0] (by rfl) (sf3_firstDifference_L12 hX hM hR hV hV1 _ _ _ _ _ h)
end
section
set_option maxRecDepth 100000 in
theorem c6_isSetting {l : Launch} {K : xK}  (hvc : xVC (xvl K))  {S : xSt} {a0 : Int32} {a1 : Int32} {out : xR} (h : f6_isSetting S  a0 a1 = some out) : xMet l K yX6_isSetting cX6_isSetting 2 (some .boolean) 0 0 S [.int a0, .int a1] out := by
  refine xMet_of RX6 (by decide +kernel) rfl hvc (Nat.le_of_ble_eq_true rfl) ?_
  intro X hX hM hR
  show xG K X S 0 [(0, .int a0), (1, .int a1)] []
  unfold f6_isSetting at h
  refine g_iload_n hX dX6_isSetting_0 rfl 0 rfl ?_
  refine g_if_lt hX 31 dX6_isSetting_1 (by decide) (fun hc => ?_) (fun hc => ?_)
  · have h := xif_t hc h
    refine g_iconst (v := (0 : Int32)) hX dX6_isSetting_31 (by decide) ?_
    obtain ⟨hz, h⟩ := xne_inv h
    exact g_zret hX hM hz (Option.some.inj h) dX6_isSetting_32
  · have h := xif_f hc h
    refine g_iload_n hX dX6_isSetting_4 rfl 0 rfl ?_
    refine g_iconst (v := (2 : Int32)) hX dX6_isSetting_5 (by decide) ?_
    refine g_icmp_gt hX 31 dX6_isSetting_6 (by decide) (fun hc => ?_) (fun hc => ?_)
    · have h := xif_t hc h
      refine g_iconst (v := (0 : Int32)) hX dX6_isSetting_31 (by decide) ?_
      obtain ⟨hz, h⟩ := xne_inv h
      exact g_zret hX hM hz (Option.some.inj h) dX6_isSetting_32
    · have h := xif_f hc h
      refine g_iload_n hX dX6_isSetting_9 rfl 1 rfl ?_
      refine g_gets (k := 0) hX (by decide) xf6_200 dX6_isSetting_10 ?_
      refine g_iload_n hX dX6_isSetting_13 rfl 0 rfl ?_
      obtain ⟨hbj1, h⟩ := xat_inv h
      refine g_ialdS hX (by decide) hbj1 dX6_isSetting_14 ?_
      refine g_icmp_lt hX 31 dX6_isSetting_15 (by decide) (fun hc => ?_) (fun hc => ?_)
      · have h := xif_t hc h
        refine g_iconst (v := (0 : Int32)) hX dX6_isSetting_31 (by decide) ?_
        obtain ⟨hz, h⟩ := xne_inv h
        exact g_zret hX hM hz (Option.some.inj h) dX6_isSetting_32
      · have h := xif_f hc h
        refine g_iload_n hX dX6_isSetting_18 rfl 1 rfl ?_
        refine g_gets (k := 1) hX (by decide) xf6_203 dX6_isSetting_19 ?_
        refine g_iload_n hX dX6_isSetting_22 rfl 0 rfl ?_
        obtain ⟨hbj2, h⟩ := xat_inv h
        refine g_ialdS hX (by decide) hbj2 dX6_isSetting_23 ?_
        refine g_icmp_gt hX 31 dX6_isSetting_24 (by decide) (fun hc => ?_) (fun hc => ?_)
        · have h := xif_t hc h
          refine g_iconst (v := (0 : Int32)) hX dX6_isSetting_31 (by decide) ?_
          obtain ⟨hz, h⟩ := xne_inv h
          exact g_zret hX hM hz (Option.some.inj h) dX6_isSetting_32
        · have h := xif_f hc h
          refine g_iconst (v := (1 : Int32)) hX dX6_isSetting_27 (by decide) ?_
          refine g_goto hX 32 dX6_isSetting_28 (by decide) ?_
          obtain ⟨hz, h⟩ := xne_inv h
          exact g_zret hX hM hz (Option.some.inj h) dX6_isSetting_32
set_option maxRecDepth 100000 in
theorem sf6_refresh_J92 {K : xK} {X : xX} {out : xR}  (hX : xOK K X RX6 cX6_refresh 2) (hM : xM K X out none) (hR : xRm X 5 118) (hV : (6, 0) ∈ xvl K)  {S : xSt}  (h : f6_refresh_J92   S  = some out) : xG K X S 92 [(0, xr K 6 0)] [] := by
  unfold f6_refresh_J92 at h
  refine g_aload_n hX dX6_refresh_92 rfl 0 rfl ?_
  refine g_getR hX hV xf6_48 dX6_refresh_93 ?_
  refine g_aload_n hX dX6_refresh_96 rfl 0 rfl ?_
  refine g_getR hX hV xf6_52 dX6_refresh_97 ?_
  refine g_aload_n hX dX6_refresh_100 rfl 0 rfl ?_
  refine g_getR hX hV xf6_41 dX6_refresh_101 ?_
  refine g_getI hX (xvc_6_5 hX.vc hV) xf6_142 dX6_refresh_104 ?_
  refine g_aload_n hX dX6_refresh_107 rfl 0 rfl ?_
  refine g_getR hX hV xf6_12 dX6_refresh_108 ?_
  refine g_getR hX (xvc_6_0 hX.vc hV) (xf6_76 _) dX6_refresh_111 ?_
  refine g_iconst (v := (0 : Int32)) hX dX6_refresh_114 (by decide) ?_
  obtain ⟨hbj1, h⟩ := xat_inv h
  refine g_iald (n := 3) hX (xvc_4_0 hX.vc (xvc_6_0 hX.vc hV)) rfl hbj1 dX6_refresh_115 ?_
  obtain ⟨S2, hcS2, h⟩ := xbV_inv h
  refine g_callV hX hR (xvc_6_6 hX.vc hV) (fun l => c3_readAll (l := l) hX.vc (xvc_6_6 hX.vc hV) (xvc_6_7 hX.vc hV) hcS2) xc6_221 rfl ⟨by decide, by decide⟩ rfl rfl (Nat.le_of_ble_eq_true rfl) dX6_refresh_116 ?_
  exact g_vret hX hM (Option.some.inj h) dX6_refresh_119
set_option maxRecDepth 100000 in
theorem sb6_refresh_L50 {K : xK} {X : xX} {out : xR}  (hX : xOK K X RX6 cX6_refresh 2) (hM : xM K X out none) (hR : xRm X 5 118) (hV : (6, 0) ∈ xvl K)  {k50 : xSt → Int32 → Option xR} (hk50 : ∀ (S : xSt) (i1 : Int32), k50 S i1 = some out → xG K X S 50 [(0, xr K 6 0), (1, .int i1)] []) {S : xSt} {i1 : Int32} (h : b6_refresh_L50   k50 S i1 = some out) : xG K X S 50 [(0, xr K 6 0), (1, .int i1)] [] := by
  unfold b6_refresh_L50 at h
  refine g_iload_n hX dX6_refresh_50 rfl 1 rfl ?_
  refine g_aload_n hX dX6_refresh_51 rfl 0 rfl ?_
  refine g_getR hX hV xf6_41 dX6_refresh_52 ?_
  refine g_getI hX (xvc_6_5 hX.vc hV) xf6_142 dX6_refresh_55 ?_
  refine g_icmp_ge hX 92 dX6_refresh_58 (by decide) (fun hc => ?_) (fun hc => ?_)
  · have h := xif_t hc h
    exact g_sub [0] (by rfl) (sf6_refresh_J92 hX hM hR hV h)
  · have h := xif_f hc h
    refine g_aload_n hX dX6_refresh_61 rfl 0 rfl ?_
    refine g_getR hX hV xf6_52 dX6_refresh_62 ?_
    refine g_iload_n hX dX6_refresh_65 rfl 1 rfl ?_
    refine g_aload_n hX dX6_refresh_66 rfl 0 rfl ?_
    refine g_getR hX hV xf6_41 dX6_refresh_67 ?_
    refine g_getR hX (xvc_6_5 hX.vc hV) (xf6_127 _) dX6_refresh_70 ?_
    refine g_iload_n hX dX6_refresh_73 rfl 1 rfl ?_
    obtain ⟨hbj1, h⟩ := xat_inv h
    refine g_iald (n := 281) hX (xvc_5_1 hX.vc (xvc_6_5 hX.vc hV)) rfl hbj1 dX6_refresh_74 ?_
    refine g_aload_n hX dX6_refresh_75 rfl 0 rfl ?_
    refine g_getR hX hV xf6_12 dX6_refresh_76 ?_
    refine g_getR hX (xvc_6_0 hX.vc hV) (xf6_99 _) dX6_refresh_79 ?_
    refine g_iload_n hX dX6_refresh_82 rfl 1 rfl ?_
    obtain ⟨hbj2, h⟩ := xat_inv h
    refine g_iald (n := 281) hX (xvc_4_2 hX.vc (xvc_6_0 hX.vc hV)) rfl hbj2 dX6_refresh_83 ?_
    refine g_ixor hX dX6_refresh_84 ?_
    obtain ⟨hbj3, h⟩ := xat_inv h
    obtain ⟨S4, eS4, h⟩ := xlet_inv h
    refine g_iast (n := 281) hX (xvc_6_7 hX.vc hV) (fun _ => rfl) hbj3 dX6_refresh_85 eS4 ?_
    refine g_iinc (v := (i1 + (1 : Int32))) (lv2 := [(1, .int (i1 + (1 : Int32))), (0, xr K 6 0)]) hX dX6_refresh_86 1 rfl rfl (by decide) rfl ?_
    refine g_goto hX 50 dX6_refresh_89 (by decide) ?_
    exact g_sub [1, 0] (by rfl) (hk50 _ _ h)
theorem sf6_refresh_L50 {K : xK} {X : xX} {out : xR}  (hX : xOK K X RX6 cX6_refresh 2) (hM : xM K X out none) (hR : xRm X 5 118) (hV : (6, 0) ∈ xvl K)  : ∀ (n : Nat) (S : xSt) (i1 : Int32) (h : f6_refresh_L50   n S i1 = some out), xG K X S 50 [(0, xr K 6 0), (1, .int i1)] [] := by
  intro n
  induction n with
  | zero => intro S i1 h; cases h
  | succ n ih => intro S i1 h; exact sb6_refresh_L50 hX hM hR hV  ih h
set_option maxRecDepth 100000 in
theorem c6_refresh {l : Launch} {K : xK}  (hvc : xVC (xvl K)) (hV : (6, 0) ∈ xvl K) {S : xSt}  {out : xR} (h : f6_refresh S   = some out) : xMet l K yX6_refresh cX6_refresh 2 none 5 118 S [xr K 6 0] out := by
  refine xMet_of RX6 (by decide +kernel) rfl hvc (Nat.le_of_ble_eq_true rfl) ?_
  intro X hX hM hR
  show xG K X S 0 [(0, xr K 6 0)] []
  unfold f6_refresh at h
  refine g_aload_n hX dX6_refresh_0 rfl 0 rfl ?_
  refine g_getR hX hV xf6_41 dX6_refresh_1 ?_
  refine g_aload_n hX dX6_refresh_4 rfl 0 rfl ?_
  refine g_getR hX hV xf6_12 dX6_refresh_5 ?_
  refine g_getR hX (xvc_6_0 hX.vc hV) (xf6_86 _) dX6_refresh_8 ?_
  refine g_aload_n hX dX6_refresh_11 rfl 0 rfl ?_
  refine g_getR hX hV xf6_12 dX6_refresh_12 ?_
  refine g_getI hX (xvc_6_0 hX.vc hV) xf6_82 dX6_refresh_15 ?_
  refine g_aload_n hX dX6_refresh_18 rfl 0 rfl ?_
  refine g_getR hX hV xf6_12 dX6_refresh_19 ?_
  refine g_getR hX (xvc_6_0 hX.vc hV) (xf6_76 _) dX6_refresh_22 ?_
  refine g_iconst (v := (0 : Int32)) hX dX6_refresh_25 (by decide) ?_
  obtain ⟨hbj1, h⟩ := xat_inv h
  refine g_iald (n := 3) hX (xvc_4_0 hX.vc (xvc_6_0 hX.vc hV)) rfl hbj1 dX6_refresh_26 ?_
  refine g_aload_n hX dX6_refresh_27 rfl 0 rfl ?_
  refine g_getR hX hV xf6_12 dX6_refresh_28 ?_
  refine g_getR hX (xvc_6_0 hX.vc hV) (xf6_76 _) dX6_refresh_31 ?_
  refine g_iconst (v := (1 : Int32)) hX dX6_refresh_34 (by decide) ?_
  obtain ⟨hbj2, h⟩ := xat_inv h
  refine g_iald (n := 3) hX (xvc_4_0 hX.vc (xvc_6_0 hX.vc hV)) rfl hbj2 dX6_refresh_35 ?_
  refine g_aload_n hX dX6_refresh_36 rfl 0 rfl ?_
  refine g_getR hX hV xf6_12 dX6_refresh_37 ?_
  refine g_getR hX (xvc_6_0 hX.vc hV) (xf6_76 _) dX6_refresh_40 ?_
  refine g_iconst (v := (2 : Int32)) hX dX6_refresh_43 (by decide) ?_
  obtain ⟨hbj3, h⟩ := xat_inv h
  refine g_iald (n := 3) hX (xvc_4_0 hX.vc (xvc_6_0 hX.vc hV)) rfl hbj3 dX6_refresh_44 ?_
  obtain ⟨S4, hcS4, h⟩ := xbV_inv h
  refine g_callV hX hR (xvc_6_5 hX.vc hV) (fun l => c5_writeOut (l := l) hX.vc (xvc_6_5 hX.vc hV) (xvc_4_1 hX.vc (xvc_6_0 hX.vc hV)) hcS4) xc6_217 rfl ⟨by decide, by decide⟩ rfl rfl (Nat.le_of_ble_eq_true rfl) dX6_refresh_45 ?_
  refine g_iconst (v := (0 : Int32)) hX dX6_refresh_48 (by decide) ?_
  refine g_istore_n (lv2 := [(1, .int (0 : Int32)), (0, xr K 6 0)]) hX dX6_refresh_49 rfl (by decide) rfl ?_
  exact g_sub [1, 0] (by rfl) (sf6_refresh_L50 hX hM hR hV _ _ _ h)
set_option maxRecDepth 100000 in
theorem c6_set {l : Launch} {K : xK}  (hvc : xVC (xvl K)) (hV : (6, 0) ∈ xvl K) {S : xSt} {a1 : Int32} {a2 : Int32} {out : xR} (h : f6_set S  a1 a2 = some out) : xMet l K yX6_set cX6_set 4 (some .int) 6 139 S [xr K 6 0, .int a1, .int a2] out := by
  refine xMet_of RX6 (by decide +kernel) rfl hvc (Nat.le_of_ble_eq_true rfl) ?_
  intro X hX hM hR
  show xG K X S 0 [(0, xr K 6 0), (1, .int a1), (2, .int a2)] []
  unfold f6_set at h
  refine g_iload_n hX dX6_set_0 rfl 1 rfl ?_
  refine g_iload_n hX dX6_set_1 rfl 2 rfl ?_
  obtain ⟨S1, r2, hcS1, h⟩ := xbI_inv h
  refine g_callS hX hR (fun l => c6_isSetting (l := l) hX.vc hcS1) xc6_68 rfl ⟨by decide, by decide⟩ rfl rfl (Nat.le_of_ble_eq_true rfl) dX6_set_2 ?_
  refine g_if_ne hX 11 dX6_set_5 (by decide) (fun hc => ?_) (fun hc => ?_)
  · have h := xif_f hc h
    refine g_aload_n hX dX6_set_11 rfl 0 rfl ?_
    refine g_getR hX hV xf6_19 dX6_set_12 ?_
    refine g_aload_n hX dX6_set_15 rfl 0 rfl ?_
    refine g_getR hX hV xf6_12 dX6_set_16 ?_
    obtain ⟨S3, hcS3, h⟩ := xbV_inv h
    refine g_callV hX hR (xvc_6_1 hX.vc hV) (fun l => c1_record (l := l) hX.vc (xvc_6_1 hX.vc hV) (xvc_6_0 hX.vc hV) hcS3) xc6_72 rfl ⟨by decide, by decide⟩ rfl rfl (Nat.le_of_ble_eq_true rfl) dX6_set_19 ?_
    refine g_aload_n hX dX6_set_22 rfl 0 rfl ?_
    refine g_getR hX hV xf6_12 dX6_set_23 ?_
    refine g_getR hX (xvc_6_0 hX.vc hV) (xf6_76 _) dX6_set_26 ?_
    refine g_iload_n hX dX6_set_29 rfl 1 rfl ?_
    obtain ⟨hbj4, h⟩ := xat_inv h
    refine g_iald (n := 3) hX (xvc_4_0 hX.vc (xvc_6_0 hX.vc hV)) rfl hbj4 dX6_set_30 ?_
    refine g_istore_n (lv2 := [(3, .int (S3 22 0 (a1).toNatClampNeg)), (0, xr K 6 0), (1, .int a1), (2, .int a2)]) hX dX6_set_31 rfl (by decide) rfl ?_
    refine g_aload_n hX dX6_set_32 rfl 1 rfl ?_
    refine g_getR hX hV xf6_12 dX6_set_33 ?_
    refine g_getR hX (xvc_6_0 hX.vc hV) (xf6_76 _) dX6_set_36 ?_
    refine g_iload_n hX dX6_set_39 rfl 2 rfl ?_
    refine g_iload_n hX dX6_set_40 rfl 3 rfl ?_
    obtain ⟨hbj5, h⟩ := xat_inv h
    obtain ⟨S6, eS6, h⟩ := xlet_inv h
    refine g_iast (n := 3) hX (xvc_4_0 hX.vc (xvc_6_0 hX.vc hV)) (fun _ => rfl) hbj5 dX6_set_41 eS6 ?_
    refine g_aload_n hX dX6_set_42 rfl 1 rfl ?_
    refine g_getR hX hV xf6_12 dX6_set_43 ?_
    obtain ⟨S7, hcS7, h⟩ := xbV_inv h
    refine g_callV hX hR (xvc_6_0 hX.vc hV) (fun l => c4_mendCodes (l := l) hX.vc (xvc_6_0 hX.vc hV) hcS7) xc6_79 rfl ⟨by decide, by decide⟩ rfl rfl (Nat.le_of_ble_eq_true rfl) dX6_set_46 ?_
    refine g_aload_n hX dX6_set_49 rfl 1 rfl ?_
    obtain ⟨S8, hcS8, h⟩ := xbV_inv h
    refine g_callV hX hR hV (fun l => c6_refresh (l := l) hX.vc hV hcS8) xc6_65 rfl ⟨by decide, by decide⟩ rfl rfl (Nat.le_of_ble_eq_true rfl) dX6_set_50 ?_
    refine g_iload_n hX dX6_set_53 rfl 0 rfl ?_
    exact g_iret hX hM (Option.some.inj h) dX6_set_54
  · have h := xif_t hc h
    refine g_bipush (v := (-2 : Int32)) hX dX6_set_8 (by decide) ?_
    exact g_iret hX hM (Option.some.inj h) dX6_set_10
set_option maxRecDepth 100000 in
theorem c6_add {l : Launch} {K : xK}  (hvc : xVC (xvl K)) (hV : (6, 0) ∈ xvl K) {S : xSt} {a1 : Int32} {a2 : Int32} {out : xR} (h : f6_add S  a1 a2 = some out) : xMet l K yX6_add cX6_add 3 (some .int) 6 139 S [xr K 6 0, .int a1, .int a2] out := by
  refine xMet_of RX6 (by decide +kernel) rfl hvc (Nat.le_of_ble_eq_true rfl) ?_
  intro X hX hM hR
  show xG K X S 0 [(0, xr K 6 0), (1, .int a1), (2, .int a2)] []
  unfold f6_add at h
  refine g_iload_n hX dX6_add_0 rfl 1 rfl ?_
  refine g_if_lt hX 22 dX6_add_1 (by decide) (fun hc => ?_) (fun hc => ?_)
  · have h := xif_t hc h
    refine g_bipush (v := (-2 : Int32)) hX dX6_add_22 (by decide) ?_
    exact g_iret hX hM (Option.some.inj h) dX6_add_24
  · have h := xif_f hc h
    refine g_iload_n hX dX6_add_4 rfl 1 rfl ?_
    refine g_bipush (v := (8 : Int32)) hX dX6_add_5 (by decide) ?_
    refine g_icmp_ge hX 22 dX6_add_7 (by decide) (fun hc => ?_) (fun hc => ?_)
    · have h := xif_t hc h
      refine g_bipush (v := (-2 : Int32)) hX dX6_add_22 (by decide) ?_
      exact g_iret hX hM (Option.some.inj h) dX6_add_24
    · have h := xif_f hc h
      refine g_iload_n hX dX6_add_10 rfl 2 rfl ?_
      refine g_iconst (v := (1 : Int32)) hX dX6_add_11 (by decide) ?_
      refine g_icmp_lt hX 22 dX6_add_12 (by decide) (fun hc => ?_) (fun hc => ?_)
      · have h := xif_t hc h
        refine g_bipush (v := (-2 : Int32)) hX dX6_add_22 (by decide) ?_
        exact g_iret hX hM (Option.some.inj h) dX6_add_24
      · have h := xif_f hc h
        refine g_iload_n hX dX6_add_15 rfl 2 rfl ?_
        refine g_sipush (v := (240 : Int32)) hX dX6_add_16 (by decide) ?_
        refine g_icmp_le hX 25 dX6_add_19 (by decide) (fun hc => ?_) (fun hc => ?_)
        · have h := xif_t hc h
          refine g_aload_n hX dX6_add_25 rfl 0 rfl ?_
          refine g_getR hX hV xf6_12 dX6_add_26 ?_
          refine g_getI hX (xvc_6_0 hX.vc hV) xf6_82 dX6_add_29 ?_
          refine g_iload_n hX dX6_add_32 rfl 2 rfl ?_
          refine g_iadd hX dX6_add_33 ?_
          refine g_sipush (v := (240 : Int32)) hX dX6_add_34 (by decide) ?_
          refine g_icmp_le hX 43 dX6_add_37 (by decide) (fun hc => ?_) (fun hc => ?_)
          · have h := xif_t hc h
            refine g_aload_n hX dX6_add_43 rfl 0 rfl ?_
            refine g_getR hX hV xf6_19 dX6_add_44 ?_
            refine g_aload_n hX dX6_add_47 rfl 0 rfl ?_
            refine g_getR hX hV xf6_12 dX6_add_48 ?_
            obtain ⟨S1, hcS1, h⟩ := xbV_inv h
            refine g_callV hX hR (xvc_6_1 hX.vc hV) (fun l => c1_record (l := l) hX.vc (xvc_6_1 hX.vc hV) (xvc_6_0 hX.vc hV) hcS1) xc6_72 rfl ⟨by decide, by decide⟩ rfl rfl (Nat.le_of_ble_eq_true rfl) dX6_add_51 ?_
            refine g_aload_n hX dX6_add_54 rfl 0 rfl ?_
            refine g_getR hX hV xf6_12 dX6_add_55 ?_
            refine g_getR hX (xvc_6_0 hX.vc hV) (xf6_86 _) dX6_add_58 ?_
            refine g_aload_n hX dX6_add_61 rfl 0 rfl ?_
            refine g_getR hX hV xf6_12 dX6_add_62 ?_
            refine g_getI hX (xvc_6_0 hX.vc hV) xf6_82 dX6_add_65 ?_
            refine g_aload_n hX dX6_add_68 rfl 0 rfl ?_
            refine g_getR hX hV xf6_12 dX6_add_69 ?_
            refine g_getI hX (xvc_6_0 hX.vc hV) xf6_82 dX6_add_72 ?_
            refine g_iload_n hX dX6_add_75 rfl 2 rfl ?_
            refine g_iadd hX dX6_add_76 ?_
            refine g_iload_n hX dX6_add_77 rfl 1 rfl ?_
            obtain ⟨S2, hcS2, h⟩ := xbV_inv h
            refine g_callS hX hR (fun l => cfill4 (l := l) hX.vc (xvc_4_1 hX.vc (xvc_6_0 hX.vc hV)) (fun _ => rfl) hcS2) xc6_89 rfl ⟨by decide, by decide⟩ rfl rfl (Nat.le_of_ble_eq_true rfl) dX6_add_78 ?_
            refine g_aload_n hX dX6_add_81 rfl 0 rfl ?_
            refine g_getR hX hV xf6_12 dX6_add_82 ?_
            refine g_dup hX dX6_add_85 rfl ?_
            refine g_getI hX (xvc_6_0 hX.vc hV) xf6_82 dX6_add_86 ?_
            refine g_iload_n hX dX6_add_89 rfl 2 rfl ?_
            refine g_iadd hX dX6_add_90 ?_
            obtain ⟨S3, eS3, h⟩ := xlet_inv h
            refine g_putI hX (xvc_6_0 hX.vc hV) xf6_82 dX6_add_91 eS3 ?_
            refine g_aload_n hX dX6_add_94 rfl 0 rfl ?_
            refine g_getR hX hV xf6_12 dX6_add_95 ?_
            obtain ⟨S4, hcS4, h⟩ := xbV_inv h
            refine g_callV hX hR (xvc_6_0 hX.vc hV) (fun l => c4_mendCodes (l := l) hX.vc (xvc_6_0 hX.vc hV) hcS4) xc6_79 rfl ⟨by decide, by decide⟩ rfl rfl (Nat.le_of_ble_eq_true rfl) dX6_add_98 ?_
            refine g_aload_n hX dX6_add_101 rfl 0 rfl ?_
            obtain ⟨S5, hcS5, h⟩ := xbV_inv h
            refine g_callV hX hR hV (fun l => c6_refresh (l := l) hX.vc hV hcS5) xc6_65 rfl ⟨by decide, by decide⟩ rfl rfl (Nat.le_of_ble_eq_true rfl) dX6_add_102 ?_
            refine g_aload_n hX dX6_add_105 rfl 0 rfl ?_
            refine g_getR hX hV xf6_12 dX6_add_106 ?_
            refine g_getI hX (xvc_6_0 hX.vc hV) xf6_82 dX6_add_109 ?_
            exact g_iret hX hM (Option.some.inj h) dX6_add_112
          · have h := xif_f hc h
            refine g_bipush (v := (-4 : Int32)) hX dX6_add_40 (by decide) ?_
            exact g_iret hX hM (Option.some.inj h) dX6_add_42
        · have h := xif_f hc h
          refine g_bipush (v := (-2 : Int32)) hX dX6_add_22 (by decide) ?_
          exact g_iret hX hM (Option.some.inj h) dX6_add_24
set_option maxRecDepth 100000 in
theorem c6_cut {l : Launch} {K : xK}  (hvc : xVC (xvl K)) (hV : (6, 0) ∈ xvl K) {S : xSt} {a1 : Int32} {out : xR} (h : f6_cut S  a1 = some out) : xMet l K yX6_cut cX6_cut 2 (some .int) 6 139 S [xr K 6 0, .int a1] out := by
  refine xMet_of RX6 (by decide +kernel) rfl hvc (Nat.le_of_ble_eq_true rfl) ?_
  intro X hX hM hR
  show xG K X S 0 [(0, xr K 6 0), (1, .int a1)] []
  unfold f6_cut at h
  refine g_iload_n hX dX6_cut_0 rfl 1 rfl ?_
  refine g_iconst (v := (1 : Int32)) hX dX6_cut_1 (by decide) ?_
  refine g_icmp_lt hX 12 dX6_cut_2 (by decide) (fun hc => ?_) (fun hc => ?_)
  · have h := xif_t hc h
    refine g_bipush (v := (-2 : Int32)) hX dX6_cut_12 (by decide) ?_
    exact g_iret hX hM (Option.some.inj h) dX6_cut_14
  · have h := xif_f hc h
    refine g_iload_n hX dX6_cut_5 rfl 1 rfl ?_
    refine g_sipush (v := (240 : Int32)) hX dX6_cut_6 (by decide) ?_
    refine g_icmp_le hX 15 dX6_cut_9 (by decide) (fun hc => ?_) (fun hc => ?_)
    · have h := xif_t hc h
      refine g_iload_n hX dX6_cut_15 rfl 1 rfl ?_
      refine g_aload_n hX dX6_cut_16 rfl 0 rfl ?_
      refine g_getR hX hV xf6_12 dX6_cut_17 ?_
      refine g_getI hX (xvc_6_0 hX.vc hV) xf6_82 dX6_cut_20 ?_
      refine g_icmp_le hX 29 dX6_cut_23 (by decide) (fun hc => ?_) (fun hc => ?_)
      · have h := xif_t hc h
        refine g_aload_n hX dX6_cut_29 rfl 0 rfl ?_
        refine g_getR hX hV xf6_19 dX6_cut_30 ?_
        refine g_aload_n hX dX6_cut_33 rfl 0 rfl ?_
        refine g_getR hX hV xf6_12 dX6_cut_34 ?_
        obtain ⟨S1, hcS1, h⟩ := xbV_inv h
        refine g_callV hX hR (xvc_6_1 hX.vc hV) (fun l => c1_record (l := l) hX.vc (xvc_6_1 hX.vc hV) (xvc_6_0 hX.vc hV) hcS1) xc6_72 rfl ⟨by decide, by decide⟩ rfl rfl (Nat.le_of_ble_eq_true rfl) dX6_cut_37 ?_
        refine g_aload_n hX dX6_cut_40 rfl 0 rfl ?_
        refine g_getR hX hV xf6_12 dX6_cut_41 ?_
        refine g_dup hX dX6_cut_44 rfl ?_
        refine g_getI hX (xvc_6_0 hX.vc hV) xf6_82 dX6_cut_45 ?_
        refine g_iload_n hX dX6_cut_48 rfl 1 rfl ?_
        refine g_isub hX dX6_cut_49 ?_
        obtain ⟨S2, eS2, h⟩ := xlet_inv h
        refine g_putI hX (xvc_6_0 hX.vc hV) xf6_82 dX6_cut_50 eS2 ?_
        refine g_aload_n hX dX6_cut_53 rfl 0 rfl ?_
        refine g_getR hX hV xf6_12 dX6_cut_54 ?_
        obtain ⟨S3, hcS3, h⟩ := xbV_inv h
        refine g_callV hX hR (xvc_6_0 hX.vc hV) (fun l => c4_mendCodes (l := l) hX.vc (xvc_6_0 hX.vc hV) hcS3) xc6_79 rfl ⟨by decide, by decide⟩ rfl rfl (Nat.le_of_ble_eq_true rfl) dX6_cut_57 ?_
        refine g_aload_n hX dX6_cut_60 rfl 0 rfl ?_
        obtain ⟨S4, hcS4, h⟩ := xbV_inv h
        refine g_callV hX hR hV (fun l => c6_refresh (l := l) hX.vc hV hcS4) xc6_65 rfl ⟨by decide, by decide⟩ rfl rfl (Nat.le_of_ble_eq_true rfl) dX6_cut_61 ?_
        refine g_aload_n hX dX6_cut_64 rfl 0 rfl ?_
        refine g_getR hX hV xf6_12 dX6_cut_65 ?_
        refine g_getI hX (xvc_6_0 hX.vc hV) xf6_82 dX6_cut_68 ?_
        exact g_iret hX hM (Option.some.inj h) dX6_cut_71
      · have h := xif_f hc h
        refine g_bipush (v := (-5 : Int32)) hX dX6_cut_26 (by decide) ?_
        exact g_iret hX hM (Option.some.inj h) dX6_cut_28
    · have h := xif_f hc h
      refine g_bipush (v := (-2 : Int32)) hX dX6_cut_12 (by decide) ?_
      exact g_iret hX hM (Option.some.inj h) dX6_cut_14
set_option maxRecDepth 100000 in
theorem c6_isCode {l : Launch} {K : xK}  (hvc : xVC (xvl K)) (hV : (6, 0) ∈ xvl K) {S : xSt} {a1 : Int32} {out : xR} (h : f6_isCode S  a1 = some out) : xMet l K yX6_isCode cX6_isCode 2 (some .boolean) 0 0 S [xr K 6 0, .int a1] out := by
  refine xMet_of RX6 (by decide +kernel) rfl hvc (Nat.le_of_ble_eq_true rfl) ?_
  intro X hX hM hR
  show xG K X S 0 [(0, xr K 6 0), (1, .int a1)] []
  unfold f6_isCode at h
  refine g_iload_n hX dX6_isCode_0 rfl 1 rfl ?_
  refine g_if_lt hX 26 dX6_isCode_1 (by decide) (fun hc => ?_) (fun hc => ?_)
  · have h := xif_t hc h
    refine g_iconst (v := (0 : Int32)) hX dX6_isCode_26 (by decide) ?_
    obtain ⟨hz, h⟩ := xne_inv h
    exact g_zret hX hM hz (Option.some.inj h) dX6_isCode_27
  · have h := xif_f hc h
    refine g_iload_n hX dX6_isCode_4 rfl 1 rfl ?_
    refine g_aload_n hX dX6_isCode_5 rfl 0 rfl ?_
    refine g_getR hX hV xf6_41 dX6_isCode_6 ?_
    refine g_getI hX (xvc_6_5 hX.vc hV) xf6_142 dX6_isCode_9 ?_
    refine g_icmp_ge hX 26 dX6_isCode_12 (by decide) (fun hc => ?_) (fun hc => ?_)
    · have h := xif_t hc h
      refine g_iconst (v := (0 : Int32)) hX dX6_isCode_26 (by decide) ?_
      obtain ⟨hz, h⟩ := xne_inv h
      exact g_zret hX hM hz (Option.some.inj h) dX6_isCode_27
    · have h := xif_f hc h
      refine g_iload_n hX dX6_isCode_15 rfl 1 rfl ?_
      refine g_sipush (v := (281 : Int32)) hX dX6_isCode_16 (by decide) ?_
      refine g_icmp_ge hX 26 dX6_isCode_19 (by decide) (fun hc => ?_) (fun hc => ?_)
      · have h := xif_t hc h
        refine g_iconst (v := (0 : Int32)) hX dX6_isCode_26 (by decide) ?_
        obtain ⟨hz, h⟩ := xne_inv h
        exact g_zret hX hM hz (Option.some.inj h) dX6_isCode_27
      · have h := xif_f hc h
        refine g_iconst (v := (1 : Int32)) hX dX6_isCode_22 (by decide) ?_
        refine g_goto hX 27 dX6_isCode_23 (by decide) ?_
        obtain ⟨hz, h⟩ := xne_inv h
        exact g_zret hX hM hz (Option.some.inj h) dX6_isCode_27
set_option maxRecDepth 100000 in
theorem c6_spoil {l : Launch} {K : xK}  (hvc : xVC (xvl K)) (hV : (6, 0) ∈ xvl K) {S : xSt} {a1 : Int32} {a2 : Int32} {out : xR} (h : f6_spoil S  a1 a2 = some out) : xMet l K yX6_spoil cX6_spoil 3 (some .int) 6 139 S [xr K 6 0, .int a1, .int a2] out := by
  refine xMet_of RX6 (by decide +kernel) rfl hvc (Nat.le_of_ble_eq_true rfl) ?_
  intro X hX hM hR
  show xG K X S 0 [(0, xr K 6 0), (1, .int a1), (2, .int a2)] []
  unfold f6_spoil at h
  refine g_aload_n hX dX6_spoil_0 rfl 0 rfl ?_
  refine g_iload_n hX dX6_spoil_1 rfl 1 rfl ?_
  obtain ⟨S1, r2, hcS1, h⟩ := xbI_inv h
  refine g_callV hX hR hV (fun l => c6_isCode (l := l) hX.vc hV hcS1) xc6_95 rfl ⟨by decide, by decide⟩ rfl rfl (Nat.le_of_ble_eq_true rfl) dX6_spoil_2 ?_
  refine g_if_ne hX 10 dX6_spoil_5 (by decide) (fun hc => ?_) (fun hc => ?_)
  · have h := xif_f hc h
    refine g_iload_n hX dX6_spoil_10 rfl 2 rfl ?_
    refine g_iconst (v := (1 : Int32)) hX dX6_spoil_11 (by decide) ?_
    refine g_icmp_lt hX 22 dX6_spoil_12 (by decide) (fun hc => ?_) (fun hc => ?_)
    · have h := xif_t hc h
      refine g_bipush (v := (-2 : Int32)) hX dX6_spoil_22 (by decide) ?_
      exact g_iret hX hM (Option.some.inj h) dX6_spoil_24
    · have h := xif_f hc h
      refine g_iload_n hX dX6_spoil_15 rfl 2 rfl ?_
      refine g_sipush (v := (511 : Int32)) hX dX6_spoil_16 (by decide) ?_
      refine g_icmp_le hX 25 dX6_spoil_19 (by decide) (fun hc => ?_) (fun hc => ?_)
      · have h := xif_t hc h
        refine g_aload_n hX dX6_spoil_25 rfl 0 rfl ?_
        refine g_getR hX hV xf6_19 dX6_spoil_26 ?_
        refine g_aload_n hX dX6_spoil_29 rfl 0 rfl ?_
        refine g_getR hX hV xf6_12 dX6_spoil_30 ?_
        obtain ⟨S3, hcS3, h⟩ := xbV_inv h
        refine g_callV hX hR (xvc_6_1 hX.vc hV) (fun l => c1_record (l := l) hX.vc (xvc_6_1 hX.vc hV) (xvc_6_0 hX.vc hV) hcS3) xc6_72 rfl ⟨by decide, by decide⟩ rfl rfl (Nat.le_of_ble_eq_true rfl) dX6_spoil_33 ?_
        refine g_aload_n hX dX6_spoil_36 rfl 0 rfl ?_
        refine g_getR hX hV xf6_12 dX6_spoil_37 ?_
        refine g_getR hX (xvc_6_0 hX.vc hV) (xf6_99 _) dX6_spoil_40 ?_
        refine g_iload_n hX dX6_spoil_43 rfl 1 rfl ?_
        refine g_dup2 hX dX6_spoil_44 rfl rfl ?_
        obtain ⟨hbj4, h⟩ := xat_inv h
        refine g_iald (n := 281) hX (xvc_4_2 hX.vc (xvc_6_0 hX.vc hV)) rfl hbj4 dX6_spoil_45 ?_
        refine g_iload_n hX dX6_spoil_46 rfl 2 rfl ?_
        refine g_ixor hX dX6_spoil_47 ?_
        obtain ⟨hbj5, h⟩ := xat_inv h
        obtain ⟨S6, eS6, h⟩ := xlet_inv h
        refine g_iast (n := 281) hX (xvc_4_2 hX.vc (xvc_6_0 hX.vc hV)) (fun _ => rfl) hbj5 dX6_spoil_48 eS6 ?_
        refine g_aload_n hX dX6_spoil_49 rfl 0 rfl ?_
        obtain ⟨S7, hcS7, h⟩ := xbV_inv h
        refine g_callV hX hR hV (fun l => c6_refresh (l := l) hX.vc hV hcS7) xc6_65 rfl ⟨by decide, by decide⟩ rfl rfl (Nat.le_of_ble_eq_true rfl) dX6_spoil_50 ?_
        refine g_aload_n hX dX6_spoil_53 rfl 0 rfl ?_
        refine g_getR hX hV xf6_52 dX6_spoil_54 ?_
        refine g_iload_n hX dX6_spoil_57 rfl 1 rfl ?_
        obtain ⟨hbj8, h⟩ := xat_inv h
        refine g_iald (n := 281) hX (xvc_6_7 hX.vc hV) rfl hbj8 dX6_spoil_58 ?_
        exact g_iret hX hM (Option.some.inj h) dX6_spoil_59
      · have h := xif_f hc h
        refine g_bipush (v := (-2 : Int32)) hX dX6_spoil_22 (by decide) ?_
        exact g_iret hX hM (Option.some.inj h) dX6_spoil_24
  · have h := xif_t hc h
    refine g_iconst (v := (-1 : Int32)) hX dX6_spoil_8 (by decide) ?_
    exact g_iret hX hM (Option.some.inj h) dX6_spoil_9
set_option maxRecDepth 100000 in
theorem sf6_sign_J15 {K : xK} {X : xX} {out : xR}  (hX : xOK K X RX6 cX6_sign 2) (hM : xM K X out (some .int)) (hR : xRm X 0 0) (hV : (6, 0) ∈ xvl K)  {S : xSt}  (h : f6_sign_J15   S  = some out) : xG K X S 15 [] [] := by
  unfold f6_sign_J15 at h
  refine g_iconst (v := (-1 : Int32)) hX dX6_sign_15 (by decide) ?_
  refine g_goto hX 28 dX6_sign_16 (by decide) ?_
  exact g_iret hX hM (Option.some.inj h) dX6_sign_28
set_option maxRecDepth 100000 in
theorem c6_sign {l : Launch} {K : xK}  (hvc : xVC (xvl K)) (hV : (6, 0) ∈ xvl K) {S : xSt} {a1 : Int32} {out : xR} (h : f6_sign S  a1 = some out) : xMet l K yX6_sign cX6_sign 2 (some .int) 0 0 S [xr K 6 0, .int a1] out := by
  refine xMet_of RX6 (by decide +kernel) rfl hvc (Nat.le_of_ble_eq_true rfl) ?_
  intro X hX hM hR
  show xG K X S 0 [(0, xr K 6 0), (1, .int a1)] []
  unfold f6_sign at h
  refine g_iload_n hX dX6_sign_0 rfl 1 rfl ?_
  refine g_if_lt hX 15 dX6_sign_1 (by decide) (fun hc => ?_) (fun hc => ?_)
  · have h := xif_t hc h
    exact g_sub [] (by rfl) (sf6_sign_J15 hX hM hR hV h)
  · have h := xif_f hc h
    refine g_iload_n hX dX6_sign_4 rfl 1 rfl ?_
    refine g_aload_n hX dX6_sign_5 rfl 0 rfl ?_
    refine g_getR hX hV xf6_12 dX6_sign_6 ?_
    refine g_getI hX (xvc_6_0 hX.vc hV) xf6_82 dX6_sign_9 ?_
    refine g_icmp_lt hX 19 dX6_sign_12 (by decide) (fun hc => ?_) (fun hc => ?_)
    · have h := xif_t hc h
      refine g_aload_n hX dX6_sign_19 rfl 0 rfl ?_
      refine g_getR hX hV xf6_12 dX6_sign_20 ?_
      refine g_getR hX (xvc_6_0 hX.vc hV) (xf6_86 _) dX6_sign_23 ?_
      refine g_iload_n hX dX6_sign_26 rfl 1 rfl ?_
      obtain ⟨hbj1, h⟩ := xat_inv h
      refine g_iald (n := 240) hX (xvc_4_1 hX.vc (xvc_6_0 hX.vc hV)) rfl hbj1 dX6_sign_27 ?_
      exact g_iret hX hM (Option.some.inj h) dX6_sign_28
    · have h := xif_f hc h
      exact g_sub [] (by rfl) (sf6_sign_J15 hX hM hR hV h)
set_option maxRecDepth 100000 in
theorem c6_ofCode {l : Launch} {K : xK}  (hvc : xVC (xvl K)) (hV : (6, 0) ∈ xvl K) {S : xSt} {a1 : Int32} {a2 : Int32} {out : xR} (h : f6_ofCode S  a1 a2 = some out) : xMet l K yX6_ofCode cX6_ofCode 3 (some .int) 1 21 S [xr K 6 0, .int a1, .int a2] out := by
  refine xMet_of RX6 (by decide +kernel) rfl hvc (Nat.le_of_ble_eq_true rfl) ?_
  intro X hX hM hR
  show xG K X S 0 [(0, xr K 6 0), (1, .int a1), (2, .int a2)] []
  unfold f6_ofCode at h
  refine g_aload_n hX dX6_ofCode_0 rfl 0 rfl ?_
  refine g_iload_n hX dX6_ofCode_1 rfl 1 rfl ?_
  obtain ⟨S1, r2, hcS1, h⟩ := xbI_inv h
  refine g_callV hX hR hV (fun l => c6_isCode (l := l) hX.vc hV hcS1) xc6_95 rfl ⟨by decide, by decide⟩ rfl rfl (Nat.le_of_ble_eq_true rfl) dX6_ofCode_2 ?_
  refine g_if_ne hX 10 dX6_ofCode_5 (by decide) (fun hc => ?_) (fun hc => ?_)
  · have h := xif_f hc h
    refine g_iload_n hX dX6_ofCode_10 rfl 2 rfl ?_
    by_cases hc : a2.toInt < 0 ∨ 5 < a2.toInt
    · have h := xif_t hc h
      refine g_tsOut hX 105 dX6_ofCode_11 hc (by decide) ?_
      refine g_bipush (v := (-2 : Int32)) hX dX6_ofCode_105 (by decide) ?_
      exact g_iret hX hM (Option.some.inj h) dX6_ofCode_107
    have h := xif_f hc h
    generalize hn : (a2.toInt - 0).toNat = n at h
    match n, hn, h with
    | 0, hn, h =>
      refine g_tsIn hX 48 dX6_ofCode_11 hc 0 hn (by rfl) (by decide) ?_
      refine g_aload_n hX dX6_ofCode_48 rfl 0 rfl ?_
      refine g_getR hX hV xf6_41 dX6_ofCode_49 ?_
      refine g_getR hX (xvc_6_5 hX.vc hV) (xf6_127 _) dX6_ofCode_52 ?_
      refine g_iload_n hX dX6_ofCode_55 rfl 1 rfl ?_
      obtain ⟨hbj3, h⟩ := xat_inv h
      refine g_iald (n := 281) hX (xvc_5_1 hX.vc (xvc_6_5 hX.vc hV)) rfl hbj3 dX6_ofCode_56 ?_
      exact g_iret hX hM (Option.some.inj h) dX6_ofCode_57
    | 1, hn, h =>
      refine g_tsIn hX 58 dX6_ofCode_11 hc 1 hn (by rfl) (by decide) ?_
      refine g_aload_n hX dX6_ofCode_58 rfl 0 rfl ?_
      refine g_getR hX hV xf6_52 dX6_ofCode_59 ?_
      refine g_iload_n hX dX6_ofCode_62 rfl 1 rfl ?_
      obtain ⟨hbj4, h⟩ := xat_inv h
      refine g_iald (n := 281) hX (xvc_6_7 hX.vc hV) rfl hbj4 dX6_ofCode_63 ?_
      exact g_iret hX hM (Option.some.inj h) dX6_ofCode_64
    | 2, hn, h =>
      refine g_tsIn hX 65 dX6_ofCode_11 hc 2 hn (by rfl) (by decide) ?_
      refine g_aload_n hX dX6_ofCode_65 rfl 0 rfl ?_
      refine g_getR hX hV xf6_41 dX6_ofCode_66 ?_
      refine g_getR hX (xvc_6_5 hX.vc hV) (xf6_130 _) dX6_ofCode_69 ?_
      refine g_iload_n hX dX6_ofCode_72 rfl 1 rfl ?_
      obtain ⟨hbj5, h⟩ := xat_inv h
      refine g_iald (n := 281) hX (xvc_5_2 hX.vc (xvc_6_5 hX.vc hV)) rfl hbj5 dX6_ofCode_73 ?_
      exact g_iret hX hM (Option.some.inj h) dX6_ofCode_74
    | 3, hn, h =>
      refine g_tsIn hX 75 dX6_ofCode_11 hc 3 hn (by rfl) (by decide) ?_
      refine g_aload_n hX dX6_ofCode_75 rfl 0 rfl ?_
      refine g_getR hX hV xf6_41 dX6_ofCode_76 ?_
      refine g_getR hX (xvc_6_5 hX.vc hV) (xf6_133 _) dX6_ofCode_79 ?_
      refine g_iload_n hX dX6_ofCode_82 rfl 1 rfl ?_
      obtain ⟨hbj6, h⟩ := xat_inv h
      refine g_iald (n := 281) hX (xvc_5_3 hX.vc (xvc_6_5 hX.vc hV)) rfl hbj6 dX6_ofCode_83 ?_
      exact g_iret hX hM (Option.some.inj h) dX6_ofCode_84
    | 4, hn, h =>
      refine g_tsIn hX 85 dX6_ofCode_11 hc 4 hn (by rfl) (by decide) ?_
      refine g_aload_n hX dX6_ofCode_85 rfl 0 rfl ?_
      refine g_getR hX hV xf6_41 dX6_ofCode_86 ?_
      refine g_getR hX (xvc_6_5 hX.vc hV) (xf6_136 _) dX6_ofCode_89 ?_
      refine g_iload_n hX dX6_ofCode_92 rfl 1 rfl ?_
      obtain ⟨hbj7, h⟩ := xat_inv h
      refine g_iald (n := 281) hX (xvc_5_4 hX.vc (xvc_6_5 hX.vc hV)) rfl hbj7 dX6_ofCode_93 ?_
      exact g_iret hX hM (Option.some.inj h) dX6_ofCode_94
    | 5, hn, h =>
      refine g_tsIn hX 95 dX6_ofCode_11 hc 5 hn (by rfl) (by decide) ?_
      refine g_aload_n hX dX6_ofCode_95 rfl 0 rfl ?_
      refine g_getR hX hV xf6_41 dX6_ofCode_96 ?_
      refine g_getR hX (xvc_6_5 hX.vc hV) (xf6_139 _) dX6_ofCode_99 ?_
      refine g_iload_n hX dX6_ofCode_102 rfl 1 rfl ?_
      obtain ⟨hbj8, h⟩ := xat_inv h
      refine g_iald (n := 281) hX (xvc_5_5 hX.vc (xvc_6_5 hX.vc hV)) rfl hbj8 dX6_ofCode_103 ?_
      exact g_iret hX hM (Option.some.inj h) dX6_ofCode_104
    | n + 6, hn, h => cases h
  · have h := xif_t hc h
    refine g_iconst (v := (-1 : Int32)) hX dX6_ofCode_8 (by decide) ?_
    exact g_iret hX hM (Option.some.inj h) dX6_ofCode_9
set_option maxRecDepth 100000 in
theorem c6_count {l : Launch} {K : xK}  (hvc : xVC (xvl K)) (hV : (6, 0) ∈ xvl K) {S : xSt} {a1 : Int32} {out : xR} (h : f6_count S  a1 = some out) : xMet l K yX6_count cX6_count 2 (some .int) 1 22 S [xr K 6 0, .int a1] out := by
  refine xMet_of RX6 (by decide +kernel) rfl hvc (Nat.le_of_ble_eq_true rfl) ?_
  intro X hX hM hR
  show xG K X S 0 [(0, xr K 6 0), (1, .int a1)] []
  unfold f6_count at h
  refine g_iload_n hX dX6_count_0 rfl 1 rfl ?_
  by_cases hc : a1.toInt < 0 ∨ 11 < a1.toInt
  · have h := xif_t hc h
    refine g_tsOut hX 169 dX6_count_1 hc (by decide) ?_
    refine g_bipush (v := (-2 : Int32)) hX dX6_count_169 (by decide) ?_
    exact g_iret hX hM (Option.some.inj h) dX6_count_171
  have h := xif_f hc h
  generalize hn : (a1.toInt - 0).toNat = n at h
  match n, hn, h with
  | 0, hn, h =>
    refine g_tsIn hX 64 dX6_count_1 hc 0 hn (by rfl) (by decide) ?_
    refine g_aload_n hX dX6_count_64 rfl 0 rfl ?_
    refine g_getR hX hV xf6_12 dX6_count_65 ?_
    refine g_getI hX (xvc_6_0 hX.vc hV) xf6_82 dX6_count_68 ?_
    exact g_iret hX hM (Option.some.inj h) dX6_count_71
  | 1, hn, h =>
    refine g_tsIn hX 72 dX6_count_1 hc 1 hn (by rfl) (by decide) ?_
    refine g_aload_n hX dX6_count_72 rfl 0 rfl ?_
    refine g_getR hX hV xf6_41 dX6_count_73 ?_
    refine g_getI hX (xvc_6_5 hX.vc hV) xf6_142 dX6_count_76 ?_
    exact g_iret hX hM (Option.some.inj h) dX6_count_79
  | 2, hn, h =>
    refine g_tsIn hX 80 dX6_count_1 hc 2 hn (by rfl) (by decide) ?_
    refine g_aload_n hX dX6_count_80 rfl 0 rfl ?_
    refine g_getR hX hV xf6_41 dX6_count_81 ?_
    refine g_getI hX (xvc_6_5 hX.vc hV) xf6_145 dX6_count_84 ?_
    exact g_iret hX hM (Option.some.inj h) dX6_count_87
  | 3, hn, h =>
    refine g_tsIn hX 88 dX6_count_1 hc 3 hn (by rfl) (by decide) ?_
    refine g_aload_n hX dX6_count_88 rfl 0 rfl ?_
    refine g_getR hX hV xf6_41 dX6_count_89 ?_
    refine g_getI hX (xvc_6_5 hX.vc hV) xf6_148 dX6_count_92 ?_
    exact g_iret hX hM (Option.some.inj h) dX6_count_95
  | 4, hn, h =>
    refine g_tsIn hX 96 dX6_count_1 hc 4 hn (by rfl) (by decide) ?_
    refine g_aload_n hX dX6_count_96 rfl 0 rfl ?_
    refine g_getR hX hV xf6_41 dX6_count_97 ?_
    refine g_getR hX (xvc_6_5 hX.vc hV) (xf6_151 _) dX6_count_100 ?_
    refine g_getI hX (xvc_5_0 hX.vc (xvc_6_5 hX.vc hV)) xf6_155 dX6_count_103 ?_
    exact g_iret hX hM (Option.some.inj h) dX6_count_106
  | 5, hn, h =>
    refine g_tsIn hX 107 dX6_count_1 hc 5 hn (by rfl) (by decide) ?_
    refine g_aload_n hX dX6_count_107 rfl 0 rfl ?_
    refine g_getR hX hV xf6_41 dX6_count_108 ?_
    refine g_getI hX (xvc_6_5 hX.vc hV) xf6_160 dX6_count_111 ?_
    exact g_iret hX hM (Option.some.inj h) dX6_count_114
  | 6, hn, h =>
    refine g_tsIn hX 115 dX6_count_1 hc 6 hn (by rfl) (by decide) ?_
    refine g_aload_n hX dX6_count_115 rfl 0 rfl ?_
    refine g_getR hX hV xf6_12 dX6_count_116 ?_
    obtain ⟨S1, r2, hcS1, h⟩ := xbI_inv h
    refine g_callV hX hR (xvc_6_0 hX.vc hV) (fun l => c4_countSpoiled (l := l) hX.vc (xvc_6_0 hX.vc hV) hcS1) xc6_163 rfl ⟨by decide, by decide⟩ rfl rfl (Nat.le_of_ble_eq_true rfl) dX6_count_119 ?_
    exact g_iret hX hM (Option.some.inj h) dX6_count_122
  | 7, hn, h =>
    refine g_tsIn hX 123 dX6_count_1 hc 7 hn (by rfl) (by decide) ?_
    refine g_aload_n hX dX6_count_123 rfl 0 rfl ?_
    refine g_getR hX hV xf6_34 dX6_count_124 ?_
    refine g_getI hX (xvc_6_4 hX.vc hV) xf6_106 dX6_count_127 ?_
    exact g_iret hX hM (Option.some.inj h) dX6_count_130
  | 8, hn, h =>
    refine g_tsIn hX 131 dX6_count_1 hc 8 hn (by rfl) (by decide) ?_
    refine g_aload_n hX dX6_count_131 rfl 0 rfl ?_
    refine g_getR hX hV xf6_19 dX6_count_132 ?_
    refine g_getI hX (xvc_6_1 hX.vc hV) xf6_166 dX6_count_135 ?_
    exact g_iret hX hM (Option.some.inj h) dX6_count_138
  | 9, hn, h =>
    refine g_tsIn hX 139 dX6_count_1 hc 9 hn (by rfl) (by decide) ?_
    refine g_aload_n hX dX6_count_139 rfl 0 rfl ?_
    refine g_getR hX hV xf6_12 dX6_count_140 ?_
    refine g_getR hX (xvc_6_0 hX.vc hV) (xf6_76 _) dX6_count_143 ?_
    refine g_iconst (v := (0 : Int32)) hX dX6_count_146 (by decide) ?_
    obtain ⟨hbj3, h⟩ := xat_inv h
    refine g_iald (n := 3) hX (xvc_4_0 hX.vc (xvc_6_0 hX.vc hV)) rfl hbj3 dX6_count_147 ?_
    exact g_iret hX hM (Option.some.inj h) dX6_count_148
  | 10, hn, h =>
    refine g_tsIn hX 149 dX6_count_1 hc 10 hn (by rfl) (by decide) ?_
    refine g_aload_n hX dX6_count_149 rfl 0 rfl ?_
    refine g_getR hX hV xf6_12 dX6_count_150 ?_
    refine g_getR hX (xvc_6_0 hX.vc hV) (xf6_76 _) dX6_count_153 ?_
    refine g_iconst (v := (1 : Int32)) hX dX6_count_156 (by decide) ?_
    obtain ⟨hbj4, h⟩ := xat_inv h
    refine g_iald (n := 3) hX (xvc_4_0 hX.vc (xvc_6_0 hX.vc hV)) rfl hbj4 dX6_count_157 ?_
    exact g_iret hX hM (Option.some.inj h) dX6_count_158
  | 11, hn, h =>
    refine g_tsIn hX 159 dX6_count_1 hc 11 hn (by rfl) (by decide) ?_
    refine g_aload_n hX dX6_count_159 rfl 0 rfl ?_
    refine g_getR hX hV xf6_12 dX6_count_160 ?_
    refine g_getR hX (xvc_6_0 hX.vc hV) (xf6_76 _) dX6_count_163 ?_
    refine g_iconst (v := (2 : Int32)) hX dX6_count_166 (by decide) ?_
    obtain ⟨hbj5, h⟩ := xat_inv h
    refine g_iald (n := 3) hX (xvc_4_0 hX.vc (xvc_6_0 hX.vc hV)) rfl hbj5 dX6_count_167 ?_
    exact g_iret hX hM (Option.some.inj h) dX6_count_168
  | n + 12, hn, h => cases h
set_option maxRecDepth 100000 in
theorem c6_entry {l : Launch} {K : xK}  (hvc : xVC (xvl K)) (hV : (6, 0) ∈ xvl K) {S : xSt} {a1 : Int32} {a2 : Int32} {out : xR} (h : f6_entry S  a1 a2 = some out) : xMet l K yX6_entry cX6_entry 3 (some .int) 0 0 S [xr K 6 0, .int a1, .int a2] out := by
  refine xMet_of RX6 (by decide +kernel) rfl hvc (Nat.le_of_ble_eq_true rfl) ?_
  intro X hX hM hR
  show xG K X S 0 [(0, xr K 6 0), (1, .int a1), (2, .int a2)] []
  unfold f6_entry at h
  refine g_iload_n hX dX6_entry_0 rfl 1 rfl ?_
  refine g_if_lt hX 25 dX6_entry_1 (by decide) (fun hc => ?_) (fun hc => ?_)
  · have h := xif_t hc h
    refine g_iconst (v := (-1 : Int32)) hX dX6_entry_25 (by decide) ?_
    exact g_iret hX hM (Option.some.inj h) dX6_entry_26
  · have h := xif_f hc h
    refine g_iload_n hX dX6_entry_4 rfl 1 rfl ?_
    refine g_aload_n hX dX6_entry_5 rfl 0 rfl ?_
    refine g_getR hX hV xf6_41 dX6_entry_6 ?_
    refine g_getR hX (xvc_6_5 hX.vc hV) (xf6_151 _) dX6_entry_9 ?_
    refine g_getI hX (xvc_5_0 hX.vc (xvc_6_5 hX.vc hV)) xf6_155 dX6_entry_12 ?_
    refine g_icmp_ge hX 25 dX6_entry_15 (by decide) (fun hc => ?_) (fun hc => ?_)
    · have h := xif_t hc h
      refine g_iconst (v := (-1 : Int32)) hX dX6_entry_25 (by decide) ?_
      exact g_iret hX hM (Option.some.inj h) dX6_entry_26
    · have h := xif_f hc h
      refine g_iload_n hX dX6_entry_18 rfl 1 rfl ?_
      refine g_sipush (v := (512 : Int32)) hX dX6_entry_19 (by decide) ?_
      refine g_icmp_lt hX 27 dX6_entry_22 (by decide) (fun hc => ?_) (fun hc => ?_)
      · have h := xif_t hc h
        refine g_iload_n hX dX6_entry_27 rfl 2 rfl ?_
        by_cases hc : a2.toInt < 0 ∨ 2 < a2.toInt
        · have h := xif_t hc h
          refine g_tsOut hX 95 dX6_entry_28 hc (by decide) ?_
          refine g_bipush (v := (-2 : Int32)) hX dX6_entry_95 (by decide) ?_
          exact g_iret hX hM (Option.some.inj h) dX6_entry_97
        have h := xif_f hc h
        generalize hn : (a2.toInt - 0).toNat = n at h
        match n, hn, h with
        | 0, hn, h =>
          refine g_tsIn hX 56 dX6_entry_28 hc 0 hn (by rfl) (by decide) ?_
          refine g_aload_n hX dX6_entry_56 rfl 0 rfl ?_
          refine g_getR hX hV xf6_41 dX6_entry_57 ?_
          refine g_getR hX (xvc_6_5 hX.vc hV) (xf6_151 _) dX6_entry_60 ?_
          refine g_getR hX (xvc_5_0 hX.vc (xvc_6_5 hX.vc hV)) (xf6_169 _) dX6_entry_63 ?_
          refine g_iload_n hX dX6_entry_66 rfl 1 rfl ?_
          obtain ⟨hbj1, h⟩ := xat_inv h
          refine g_iald (n := 512) hX (xvc_0_2 hX.vc (xvc_5_0 hX.vc (xvc_6_5 hX.vc hV))) rfl hbj1 dX6_entry_67 ?_
          exact g_iret hX hM (Option.some.inj h) dX6_entry_68
        | 1, hn, h =>
          refine g_tsIn hX 69 dX6_entry_28 hc 1 hn (by rfl) (by decide) ?_
          refine g_aload_n hX dX6_entry_69 rfl 0 rfl ?_
          refine g_getR hX hV xf6_41 dX6_entry_70 ?_
          refine g_getR hX (xvc_6_5 hX.vc hV) (xf6_151 _) dX6_entry_73 ?_
          refine g_getR hX (xvc_5_0 hX.vc (xvc_6_5 hX.vc hV)) (xf6_170 _) dX6_entry_76 ?_
          refine g_iload_n hX dX6_entry_79 rfl 1 rfl ?_
          obtain ⟨hbj2, h⟩ := xat_inv h
          refine g_iald (n := 512) hX (xvc_0_1 hX.vc (xvc_5_0 hX.vc (xvc_6_5 hX.vc hV))) rfl hbj2 dX6_entry_80 ?_
          exact g_iret hX hM (Option.some.inj h) dX6_entry_81
        | 2, hn, h =>
          refine g_tsIn hX 82 dX6_entry_28 hc 2 hn (by rfl) (by decide) ?_
          refine g_aload_n hX dX6_entry_82 rfl 0 rfl ?_
          refine g_getR hX hV xf6_41 dX6_entry_83 ?_
          refine g_getR hX (xvc_6_5 hX.vc hV) (xf6_151 _) dX6_entry_86 ?_
          refine g_getR hX (xvc_5_0 hX.vc (xvc_6_5 hX.vc hV)) (xf6_173 _) dX6_entry_89 ?_
          refine g_iload_n hX dX6_entry_92 rfl 1 rfl ?_
          obtain ⟨hbj3, h⟩ := xat_inv h
          refine g_iald (n := 512) hX (xvc_0_0 hX.vc (xvc_5_0 hX.vc (xvc_6_5 hX.vc hV))) rfl hbj3 dX6_entry_93 ?_
          exact g_iret hX hM (Option.some.inj h) dX6_entry_94
        | n + 3, hn, h => cases h
      · have h := xif_f hc h
        refine g_iconst (v := (-1 : Int32)) hX dX6_entry_25 (by decide) ?_
        exact g_iret hX hM (Option.some.inj h) dX6_entry_26
set_option maxRecDepth 100000 in
theorem c6_reading {l : Launch} {K : xK}  (hvc : xVC (xvl K)) (hV : (6, 0) ∈ xvl K) {S : xSt} {a1 : Int32} {out : xR} (h : f6_reading S  a1 = some out) : xMet l K yX6_reading cX6_reading 2 (some .int) 2 37 S [xr K 6 0, .int a1] out := by
  refine xMet_of RX6 (by decide +kernel) rfl hvc (Nat.le_of_ble_eq_true rfl) ?_
  intro X hX hM hR
  show xG K X S 0 [(0, xr K 6 0), (1, .int a1)] []
  unfold f6_reading at h
  refine g_iload_n hX dX6_reading_0 rfl 1 rfl ?_
  by_cases hc : a1.toInt < 0 ∨ 5 < a1.toInt
  · have h := xif_t hc h
    refine g_tsOut hX 102 dX6_reading_1 hc (by decide) ?_
    refine g_bipush (v := (-2 : Int32)) hX dX6_reading_102 (by decide) ?_
    exact g_iret hX hM (Option.some.inj h) dX6_reading_104
  have h := xif_f hc h
  generalize hn : (a1.toInt - 0).toNat = n at h
  match n, hn, h with
  | 0, hn, h =>
    refine g_tsIn hX 40 dX6_reading_1 hc 0 hn (by rfl) (by decide) ?_
    refine g_aload_n hX dX6_reading_40 rfl 0 rfl ?_
    refine g_getR hX hV xf6_48 dX6_reading_41 ?_
    refine g_getI hX (xvc_6_6 hX.vc hV) xf6_176 dX6_reading_44 ?_
    exact g_iret hX hM (Option.some.inj h) dX6_reading_47
  | 1, hn, h =>
    refine g_tsIn hX 48 dX6_reading_1 hc 1 hn (by rfl) (by decide) ?_
    refine g_aload_n hX dX6_reading_48 rfl 0 rfl ?_
    refine g_getR hX hV xf6_48 dX6_reading_49 ?_
    refine g_getI hX (xvc_6_6 hX.vc hV) xf6_179 dX6_reading_52 ?_
    exact g_iret hX hM (Option.some.inj h) dX6_reading_55
  | 2, hn, h =>
    refine g_tsIn hX 56 dX6_reading_1 hc 2 hn (by rfl) (by decide) ?_
    refine g_aload_n hX dX6_reading_56 rfl 0 rfl ?_
    refine g_getR hX hV xf6_48 dX6_reading_57 ?_
    refine g_getI hX (xvc_6_6 hX.vc hV) xf6_182 dX6_reading_60 ?_
    exact g_iret hX hM (Option.some.inj h) dX6_reading_63
  | 3, hn, h =>
    refine g_tsIn hX 64 dX6_reading_1 hc 3 hn (by rfl) (by decide) ?_
    refine g_aload_n hX dX6_reading_64 rfl 0 rfl ?_
    refine g_getR hX hV xf6_48 dX6_reading_65 ?_
    refine g_getI hX (xvc_6_6 hX.vc hV) xf6_185 dX6_reading_68 ?_
    exact g_iret hX hM (Option.some.inj h) dX6_reading_71
  | 4, hn, h =>
    refine g_tsIn hX 72 dX6_reading_1 hc 4 hn (by rfl) (by decide) ?_
    refine g_aload_n hX dX6_reading_72 rfl 0 rfl ?_
    refine g_getR hX hV xf6_48 dX6_reading_73 ?_
    refine g_getI hX (xvc_6_6 hX.vc hV) xf6_186 dX6_reading_76 ?_
    exact g_iret hX hM (Option.some.inj h) dX6_reading_79
  | 5, hn, h =>
    refine g_tsIn hX 80 dX6_reading_1 hc 5 hn (by rfl) (by decide) ?_
    refine g_aload_n hX dX6_reading_80 rfl 0 rfl ?_
    refine g_getR hX hV xf6_48 dX6_reading_81 ?_
    refine g_aload_n hX dX6_reading_84 rfl 0 rfl ?_
    refine g_getR hX hV xf6_12 dX6_reading_85 ?_
    refine g_getR hX (xvc_6_0 hX.vc hV) (xf6_86 _) dX6_reading_88 ?_
    refine g_aload_n hX dX6_reading_91 rfl 0 rfl ?_
    refine g_getR hX hV xf6_12 dX6_reading_92 ?_
    refine g_getI hX (xvc_6_0 hX.vc hV) xf6_82 dX6_reading_95 ?_
    obtain ⟨S1, r2, hcS1, h⟩ := xbI_inv h
    refine g_callV hX hR (xvc_6_6 hX.vc hV) (fun l => c3_firstDifference (l := l) hX.vc (xvc_6_6 hX.vc hV) (xvc_4_1 hX.vc (xvc_6_0 hX.vc hV)) hcS1) xc6_189 rfl ⟨by decide, by decide⟩ rfl rfl (Nat.le_of_ble_eq_true rfl) dX6_reading_98 ?_
    exact g_iret hX hM (Option.some.inj h) dX6_reading_101
  | n + 6, hn, h => cases h
set_option maxRecDepth 100000 in
theorem sf6_read_J21 {K : xK} {X : xX} {out : xR}  (hX : xOK K X RX6 cX6_read 2) (hM : xM K X out (some .int)) (hR : xRm X 0 0) (hV : (6, 0) ∈ xvl K)  {S : xSt}  (h : f6_read_J21   S  = some out) : xG K X S 21 [] [] := by
  unfold f6_read_J21 at h
  refine g_iconst (v := (-1 : Int32)) hX dX6_read_21 (by decide) ?_
  refine g_goto hX 34 dX6_read_22 (by decide) ?_
  exact g_iret hX hM (Option.some.inj h) dX6_read_34
set_option maxRecDepth 100000 in
theorem c6_read {l : Launch} {K : xK}  (hvc : xVC (xvl K)) (hV : (6, 0) ∈ xvl K) {S : xSt} {a1 : Int32} {out : xR} (h : f6_read S  a1 = some out) : xMet l K yX6_read cX6_read 2 (some .int) 0 0 S [xr K 6 0, .int a1] out := by
  refine xMet_of RX6 (by decide +kernel) rfl hvc (Nat.le_of_ble_eq_true rfl) ?_
  intro X hX hM hR
  show xG K X S 0 [(0, xr K 6 0), (1, .int a1)] []
  unfold f6_read at h
  refine g_iload_n hX dX6_read_0 rfl 1 rfl ?_
  refine g_if_lt hX 21 dX6_read_1 (by decide) (fun hc => ?_) (fun hc => ?_)
  · have h := xif_t hc h
    exact g_sub [] (by rfl) (sf6_read_J21 hX hM hR hV h)
  · have h := xif_f hc h
    refine g_iload_n hX dX6_read_4 rfl 1 rfl ?_
    refine g_aload_n hX dX6_read_5 rfl 0 rfl ?_
    refine g_getR hX hV xf6_48 dX6_read_6 ?_
    refine g_getI hX (xvc_6_6 hX.vc hV) xf6_176 dX6_read_9 ?_
    refine g_icmp_ge hX 21 dX6_read_12 (by decide) (fun hc => ?_) (fun hc => ?_)
    · have h := xif_t hc h
      exact g_sub [] (by rfl) (sf6_read_J21 hX hM hR hV h)
    · have h := xif_f hc h
      refine g_iload_n hX dX6_read_15 rfl 1 rfl ?_
      refine g_ldc (v := (39621 : Int32)) hX dX6_read_16 xk6_193 ?_
      refine g_icmp_lt hX 25 dX6_read_18 (by decide) (fun hc => ?_) (fun hc => ?_)
      · have h := xif_t hc h
        refine g_aload_n hX dX6_read_25 rfl 0 rfl ?_
        refine g_getR hX hV xf6_48 dX6_read_26 ?_
        refine g_getR hX (xvc_6_6 hX.vc hV) (xf6_194 _) dX6_read_29 ?_
        refine g_iload_n hX dX6_read_32 rfl 1 rfl ?_
        obtain ⟨hbj1, h⟩ := xat_inv h
        refine g_iald (n := 39621) hX (xvc_3_0 hX.vc (xvc_6_6 hX.vc hV)) rfl hbj1 dX6_read_33 ?_
        exact g_iret hX hM (Option.some.inj h) dX6_read_34
      · have h := xif_f hc h
        exact g_sub [] (by rfl) (sf6_read_J21 hX hM hR hV h)
end
section
set_option maxRecDepth 100000 in
theorem sfW_cell_J28 {K : xK} {X : xX} {out : xR}  {L : Nat} {xs : Nat → Int32} (hX : xOK K X RL cL_cell 3) (hM : xM K X out (some .int)) (hR : xRm X 0 0)  (hL : xsa K 4 = L) (hxs : xxs K = xs)  {S : xSt} {i2 : Int32} {k0 : Int32} (h : fW_cell_J28  L xs  S i2 k0 = some out) : xG K X S 28 [(2, .int i2)] [.int k0] := by
  unfold fW_cell_J28 at h
  refine g_iload_n hX dL_cell_28 rfl 0 rfl ?_
  obtain ⟨hn, h⟩ := xne_inv h
  refine g_irem hX dL_cell_29 hn ?_
  exact g_iret hX hM (Option.some.inj h) dL_cell_30
set_option maxRecDepth 100000 in
theorem cW_cell {l : Launch} {K : xK}  {L : Nat} {xs : Nat → Int32} (hvc : xVC (xvl K))  (hL : xsa K 4 = L) (hxs : xxs K = xs) {S : xSt} {a1 : Int32} {a2 : Int32} {out : xR} (h : fW_cell S  L xs a1 a2 = some out) : xMet l K yL_cell cL_cell 3 (some .int) 0 0 S [xrs K 3, .int a1, .int a2] out := by
  refine xMet_of RL (by decide +kernel) rfl hvc (Nat.le_of_ble_eq_true rfl) ?_
  intro X hX hM hR
  show xG K X S 0 [(0, xrs K 3), (1, .int a1), (2, .int a2)] []
  unfold fW_cell at h
  refine g_aloads_n hX dL_cell_0 rfl 0 rfl ?_
  refine g_slenx hX hL dL_cell_1 ?_
  refine g_if_ne hX 14 dL_cell_2 (by decide) (fun hc => ?_) (fun hc => ?_)
  · have h := xif_f hc h
    refine g_aloads_n hX dL_cell_14 rfl 0 rfl ?_
    refine g_iload_n hX dL_cell_15 rfl 1 rfl ?_
    refine g_aloads_n hX dL_cell_16 rfl 0 rfl ?_
    refine g_slenx hX hL dL_cell_17 ?_
    obtain ⟨hn, h⟩ := xne_inv h
    refine g_irem hX dL_cell_18 hn ?_
    obtain ⟨hbj1, h⟩ := xat_inv h
    refine g_ialdx hX hL hxs hbj1 dL_cell_19 ?_
    refine g_iload_n hX dL_cell_20 rfl 1 rfl ?_
    refine g_bipush (v := (7 : Int32)) hX dL_cell_21 (by decide) ?_
    obtain ⟨hn, h⟩ := xne_inv h
    refine g_irem hX dL_cell_23 hn ?_
    refine g_ishr hX dL_cell_24 ?_
    refine g_ldc (v := (4194303 : Int32)) hX dL_cell_25 xk9_7 ?_
    refine g_iand hX dL_cell_27 ?_
    exact g_sub [2] (by rfl) (sfW_cell_J28 hX hM hR hL hxs h)
  · have h := xif_t hc h
    refine g_iload_n hX dL_cell_5 rfl 1 rfl ?_
    refine g_bipush (v := (37 : Int32)) hX dL_cell_6 (by decide) ?_
    refine g_imul hX dL_cell_8 ?_
    refine g_iconst (v := (5 : Int32)) hX dL_cell_9 (by decide) ?_
    refine g_iadd hX dL_cell_10 ?_
    refine g_goto hX 28 dL_cell_11 (by decide) ?_
    exact g_sub [2] (by rfl) (sfW_cell_J28 hX hM hR hL hxs h)
set_option maxRecDepth 100000 in
theorem sbW_bits_L2 {K : xK} {X : xX} {out : xR}  (hX : xOK K X RL cL_bits 2) (hM : xM K X out (some .int)) (hR : xRm X 0 0)   {k2 : xSt → Int32 → Int32 → Option xR} (hk2 : ∀ (S : xSt) (i0 : Int32) (i1 : Int32), k2 S i0 i1 = some out → xG K X S 2 [(0, .int i0), (1, .int i1)] []) {S : xSt} {i0 : Int32} {i1 : Int32} (h : bW_bits_L2   k2 S i0 i1 = some out) : xG K X S 2 [(0, .int i0), (1, .int i1)] [] := by
  unfold bW_bits_L2 at h
  refine g_iload_n hX dL_bits_2 rfl 0 rfl ?_
  refine g_iconst (v := (1 : Int32)) hX dL_bits_3 (by decide) ?_
  refine g_isub hX dL_bits_4 ?_
  refine g_iconst (v := (1 : Int32)) hX dL_bits_5 (by decide) ?_
  refine g_iload_n hX dL_bits_6 rfl 1 rfl ?_
  refine g_ishl hX dL_bits_7 ?_
  refine g_icmp_lt hX 17 dL_bits_8 (by decide) (fun hc => ?_) (fun hc => ?_)
  · have h := xif_t hc h
    refine g_iload_n hX dL_bits_17 rfl 1 rfl ?_
    exact g_iret hX hM (Option.some.inj h) dL_bits_18
  · have h := xif_f hc h
    refine g_iinc (v := (i1 + (1 : Int32))) (lv2 := [(1, .int (i1 + (1 : Int32))), (0, .int i0)]) hX dL_bits_11 1 rfl rfl (by decide) rfl ?_
    refine g_goto hX 2 dL_bits_14 (by decide) ?_
    exact g_sub [1, 0] (by rfl) (hk2 _ _ _ h)
theorem sfW_bits_L2 {K : xK} {X : xX} {out : xR}  (hX : xOK K X RL cL_bits 2) (hM : xM K X out (some .int)) (hR : xRm X 0 0)   : ∀ (n : Nat) (S : xSt) (i0 : Int32) (i1 : Int32) (h : fW_bits_L2   n S i0 i1 = some out), xG K X S 2 [(0, .int i0), (1, .int i1)] [] := by
  intro n
  induction n with
  | zero => intro S i0 i1 h; cases h
  | succ n ih => intro S i0 i1 h; exact sbW_bits_L2 hX hM hR   ih h
set_option maxRecDepth 100000 in
theorem cW_bits {l : Launch} {K : xK}  (hvc : xVC (xvl K))  {S : xSt} {a0 : Int32} {out : xR} (h : fW_bits S  a0 = some out) : xMet l K yL_bits cL_bits 2 (some .int) 0 0 S [.int a0] out := by
  refine xMet_of RL (by decide +kernel) rfl hvc (Nat.le_of_ble_eq_true rfl) ?_
  intro X hX hM hR
  show xG K X S 0 [(0, .int a0)] []
  unfold fW_bits at h
  refine g_iconst (v := (4 : Int32)) hX dL_bits_0 (by decide) ?_
  refine g_istore_n (lv2 := [(1, .int (4 : Int32)), (0, .int a0)]) hX dL_bits_1 rfl (by decide) rfl ?_
  exact g_sub [1, 0] (by rfl) (sfW_bits_L2 hX hM hR _ _ _ _ h)
set_option maxRecDepth 100000 in
theorem sfW_isAlike_J67 {K : xK} {X : xX} {out : xR}  (hX : xOK K X RL cL_isAlike 6) (hM : xM K X out (some .boolean)) (hR : xRm X 2 43) (hV : (6, 0) ∈ xvl K) {k32 : xSt → Int32 → Int32 → Int32 → Int32 → Int32 → Option xR} (hk32 : ∀ (S : xSt) (i1 : Int32) (i2 : Int32) (i3 : Int32) (i4 : Int32) (i5 : Int32), k32 S i1 i2 i3 i4 i5 = some out → xG K X S 32 [(0, xr K 6 0), (1, .int i1), (2, .int i2), (3, .int i3), (4, .int i4), (5, .int i5)] []) {S : xSt} {i1 : Int32} {i2 : Int32} {i3 : Int32} {i5 : Int32} {k0 : Int32} (h : fW_isAlike_J67  k32 S i1 i2 i3 i5 k0 = some out) : xG K X S 67 [(0, xr K 6 0), (1, .int i1), (2, .int i2), (3, .int i3), (5, .int i5)] [.int k0] := by
  unfold fW_isAlike_J67 at h
  refine g_istore (lv2 := [(4, .int k0), (0, xr K 6 0), (1, .int i1), (2, .int i2), (3, .int i3), (5, .int i5)]) hX dL_isAlike_67 (by decide) rfl ?_
  refine g_iinc (v := (i5 + (1 : Int32))) (lv2 := [(5, .int (i5 + (1 : Int32))), (4, .int k0), (0, xr K 6 0), (1, .int i1), (2, .int i2), (3, .int i3)]) hX dL_isAlike_69 5 rfl rfl (by decide) rfl ?_
  refine g_goto hX 32 dL_isAlike_72 (by decide) ?_
  exact g_sub [2, 3, 4, 5, 1, 0] (by rfl) (hk32 _ _ _ _ _ _ h)
set_option maxRecDepth 100000 in
theorem sbW_isAlike_L32 {K : xK} {X : xX} {out : xR}  (hX : xOK K X RL cL_isAlike 6) (hM : xM K X out (some .boolean)) (hR : xRm X 2 43) (hV : (6, 0) ∈ xvl K)  {k32 : xSt → Int32 → Int32 → Int32 → Int32 → Int32 → Option xR} (hk32 : ∀ (S : xSt) (i1 : Int32) (i2 : Int32) (i3 : Int32) (i4 : Int32) (i5 : Int32), k32 S i1 i2 i3 i4 i5 = some out → xG K X S 32 [(0, xr K 6 0), (1, .int i1), (2, .int i2), (3, .int i3), (4, .int i4), (5, .int i5)] []) {S : xSt} {i1 : Int32} {i2 : Int32} {i3 : Int32} {i4 : Int32} {i5 : Int32} (h : bW_isAlike_L32   k32 S i1 i2 i3 i4 i5 = some out) : xG K X S 32 [(0, xr K 6 0), (1, .int i1), (2, .int i2), (3, .int i3), (4, .int i4), (5, .int i5)] [] := by
  unfold bW_isAlike_L32 at h
  refine g_iload hX dL_isAlike_32 5 rfl ?_
  refine g_iload_n hX dL_isAlike_34 rfl 3 rfl ?_
  refine g_icmp_ge hX 75 dL_isAlike_35 (by decide) (fun hc => ?_) (fun hc => ?_)
  · have h := xif_t hc h
    refine g_iload hX dL_isAlike_75 4 rfl ?_
    obtain ⟨hz, h⟩ := xne_inv h
    exact g_zret hX hM hz (Option.some.inj h) dL_isAlike_77
  · have h := xif_f hc h
    refine g_iload hX dL_isAlike_38 4 rfl ?_
    refine g_if_eq hX 75 dL_isAlike_40 (by decide) (fun hc => ?_) (fun hc => ?_)
    · have h := xif_t hc h
      refine g_iload hX dL_isAlike_75 4 rfl ?_
      obtain ⟨hz, h⟩ := xne_inv h
      exact g_zret hX hM hz (Option.some.inj h) dL_isAlike_77
    · have h := xif_f hc h
      refine g_aload_n hX dL_isAlike_43 rfl 0 rfl ?_
      refine g_iload_n hX dL_isAlike_44 rfl 1 rfl ?_
      refine g_iload hX dL_isAlike_45 5 rfl ?_
      refine g_iadd hX dL_isAlike_47 ?_
      obtain ⟨S1, r2, hcS1, h⟩ := xbI_inv h
      refine g_callV hX hR hV (fun l => c6_sign (l := l) hX.vc hV hcS1) xc9_14 rfl ⟨by decide, by decide⟩ rfl rfl (Nat.le_of_ble_eq_true rfl) dL_isAlike_48 ?_
      refine g_aload_n hX dL_isAlike_51 rfl 0 rfl ?_
      refine g_iload_n hX dL_isAlike_52 rfl 2 rfl ?_
      refine g_iload hX dL_isAlike_53 5 rfl ?_
      refine g_iadd hX dL_isAlike_55 ?_
      obtain ⟨S3, r4, hcS3, h⟩ := xbI_inv h
      refine g_callV hX hR hV (fun l => c6_sign (l := l) hX.vc hV hcS3) xc9_14 rfl ⟨by decide, by decide⟩ rfl rfl (Nat.le_of_ble_eq_true rfl) dL_isAlike_56 ?_
      refine g_icmp_ne hX 66 dL_isAlike_59 (by decide) (fun hc => ?_) (fun hc => ?_)
      · have h := xif_f hc h
        refine g_iconst (v := (0 : Int32)) hX dL_isAlike_66 (by decide) ?_
        exact g_sub [0, 1, 2, 3, 5] (by rfl) (sfW_isAlike_J67 hX hM hR hV hk32 h)
      · have h := xif_t hc h
        refine g_iconst (v := (1 : Int32)) hX dL_isAlike_62 (by decide) ?_
        refine g_goto hX 67 dL_isAlike_63 (by decide) ?_
        exact g_sub [0, 1, 2, 3, 5] (by rfl) (sfW_isAlike_J67 hX hM hR hV hk32 h)
theorem sfW_isAlike_L32 {K : xK} {X : xX} {out : xR}  (hX : xOK K X RL cL_isAlike 6) (hM : xM K X out (some .boolean)) (hR : xRm X 2 43) (hV : (6, 0) ∈ xvl K)  : ∀ (n : Nat) (S : xSt) (i1 : Int32) (i2 : Int32) (i3 : Int32) (i4 : Int32) (i5 : Int32) (h : fW_isAlike_L32   n S i1 i2 i3 i4 i5 = some out), xG K X S 32 [(0, xr K 6 0), (1, .int i1), (2, .int i2), (3, .int i3), (4, .int i4), (5, .int i5)] [] := by
  intro n
  induction n with
  | zero => intro S i1 i2 i3 i4 i5 h; cases h
  | succ n ih => intro S i1 i2 i3 i4 i5 h; exact sbW_isAlike_L32 hX hM hR hV  ih h
set_option maxRecDepth 100000 in
theorem sfW_isAlike_J27 {K : xK} {X : xX} {out : xR}  (hX : xOK K X RL cL_isAlike 6) (hM : xM K X out (some .boolean)) (hR : xRm X 2 43) (hV : (6, 0) ∈ xvl K)  {S : xSt} {i1 : Int32} {i2 : Int32} {i3 : Int32} {k0 : Int32} (h : fW_isAlike_J27   S i1 i2 i3 k0 = some out) : xG K X S 27 [(0, xr K 6 0), (1, .int i1), (2, .int i2), (3, .int i3)] [.int k0] := by
  unfold fW_isAlike_J27 at h
  refine g_istore (lv2 := [(4, .int k0), (0, xr K 6 0), (1, .int i1), (2, .int i2), (3, .int i3)]) hX dL_isAlike_27 (by decide) rfl ?_
  refine g_iconst (v := (0 : Int32)) hX dL_isAlike_29 (by decide) ?_
  refine g_istore (lv2 := [(5, .int (0 : Int32)), (4, .int k0), (0, xr K 6 0), (1, .int i1), (2, .int i2), (3, .int i3)]) hX dL_isAlike_30 (by decide) rfl ?_
  exact g_sub [2, 3, 4, 5, 1, 0] (by rfl) (sfW_isAlike_L32 hX hM hR hV _ _ _ _ _ _ _ h)
set_option maxRecDepth 100000 in
theorem sfW_isAlike_J26 {K : xK} {X : xX} {out : xR}  (hX : xOK K X RL cL_isAlike 6) (hM : xM K X out (some .boolean)) (hR : xRm X 2 43) (hV : (6, 0) ∈ xvl K)  {S : xSt} {i1 : Int32} {i2 : Int32} {i3 : Int32} (h : fW_isAlike_J26   S i1 i2 i3 = some out) : xG K X S 26 [(0, xr K 6 0), (1, .int i1), (2, .int i2), (3, .int i3)] [] := by
  unfold fW_isAlike_J26 at h
  refine g_iconst (v := (0 : Int32)) hX dL_isAlike_26 (by decide) ?_
  exact sfW_isAlike_J27 hX hM hR hV h
set_option maxRecDepth 100000 in
theorem cW_isAlike {l : Launch} {K : xK}  (hvc : xVC (xvl K)) (hV : (6, 0) ∈ xvl K) {S : xSt} {a1 : Int32} {a2 : Int32} {a3 : Int32} {out : xR} (h : fW_isAlike S  a1 a2 a3 = some out) : xMet l K yL_isAlike cL_isAlike 6 (some .boolean) 2 43 S [xr K 6 0, .int a1, .int a2, .int a3] out := by
  refine xMet_of RL (by decide +kernel) rfl hvc (Nat.le_of_ble_eq_true rfl) ?_
  intro X hX hM hR
  show xG K X S 0 [(0, xr K 6 0), (1, .int a1), (2, .int a2), (3, .int a3)] []
  unfold fW_isAlike at h
  refine g_iload_n hX dL_isAlike_0 rfl 1 rfl ?_
  refine g_iload_n hX dL_isAlike_1 rfl 3 rfl ?_
  refine g_iadd hX dL_isAlike_2 ?_
  refine g_aload_n hX dL_isAlike_3 rfl 0 rfl ?_
  refine g_iconst (v := (0 : Int32)) hX dL_isAlike_4 (by decide) ?_
  obtain ⟨S1, r2, hcS1, h⟩ := xbI_inv h
  refine g_callV hX hR hV (fun l => c6_count (l := l) hX.vc hV hcS1) xc9_8 rfl ⟨by decide, by decide⟩ rfl rfl (Nat.le_of_ble_eq_true rfl) dL_isAlike_5 ?_
  refine g_icmp_gt hX 26 dL_isAlike_8 (by decide) (fun hc => ?_) (fun hc => ?_)
  · have h := xif_t hc h
    exact sfW_isAlike_J26 hX hM hR hV h
  · have h := xif_f hc h
    refine g_iload_n hX dL_isAlike_11 rfl 2 rfl ?_
    refine g_iload_n hX dL_isAlike_12 rfl 3 rfl ?_
    refine g_iadd hX dL_isAlike_13 ?_
    refine g_aload_n hX dL_isAlike_14 rfl 0 rfl ?_
    refine g_iconst (v := (0 : Int32)) hX dL_isAlike_15 (by decide) ?_
    obtain ⟨S3, r4, hcS3, h⟩ := xbI_inv h
    refine g_callV hX hR hV (fun l => c6_count (l := l) hX.vc hV hcS3) xc9_8 rfl ⟨by decide, by decide⟩ rfl rfl (Nat.le_of_ble_eq_true rfl) dL_isAlike_16 ?_
    refine g_icmp_gt hX 26 dL_isAlike_19 (by decide) (fun hc => ?_) (fun hc => ?_)
    · have h := xif_t hc h
      exact sfW_isAlike_J26 hX hM hR hV h
    · have h := xif_f hc h
      refine g_iconst (v := (1 : Int32)) hX dL_isAlike_22 (by decide) ?_
      refine g_goto hX 27 dL_isAlike_23 (by decide) ?_
      exact sfW_isAlike_J27 hX hM hR hV h
set_option maxRecDepth 100000 in
theorem sfW_areCodes_J695 {K0 K : xK} {ρ : xSt → xSt} {X : xX} {out : xR} {rc rs : Nat} (hX : xOK K X RL cL_areCodes 23) (hM : xMN K0 K ρ X (ρ out.1, out.2) (some .boolean) rc rs) (hR : xRm X 3 68) (hV : (6, 0) ∈ xvl K) (hW0 : (33, 0) ∈ xvl K) (hW1 : (33, 1) ∈ xvl K) (hW2 : (33, 2) ∈ xvl K)  {S : xSt} {i1 : Int32} {i2 : Int32} {i9 : Int32} {i11 : Int32} {i13 : Int32} {i14 : Int32} {i15 : Int32} (h : fW_areCodes_J695   S i1 i2 i9 i11 i13 i14 i15 = some out) : xG K X S 695 [(0, xr K 6 0), (1, .int i1), (2, .int i2), (9, .int i9), (11, .int i11), (13, .int i13), (14, .int i14), (15, .int i15)] [] := by
  unfold fW_areCodes_J695 at h
  refine g_iload hX dL_areCodes_695 3 rfl ?_
  refine g_iload_n hX dL_areCodes_697 rfl 2 rfl ?_
  refine g_icmp_ne hX 755 dL_areCodes_698 (by decide) (fun hc => ?_) (fun hc => ?_)
  · have h := xif_f hc h
    refine g_iconst (v := (0 : Int32)) hX dL_areCodes_755 (by decide) ?_
    obtain ⟨hz, h⟩ := xne_inv h
    exact g_zretN hX hM hz (by rw [← Option.some.inj h]) dL_areCodes_756
  · have h := xif_t hc h
    refine g_aload_n hX dL_areCodes_701 rfl 0 rfl ?_
    refine g_iconst (v := (2 : Int32)) hX dL_areCodes_702 (by decide) ?_
    obtain ⟨S1, r2, hcS1, h⟩ := xbI_inv h
    refine g_callV hX hR hV (fun l => c6_count (l := l) hX.vc hV hcS1) xc9_8 rfl ⟨by decide, by decide⟩ rfl rfl (Nat.le_of_ble_eq_true rfl) dL_areCodes_703 ?_
    refine g_iload hX dL_areCodes_706 5 rfl ?_
    refine g_icmp_ne hX 755 dL_areCodes_708 (by decide) (fun hc => ?_) (fun hc => ?_)
    · have h := xif_f hc h
      refine g_iconst (v := (0 : Int32)) hX dL_areCodes_755 (by decide) ?_
      obtain ⟨hz, h⟩ := xne_inv h
      exact g_zretN hX hM hz (by rw [← Option.some.inj h]) dL_areCodes_756
    · have h := xif_t hc h
      refine g_aload_n hX dL_areCodes_711 rfl 0 rfl ?_
      refine g_iconst (v := (3 : Int32)) hX dL_areCodes_712 (by decide) ?_
      obtain ⟨S3, r4, hcS3, h⟩ := xbI_inv h
      refine g_callV hX hR hV (fun l => c6_count (l := l) hX.vc hV hcS3) xc9_8 rfl ⟨by decide, by decide⟩ rfl rfl (Nat.le_of_ble_eq_true rfl) dL_areCodes_713 ?_
      refine g_iload hX dL_areCodes_716 6 rfl ?_
      refine g_icmp_ne hX 755 dL_areCodes_718 (by decide) (fun hc => ?_) (fun hc => ?_)
      · have h := xif_f hc h
        refine g_iconst (v := (0 : Int32)) hX dL_areCodes_755 (by decide) ?_
        obtain ⟨hz, h⟩ := xne_inv h
        exact g_zretN hX hM hz (by rw [← Option.some.inj h]) dL_areCodes_756
      · have h := xif_t hc h
        refine g_aload_n hX dL_areCodes_721 rfl 0 rfl ?_
        refine g_iconst (v := (4 : Int32)) hX dL_areCodes_722 (by decide) ?_
        obtain ⟨S5, r6, hcS5, h⟩ := xbI_inv h
        refine g_callV hX hR hV (fun l => c6_count (l := l) hX.vc hV hcS5) xc9_8 rfl ⟨by decide, by decide⟩ rfl rfl (Nat.le_of_ble_eq_true rfl) dL_areCodes_723 ?_
        refine g_iload hX dL_areCodes_726 4 rfl ?_
        refine g_icmp_ne hX 755 dL_areCodes_728 (by decide) (fun hc => ?_) (fun hc => ?_)
        · have h := xif_f hc h
          refine g_iconst (v := (0 : Int32)) hX dL_areCodes_755 (by decide) ?_
          obtain ⟨hz, h⟩ := xne_inv h
          exact g_zretN hX hM hz (by rw [← Option.some.inj h]) dL_areCodes_756
        · have h := xif_t hc h
          refine g_aload_n hX dL_areCodes_731 rfl 0 rfl ?_
          refine g_iconst (v := (5 : Int32)) hX dL_areCodes_732 (by decide) ?_
          obtain ⟨S7, r8, hcS7, h⟩ := xbI_inv h
          refine g_callV hX hR hV (fun l => c6_count (l := l) hX.vc hV hcS7) xc9_8 rfl ⟨by decide, by decide⟩ rfl rfl (Nat.le_of_ble_eq_true rfl) dL_areCodes_733 ?_
          refine g_iload hX dL_areCodes_736 7 rfl ?_
          refine g_icmp_ne hX 755 dL_areCodes_738 (by decide) (fun hc => ?_) (fun hc => ?_)
          · have h := xif_f hc h
            refine g_iconst (v := (0 : Int32)) hX dL_areCodes_755 (by decide) ?_
            obtain ⟨hz, h⟩ := xne_inv h
            exact g_zretN hX hM hz (by rw [← Option.some.inj h]) dL_areCodes_756
          · have h := xif_t hc h
            refine g_aload_n hX dL_areCodes_741 rfl 0 rfl ?_
            refine g_iload_n hX dL_areCodes_742 rfl 1 rfl ?_
            refine g_iconst (v := (0 : Int32)) hX dL_areCodes_743 (by decide) ?_
            obtain ⟨S9, r10, hcS9, h⟩ := xbI_inv h
            refine g_callV hX hR hV (fun l => c6_ofCode (l := l) hX.vc hV hcS9) xc9_17 rfl ⟨by decide, by decide⟩ rfl rfl (Nat.le_of_ble_eq_true rfl) dL_areCodes_744 ?_
            refine g_iconst (v := (-1 : Int32)) hX dL_areCodes_747 (by decide) ?_
            refine g_icmp_ne hX 755 dL_areCodes_748 (by decide) (fun hc => ?_) (fun hc => ?_)
            · have h := xif_f hc h
              refine g_iconst (v := (0 : Int32)) hX dL_areCodes_755 (by decide) ?_
              obtain ⟨hz, h⟩ := xne_inv h
              exact g_zretN hX hM hz (by rw [← Option.some.inj h]) dL_areCodes_756
            · have h := xif_t hc h
              refine g_iconst (v := (1 : Int32)) hX dL_areCodes_751 (by decide) ?_
              refine g_goto hX 756 dL_areCodes_752 (by decide) ?_
              obtain ⟨hz, h⟩ := xne_inv h
              exact g_zretN hX hM hz (by rw [← Option.some.inj h]) dL_areCodes_756
set_option maxRecDepth 100000 in
theorem sfW_areCodes_J689 {K0 K : xK} {ρ : xSt → xSt} {X : xX} {out : xR} {rc rs : Nat} (hX : xOK K X RL cL_areCodes 23) (hM : xMN K0 K ρ X (ρ out.1, out.2) (some .boolean) rc rs) (hR : xRm X 3 68) (hV : (6, 0) ∈ xvl K) (hW0 : (33, 0) ∈ xvl K) (hW1 : (33, 1) ∈ xvl K) (hW2 : (33, 2) ∈ xvl K) {k134 : xSt → Int32 → Int32 → Int32 → Int32 → Int32 → Int32 → Int32 → Int32 → Int32 → Int32 → Int32 → Int32 → Int32 → Int32 → Option xR} (hk134 : ∀ (S : xSt) (i1 : Int32) (i2 : Int32) (i3 : Int32) (i4 : Int32) (i5 : Int32) (i9 : Int32) (i10 : Int32) (i11 : Int32) (i12 : Int32) (i13 : Int32) (i14 : Int32) (i15 : Int32) (i16 : Int32) (i17 : Int32), k134 S i1 i2 i3 i4 i5 i9 i10 i11 i12 i13 i14 i15 i16 i17 = some out → xG K X S 134 [(0, xr K 6 0), (1, .int i1), (2, .int i2), (3, .int i3), (4, .int i4), (5, .int i5), (6, xr K 33 0), (7, xr K 33 1), (8, xr K 33 2), (9, .int i9), (10, .int i10), (11, .int i11), (12, .int i12), (13, .int i13), (14, .int i14), (15, .int i15), (16, .int i16), (17, .int i17)] []) {S : xSt} {i1 : Int32} {i2 : Int32} {i3 : Int32} {i4 : Int32} {i5 : Int32} {i9 : Int32} {i10 : Int32} {i11 : Int32} {i12 : Int32} {i13 : Int32} {i14 : Int32} {i15 : Int32} {i16 : Int32} {i17 : Int32} (h : fW_areCodes_J689  k134 S i1 i2 i3 i4 i5 i9 i10 i11 i12 i13 i14 i15 i16 i17 = some out) : xG K X S 689 [(0, xr K 6 0), (1, .int i1), (2, .int i2), (3, .int i3), (4, .int i4), (5, .int i5), (6, xr K 33 0), (7, xr K 33 1), (8, xr K 33 2), (9, .int i9), (10, .int i10), (11, .int i11), (12, .int i12), (13, .int i13), (14, .int i14), (15, .int i15), (16, .int i16), (17, .int i17)] [] := by
  unfold fW_areCodes_J689 at h
  refine g_iinc (v := (i17 + (1 : Int32))) (lv2 := [(17, .int (i17 + (1 : Int32))), (0, xr K 6 0), (1, .int i1), (2, .int i2), (3, .int i3), (4, .int i4), (5, .int i5), (6, xr K 33 0), (7, xr K 33 1), (8, xr K 33 2), (9, .int i9), (10, .int i10), (11, .int i11), (12, .int i12), (13, .int i13), (14, .int i14), (15, .int i15), (16, .int i16)]) hX dL_areCodes_689 17 rfl rfl (by decide) rfl ?_
  refine g_goto hX 134 dL_areCodes_692 (by decide) ?_
  exact g_sub [1, 2, 3, 4, 5, 6, 7, 8, 9, 10, 11, 12, 13, 14, 15, 16, 17, 0] (by rfl) (hk134 _ _ _ _ _ _ _ _ _ _ _ _ _ _ _ h)
set_option maxRecDepth 100000 in
theorem sfW_areCodes_J270 {K0 K : xK} {ρ : xSt → xSt} {X : xX} {out : xR} {rc rs : Nat} (hX : xOK K X RL cL_areCodes 23) (hM : xMN K0 K ρ X (ρ out.1, out.2) (some .boolean) rc rs) (hR : xRm X 3 68) (hV : (6, 0) ∈ xvl K) (hW0 : (33, 0) ∈ xvl K) (hW1 : (33, 1) ∈ xvl K) (hW2 : (33, 2) ∈ xvl K) {k134 : xSt → Int32 → Int32 → Int32 → Int32 → Int32 → Int32 → Int32 → Int32 → Int32 → Int32 → Int32 → Int32 → Int32 → Int32 → Option xR} (hk134 : ∀ (S : xSt) (i1 : Int32) (i2 : Int32) (i3 : Int32) (i4 : Int32) (i5 : Int32) (i9 : Int32) (i10 : Int32) (i11 : Int32) (i12 : Int32) (i13 : Int32) (i14 : Int32) (i15 : Int32) (i16 : Int32) (i17 : Int32), k134 S i1 i2 i3 i4 i5 i9 i10 i11 i12 i13 i14 i15 i16 i17 = some out → xG K X S 134 [(0, xr K 6 0), (1, .int i1), (2, .int i2), (3, .int i3), (4, .int i4), (5, .int i5), (6, xr K 33 0), (7, xr K 33 1), (8, xr K 33 2), (9, .int i9), (10, .int i10), (11, .int i11), (12, .int i12), (13, .int i13), (14, .int i14), (15, .int i15), (16, .int i16), (17, .int i17)] []) {S : xSt} {i1 : Int32} {i2 : Int32} {i3 : Int32} {i4 : Int32} {i5 : Int32} {i9 : Int32} {i12 : Int32} {i13 : Int32} {i14 : Int32} {i15 : Int32} {i17 : Int32} {k0 : Int32} (h : fW_areCodes_J270  k134 S i1 i2 i3 i4 i5 i9 i12 i13 i14 i15 i17 k0 = some out) : xG K X S 270 [(0, xr K 6 0), (1, .int i1), (2, .int i2), (3, .int i3), (4, .int i4), (5, .int i5), (6, xr K 33 0), (7, xr K 33 1), (8, xr K 33 2), (9, .int i9), (12, .int i12), (13, .int i13), (14, .int i14), (15, .int i15), (17, .int i17)] [.int k0] := by
  unfold fW_areCodes_J270 at h
  refine g_istore (lv2 := [(11, .int k0), (0, xr K 6 0), (1, .int i1), (2, .int i2), (3, .int i3), (4, .int i4), (5, .int i5), (6, xr K 33 0), (7, xr K 33 1), (8, xr K 33 2), (9, .int i9), (12, .int i12), (13, .int i13), (14, .int i14), (15, .int i15), (17, .int i17)]) hX dL_areCodes_270 (by decide) rfl ?_
  refine g_iload hX dL_areCodes_272 15 rfl ?_
  refine g_iconst (v := (1 : Int32)) hX dL_areCodes_274 (by decide) ?_
  refine g_iadd hX dL_areCodes_275 ?_
  refine g_istore (lv2 := [(10, .int (i17 + (1 : Int32))), (11, .int k0), (0, xr K 6 0), (1, .int i1), (2, .int i2), (3, .int i3), (4, .int i4), (5, .int i5), (6, xr K 33 0), (7, xr K 33 1), (8, xr K 33 2), (9, .int i9), (12, .int i12), (13, .int i13), (14, .int i14), (15, .int i15), (17, .int i17)]) hX dL_areCodes_276 (by decide) rfl ?_
  refine g_iconst (v := (0 : Int32)) hX dL_areCodes_278 (by decide) ?_
  refine g_istore (lv2 := [(16, .int (0 : Int32)), (10, .int (i17 + (1 : Int32))), (11, .int k0), (0, xr K 6 0), (1, .int i1), (2, .int i2), (3, .int i3), (4, .int i4), (5, .int i5), (6, xr K 33 0), (7, xr K 33 1), (8, xr K 33 2), (9, .int i9), (12, .int i12), (13, .int i13), (14, .int i14), (15, .int i15), (17, .int i17)]) hX dL_areCodes_279 (by decide) rfl ?_
  refine g_goto hX 689 dL_areCodes_281 (by decide) ?_
  exact g_sub [3, 4, 5, 6, 7, 8, 9, 10, 11, 12, 1, 2, 13, 14, 15, 16, 0, 17] (by rfl) (sfW_areCodes_J689 hX hM hR hV hW0 hW1 hW2 hk134 h)
set_option maxRecDepth 100000 in
theorem sfW_areCodes_J255 {K0 K : xK} {ρ : xSt → xSt} {X : xX} {out : xR} {rc rs : Nat} (hX : xOK K X RL cL_areCodes 23) (hM : xMN K0 K ρ X (ρ out.1, out.2) (some .boolean) rc rs) (hR : xRm X 3 68) (hV : (6, 0) ∈ xvl K) (hW0 : (33, 0) ∈ xvl K) (hW1 : (33, 1) ∈ xvl K) (hW2 : (33, 2) ∈ xvl K) {k134 : xSt → Int32 → Int32 → Int32 → Int32 → Int32 → Int32 → Int32 → Int32 → Int32 → Int32 → Int32 → Int32 → Int32 → Int32 → Option xR} (hk134 : ∀ (S : xSt) (i1 : Int32) (i2 : Int32) (i3 : Int32) (i4 : Int32) (i5 : Int32) (i9 : Int32) (i10 : Int32) (i11 : Int32) (i12 : Int32) (i13 : Int32) (i14 : Int32) (i15 : Int32) (i16 : Int32) (i17 : Int32), k134 S i1 i2 i3 i4 i5 i9 i10 i11 i12 i13 i14 i15 i16 i17 = some out → xG K X S 134 [(0, xr K 6 0), (1, .int i1), (2, .int i2), (3, .int i3), (4, .int i4), (5, .int i5), (6, xr K 33 0), (7, xr K 33 1), (8, xr K 33 2), (9, .int i9), (10, .int i10), (11, .int i11), (12, .int i12), (13, .int i13), (14, .int i14), (15, .int i15), (16, .int i16), (17, .int i17)] []) {S : xSt} {i1 : Int32} {i2 : Int32} {i3 : Int32} {i4 : Int32} {i5 : Int32} {i9 : Int32} {i11 : Int32} {i12 : Int32} {i13 : Int32} {i15 : Int32} {i16 : Int32} {i17 : Int32} {k0 : Int32} {k1 : Int32} (h : fW_areCodes_J255  k134 S i1 i2 i3 i4 i5 i9 i11 i12 i13 i15 i16 i17 k0 k1 = some out) : xG K X S 255 [(0, xr K 6 0), (1, .int i1), (2, .int i2), (3, .int i3), (4, .int i4), (5, .int i5), (6, xr K 33 0), (7, xr K 33 1), (8, xr K 33 2), (9, .int i9), (11, .int i11), (12, .int i12), (13, .int i13), (15, .int i15), (16, .int i16), (17, .int i17)] [.int k0, .int k1] := by
  unfold fW_areCodes_J255 at h
  refine g_iadd hX dL_areCodes_255 ?_
  refine g_istore (lv2 := [(14, .int (k1 + k0)), (0, xr K 6 0), (1, .int i1), (2, .int i2), (3, .int i3), (4, .int i4), (5, .int i5), (6, xr K 33 0), (7, xr K 33 1), (8, xr K 33 2), (9, .int i9), (11, .int i11), (12, .int i12), (13, .int i13), (15, .int i15), (16, .int i16), (17, .int i17)]) hX dL_areCodes_256 (by decide) rfl ?_
  refine g_iload hX dL_areCodes_258 15 rfl ?_
  refine g_if_eq hX 268 dL_areCodes_260 (by decide) (fun hc => ?_) (fun hc => ?_)
  · have h := xif_t hc h
    refine g_iload hX dL_areCodes_268 11 rfl ?_
    exact g_sub [1, 2, 3, 4, 5, 6, 7, 8, 9, 10, 12, 13, 0, 14, 16] (by rfl) (sfW_areCodes_J270 hX hM hR hV hW0 hW1 hW2 hk134 h)
  · have h := xif_f hc h
    refine g_bipush (v := (10 : Int32)) hX dL_areCodes_263 (by decide) ?_
    refine g_goto hX 270 dL_areCodes_265 (by decide) ?_
    exact g_sub [1, 2, 3, 4, 5, 6, 7, 8, 9, 10, 12, 13, 0, 14, 16] (by rfl) (sfW_areCodes_J270 hX hM hR hV hW0 hW1 hW2 hk134 h)
set_option maxRecDepth 100000 in
theorem sfW_areCodes_J243 {K0 K : xK} {ρ : xSt → xSt} {X : xX} {out : xR} {rc rs : Nat} (hX : xOK K X RL cL_areCodes 23) (hM : xMN K0 K ρ X (ρ out.1, out.2) (some .boolean) rc rs) (hR : xRm X 3 68) (hV : (6, 0) ∈ xvl K) (hW0 : (33, 0) ∈ xvl K) (hW1 : (33, 1) ∈ xvl K) (hW2 : (33, 2) ∈ xvl K) {k134 : xSt → Int32 → Int32 → Int32 → Int32 → Int32 → Int32 → Int32 → Int32 → Int32 → Int32 → Int32 → Int32 → Int32 → Int32 → Option xR} (hk134 : ∀ (S : xSt) (i1 : Int32) (i2 : Int32) (i3 : Int32) (i4 : Int32) (i5 : Int32) (i9 : Int32) (i10 : Int32) (i11 : Int32) (i12 : Int32) (i13 : Int32) (i14 : Int32) (i15 : Int32) (i16 : Int32) (i17 : Int32), k134 S i1 i2 i3 i4 i5 i9 i10 i11 i12 i13 i14 i15 i16 i17 = some out → xG K X S 134 [(0, xr K 6 0), (1, .int i1), (2, .int i2), (3, .int i3), (4, .int i4), (5, .int i5), (6, xr K 33 0), (7, xr K 33 1), (8, xr K 33 2), (9, .int i9), (10, .int i10), (11, .int i11), (12, .int i12), (13, .int i13), (14, .int i14), (15, .int i15), (16, .int i16), (17, .int i17)] []) {S : xSt} {i1 : Int32} {i2 : Int32} {i3 : Int32} {i4 : Int32} {i5 : Int32} {i9 : Int32} {i11 : Int32} {i12 : Int32} {i13 : Int32} {i14 : Int32} {i15 : Int32} {i16 : Int32} {i17 : Int32} (h : fW_areCodes_J243  k134 S i1 i2 i3 i4 i5 i9 i11 i12 i13 i14 i15 i16 i17 = some out) : xG K X S 243 [(0, xr K 6 0), (1, .int i1), (2, .int i2), (3, .int i3), (4, .int i4), (5, .int i5), (6, xr K 33 0), (7, xr K 33 1), (8, xr K 33 2), (9, .int i9), (11, .int i11), (12, .int i12), (13, .int i13), (14, .int i14), (15, .int i15), (16, .int i16), (17, .int i17)] [] := by
  unfold fW_areCodes_J243 at h
  refine g_iload hX dL_areCodes_243 13 rfl ?_
  refine g_iload hX dL_areCodes_245 15 rfl ?_
  refine g_if_eq hX 254 dL_areCodes_247 (by decide) (fun hc => ?_) (fun hc => ?_)
  · have h := xif_t hc h
    refine g_iconst (v := (0 : Int32)) hX dL_areCodes_254 (by decide) ?_
    exact g_sub [0, 1, 2, 3, 4, 5, 6, 7, 8, 9, 10, 11, 12, 14, 15, 16] (by rfl) (sfW_areCodes_J255 hX hM hR hV hW0 hW1 hW2 hk134 h)
  · have h := xif_f hc h
    refine g_iconst (v := (1 : Int32)) hX dL_areCodes_250 (by decide) ?_
    refine g_goto hX 255 dL_areCodes_251 (by decide) ?_
    exact g_sub [0, 1, 2, 3, 4, 5, 6, 7, 8, 9, 10, 11, 12, 14, 15, 16] (by rfl) (sfW_areCodes_J255 hX hM hR hV hW0 hW1 hW2 hk134 h)
set_option maxRecDepth 100000 in
theorem sfW_areCodes_J207 {K0 K : xK} {ρ : xSt → xSt} {X : xX} {out : xR} {rc rs : Nat} (hX : xOK K X RL cL_areCodes 23) (hM : xMN K0 K ρ X (ρ out.1, out.2) (some .boolean) rc rs) (hR : xRm X 3 68) (hV : (6, 0) ∈ xvl K) (hW0 : (33, 0) ∈ xvl K) (hW1 : (33, 1) ∈ xvl K) (hW2 : (33, 2) ∈ xvl K) {k134 : xSt → Int32 → Int32 → Int32 → Int32 → Int32 → Int32 → Int32 → Int32 → Int32 → Int32 → Int32 → Int32 → Int32 → Int32 → Option xR} (hk134 : ∀ (S : xSt) (i1 : Int32) (i2 : Int32) (i3 : Int32) (i4 : Int32) (i5 : Int32) (i9 : Int32) (i10 : Int32) (i11 : Int32) (i12 : Int32) (i13 : Int32) (i14 : Int32) (i15 : Int32) (i16 : Int32) (i17 : Int32), k134 S i1 i2 i3 i4 i5 i9 i10 i11 i12 i13 i14 i15 i16 i17 = some out → xG K X S 134 [(0, xr K 6 0), (1, .int i1), (2, .int i2), (3, .int i3), (4, .int i4), (5, .int i5), (6, xr K 33 0), (7, xr K 33 1), (8, xr K 33 2), (9, .int i9), (10, .int i10), (11, .int i11), (12, .int i12), (13, .int i13), (14, .int i14), (15, .int i15), (16, .int i16), (17, .int i17)] []) {S : xSt} {i1 : Int32} {i2 : Int32} {i3 : Int32} {i4 : Int32} {i5 : Int32} {i9 : Int32} {i11 : Int32} {i12 : Int32} {i13 : Int32} {i14 : Int32} {i15 : Int32} {i16 : Int32} {i17 : Int32} {k0 : Int32} {k1 : Int32} (h : fW_areCodes_J207  k134 S i1 i2 i3 i4 i5 i9 i11 i12 i13 i14 i15 i16 i17 k0 k1 = some out) : xG K X S 207 [(0, xr K 6 0), (1, .int i1), (2, .int i2), (3, .int i3), (4, .int i4), (5, .int i5), (6, xr K 33 0), (7, xr K 33 1), (8, xr K 33 2), (9, .int i9), (11, .int i11), (12, .int i12), (13, .int i13), (14, .int i14), (15, .int i15), (16, .int i16), (17, .int i17)] [.int k0, .int k1] := by
  unfold fW_areCodes_J207 at h
  refine g_icmp_ne hX 241 dL_areCodes_207 (by decide) (fun hc => ?_) (fun hc => ?_)
  · have h := xif_f hc h
    refine g_iconst (v := (0 : Int32)) hX dL_areCodes_241 (by decide) ?_
    obtain ⟨hz, h⟩ := xne_inv h
    exact g_zretN hX hM hz (by rw [← Option.some.inj h]) dL_areCodes_242
  · have h := xif_t hc h
    refine g_aload hX dL_areCodes_210 7 rfl ?_
    refine g_iload hX dL_areCodes_212 16 rfl ?_
    obtain ⟨hbj1, h⟩ := xat_inv h
    refine g_iald (n := 64) hX hW1 rfl hbj1 dL_areCodes_214 ?_
    refine g_bipush (v := (-6 : Int32)) hX dL_areCodes_215 (by decide) ?_
    refine g_icmp_ne hX 241 dL_areCodes_217 (by decide) (fun hc => ?_) (fun hc => ?_)
    · have h := xif_f hc h
      refine g_iconst (v := (0 : Int32)) hX dL_areCodes_241 (by decide) ?_
      obtain ⟨hz, h⟩ := xne_inv h
      exact g_zretN hX hM hz (by rw [← Option.some.inj h]) dL_areCodes_242
    · have h := xif_t hc h
      refine g_aload hX dL_areCodes_220 8 rfl ?_
      refine g_iload hX dL_areCodes_222 16 rfl ?_
      obtain ⟨hbj2, h⟩ := xat_inv h
      refine g_iald (n := 64) hX hW2 rfl hbj2 dL_areCodes_224 ?_
      refine g_if_ne hX 241 dL_areCodes_225 (by decide) (fun hc => ?_) (fun hc => ?_)
      · have h := xif_f hc h
        refine g_iconst (v := (0 : Int32)) hX dL_areCodes_241 (by decide) ?_
        obtain ⟨hz, h⟩ := xne_inv h
        exact g_zretN hX hM hz (by rw [← Option.some.inj h]) dL_areCodes_242
      · have h := xif_t hc h
        refine g_iload hX dL_areCodes_228 15 rfl ?_
        refine g_if_ne hX 243 dL_areCodes_230 (by decide) (fun hc => ?_) (fun hc => ?_)
        · have h := xif_f hc h
          exact sfW_areCodes_J243 hX hM hR hV hW0 hW1 hW2 hk134 h
        · have h := xif_t hc h
          refine g_iload hX dL_areCodes_233 16 rfl ?_
          refine g_iload_n hX dL_areCodes_235 rfl 1 rfl ?_
          refine g_iconst (v := (1 : Int32)) hX dL_areCodes_236 (by decide) ?_
          refine g_isub hX dL_areCodes_237 ?_
          refine g_icmp_eq hX 243 dL_areCodes_238 (by decide) (fun hc => ?_) (fun hc => ?_)
          · have h := xif_t hc h
            exact sfW_areCodes_J243 hX hM hR hV hW0 hW1 hW2 hk134 h
          · have h := xif_f hc h
            refine g_iconst (v := (0 : Int32)) hX dL_areCodes_241 (by decide) ?_
            obtain ⟨hz, h⟩ := xne_inv h
            exact g_zretN hX hM hz (by rw [← Option.some.inj h]) dL_areCodes_242
set_option maxRecDepth 100000 in
theorem sfW_areCodes_J190 {K0 K : xK} {ρ : xSt → xSt} {X : xX} {out : xR} {rc rs : Nat} (hX : xOK K X RL cL_areCodes 23) (hM : xMN K0 K ρ X (ρ out.1, out.2) (some .boolean) rc rs) (hR : xRm X 3 68) (hV : (6, 0) ∈ xvl K) (hW0 : (33, 0) ∈ xvl K) (hW1 : (33, 1) ∈ xvl K) (hW2 : (33, 2) ∈ xvl K) {k134 : xSt → Int32 → Int32 → Int32 → Int32 → Int32 → Int32 → Int32 → Int32 → Int32 → Int32 → Int32 → Int32 → Int32 → Int32 → Option xR} (hk134 : ∀ (S : xSt) (i1 : Int32) (i2 : Int32) (i3 : Int32) (i4 : Int32) (i5 : Int32) (i9 : Int32) (i10 : Int32) (i11 : Int32) (i12 : Int32) (i13 : Int32) (i14 : Int32) (i15 : Int32) (i16 : Int32) (i17 : Int32), k134 S i1 i2 i3 i4 i5 i9 i10 i11 i12 i13 i14 i15 i16 i17 = some out → xG K X S 134 [(0, xr K 6 0), (1, .int i1), (2, .int i2), (3, .int i3), (4, .int i4), (5, .int i5), (6, xr K 33 0), (7, xr K 33 1), (8, xr K 33 2), (9, .int i9), (10, .int i10), (11, .int i11), (12, .int i12), (13, .int i13), (14, .int i14), (15, .int i15), (16, .int i16), (17, .int i17)] []) {S : xSt} {i1 : Int32} {i2 : Int32} {i3 : Int32} {i4 : Int32} {i5 : Int32} {i9 : Int32} {i11 : Int32} {i12 : Int32} {i13 : Int32} {i14 : Int32} {i15 : Int32} {i16 : Int32} {i17 : Int32} (h : fW_areCodes_J190  k134 S i1 i2 i3 i4 i5 i9 i11 i12 i13 i14 i15 i16 i17 = some out) : xG K X S 190 [(0, xr K 6 0), (1, .int i1), (2, .int i2), (3, .int i3), (4, .int i4), (5, .int i5), (6, xr K 33 0), (7, xr K 33 1), (8, xr K 33 2), (9, .int i9), (11, .int i11), (12, .int i12), (13, .int i13), (14, .int i14), (15, .int i15), (16, .int i16), (17, .int i17)] [] := by
  unfold fW_areCodes_J190 at h
  refine g_aload hX dL_areCodes_190 6 rfl ?_
  refine g_iload hX dL_areCodes_192 16 rfl ?_
  obtain ⟨hbj1, h⟩ := xat_inv h
  refine g_iald (n := 64) hX hW0 rfl hbj1 dL_areCodes_194 ?_
  refine g_iload hX dL_areCodes_195 15 rfl ?_
  refine g_if_eq hX 205 dL_areCodes_197 (by decide) (fun hc => ?_) (fun hc => ?_)
  · have h := xif_t hc h
    refine g_bipush (v := (9 : Int32)) hX dL_areCodes_205 (by decide) ?_
    exact sfW_areCodes_J207 hX hM hR hV hW0 hW1 hW2 hk134 h
  · have h := xif_f hc h
    refine g_bipush (v := (8 : Int32)) hX dL_areCodes_200 (by decide) ?_
    refine g_goto hX 207 dL_areCodes_202 (by decide) ?_
    exact sfW_areCodes_J207 hX hM hR hV hW0 hW1 hW2 hk134 h
set_option maxRecDepth 100000 in
theorem sfW_areCodes_J687 {K0 K : xK} {ρ : xSt → xSt} {X : xX} {out : xR} {rc rs : Nat} (hX : xOK K X RL cL_areCodes 23) (hM : xMN K0 K ρ X (ρ out.1, out.2) (some .boolean) rc rs) (hR : xRm X 3 68) (hV : (6, 0) ∈ xvl K) (hW0 : (33, 0) ∈ xvl K) (hW1 : (33, 1) ∈ xvl K) (hW2 : (33, 2) ∈ xvl K) {k134 : xSt → Int32 → Int32 → Int32 → Int32 → Int32 → Int32 → Int32 → Int32 → Int32 → Int32 → Int32 → Int32 → Int32 → Int32 → Option xR} (hk134 : ∀ (S : xSt) (i1 : Int32) (i2 : Int32) (i3 : Int32) (i4 : Int32) (i5 : Int32) (i9 : Int32) (i10 : Int32) (i11 : Int32) (i12 : Int32) (i13 : Int32) (i14 : Int32) (i15 : Int32) (i16 : Int32) (i17 : Int32), k134 S i1 i2 i3 i4 i5 i9 i10 i11 i12 i13 i14 i15 i16 i17 = some out → xG K X S 134 [(0, xr K 6 0), (1, .int i1), (2, .int i2), (3, .int i3), (4, .int i4), (5, .int i5), (6, xr K 33 0), (7, xr K 33 1), (8, xr K 33 2), (9, .int i9), (10, .int i10), (11, .int i11), (12, .int i12), (13, .int i13), (14, .int i14), (15, .int i15), (16, .int i16), (17, .int i17)] []) {S : xSt} {i1 : Int32} {i2 : Int32} {i3 : Int32} {i4 : Int32} {i5 : Int32} {i9 : Int32} {i10 : Int32} {i11 : Int32} {i12 : Int32} {i13 : Int32} {i14 : Int32} {i15 : Int32} {i17 : Int32} {k0 : Int32} (h : fW_areCodes_J687  k134 S i1 i2 i3 i4 i5 i9 i10 i11 i12 i13 i14 i15 i17 k0 = some out) : xG K X S 687 [(0, xr K 6 0), (1, .int i1), (2, .int i2), (3, .int i3), (4, .int i4), (5, .int i5), (6, xr K 33 0), (7, xr K 33 1), (8, xr K 33 2), (9, .int i9), (10, .int i10), (11, .int i11), (12, .int i12), (13, .int i13), (14, .int i14), (15, .int i15), (17, .int i17)] [.int k0] := by
  unfold fW_areCodes_J687 at h
  refine g_istore (lv2 := [(16, .int k0), (0, xr K 6 0), (1, .int i1), (2, .int i2), (3, .int i3), (4, .int i4), (5, .int i5), (6, xr K 33 0), (7, xr K 33 1), (8, xr K 33 2), (9, .int i9), (10, .int i10), (11, .int i11), (12, .int i12), (13, .int i13), (14, .int i14), (15, .int i15), (17, .int i17)]) hX dL_areCodes_687 (by decide) rfl ?_
  exact g_sub [1, 2, 3, 4, 5, 6, 7, 8, 9, 10, 11, 12, 13, 14, 15, 16, 0, 17] (by rfl) (sfW_areCodes_J689 hX hM hR hV hW0 hW1 hW2 hk134 h)
set_option maxRecDepth 100000 in
theorem sfW_areCodes_J686 {K0 K : xK} {ρ : xSt → xSt} {X : xX} {out : xR} {rc rs : Nat} (hX : xOK K X RL cL_areCodes 23) (hM : xMN K0 K ρ X (ρ out.1, out.2) (some .boolean) rc rs) (hR : xRm X 3 68) (hV : (6, 0) ∈ xvl K) (hW0 : (33, 0) ∈ xvl K) (hW1 : (33, 1) ∈ xvl K) (hW2 : (33, 2) ∈ xvl K) {k134 : xSt → Int32 → Int32 → Int32 → Int32 → Int32 → Int32 → Int32 → Int32 → Int32 → Int32 → Int32 → Int32 → Int32 → Int32 → Option xR} (hk134 : ∀ (S : xSt) (i1 : Int32) (i2 : Int32) (i3 : Int32) (i4 : Int32) (i5 : Int32) (i9 : Int32) (i10 : Int32) (i11 : Int32) (i12 : Int32) (i13 : Int32) (i14 : Int32) (i15 : Int32) (i16 : Int32) (i17 : Int32), k134 S i1 i2 i3 i4 i5 i9 i10 i11 i12 i13 i14 i15 i16 i17 = some out → xG K X S 134 [(0, xr K 6 0), (1, .int i1), (2, .int i2), (3, .int i3), (4, .int i4), (5, .int i5), (6, xr K 33 0), (7, xr K 33 1), (8, xr K 33 2), (9, .int i9), (10, .int i10), (11, .int i11), (12, .int i12), (13, .int i13), (14, .int i14), (15, .int i15), (16, .int i16), (17, .int i17)] []) {S : xSt} {i1 : Int32} {i2 : Int32} {i3 : Int32} {i4 : Int32} {i5 : Int32} {i9 : Int32} {i10 : Int32} {i11 : Int32} {i12 : Int32} {i13 : Int32} {i14 : Int32} {i15 : Int32} {i17 : Int32} (h : fW_areCodes_J686  k134 S i1 i2 i3 i4 i5 i9 i10 i11 i12 i13 i14 i15 i17 = some out) : xG K X S 686 [(0, xr K 6 0), (1, .int i1), (2, .int i2), (3, .int i3), (4, .int i4), (5, .int i5), (6, xr K 33 0), (7, xr K 33 1), (8, xr K 33 2), (9, .int i9), (10, .int i10), (11, .int i11), (12, .int i12), (13, .int i13), (14, .int i14), (15, .int i15), (17, .int i17)] [] := by
  unfold fW_areCodes_J686 at h
  refine g_iconst (v := (0 : Int32)) hX dL_areCodes_686 (by decide) ?_
  exact sfW_areCodes_J687 hX hM hR hV hW0 hW1 hW2 hk134 h
set_option maxRecDepth 100000 in
theorem sfW_areCodes_J682 {K0 K : xK} {ρ : xSt → xSt} {X : xX} {out : xR} {rc rs : Nat} (hX : xOK K X RL cL_areCodes 23) (hM : xMN K0 K ρ X (ρ out.1, out.2) (some .boolean) rc rs) (hR : xRm X 3 68) (hV : (6, 0) ∈ xvl K) (hW0 : (33, 0) ∈ xvl K) (hW1 : (33, 1) ∈ xvl K) (hW2 : (33, 2) ∈ xvl K) {k134 : xSt → Int32 → Int32 → Int32 → Int32 → Int32 → Int32 → Int32 → Int32 → Int32 → Int32 → Int32 → Int32 → Int32 → Int32 → Option xR} (hk134 : ∀ (S : xSt) (i1 : Int32) (i2 : Int32) (i3 : Int32) (i4 : Int32) (i5 : Int32) (i9 : Int32) (i10 : Int32) (i11 : Int32) (i12 : Int32) (i13 : Int32) (i14 : Int32) (i15 : Int32) (i16 : Int32) (i17 : Int32), k134 S i1 i2 i3 i4 i5 i9 i10 i11 i12 i13 i14 i15 i16 i17 = some out → xG K X S 134 [(0, xr K 6 0), (1, .int i1), (2, .int i2), (3, .int i3), (4, .int i4), (5, .int i5), (6, xr K 33 0), (7, xr K 33 1), (8, xr K 33 2), (9, .int i9), (10, .int i10), (11, .int i11), (12, .int i12), (13, .int i13), (14, .int i14), (15, .int i15), (16, .int i16), (17, .int i17)] []) {S : xSt} {i1 : Int32} {i2 : Int32} {i3 : Int32} {i4 : Int32} {i5 : Int32} {i9 : Int32} {i10 : Int32} {i11 : Int32} {i12 : Int32} {i13 : Int32} {i14 : Int32} {i15 : Int32} {i17 : Int32} (h : fW_areCodes_J682  k134 S i1 i2 i3 i4 i5 i9 i10 i11 i12 i13 i14 i15 i17 = some out) : xG K X S 682 [(0, xr K 6 0), (1, .int i1), (2, .int i2), (3, .int i3), (4, .int i4), (5, .int i5), (6, xr K 33 0), (7, xr K 33 1), (8, xr K 33 2), (9, .int i9), (10, .int i10), (11, .int i11), (12, .int i12), (13, .int i13), (14, .int i14), (15, .int i15), (17, .int i17)] [] := by
  unfold fW_areCodes_J682 at h
  refine g_iconst (v := (1 : Int32)) hX dL_areCodes_682 (by decide) ?_
  refine g_goto hX 687 dL_areCodes_683 (by decide) ?_
  exact sfW_areCodes_J687 hX hM hR hV hW0 hW1 hW2 hk134 h
set_option maxRecDepth 100000 in
theorem sfW_areCodes_J657 {K0 K : xK} {ρ : xSt → xSt} {X : xX} {out : xR} {rc rs : Nat} (hX : xOK K X RL cL_areCodes 23) (hM : xMN K0 K ρ X (ρ out.1, out.2) (some .boolean) rc rs) (hR : xRm X 3 68) (hV : (6, 0) ∈ xvl K) (hW0 : (33, 0) ∈ xvl K) (hW1 : (33, 1) ∈ xvl K) (hW2 : (33, 2) ∈ xvl K) {k134 : xSt → Int32 → Int32 → Int32 → Int32 → Int32 → Int32 → Int32 → Int32 → Int32 → Int32 → Int32 → Int32 → Int32 → Int32 → Option xR} (hk134 : ∀ (S : xSt) (i1 : Int32) (i2 : Int32) (i3 : Int32) (i4 : Int32) (i5 : Int32) (i9 : Int32) (i10 : Int32) (i11 : Int32) (i12 : Int32) (i13 : Int32) (i14 : Int32) (i15 : Int32) (i16 : Int32) (i17 : Int32), k134 S i1 i2 i3 i4 i5 i9 i10 i11 i12 i13 i14 i15 i16 i17 = some out → xG K X S 134 [(0, xr K 6 0), (1, .int i1), (2, .int i2), (3, .int i3), (4, .int i4), (5, .int i5), (6, xr K 33 0), (7, xr K 33 1), (8, xr K 33 2), (9, .int i9), (10, .int i10), (11, .int i11), (12, .int i12), (13, .int i13), (14, .int i14), (15, .int i15), (16, .int i16), (17, .int i17)] []) {S : xSt} {i1 : Int32} {i2 : Int32} {i3 : Int32} {i4 : Int32} {i5 : Int32} {i9 : Int32} {i10 : Int32} {i11 : Int32} {i12 : Int32} {i13 : Int32} {i14 : Int32} {i15 : Int32} {i17 : Int32} {i20 : Int32} {i21 : Int32} (h : fW_areCodes_J657  k134 S i1 i2 i3 i4 i5 i9 i10 i11 i12 i13 i14 i15 i17 i20 i21 = some out) : xG K X S 657 [(0, xr K 6 0), (1, .int i1), (2, .int i2), (3, .int i3), (4, .int i4), (5, .int i5), (6, xr K 33 0), (7, xr K 33 1), (8, xr K 33 2), (9, .int i9), (10, .int i10), (11, .int i11), (12, .int i12), (13, .int i13), (14, .int i14), (15, .int i15), (17, .int i17), (20, .int i20), (21, .int i21)] [] := by
  unfold fW_areCodes_J657 at h
  refine g_iload hX dL_areCodes_657 11 rfl ?_
  refine g_iload_n hX dL_areCodes_659 rfl 3 rfl ?_
  refine g_icmp_ne hX 686 dL_areCodes_660 (by decide) (fun hc => ?_) (fun hc => ?_)
  · have h := xif_f hc h
    exact g_sub [0, 1, 2, 3, 4, 5, 6, 7, 8, 9, 10, 11, 12, 13, 14, 15, 16] (by rfl) (sfW_areCodes_J686 hX hM hR hV hW0 hW1 hW2 hk134 h)
  · have h := xif_t hc h
    refine g_iload hX dL_areCodes_663 4 rfl ?_
    refine g_iconst (v := (1 : Int32)) hX dL_areCodes_665 (by decide) ?_
    refine g_icmp_eq hX 682 dL_areCodes_666 (by decide) (fun hc => ?_) (fun hc => ?_)
    · have h := xif_t hc h
      exact g_sub [0, 1, 2, 3, 4, 5, 6, 7, 8, 9, 10, 11, 12, 13, 14, 15, 16] (by rfl) (sfW_areCodes_J682 hX hM hR hV hW0 hW1 hW2 hk134 h)
    · have h := xif_f hc h
      refine g_iload hX dL_areCodes_669 4 rfl ?_
      refine g_iconst (v := (2 : Int32)) hX dL_areCodes_671 (by decide) ?_
      refine g_icmp_ne hX 686 dL_areCodes_672 (by decide) (fun hc => ?_) (fun hc => ?_)
      · have h := xif_f hc h
        exact g_sub [0, 1, 2, 3, 4, 5, 6, 7, 8, 9, 10, 11, 12, 13, 14, 15, 16] (by rfl) (sfW_areCodes_J686 hX hM hR hV hW0 hW1 hW2 hk134 h)
      · have h := xif_t hc h
        refine g_iload hX dL_areCodes_675 17 rfl ?_
        refine g_iload hX dL_areCodes_677 18 rfl ?_
        refine g_icmp_ge hX 686 dL_areCodes_679 (by decide) (fun hc => ?_) (fun hc => ?_)
        · have h := xif_t hc h
          exact g_sub [0, 1, 2, 3, 4, 5, 6, 7, 8, 9, 10, 11, 12, 13, 14, 15, 16] (by rfl) (sfW_areCodes_J686 hX hM hR hV hW0 hW1 hW2 hk134 h)
        · have h := xif_f hc h
          exact g_sub [0, 1, 2, 3, 4, 5, 6, 7, 8, 9, 10, 11, 12, 13, 14, 15, 16] (by rfl) (sfW_areCodes_J682 hX hM hR hV hW0 hW1 hW2 hk134 h)
set_option maxRecDepth 100000 in
theorem sbW_areCodes_L601 {K0 K : xK} {ρ : xSt → xSt} {X : xX} {out : xR} {rc rs : Nat} (hX : xOK K X RL cL_areCodes 23) (hM : xMN K0 K ρ X (ρ out.1, out.2) (some .boolean) rc rs) (hR : xRm X 3 68) (hV : (6, 0) ∈ xvl K) (hW0 : (33, 0) ∈ xvl K) (hW1 : (33, 1) ∈ xvl K) (hW2 : (33, 2) ∈ xvl K) {k134 : xSt → Int32 → Int32 → Int32 → Int32 → Int32 → Int32 → Int32 → Int32 → Int32 → Int32 → Int32 → Int32 → Int32 → Int32 → Option xR} (hk134 : ∀ (S : xSt) (i1 : Int32) (i2 : Int32) (i3 : Int32) (i4 : Int32) (i5 : Int32) (i9 : Int32) (i10 : Int32) (i11 : Int32) (i12 : Int32) (i13 : Int32) (i14 : Int32) (i15 : Int32) (i16 : Int32) (i17 : Int32), k134 S i1 i2 i3 i4 i5 i9 i10 i11 i12 i13 i14 i15 i16 i17 = some out → xG K X S 134 [(0, xr K 6 0), (1, .int i1), (2, .int i2), (3, .int i3), (4, .int i4), (5, .int i5), (6, xr K 33 0), (7, xr K 33 1), (8, xr K 33 2), (9, .int i9), (10, .int i10), (11, .int i11), (12, .int i12), (13, .int i13), (14, .int i14), (15, .int i15), (16, .int i16), (17, .int i17)] []) {k601 : xSt → Int32 → Int32 → Int32 → Int32 → Int32 → Int32 → Int32 → Int32 → Int32 → Int32 → Int32 → Int32 → Int32 → Int32 → Int32 → Int32 → Option xR} (hk601 : ∀ (S : xSt) (i1 : Int32) (i2 : Int32) (i3 : Int32) (i4 : Int32) (i5 : Int32) (i9 : Int32) (i10 : Int32) (i11 : Int32) (i12 : Int32) (i13 : Int32) (i14 : Int32) (i15 : Int32) (i17 : Int32) (i20 : Int32) (i21 : Int32) (i22 : Int32), k601 S i1 i2 i3 i4 i5 i9 i10 i11 i12 i13 i14 i15 i17 i20 i21 i22 = some out → xG K X S 601 [(0, xr K 6 0), (1, .int i1), (2, .int i2), (3, .int i3), (4, .int i4), (5, .int i5), (6, xr K 33 0), (7, xr K 33 1), (8, xr K 33 2), (9, .int i9), (10, .int i10), (11, .int i11), (12, .int i12), (13, .int i13), (14, .int i14), (15, .int i15), (17, .int i17), (20, .int i20), (21, .int i21), (22, .int i22)] []) {S : xSt} {i1 : Int32} {i2 : Int32} {i3 : Int32} {i4 : Int32} {i5 : Int32} {i9 : Int32} {i10 : Int32} {i11 : Int32} {i12 : Int32} {i13 : Int32} {i14 : Int32} {i15 : Int32} {i17 : Int32} {i20 : Int32} {i21 : Int32} {i22 : Int32} (h : bW_areCodes_L601  k134 k601 S i1 i2 i3 i4 i5 i9 i10 i11 i12 i13 i14 i15 i17 i20 i21 i22 = some out) : xG K X S 601 [(0, xr K 6 0), (1, .int i1), (2, .int i2), (3, .int i3), (4, .int i4), (5, .int i5), (6, xr K 33 0), (7, xr K 33 1), (8, xr K 33 2), (9, .int i9), (10, .int i10), (11, .int i11), (12, .int i12), (13, .int i13), (14, .int i14), (15, .int i15), (17, .int i17), (20, .int i20), (21, .int i21), (22, .int i22)] [] := by
  unfold bW_areCodes_L601 at h
  refine g_iload hX dL_areCodes_601 19 rfl ?_
  refine g_iload hX dL_areCodes_603 5 rfl ?_
  refine g_icmp_ge hX 657 dL_areCodes_605 (by decide) (fun hc => ?_) (fun hc => ?_)
  · have h := xif_t hc h
    exact g_sub [0, 1, 2, 3, 4, 5, 6, 7, 8, 9, 10, 11, 12, 13, 14, 15, 16, 17, 18] (by rfl) (sfW_areCodes_J657 hX hM hR hV hW0 hW1 hW2 hk134 h)
  · have h := xif_f hc h
    refine g_iload hX dL_areCodes_608 16 rfl ?_
    refine g_iconst (v := (1 : Int32)) hX dL_areCodes_610 (by decide) ?_
    refine g_iadd hX dL_areCodes_611 ?_
    refine g_iload hX dL_areCodes_612 12 rfl ?_
    refine g_isub hX dL_areCodes_614 ?_
    refine g_iconst (v := (2 : Int32)) hX dL_areCodes_615 (by decide) ?_
    refine g_iload hX dL_areCodes_616 5 rfl ?_
    refine g_imul hX dL_areCodes_618 ?_
    refine g_icmp_lt hX 657 dL_areCodes_619 (by decide) (fun hc => ?_) (fun hc => ?_)
    · have h := xif_t hc h
      exact g_sub [0, 1, 2, 3, 4, 5, 6, 7, 8, 9, 10, 11, 12, 13, 14, 15, 16, 17, 18] (by rfl) (sfW_areCodes_J657 hX hM hR hV hW0 hW1 hW2 hk134 h)
    · have h := xif_f hc h
      refine g_iload hX dL_areCodes_622 17 rfl ?_
      refine g_aload hX dL_areCodes_624 8 rfl ?_
      refine g_iload hX dL_areCodes_626 16 rfl ?_
      refine g_iload hX dL_areCodes_628 19 rfl ?_
      refine g_isub hX dL_areCodes_630 ?_
      obtain ⟨hbj1, h⟩ := xat_inv h
      refine g_iald (n := 64) hX hW2 rfl hbj1 dL_areCodes_631 ?_
      refine g_iadd hX dL_areCodes_632 ?_
      refine g_istore (lv2 := [(20, .int (i20 + (S 33 2 ((i17 - i22)).toNatClampNeg))), (0, xr K 6 0), (1, .int i1), (2, .int i2), (3, .int i3), (4, .int i4), (5, .int i5), (6, xr K 33 0), (7, xr K 33 1), (8, xr K 33 2), (9, .int i9), (10, .int i10), (11, .int i11), (12, .int i12), (13, .int i13), (14, .int i14), (15, .int i15), (17, .int i17), (21, .int i21), (22, .int i22)]) hX dL_areCodes_633 (by decide) rfl ?_
      refine g_iload hX dL_areCodes_635 18 rfl ?_
      refine g_aload hX dL_areCodes_637 9 rfl ?_
      refine g_iload hX dL_areCodes_639 17 rfl ?_
      refine g_iload hX dL_areCodes_641 6 rfl ?_
      refine g_isub hX dL_areCodes_643 ?_
      refine g_iload hX dL_areCodes_644 19 rfl ?_
      refine g_isub hX dL_areCodes_646 ?_
      obtain ⟨hbj2, h⟩ := xat_inv h
      refine g_iald (n := 64) hX hW2 rfl hbj2 dL_areCodes_647 ?_
      refine g_iadd hX dL_areCodes_648 ?_
      refine g_istore (lv2 := [(21, .int (i21 + (S 33 2 (((i17 - i5) - i22)).toNatClampNeg))), (20, .int (i20 + (S 33 2 ((i17 - i22)).toNatClampNeg))), (0, xr K 6 0), (1, .int i1), (2, .int i2), (3, .int i3), (4, .int i4), (5, .int i5), (6, xr K 33 0), (7, xr K 33 1), (8, xr K 33 2), (9, .int i9), (10, .int i10), (11, .int i11), (12, .int i12), (13, .int i13), (14, .int i14), (15, .int i15), (17, .int i17), (22, .int i22)]) hX dL_areCodes_649 (by decide) rfl ?_
      refine g_iinc (v := (i22 + (1 : Int32))) (lv2 := [(22, .int (i22 + (1 : Int32))), (21, .int (i21 + (S 33 2 (((i17 - i5) - i22)).toNatClampNeg))), (20, .int (i20 + (S 33 2 ((i17 - i22)).toNatClampNeg))), (0, xr K 6 0), (1, .int i1), (2, .int i2), (3, .int i3), (4, .int i4), (5, .int i5), (6, xr K 33 0), (7, xr K 33 1), (8, xr K 33 2), (9, .int i9), (10, .int i10), (11, .int i11), (12, .int i12), (13, .int i13), (14, .int i14), (15, .int i15), (17, .int i17)]) hX dL_areCodes_651 19 rfl rfl (by decide) rfl ?_
      refine g_goto hX 601 dL_areCodes_654 (by decide) ?_
      exact g_sub [3, 4, 5, 6, 7, 8, 9, 10, 11, 12, 13, 14, 15, 16, 17, 18, 19, 2, 1, 0] (by rfl) (hk601 _ _ _ _ _ _ _ _ _ _ _ _ _ _ _ _ _ h)
theorem sfW_areCodes_L601 {K0 K : xK} {ρ : xSt → xSt} {X : xX} {out : xR} {rc rs : Nat} (hX : xOK K X RL cL_areCodes 23) (hM : xMN K0 K ρ X (ρ out.1, out.2) (some .boolean) rc rs) (hR : xRm X 3 68) (hV : (6, 0) ∈ xvl K) (hW0 : (33, 0) ∈ xvl K) (hW1 : (33, 1) ∈ xvl K) (hW2 : (33, 2) ∈ xvl K) {k134 : xSt → Int32 → Int32 → Int32 → Int32 → Int32 → Int32 → Int32 → Int32 → Int32 → Int32 → Int32 → Int32 → Int32 → Int32 → Option xR} (hk134 : ∀ (S : xSt) (i1 : Int32) (i2 : Int32) (i3 : Int32) (i4 : Int32) (i5 : Int32) (i9 : Int32) (i10 : Int32) (i11 : Int32) (i12 : Int32) (i13 : Int32) (i14 : Int32) (i15 : Int32) (i16 : Int32) (i17 : Int32), k134 S i1 i2 i3 i4 i5 i9 i10 i11 i12 i13 i14 i15 i16 i17 = some out → xG K X S 134 [(0, xr K 6 0), (1, .int i1), (2, .int i2), (3, .int i3), (4, .int i4), (5, .int i5), (6, xr K 33 0), (7, xr K 33 1), (8, xr K 33 2), (9, .int i9), (10, .int i10), (11, .int i11), (12, .int i12), (13, .int i13), (14, .int i14), (15, .int i15), (16, .int i16), (17, .int i17)] []) : ∀ (n : Nat) (S : xSt) (i1 : Int32) (i2 : Int32) (i3 : Int32) (i4 : Int32) (i5 : Int32) (i9 : Int32) (i10 : Int32) (i11 : Int32) (i12 : Int32) (i13 : Int32) (i14 : Int32) (i15 : Int32) (i17 : Int32) (i20 : Int32) (i21 : Int32) (i22 : Int32) (h : fW_areCodes_L601  k134 n S i1 i2 i3 i4 i5 i9 i10 i11 i12 i13 i14 i15 i17 i20 i21 i22 = some out), xG K X S 601 [(0, xr K 6 0), (1, .int i1), (2, .int i2), (3, .int i3), (4, .int i4), (5, .int i5), (6, xr K 33 0), (7, xr K 33 1), (8, xr K 33 2), (9, .int i9), (10, .int i10), (11, .int i11), (12, .int i12), (13, .int i13), (14, .int i14), (15, .int i15), (17, .int i17), (20, .int i20), (21, .int i21), (22, .int i22)] [] := by
  intro n
  induction n with
  | zero => intro S i1 i2 i3 i4 i5 i9 i10 i11 i12 i13 i14 i15 i17 i20 i21 i22 h; cases h
  | succ n ih => intro S i1 i2 i3 i4 i5 i9 i10 i11 i12 i13 i14 i15 i17 i20 i21 i22 h; exact sbW_areCodes_L601 hX hM hR hV hW0 hW1 hW2 hk134 ih h
set_option maxRecDepth 100000 in
theorem sfW_areCodes_J590 {K0 K : xK} {ρ : xSt → xSt} {X : xX} {out : xR} {rc rs : Nat} (hX : xOK K X RL cL_areCodes 23) (hM : xMN K0 K ρ X (ρ out.1, out.2) (some .boolean) rc rs) (hR : xRm X 3 68) (hV : (6, 0) ∈ xvl K) (hW0 : (33, 0) ∈ xvl K) (hW1 : (33, 1) ∈ xvl K) (hW2 : (33, 2) ∈ xvl K) {k134 : xSt → Int32 → Int32 → Int32 → Int32 → Int32 → Int32 → Int32 → Int32 → Int32 → Int32 → Int32 → Int32 → Int32 → Int32 → Option xR} (hk134 : ∀ (S : xSt) (i1 : Int32) (i2 : Int32) (i3 : Int32) (i4 : Int32) (i5 : Int32) (i9 : Int32) (i10 : Int32) (i11 : Int32) (i12 : Int32) (i13 : Int32) (i14 : Int32) (i15 : Int32) (i16 : Int32) (i17 : Int32), k134 S i1 i2 i3 i4 i5 i9 i10 i11 i12 i13 i14 i15 i16 i17 = some out → xG K X S 134 [(0, xr K 6 0), (1, .int i1), (2, .int i2), (3, .int i3), (4, .int i4), (5, .int i5), (6, xr K 33 0), (7, xr K 33 1), (8, xr K 33 2), (9, .int i9), (10, .int i10), (11, .int i11), (12, .int i12), (13, .int i13), (14, .int i14), (15, .int i15), (16, .int i16), (17, .int i17)] []) {S : xSt} {i1 : Int32} {i2 : Int32} {i3 : Int32} {i4 : Int32} {i5 : Int32} {i9 : Int32} {i10 : Int32} {i11 : Int32} {i13 : Int32} {i14 : Int32} {i15 : Int32} {i17 : Int32} {k0 : Int32} (h : fW_areCodes_J590  k134 S i1 i2 i3 i4 i5 i9 i10 i11 i13 i14 i15 i17 k0 = some out) : xG K X S 590 [(0, xr K 6 0), (1, .int i1), (2, .int i2), (3, .int i3), (4, .int i4), (5, .int i5), (6, xr K 33 0), (7, xr K 33 1), (8, xr K 33 2), (9, .int i9), (10, .int i10), (11, .int i11), (13, .int i13), (14, .int i14), (15, .int i15), (17, .int i17)] [.int k0] := by
  unfold fW_areCodes_J590 at h
  refine g_istore (lv2 := [(12, .int k0), (0, xr K 6 0), (1, .int i1), (2, .int i2), (3, .int i3), (4, .int i4), (5, .int i5), (6, xr K 33 0), (7, xr K 33 1), (8, xr K 33 2), (9, .int i9), (10, .int i10), (11, .int i11), (13, .int i13), (14, .int i14), (15, .int i15), (17, .int i17)]) hX dL_areCodes_590 (by decide) rfl ?_
  refine g_iconst (v := (0 : Int32)) hX dL_areCodes_592 (by decide) ?_
  refine g_istore (lv2 := [(20, .int (0 : Int32)), (12, .int k0), (0, xr K 6 0), (1, .int i1), (2, .int i2), (3, .int i3), (4, .int i4), (5, .int i5), (6, xr K 33 0), (7, xr K 33 1), (8, xr K 33 2), (9, .int i9), (10, .int i10), (11, .int i11), (13, .int i13), (14, .int i14), (15, .int i15), (17, .int i17)]) hX dL_areCodes_593 (by decide) rfl ?_
  refine g_iconst (v := (0 : Int32)) hX dL_areCodes_595 (by decide) ?_
  refine g_istore (lv2 := [(21, .int (0 : Int32)), (20, .int (0 : Int32)), (12, .int k0), (0, xr K 6 0), (1, .int i1), (2, .int i2), (3, .int i3), (4, .int i4), (5, .int i5), (6, xr K 33 0), (7, xr K 33 1), (8, xr K 33 2), (9, .int i9), (10, .int i10), (11, .int i11), (13, .int i13), (14, .int i14), (15, .int i15), (17, .int i17)]) hX dL_areCodes_596 (by decide) rfl ?_
  refine g_iconst (v := (0 : Int32)) hX dL_areCodes_598 (by decide) ?_
  refine g_istore (lv2 := [(22, .int (0 : Int32)), (21, .int (0 : Int32)), (20, .int (0 : Int32)), (12, .int k0), (0, xr K 6 0), (1, .int i1), (2, .int i2), (3, .int i3), (4, .int i4), (5, .int i5), (6, xr K 33 0), (7, xr K 33 1), (8, xr K 33 2), (9, .int i9), (10, .int i10), (11, .int i11), (13, .int i13), (14, .int i14), (15, .int i15), (17, .int i17)]) hX dL_areCodes_599 (by decide) rfl ?_
  exact g_sub [4, 5, 6, 7, 8, 9, 10, 11, 12, 13, 14, 15, 3, 16, 17, 18, 19, 2, 1, 0] (by rfl) (sfW_areCodes_L601 hX hM hR hV hW0 hW1 hW2 hk134 _ _ _ _ _ _ _ _ _ _ _ _ _ _ _ _ _ _ h)
set_option maxRecDepth 100000 in
theorem sfW_areCodes_J574 {K0 K : xK} {ρ : xSt → xSt} {X : xX} {out : xR} {rc rs : Nat} (hX : xOK K X RL cL_areCodes 23) (hM : xMN K0 K ρ X (ρ out.1, out.2) (some .boolean) rc rs) (hR : xRm X 3 68) (hV : (6, 0) ∈ xvl K) (hW0 : (33, 0) ∈ xvl K) (hW1 : (33, 1) ∈ xvl K) (hW2 : (33, 2) ∈ xvl K) {k134 : xSt → Int32 → Int32 → Int32 → Int32 → Int32 → Int32 → Int32 → Int32 → Int32 → Int32 → Int32 → Int32 → Int32 → Int32 → Option xR} (hk134 : ∀ (S : xSt) (i1 : Int32) (i2 : Int32) (i3 : Int32) (i4 : Int32) (i5 : Int32) (i9 : Int32) (i10 : Int32) (i11 : Int32) (i12 : Int32) (i13 : Int32) (i14 : Int32) (i15 : Int32) (i16 : Int32) (i17 : Int32), k134 S i1 i2 i3 i4 i5 i9 i10 i11 i12 i13 i14 i15 i16 i17 = some out → xG K X S 134 [(0, xr K 6 0), (1, .int i1), (2, .int i2), (3, .int i3), (4, .int i4), (5, .int i5), (6, xr K 33 0), (7, xr K 33 1), (8, xr K 33 2), (9, .int i9), (10, .int i10), (11, .int i11), (12, .int i12), (13, .int i13), (14, .int i14), (15, .int i15), (16, .int i16), (17, .int i17)] []) {S : xSt} {i1 : Int32} {i2 : Int32} {i3 : Int32} {i4 : Int32} {i5 : Int32} {i9 : Int32} {i10 : Int32} {i11 : Int32} {i12 : Int32} {i13 : Int32} {i14 : Int32} {i17 : Int32} {i19 : Int32} {k0 : Int32} (h : fW_areCodes_J574  k134 S i1 i2 i3 i4 i5 i9 i10 i11 i12 i13 i14 i17 i19 k0 = some out) : xG K X S 574 [(0, xr K 6 0), (1, .int i1), (2, .int i2), (3, .int i3), (4, .int i4), (5, .int i5), (6, xr K 33 0), (7, xr K 33 1), (8, xr K 33 2), (9, .int i9), (10, .int i10), (11, .int i11), (12, .int i12), (13, .int i13), (14, .int i14), (17, .int i17), (19, .int i19)] [.int k0] := by
  unfold fW_areCodes_J574 at h
  refine g_istore (lv2 := [(15, .int k0), (0, xr K 6 0), (1, .int i1), (2, .int i2), (3, .int i3), (4, .int i4), (5, .int i5), (6, xr K 33 0), (7, xr K 33 1), (8, xr K 33 2), (9, .int i9), (10, .int i10), (11, .int i11), (12, .int i12), (13, .int i13), (14, .int i14), (17, .int i17), (19, .int i19)]) hX dL_areCodes_574 (by decide) rfl ?_
  refine g_iload hX dL_areCodes_576 17 rfl ?_
  refine g_if_eq hX 588 dL_areCodes_578 (by decide) (fun hc => ?_) (fun hc => ?_)
  · have h := xif_t hc h
    refine g_iload hX dL_areCodes_588 13 rfl ?_
    exact g_sub [1, 2, 3, 4, 5, 6, 7, 8, 9, 10, 11, 12, 14, 15, 0, 16] (by rfl) (sfW_areCodes_J590 hX hM hR hV hW0 hW1 hW2 hk134 h)
  · have h := xif_f hc h
    refine g_iload hX dL_areCodes_581 16 rfl ?_
    refine g_iconst (v := (1 : Int32)) hX dL_areCodes_583 (by decide) ?_
    refine g_iadd hX dL_areCodes_584 ?_
    refine g_goto hX 590 dL_areCodes_585 (by decide) ?_
    exact g_sub [1, 2, 3, 4, 5, 6, 7, 8, 9, 10, 11, 12, 14, 15, 0, 16] (by rfl) (sfW_areCodes_J590 hX hM hR hV hW0 hW1 hW2 hk134 h)
set_option maxRecDepth 100000 in
theorem sfW_areCodes_J572 {K0 K : xK} {ρ : xSt → xSt} {X : xX} {out : xR} {rc rs : Nat} (hX : xOK K X RL cL_areCodes 23) (hM : xMN K0 K ρ X (ρ out.1, out.2) (some .boolean) rc rs) (hR : xRm X 3 68) (hV : (6, 0) ∈ xvl K) (hW0 : (33, 0) ∈ xvl K) (hW1 : (33, 1) ∈ xvl K) (hW2 : (33, 2) ∈ xvl K) {k134 : xSt → Int32 → Int32 → Int32 → Int32 → Int32 → Int32 → Int32 → Int32 → Int32 → Int32 → Int32 → Int32 → Int32 → Int32 → Option xR} (hk134 : ∀ (S : xSt) (i1 : Int32) (i2 : Int32) (i3 : Int32) (i4 : Int32) (i5 : Int32) (i9 : Int32) (i10 : Int32) (i11 : Int32) (i12 : Int32) (i13 : Int32) (i14 : Int32) (i15 : Int32) (i16 : Int32) (i17 : Int32), k134 S i1 i2 i3 i4 i5 i9 i10 i11 i12 i13 i14 i15 i16 i17 = some out → xG K X S 134 [(0, xr K 6 0), (1, .int i1), (2, .int i2), (3, .int i3), (4, .int i4), (5, .int i5), (6, xr K 33 0), (7, xr K 33 1), (8, xr K 33 2), (9, .int i9), (10, .int i10), (11, .int i11), (12, .int i12), (13, .int i13), (14, .int i14), (15, .int i15), (16, .int i16), (17, .int i17)] []) {S : xSt} {i1 : Int32} {i2 : Int32} {i3 : Int32} {i4 : Int32} {i5 : Int32} {i9 : Int32} {i10 : Int32} {i11 : Int32} {i12 : Int32} {i13 : Int32} {i14 : Int32} {i15 : Int32} {i17 : Int32} {i19 : Int32} (h : fW_areCodes_J572  k134 S i1 i2 i3 i4 i5 i9 i10 i11 i12 i13 i14 i15 i17 i19 = some out) : xG K X S 572 [(0, xr K 6 0), (1, .int i1), (2, .int i2), (3, .int i3), (4, .int i4), (5, .int i5), (6, xr K 33 0), (7, xr K 33 1), (8, xr K 33 2), (9, .int i9), (10, .int i10), (11, .int i11), (12, .int i12), (13, .int i13), (14, .int i14), (15, .int i15), (17, .int i17), (19, .int i19)] [] := by
  unfold fW_areCodes_J572 at h
  refine g_iload hX dL_areCodes_572 15 rfl ?_
  exact g_sub [0, 1, 2, 3, 4, 5, 6, 7, 8, 9, 10, 11, 12, 13, 14, 16, 17] (by rfl) (sfW_areCodes_J574 hX hM hR hV hW0 hW1 hW2 hk134 h)
set_option maxRecDepth 100000 in
theorem sfW_areCodes_J542 {K0 K : xK} {ρ : xSt → xSt} {X : xX} {out : xR} {rc rs : Nat} (hX : xOK K X RL cL_areCodes 23) (hM : xMN K0 K ρ X (ρ out.1, out.2) (some .boolean) rc rs) (hR : xRm X 3 68) (hV : (6, 0) ∈ xvl K) (hW0 : (33, 0) ∈ xvl K) (hW1 : (33, 1) ∈ xvl K) (hW2 : (33, 2) ∈ xvl K) {k134 : xSt → Int32 → Int32 → Int32 → Int32 → Int32 → Int32 → Int32 → Int32 → Int32 → Int32 → Int32 → Int32 → Int32 → Int32 → Option xR} (hk134 : ∀ (S : xSt) (i1 : Int32) (i2 : Int32) (i3 : Int32) (i4 : Int32) (i5 : Int32) (i9 : Int32) (i10 : Int32) (i11 : Int32) (i12 : Int32) (i13 : Int32) (i14 : Int32) (i15 : Int32) (i16 : Int32) (i17 : Int32), k134 S i1 i2 i3 i4 i5 i9 i10 i11 i12 i13 i14 i15 i16 i17 = some out → xG K X S 134 [(0, xr K 6 0), (1, .int i1), (2, .int i2), (3, .int i3), (4, .int i4), (5, .int i5), (6, xr K 33 0), (7, xr K 33 1), (8, xr K 33 2), (9, .int i9), (10, .int i10), (11, .int i11), (12, .int i12), (13, .int i13), (14, .int i14), (15, .int i15), (16, .int i16), (17, .int i17)] []) {S : xSt} {i1 : Int32} {i2 : Int32} {i3 : Int32} {i4 : Int32} {i5 : Int32} {i9 : Int32} {i10 : Int32} {i12 : Int32} {i13 : Int32} {i14 : Int32} {i15 : Int32} {i17 : Int32} {i19 : Int32} {k0 : Int32} {k1 : Int32} (h : fW_areCodes_J542  k134 S i1 i2 i3 i4 i5 i9 i10 i12 i13 i14 i15 i17 i19 k0 k1 = some out) : xG K X S 542 [(0, xr K 6 0), (1, .int i1), (2, .int i2), (3, .int i3), (4, .int i4), (5, .int i5), (6, xr K 33 0), (7, xr K 33 1), (8, xr K 33 2), (9, .int i9), (10, .int i10), (12, .int i12), (13, .int i13), (14, .int i14), (15, .int i15), (17, .int i17), (19, .int i19)] [.int k0, .int k1] := by
  unfold fW_areCodes_J542 at h
  refine g_iadd hX dL_areCodes_542 ?_
  refine g_istore (lv2 := [(11, .int (k1 + k0)), (0, xr K 6 0), (1, .int i1), (2, .int i2), (3, .int i3), (4, .int i4), (5, .int i5), (6, xr K 33 0), (7, xr K 33 1), (8, xr K 33 2), (9, .int i9), (10, .int i10), (12, .int i12), (13, .int i13), (14, .int i14), (15, .int i15), (17, .int i17), (19, .int i19)]) hX dL_areCodes_543 (by decide) rfl ?_
  refine g_iload hX dL_areCodes_545 17 rfl ?_
  refine g_if_eq hX 572 dL_areCodes_547 (by decide) (fun hc => ?_) (fun hc => ?_)
  · have h := xif_t hc h
    exact g_sub [1, 2, 3, 4, 5, 6, 7, 8, 9, 10, 11, 0, 12, 13, 14, 15, 16, 17] (by rfl) (sfW_areCodes_J572 hX hM hR hV hW0 hW1 hW2 hk134 h)
  · have h := xif_f hc h
    refine g_aload hX dL_areCodes_550 9 rfl ?_
    refine g_iload hX dL_areCodes_552 16 rfl ?_
    obtain ⟨hbj1, h⟩ := xat_inv h
    refine g_iald (n := 64) hX hW2 rfl hbj1 dL_areCodes_554 ?_
    refine g_iconst (v := (1 : Int32)) hX dL_areCodes_555 (by decide) ?_
    refine g_iadd hX dL_areCodes_556 ?_
    refine g_iload hX dL_areCodes_557 15 rfl ?_
    refine g_icmp_le hX 572 dL_areCodes_559 (by decide) (fun hc => ?_) (fun hc => ?_)
    · have h := xif_t hc h
      exact g_sub [1, 2, 3, 4, 5, 6, 7, 8, 9, 10, 11, 0, 12, 13, 14, 15, 16, 17] (by rfl) (sfW_areCodes_J572 hX hM hR hV hW0 hW1 hW2 hk134 h)
    · have h := xif_f hc h
      refine g_aload hX dL_areCodes_562 9 rfl ?_
      refine g_iload hX dL_areCodes_564 16 rfl ?_
      obtain ⟨hbj2, h⟩ := xat_inv h
      refine g_iald (n := 64) hX hW2 rfl hbj2 dL_areCodes_566 ?_
      refine g_iconst (v := (1 : Int32)) hX dL_areCodes_567 (by decide) ?_
      refine g_iadd hX dL_areCodes_568 ?_
      refine g_goto hX 574 dL_areCodes_569 (by decide) ?_
      exact g_sub [1, 2, 3, 4, 5, 6, 7, 8, 9, 10, 11, 0, 12, 13, 14, 16, 17] (by rfl) (sfW_areCodes_J574 hX hM hR hV hW0 hW1 hW2 hk134 h)
set_option maxRecDepth 100000 in
theorem sfW_areCodes_J528 {K0 K : xK} {ρ : xSt → xSt} {X : xX} {out : xR} {rc rs : Nat} (hX : xOK K X RL cL_areCodes 23) (hM : xMN K0 K ρ X (ρ out.1, out.2) (some .boolean) rc rs) (hR : xRm X 3 68) (hV : (6, 0) ∈ xvl K) (hW0 : (33, 0) ∈ xvl K) (hW1 : (33, 1) ∈ xvl K) (hW2 : (33, 2) ∈ xvl K) {k134 : xSt → Int32 → Int32 → Int32 → Int32 → Int32 → Int32 → Int32 → Int32 → Int32 → Int32 → Int32 → Int32 → Int32 → Int32 → Option xR} (hk134 : ∀ (S : xSt) (i1 : Int32) (i2 : Int32) (i3 : Int32) (i4 : Int32) (i5 : Int32) (i9 : Int32) (i10 : Int32) (i11 : Int32) (i12 : Int32) (i13 : Int32) (i14 : Int32) (i15 : Int32) (i16 : Int32) (i17 : Int32), k134 S i1 i2 i3 i4 i5 i9 i10 i11 i12 i13 i14 i15 i16 i17 = some out → xG K X S 134 [(0, xr K 6 0), (1, .int i1), (2, .int i2), (3, .int i3), (4, .int i4), (5, .int i5), (6, xr K 33 0), (7, xr K 33 1), (8, xr K 33 2), (9, .int i9), (10, .int i10), (11, .int i11), (12, .int i12), (13, .int i13), (14, .int i14), (15, .int i15), (16, .int i16), (17, .int i17)] []) {S : xSt} {i1 : Int32} {i2 : Int32} {i3 : Int32} {i4 : Int32} {i5 : Int32} {i9 : Int32} {i10 : Int32} {i11 : Int32} {i12 : Int32} {i13 : Int32} {i14 : Int32} {i15 : Int32} {i17 : Int32} {k0 : Int32} (h : fW_areCodes_J528  k134 S i1 i2 i3 i4 i5 i9 i10 i11 i12 i13 i14 i15 i17 k0 = some out) : xG K X S 528 [(0, xr K 6 0), (1, .int i1), (2, .int i2), (3, .int i3), (4, .int i4), (5, .int i5), (6, xr K 33 0), (7, xr K 33 1), (8, xr K 33 2), (9, .int i9), (10, .int i10), (11, .int i11), (12, .int i12), (13, .int i13), (14, .int i14), (15, .int i15), (17, .int i17)] [.int k0] := by
  unfold fW_areCodes_J528 at h
  refine g_istore (lv2 := [(19, .int k0), (0, xr K 6 0), (1, .int i1), (2, .int i2), (3, .int i3), (4, .int i4), (5, .int i5), (6, xr K 33 0), (7, xr K 33 1), (8, xr K 33 2), (9, .int i9), (10, .int i10), (11, .int i11), (12, .int i12), (13, .int i13), (14, .int i14), (15, .int i15), (17, .int i17)]) hX dL_areCodes_528 (by decide) rfl ?_
  refine g_iload hX dL_areCodes_530 12 rfl ?_
  refine g_iload hX dL_areCodes_532 0 rfl ?_
  refine g_if_eq hX 541 dL_areCodes_534 (by decide) (fun hc => ?_) (fun hc => ?_)
  · have h := xif_t hc h
    refine g_iconst (v := (0 : Int32)) hX dL_areCodes_541 (by decide) ?_
    exact g_sub [1, 2, 3, 4, 5, 6, 7, 8, 9, 10, 11, 13, 14, 15, 16, 17, 0] (by rfl) (sfW_areCodes_J542 hX hM hR hV hW0 hW1 hW2 hk134 h)
  · have h := xif_f hc h
    refine g_iconst (v := (1 : Int32)) hX dL_areCodes_537 (by decide) ?_
    refine g_goto hX 542 dL_areCodes_538 (by decide) ?_
    exact g_sub [1, 2, 3, 4, 5, 6, 7, 8, 9, 10, 11, 13, 14, 15, 16, 17, 0] (by rfl) (sfW_areCodes_J542 hX hM hR hV hW0 hW1 hW2 hk134 h)
set_option maxRecDepth 100000 in
theorem sfW_areCodes_J501 {K0 K : xK} {ρ : xSt → xSt} {X : xX} {out : xR} {rc rs : Nat} (hX : xOK K X RL cL_areCodes 23) (hM : xMN K0 K ρ X (ρ out.1, out.2) (some .boolean) rc rs) (hR : xRm X 3 68) (hV : (6, 0) ∈ xvl K) (hW0 : (33, 0) ∈ xvl K) (hW1 : (33, 1) ∈ xvl K) (hW2 : (33, 2) ∈ xvl K) {k134 : xSt → Int32 → Int32 → Int32 → Int32 → Int32 → Int32 → Int32 → Int32 → Int32 → Int32 → Int32 → Int32 → Int32 → Int32 → Option xR} (hk134 : ∀ (S : xSt) (i1 : Int32) (i2 : Int32) (i3 : Int32) (i4 : Int32) (i5 : Int32) (i9 : Int32) (i10 : Int32) (i11 : Int32) (i12 : Int32) (i13 : Int32) (i14 : Int32) (i15 : Int32) (i16 : Int32) (i17 : Int32), k134 S i1 i2 i3 i4 i5 i9 i10 i11 i12 i13 i14 i15 i16 i17 = some out → xG K X S 134 [(0, xr K 6 0), (1, .int i1), (2, .int i2), (3, .int i3), (4, .int i4), (5, .int i5), (6, xr K 33 0), (7, xr K 33 1), (8, xr K 33 2), (9, .int i9), (10, .int i10), (11, .int i11), (12, .int i12), (13, .int i13), (14, .int i14), (15, .int i15), (16, .int i16), (17, .int i17)] []) {S : xSt} {i1 : Int32} {i2 : Int32} {i3 : Int32} {i4 : Int32} {i5 : Int32} {i9 : Int32} {i10 : Int32} {i11 : Int32} {i12 : Int32} {i13 : Int32} {i14 : Int32} {i15 : Int32} {i16 : Int32} {i17 : Int32} (h : fW_areCodes_J501  k134 S i1 i2 i3 i4 i5 i9 i10 i11 i12 i13 i14 i15 i16 i17 = some out) : xG K X S 501 [(0, xr K 6 0), (1, .int i1), (2, .int i2), (3, .int i3), (4, .int i4), (5, .int i5), (6, xr K 33 0), (7, xr K 33 1), (8, xr K 33 2), (9, .int i9), (10, .int i10), (11, .int i11), (12, .int i12), (13, .int i13), (14, .int i14), (15, .int i15), (16, .int i16), (17, .int i17)] [] := by
  unfold fW_areCodes_J501 at h
  refine g_iload hX dL_areCodes_501 9 rfl ?_
  refine g_aload hX dL_areCodes_503 8 rfl ?_
  refine g_iload hX dL_areCodes_505 17 rfl ?_
  obtain ⟨hbj1, h⟩ := xat_inv h
  refine g_iald (n := 64) hX hW2 rfl hbj1 dL_areCodes_507 ?_
  refine g_iadd hX dL_areCodes_508 ?_
  refine g_istore (lv2 := [(9, .int (i9 + (S 33 2 (i17).toNatClampNeg))), (0, xr K 6 0), (1, .int i1), (2, .int i2), (3, .int i3), (4, .int i4), (5, .int i5), (6, xr K 33 0), (7, xr K 33 1), (8, xr K 33 2), (10, .int i10), (11, .int i11), (12, .int i12), (13, .int i13), (14, .int i14), (15, .int i15), (16, .int i16), (17, .int i17)]) hX dL_areCodes_509 (by decide) rfl ?_
  refine g_iload hX dL_areCodes_511 0 rfl ?_
  refine g_iload_n hX dL_areCodes_513 rfl 3 rfl ?_
  refine g_icmp_ge hX 689 dL_areCodes_514 (by decide) (fun hc => ?_) (fun hc => ?_)
  · have h := xif_t hc h
    exact g_sub [1, 2, 3, 4, 5, 6, 7, 8, 9, 0, 10, 11, 12, 13, 14, 15, 16, 17] (by rfl) (sfW_areCodes_J689 hX hM hR hV hW0 hW1 hW2 hk134 h)
  · have h := xif_f hc h
    refine g_iload hX dL_areCodes_517 11 rfl ?_
    refine g_iload_n hX dL_areCodes_519 rfl 4 rfl ?_
    refine g_icmp_ge hX 527 dL_areCodes_520 (by decide) (fun hc => ?_) (fun hc => ?_)
    · have h := xif_t hc h
      refine g_iconst (v := (0 : Int32)) hX dL_areCodes_527 (by decide) ?_
      exact g_sub [1, 2, 3, 4, 5, 6, 7, 8, 9, 0, 10, 11, 12, 13, 14, 15, 17] (by rfl) (sfW_areCodes_J528 hX hM hR hV hW0 hW1 hW2 hk134 h)
    · have h := xif_f hc h
      refine g_iconst (v := (1 : Int32)) hX dL_areCodes_523 (by decide) ?_
      refine g_goto hX 528 dL_areCodes_524 (by decide) ?_
      exact g_sub [1, 2, 3, 4, 5, 6, 7, 8, 9, 0, 10, 11, 12, 13, 14, 15, 17] (by rfl) (sfW_areCodes_J528 hX hM hR hV hW0 hW1 hW2 hk134 h)
set_option maxRecDepth 100000 in
theorem sfW_areCodes_J495 {K0 K : xK} {ρ : xSt → xSt} {X : xX} {out : xR} {rc rs : Nat} (hX : xOK K X RL cL_areCodes 23) (hM : xMN K0 K ρ X (ρ out.1, out.2) (some .boolean) rc rs) (hR : xRm X 3 68) (hV : (6, 0) ∈ xvl K) (hW0 : (33, 0) ∈ xvl K) (hW1 : (33, 1) ∈ xvl K) (hW2 : (33, 2) ∈ xvl K) {k134 : xSt → Int32 → Int32 → Int32 → Int32 → Int32 → Int32 → Int32 → Int32 → Int32 → Int32 → Int32 → Int32 → Int32 → Int32 → Option xR} (hk134 : ∀ (S : xSt) (i1 : Int32) (i2 : Int32) (i3 : Int32) (i4 : Int32) (i5 : Int32) (i9 : Int32) (i10 : Int32) (i11 : Int32) (i12 : Int32) (i13 : Int32) (i14 : Int32) (i15 : Int32) (i16 : Int32) (i17 : Int32), k134 S i1 i2 i3 i4 i5 i9 i10 i11 i12 i13 i14 i15 i16 i17 = some out → xG K X S 134 [(0, xr K 6 0), (1, .int i1), (2, .int i2), (3, .int i3), (4, .int i4), (5, .int i5), (6, xr K 33 0), (7, xr K 33 1), (8, xr K 33 2), (9, .int i9), (10, .int i10), (11, .int i11), (12, .int i12), (13, .int i13), (14, .int i14), (15, .int i15), (16, .int i16), (17, .int i17)] []) {k430 : xSt → Int32 → Int32 → Int32 → Int32 → Int32 → Int32 → Int32 → Int32 → Int32 → Int32 → Int32 → Int32 → Int32 → Int32 → Int32 → Option xR} (hk430 : ∀ (S : xSt) (i1 : Int32) (i2 : Int32) (i3 : Int32) (i4 : Int32) (i5 : Int32) (i9 : Int32) (i10 : Int32) (i11 : Int32) (i12 : Int32) (i13 : Int32) (i14 : Int32) (i15 : Int32) (i16 : Int32) (i17 : Int32) (i19 : Int32), k430 S i1 i2 i3 i4 i5 i9 i10 i11 i12 i13 i14 i15 i16 i17 i19 = some out → xG K X S 430 [(0, xr K 6 0), (1, .int i1), (2, .int i2), (3, .int i3), (4, .int i4), (5, .int i5), (6, xr K 33 0), (7, xr K 33 1), (8, xr K 33 2), (9, .int i9), (10, .int i10), (11, .int i11), (12, .int i12), (13, .int i13), (14, .int i14), (15, .int i15), (16, .int i16), (17, .int i17), (19, .int i19)] []) {S : xSt} {i1 : Int32} {i2 : Int32} {i3 : Int32} {i4 : Int32} {i5 : Int32} {i9 : Int32} {i10 : Int32} {i11 : Int32} {i12 : Int32} {i13 : Int32} {i14 : Int32} {i15 : Int32} {i16 : Int32} {i17 : Int32} {i19 : Int32} (h : fW_areCodes_J495  k134 k430 S i1 i2 i3 i4 i5 i9 i10 i11 i12 i13 i14 i15 i16 i17 i19 = some out) : xG K X S 495 [(0, xr K 6 0), (1, .int i1), (2, .int i2), (3, .int i3), (4, .int i4), (5, .int i5), (6, xr K 33 0), (7, xr K 33 1), (8, xr K 33 2), (9, .int i9), (10, .int i10), (11, .int i11), (12, .int i12), (13, .int i13), (14, .int i14), (15, .int i15), (16, .int i16), (17, .int i17), (19, .int i19)] [] := by
  unfold fW_areCodes_J495 at h
  refine g_iinc (v := (i19 + (1 : Int32))) (lv2 := [(19, .int (i19 + (1 : Int32))), (0, xr K 6 0), (1, .int i1), (2, .int i2), (3, .int i3), (4, .int i4), (5, .int i5), (6, xr K 33 0), (7, xr K 33 1), (8, xr K 33 2), (9, .int i9), (10, .int i10), (11, .int i11), (12, .int i12), (13, .int i13), (14, .int i14), (15, .int i15), (16, .int i16), (17, .int i17)]) hX dL_areCodes_495 18 rfl rfl (by decide) rfl ?_
  refine g_goto hX 430 dL_areCodes_498 (by decide) ?_
  exact g_sub [1, 2, 3, 4, 5, 6, 7, 8, 9, 10, 11, 12, 13, 14, 15, 16, 17, 18, 0] (by rfl) (hk430 _ _ _ _ _ _ _ _ _ _ _ _ _ _ _ _ h)
set_option maxRecDepth 100000 in
theorem sbW_areCodes_L430 {K0 K : xK} {ρ : xSt → xSt} {X : xX} {out : xR} {rc rs : Nat} (hX : xOK K X RL cL_areCodes 23) (hM : xMN K0 K ρ X (ρ out.1, out.2) (some .boolean) rc rs) (hR : xRm X 3 68) (hV : (6, 0) ∈ xvl K) (hW0 : (33, 0) ∈ xvl K) (hW1 : (33, 1) ∈ xvl K) (hW2 : (33, 2) ∈ xvl K) {k134 : xSt → Int32 → Int32 → Int32 → Int32 → Int32 → Int32 → Int32 → Int32 → Int32 → Int32 → Int32 → Int32 → Int32 → Int32 → Option xR} (hk134 : ∀ (S : xSt) (i1 : Int32) (i2 : Int32) (i3 : Int32) (i4 : Int32) (i5 : Int32) (i9 : Int32) (i10 : Int32) (i11 : Int32) (i12 : Int32) (i13 : Int32) (i14 : Int32) (i15 : Int32) (i16 : Int32) (i17 : Int32), k134 S i1 i2 i3 i4 i5 i9 i10 i11 i12 i13 i14 i15 i16 i17 = some out → xG K X S 134 [(0, xr K 6 0), (1, .int i1), (2, .int i2), (3, .int i3), (4, .int i4), (5, .int i5), (6, xr K 33 0), (7, xr K 33 1), (8, xr K 33 2), (9, .int i9), (10, .int i10), (11, .int i11), (12, .int i12), (13, .int i13), (14, .int i14), (15, .int i15), (16, .int i16), (17, .int i17)] []) {k430 : xSt → Int32 → Int32 → Int32 → Int32 → Int32 → Int32 → Int32 → Int32 → Int32 → Int32 → Int32 → Int32 → Int32 → Int32 → Int32 → Option xR} (hk430 : ∀ (S : xSt) (i1 : Int32) (i2 : Int32) (i3 : Int32) (i4 : Int32) (i5 : Int32) (i9 : Int32) (i10 : Int32) (i11 : Int32) (i12 : Int32) (i13 : Int32) (i14 : Int32) (i15 : Int32) (i16 : Int32) (i17 : Int32) (i19 : Int32), k430 S i1 i2 i3 i4 i5 i9 i10 i11 i12 i13 i14 i15 i16 i17 i19 = some out → xG K X S 430 [(0, xr K 6 0), (1, .int i1), (2, .int i2), (3, .int i3), (4, .int i4), (5, .int i5), (6, xr K 33 0), (7, xr K 33 1), (8, xr K 33 2), (9, .int i9), (10, .int i10), (11, .int i11), (12, .int i12), (13, .int i13), (14, .int i14), (15, .int i15), (16, .int i16), (17, .int i17), (19, .int i19)] []) {S : xSt} {i1 : Int32} {i2 : Int32} {i3 : Int32} {i4 : Int32} {i5 : Int32} {i9 : Int32} {i10 : Int32} {i11 : Int32} {i12 : Int32} {i13 : Int32} {i14 : Int32} {i15 : Int32} {i16 : Int32} {i17 : Int32} {i19 : Int32} (h : bW_areCodes_L430  k134 k430 S i1 i2 i3 i4 i5 i9 i10 i11 i12 i13 i14 i15 i16 i17 i19 = some out) : xG K X S 430 [(0, xr K 6 0), (1, .int i1), (2, .int i2), (3, .int i3), (4, .int i4), (5, .int i5), (6, xr K 33 0), (7, xr K 33 1), (8, xr K 33 2), (9, .int i9), (10, .int i10), (11, .int i11), (12, .int i12), (13, .int i13), (14, .int i14), (15, .int i15), (16, .int i16), (17, .int i17), (19, .int i19)] [] := by
  unfold bW_areCodes_L430 at h
  refine g_iload hX dL_areCodes_430 18 rfl ?_
  refine g_iload hX dL_areCodes_432 11 rfl ?_
  refine g_icmp_ge hX 501 dL_areCodes_434 (by decide) (fun hc => ?_) (fun hc => ?_)
  · have h := xif_t hc h
    exact g_sub [0, 1, 2, 3, 4, 5, 6, 7, 8, 9, 10, 11, 12, 13, 14, 15, 16, 17] (by rfl) (sfW_areCodes_J501 hX hM hR hV hW0 hW1 hW2 hk134 h)
  · have h := xif_f hc h
    refine g_aload hX dL_areCodes_437 8 rfl ?_
    refine g_iload hX dL_areCodes_439 10 rfl ?_
    refine g_iload hX dL_areCodes_441 18 rfl ?_
    refine g_iadd hX dL_areCodes_443 ?_
    refine g_bipush (v := (10 : Int32)) hX dL_areCodes_444 (by decide) ?_
    refine g_isub hX dL_areCodes_446 ?_
    obtain ⟨hbj1, h⟩ := xat_inv h
    refine g_iald (n := 64) hX hW2 rfl hbj1 dL_areCodes_447 ?_
    refine g_iconst (v := (1 : Int32)) hX dL_areCodes_448 (by decide) ?_
    refine g_iadd hX dL_areCodes_449 ?_
    refine g_istore (lv2 := [(20, .int ((S 33 2 (((i10 + i19) - (10 : Int32))).toNatClampNeg) + (1 : Int32))), (0, xr K 6 0), (1, .int i1), (2, .int i2), (3, .int i3), (4, .int i4), (5, .int i5), (6, xr K 33 0), (7, xr K 33 1), (8, xr K 33 2), (9, .int i9), (10, .int i10), (11, .int i11), (12, .int i12), (13, .int i13), (14, .int i14), (15, .int i15), (16, .int i16), (17, .int i17), (19, .int i19)]) hX dL_areCodes_450 (by decide) rfl ?_
    refine g_iload hX dL_areCodes_452 0 rfl ?_
    refine g_aload hX dL_areCodes_454 9 rfl ?_
    refine g_iload hX dL_areCodes_456 18 rfl ?_
    obtain ⟨hbj2, h⟩ := xat_inv h
    refine g_iald (n := 64) hX hW2 rfl hbj2 dL_areCodes_458 ?_
    refine g_icmp_le hX 495 dL_areCodes_459 (by decide) (fun hc => ?_) (fun hc => ?_)
    · have h := xif_t hc h
      exact g_sub [1, 2, 3, 4, 5, 6, 7, 8, 9, 10, 11, 12, 13, 14, 15, 16, 17, 18, 19] (by rfl) (sfW_areCodes_J495 hX hM hR hV hW0 hW1 hW2 hk134 hk430 h)
    · have h := xif_f hc h
      refine g_iload hX dL_areCodes_462 10 rfl ?_
      refine g_iload hX dL_areCodes_464 0 rfl ?_
      refine g_iadd hX dL_areCodes_466 ?_
      refine g_iload_n hX dL_areCodes_467 rfl 3 rfl ?_
      refine g_icmp_gt hX 495 dL_areCodes_468 (by decide) (fun hc => ?_) (fun hc => ?_)
      · have h := xif_t hc h
        exact g_sub [1, 2, 3, 4, 5, 6, 7, 8, 9, 10, 11, 12, 13, 14, 15, 16, 17, 18, 19] (by rfl) (sfW_areCodes_J495 hX hM hR hV hW0 hW1 hW2 hk134 hk430 h)
      · have h := xif_f hc h
        refine g_aload_n hX dL_areCodes_471 rfl 1 rfl ?_
        refine g_iload hX dL_areCodes_472 10 rfl ?_
        refine g_aload hX dL_areCodes_474 8 rfl ?_
        refine g_iload hX dL_areCodes_476 11 rfl ?_
        refine g_iload hX dL_areCodes_478 19 rfl ?_
        refine g_iadd hX dL_areCodes_480 ?_
        refine g_bipush (v := (10 : Int32)) hX dL_areCodes_481 (by decide) ?_
        refine g_isub hX dL_areCodes_483 ?_
        obtain ⟨hbj3, h⟩ := xat_inv h
        refine g_iald (n := 64) hX hW1 rfl hbj3 dL_areCodes_484 ?_
        refine g_iload hX dL_areCodes_485 0 rfl ?_
        obtain ⟨S4, r5, hcS4, h⟩ := xbI_inv h
        refine g_callS hX hR (fun l => cW_isAlike (l := l) hX.vc hV hcS4) xc9_26 rfl ⟨by decide, by decide⟩ rfl rfl (Nat.le_of_ble_eq_true rfl) dL_areCodes_487 ?_
        refine g_if_eq hX 495 dL_areCodes_490 (by decide) (fun hc => ?_) (fun hc => ?_)
        · have h := xif_t hc h
          exact g_sub [1, 2, 3, 4, 5, 6, 7, 8, 9, 10, 11, 12, 13, 14, 15, 16, 17, 18, 19] (by rfl) (sfW_areCodes_J495 hX hM hR hV hW0 hW1 hW2 hk134 hk430 h)
        · have h := xif_f hc h
          refine g_iconst (v := (0 : Int32)) hX dL_areCodes_493 (by decide) ?_
          obtain ⟨hz, h⟩ := xne_inv h
          exact g_zretN hX hM hz (by rw [← Option.some.inj h]) dL_areCodes_494
theorem sfW_areCodes_L430 {K0 K : xK} {ρ : xSt → xSt} {X : xX} {out : xR} {rc rs : Nat} (hX : xOK K X RL cL_areCodes 23) (hM : xMN K0 K ρ X (ρ out.1, out.2) (some .boolean) rc rs) (hR : xRm X 3 68) (hV : (6, 0) ∈ xvl K) (hW0 : (33, 0) ∈ xvl K) (hW1 : (33, 1) ∈ xvl K) (hW2 : (33, 2) ∈ xvl K) {k134 : xSt → Int32 → Int32 → Int32 → Int32 → Int32 → Int32 → Int32 → Int32 → Int32 → Int32 → Int32 → Int32 → Int32 → Int32 → Option xR} (hk134 : ∀ (S : xSt) (i1 : Int32) (i2 : Int32) (i3 : Int32) (i4 : Int32) (i5 : Int32) (i9 : Int32) (i10 : Int32) (i11 : Int32) (i12 : Int32) (i13 : Int32) (i14 : Int32) (i15 : Int32) (i16 : Int32) (i17 : Int32), k134 S i1 i2 i3 i4 i5 i9 i10 i11 i12 i13 i14 i15 i16 i17 = some out → xG K X S 134 [(0, xr K 6 0), (1, .int i1), (2, .int i2), (3, .int i3), (4, .int i4), (5, .int i5), (6, xr K 33 0), (7, xr K 33 1), (8, xr K 33 2), (9, .int i9), (10, .int i10), (11, .int i11), (12, .int i12), (13, .int i13), (14, .int i14), (15, .int i15), (16, .int i16), (17, .int i17)] []) : ∀ (n : Nat) (S : xSt) (i1 : Int32) (i2 : Int32) (i3 : Int32) (i4 : Int32) (i5 : Int32) (i9 : Int32) (i10 : Int32) (i11 : Int32) (i12 : Int32) (i13 : Int32) (i14 : Int32) (i15 : Int32) (i16 : Int32) (i17 : Int32) (i19 : Int32) (h : fW_areCodes_L430  k134 n S i1 i2 i3 i4 i5 i9 i10 i11 i12 i13 i14 i15 i16 i17 i19 = some out), xG K X S 430 [(0, xr K 6 0), (1, .int i1), (2, .int i2), (3, .int i3), (4, .int i4), (5, .int i5), (6, xr K 33 0), (7, xr K 33 1), (8, xr K 33 2), (9, .int i9), (10, .int i10), (11, .int i11), (12, .int i12), (13, .int i13), (14, .int i14), (15, .int i15), (16, .int i16), (17, .int i17), (19, .int i19)] [] := by
  intro n
  induction n with
  | zero => intro S i1 i2 i3 i4 i5 i9 i10 i11 i12 i13 i14 i15 i16 i17 i19 h; cases h
  | succ n ih => intro S i1 i2 i3 i4 i5 i9 i10 i11 i12 i13 i14 i15 i16 i17 i19 h; exact sbW_areCodes_L430 hX hM hR hV hW0 hW1 hW2 hk134 ih h
set_option maxRecDepth 100000 in
theorem sfW_areCodes_J426 {K0 K : xK} {ρ : xSt → xSt} {X : xX} {out : xR} {rc rs : Nat} (hX : xOK K X RL cL_areCodes 23) (hM : xMN K0 K ρ X (ρ out.1, out.2) (some .boolean) rc rs) (hR : xRm X 3 68) (hV : (6, 0) ∈ xvl K) (hW0 : (33, 0) ∈ xvl K) (hW1 : (33, 1) ∈ xvl K) (hW2 : (33, 2) ∈ xvl K) {k134 : xSt → Int32 → Int32 → Int32 → Int32 → Int32 → Int32 → Int32 → Int32 → Int32 → Int32 → Int32 → Int32 → Int32 → Int32 → Option xR} (hk134 : ∀ (S : xSt) (i1 : Int32) (i2 : Int32) (i3 : Int32) (i4 : Int32) (i5 : Int32) (i9 : Int32) (i10 : Int32) (i11 : Int32) (i12 : Int32) (i13 : Int32) (i14 : Int32) (i15 : Int32) (i16 : Int32) (i17 : Int32), k134 S i1 i2 i3 i4 i5 i9 i10 i11 i12 i13 i14 i15 i16 i17 = some out → xG K X S 134 [(0, xr K 6 0), (1, .int i1), (2, .int i2), (3, .int i3), (4, .int i4), (5, .int i5), (6, xr K 33 0), (7, xr K 33 1), (8, xr K 33 2), (9, .int i9), (10, .int i10), (11, .int i11), (12, .int i12), (13, .int i13), (14, .int i14), (15, .int i15), (16, .int i16), (17, .int i17)] []) {S : xSt} {i1 : Int32} {i2 : Int32} {i3 : Int32} {i4 : Int32} {i5 : Int32} {i9 : Int32} {i10 : Int32} {i11 : Int32} {i12 : Int32} {i13 : Int32} {i14 : Int32} {i15 : Int32} {i16 : Int32} {i17 : Int32} (h : fW_areCodes_J426  k134 S i1 i2 i3 i4 i5 i9 i10 i11 i12 i13 i14 i15 i16 i17 = some out) : xG K X S 426 [(0, xr K 6 0), (1, .int i1), (2, .int i2), (3, .int i3), (4, .int i4), (5, .int i5), (6, xr K 33 0), (7, xr K 33 1), (8, xr K 33 2), (9, .int i9), (10, .int i10), (11, .int i11), (12, .int i12), (13, .int i13), (14, .int i14), (15, .int i15), (16, .int i16), (17, .int i17)] [] := by
  unfold fW_areCodes_J426 at h
  refine g_bipush (v := (10 : Int32)) hX dL_areCodes_426 (by decide) ?_
  refine g_istore (lv2 := [(19, .int (10 : Int32)), (0, xr K 6 0), (1, .int i1), (2, .int i2), (3, .int i3), (4, .int i4), (5, .int i5), (6, xr K 33 0), (7, xr K 33 1), (8, xr K 33 2), (9, .int i9), (10, .int i10), (11, .int i11), (12, .int i12), (13, .int i13), (14, .int i14), (15, .int i15), (16, .int i16), (17, .int i17)]) hX dL_areCodes_428 (by decide) rfl ?_
  exact g_sub [1, 2, 3, 4, 5, 6, 7, 8, 9, 10, 11, 12, 13, 14, 15, 16, 17, 18, 0] (by rfl) (sfW_areCodes_L430 hX hM hR hV hW0 hW1 hW2 hk134 _ _ _ _ _ _ _ _ _ _ _ _ _ _ _ _ _ h)
set_option maxRecDepth 100000 in
theorem sfW_areCodes_J371 {K0 K : xK} {ρ : xSt → xSt} {X : xX} {out : xR} {rc rs : Nat} (hX : xOK K X RL cL_areCodes 23) (hM : xMN K0 K ρ X (ρ out.1, out.2) (some .boolean) rc rs) (hR : xRm X 3 68) (hV : (6, 0) ∈ xvl K) (hW0 : (33, 0) ∈ xvl K) (hW1 : (33, 1) ∈ xvl K) (hW2 : (33, 2) ∈ xvl K) {k134 : xSt → Int32 → Int32 → Int32 → Int32 → Int32 → Int32 → Int32 → Int32 → Int32 → Int32 → Int32 → Int32 → Int32 → Int32 → Option xR} (hk134 : ∀ (S : xSt) (i1 : Int32) (i2 : Int32) (i3 : Int32) (i4 : Int32) (i5 : Int32) (i9 : Int32) (i10 : Int32) (i11 : Int32) (i12 : Int32) (i13 : Int32) (i14 : Int32) (i15 : Int32) (i16 : Int32) (i17 : Int32), k134 S i1 i2 i3 i4 i5 i9 i10 i11 i12 i13 i14 i15 i16 i17 = some out → xG K X S 134 [(0, xr K 6 0), (1, .int i1), (2, .int i2), (3, .int i3), (4, .int i4), (5, .int i5), (6, xr K 33 0), (7, xr K 33 1), (8, xr K 33 2), (9, .int i9), (10, .int i10), (11, .int i11), (12, .int i12), (13, .int i13), (14, .int i14), (15, .int i15), (16, .int i16), (17, .int i17)] []) {S : xSt} {i1 : Int32} {i2 : Int32} {i3 : Int32} {i4 : Int32} {i5 : Int32} {i9 : Int32} {i10 : Int32} {i11 : Int32} {i12 : Int32} {i13 : Int32} {i14 : Int32} {i15 : Int32} {i16 : Int32} {i17 : Int32} {i18 : Int32} (h : fW_areCodes_J371  k134 S i1 i2 i3 i4 i5 i9 i10 i11 i12 i13 i14 i15 i16 i17 i18 = some out) : xG K X S 371 [(0, xr K 6 0), (1, .int i1), (2, .int i2), (3, .int i3), (4, .int i4), (5, .int i5), (6, xr K 33 0), (7, xr K 33 1), (8, xr K 33 2), (9, .int i9), (10, .int i10), (11, .int i11), (12, .int i12), (13, .int i13), (14, .int i14), (15, .int i15), (16, .int i16), (17, .int i17), (18, .int i18)] [] := by
  unfold fW_areCodes_J371 at h
  refine g_iload hX dL_areCodes_371 18 rfl ?_
  refine g_bipush (v := (10 : Int32)) hX dL_areCodes_373 (by decide) ?_
  refine g_icmp_lt hX 426 dL_areCodes_375 (by decide) (fun hc => ?_) (fun hc => ?_)
  · have h := xif_t hc h
    exact g_sub [0, 1, 2, 3, 4, 5, 6, 7, 8, 9, 10, 11, 12, 13, 14, 15, 16, 17] (by rfl) (sfW_areCodes_J426 hX hM hR hV hW0 hW1 hW2 hk134 h)
  · have h := xif_f hc h
    refine g_aload hX dL_areCodes_378 8 rfl ?_
    refine g_iload hX dL_areCodes_380 17 rfl ?_
    obtain ⟨hbj1, h⟩ := xat_inv h
    refine g_iald (n := 64) hX hW2 rfl hbj1 dL_areCodes_382 ?_
    refine g_aload hX dL_areCodes_383 8 rfl ?_
    refine g_iload hX dL_areCodes_385 10 rfl ?_
    refine g_iload hX dL_areCodes_387 18 rfl ?_
    refine g_iadd hX dL_areCodes_389 ?_
    refine g_bipush (v := (10 : Int32)) hX dL_areCodes_390 (by decide) ?_
    refine g_isub hX dL_areCodes_392 ?_
    obtain ⟨hbj2, h⟩ := xat_inv h
    refine g_iald (n := 64) hX hW2 rfl hbj2 dL_areCodes_393 ?_
    refine g_iconst (v := (1 : Int32)) hX dL_areCodes_394 (by decide) ?_
    refine g_iadd hX dL_areCodes_395 ?_
    refine g_icmp_ne hX 424 dL_areCodes_396 (by decide) (fun hc => ?_) (fun hc => ?_)
    · have h := xif_f hc h
      refine g_iconst (v := (0 : Int32)) hX dL_areCodes_424 (by decide) ?_
      obtain ⟨hz, h⟩ := xne_inv h
      exact g_zretN hX hM hz (by rw [← Option.some.inj h]) dL_areCodes_425
    · have h := xif_t hc h
      refine g_aload_n hX dL_areCodes_399 rfl 0 rfl ?_
      refine g_iload hX dL_areCodes_400 9 rfl ?_
      refine g_aload hX dL_areCodes_402 7 rfl ?_
      refine g_iload hX dL_areCodes_404 10 rfl ?_
      refine g_iload hX dL_areCodes_406 18 rfl ?_
      refine g_iadd hX dL_areCodes_408 ?_
      refine g_bipush (v := (10 : Int32)) hX dL_areCodes_409 (by decide) ?_
      refine g_isub hX dL_areCodes_411 ?_
      obtain ⟨hbj3, h⟩ := xat_inv h
      refine g_iald (n := 64) hX hW1 rfl hbj3 dL_areCodes_412 ?_
      refine g_aload hX dL_areCodes_413 8 rfl ?_
      refine g_iload hX dL_areCodes_415 17 rfl ?_
      obtain ⟨hbj4, h⟩ := xat_inv h
      refine g_iald (n := 64) hX hW2 rfl hbj4 dL_areCodes_417 ?_
      obtain ⟨S5, r6, hcS5, h⟩ := xbI_inv h
      refine g_callS hX hR (fun l => cW_isAlike (l := l) hX.vc hV hcS5) xc9_26 rfl ⟨by decide, by decide⟩ rfl rfl (Nat.le_of_ble_eq_true rfl) dL_areCodes_418 ?_
      refine g_if_ne hX 426 dL_areCodes_421 (by decide) (fun hc => ?_) (fun hc => ?_)
      · have h := xif_f hc h
        exact g_sub [0, 1, 2, 3, 4, 5, 6, 7, 8, 9, 10, 11, 12, 13, 14, 15, 16, 17] (by rfl) (sfW_areCodes_J426 hX hM hR hV hW0 hW1 hW2 hk134 h)
      · have h := xif_t hc h
        refine g_iconst (v := (0 : Int32)) hX dL_areCodes_424 (by decide) ?_
        obtain ⟨hz, h⟩ := xne_inv h
        exact g_zretN hX hM hz (by rw [← Option.some.inj h]) dL_areCodes_425
set_option maxRecDepth 100000 in
theorem sfW_areCodes_J348 {K0 K : xK} {ρ : xSt → xSt} {X : xX} {out : xR} {rc rs : Nat} (hX : xOK K X RL cL_areCodes 23) (hM : xMN K0 K ρ X (ρ out.1, out.2) (some .boolean) rc rs) (hR : xRm X 3 68) (hV : (6, 0) ∈ xvl K) (hW0 : (33, 0) ∈ xvl K) (hW1 : (33, 1) ∈ xvl K) (hW2 : (33, 2) ∈ xvl K) {k134 : xSt → Int32 → Int32 → Int32 → Int32 → Int32 → Int32 → Int32 → Int32 → Int32 → Int32 → Int32 → Int32 → Int32 → Int32 → Option xR} (hk134 : ∀ (S : xSt) (i1 : Int32) (i2 : Int32) (i3 : Int32) (i4 : Int32) (i5 : Int32) (i9 : Int32) (i10 : Int32) (i11 : Int32) (i12 : Int32) (i13 : Int32) (i14 : Int32) (i15 : Int32) (i16 : Int32) (i17 : Int32), k134 S i1 i2 i3 i4 i5 i9 i10 i11 i12 i13 i14 i15 i16 i17 = some out → xG K X S 134 [(0, xr K 6 0), (1, .int i1), (2, .int i2), (3, .int i3), (4, .int i4), (5, .int i5), (6, xr K 33 0), (7, xr K 33 1), (8, xr K 33 2), (9, .int i9), (10, .int i10), (11, .int i11), (12, .int i12), (13, .int i13), (14, .int i14), (15, .int i15), (16, .int i16), (17, .int i17)] []) {S : xSt} {i1 : Int32} {i2 : Int32} {i3 : Int32} {i4 : Int32} {i5 : Int32} {i9 : Int32} {i10 : Int32} {i11 : Int32} {i12 : Int32} {i13 : Int32} {i14 : Int32} {i15 : Int32} {i16 : Int32} {i17 : Int32} {i18 : Int32} {k0 : Int32} {k1 : Int32} (h : fW_areCodes_J348  k134 S i1 i2 i3 i4 i5 i9 i10 i11 i12 i13 i14 i15 i16 i17 i18 k0 k1 = some out) : xG K X S 348 [(0, xr K 6 0), (1, .int i1), (2, .int i2), (3, .int i3), (4, .int i4), (5, .int i5), (6, xr K 33 0), (7, xr K 33 1), (8, xr K 33 2), (9, .int i9), (10, .int i10), (11, .int i11), (12, .int i12), (13, .int i13), (14, .int i14), (15, .int i15), (16, .int i16), (17, .int i17), (18, .int i18)] [.int k0, .int k1] := by
  unfold fW_areCodes_J348 at h
  refine g_icmp_ne hX 369 dL_areCodes_348 (by decide) (fun hc => ?_) (fun hc => ?_)
  · have h := xif_f hc h
    refine g_iconst (v := (0 : Int32)) hX dL_areCodes_369 (by decide) ?_
    obtain ⟨hz, h⟩ := xne_inv h
    exact g_zretN hX hM hz (by rw [← Option.some.inj h]) dL_areCodes_370
  · have h := xif_t hc h
    refine g_iload hX dL_areCodes_351 18 rfl ?_
    refine g_bipush (v := (8 : Int32)) hX dL_areCodes_353 (by decide) ?_
    refine g_icmp_ge hX 371 dL_areCodes_355 (by decide) (fun hc => ?_) (fun hc => ?_)
    · have h := xif_t hc h
      exact sfW_areCodes_J371 hX hM hR hV hW0 hW1 hW2 hk134 h
    · have h := xif_f hc h
      refine g_iload hX dL_areCodes_358 18 rfl ?_
      refine g_aload_n hX dL_areCodes_360 rfl 0 rfl ?_
      refine g_iload hX dL_areCodes_361 9 rfl ?_
      obtain ⟨S1, r2, hcS1, h⟩ := xbI_inv h
      refine g_callV hX hR hV (fun l => c6_sign (l := l) hX.vc hV hcS1) xc9_14 rfl ⟨by decide, by decide⟩ rfl rfl (Nat.le_of_ble_eq_true rfl) dL_areCodes_363 ?_
      refine g_icmp_eq hX 371 dL_areCodes_366 (by decide) (fun hc => ?_) (fun hc => ?_)
      · have h := xif_t hc h
        exact sfW_areCodes_J371 hX hM hR hV hW0 hW1 hW2 hk134 h
      · have h := xif_f hc h
        refine g_iconst (v := (0 : Int32)) hX dL_areCodes_369 (by decide) ?_
        obtain ⟨hz, h⟩ := xne_inv h
        exact g_zretN hX hM hz (by rw [← Option.some.inj h]) dL_areCodes_370
set_option maxRecDepth 100000 in
theorem sfW_areCodes_J334 {K0 K : xK} {ρ : xSt → xSt} {X : xX} {out : xR} {rc rs : Nat} (hX : xOK K X RL cL_areCodes 23) (hM : xMN K0 K ρ X (ρ out.1, out.2) (some .boolean) rc rs) (hR : xRm X 3 68) (hV : (6, 0) ∈ xvl K) (hW0 : (33, 0) ∈ xvl K) (hW1 : (33, 1) ∈ xvl K) (hW2 : (33, 2) ∈ xvl K) {k134 : xSt → Int32 → Int32 → Int32 → Int32 → Int32 → Int32 → Int32 → Int32 → Int32 → Int32 → Int32 → Int32 → Int32 → Int32 → Option xR} (hk134 : ∀ (S : xSt) (i1 : Int32) (i2 : Int32) (i3 : Int32) (i4 : Int32) (i5 : Int32) (i9 : Int32) (i10 : Int32) (i11 : Int32) (i12 : Int32) (i13 : Int32) (i14 : Int32) (i15 : Int32) (i16 : Int32) (i17 : Int32), k134 S i1 i2 i3 i4 i5 i9 i10 i11 i12 i13 i14 i15 i16 i17 = some out → xG K X S 134 [(0, xr K 6 0), (1, .int i1), (2, .int i2), (3, .int i3), (4, .int i4), (5, .int i5), (6, xr K 33 0), (7, xr K 33 1), (8, xr K 33 2), (9, .int i9), (10, .int i10), (11, .int i11), (12, .int i12), (13, .int i13), (14, .int i14), (15, .int i15), (16, .int i16), (17, .int i17)] []) {S : xSt} {i1 : Int32} {i2 : Int32} {i3 : Int32} {i4 : Int32} {i5 : Int32} {i9 : Int32} {i10 : Int32} {i11 : Int32} {i12 : Int32} {i13 : Int32} {i14 : Int32} {i15 : Int32} {i16 : Int32} {i17 : Int32} {i18 : Int32} {k0 : Int32} (h : fW_areCodes_J334  k134 S i1 i2 i3 i4 i5 i9 i10 i11 i12 i13 i14 i15 i16 i17 i18 k0 = some out) : xG K X S 334 [(0, xr K 6 0), (1, .int i1), (2, .int i2), (3, .int i3), (4, .int i4), (5, .int i5), (6, xr K 33 0), (7, xr K 33 1), (8, xr K 33 2), (9, .int i9), (10, .int i10), (11, .int i11), (12, .int i12), (13, .int i13), (14, .int i14), (15, .int i15), (16, .int i16), (17, .int i17), (18, .int i18)] [.int k0] := by
  unfold fW_areCodes_J334 at h
  refine g_aload hX dL_areCodes_334 8 rfl ?_
  refine g_iload hX dL_areCodes_336 17 rfl ?_
  obtain ⟨hbj1, h⟩ := xat_inv h
  refine g_iald (n := 64) hX hW2 rfl hbj1 dL_areCodes_338 ?_
  refine g_iconst (v := (1 : Int32)) hX dL_areCodes_339 (by decide) ?_
  refine g_icmp_ne hX 347 dL_areCodes_340 (by decide) (fun hc => ?_) (fun hc => ?_)
  · have h := xif_f hc h
    refine g_iconst (v := (0 : Int32)) hX dL_areCodes_347 (by decide) ?_
    exact sfW_areCodes_J348 hX hM hR hV hW0 hW1 hW2 hk134 h
  · have h := xif_t hc h
    refine g_iconst (v := (1 : Int32)) hX dL_areCodes_343 (by decide) ?_
    refine g_goto hX 348 dL_areCodes_344 (by decide) ?_
    exact sfW_areCodes_J348 hX hM hR hV hW0 hW1 hW2 hk134 h
set_option maxRecDepth 100000 in
theorem sbW_areCodes_L134 {K0 K : xK} {ρ : xSt → xSt} {X : xX} {out : xR} {rc rs : Nat} (hX : xOK K X RL cL_areCodes 23) (hM : xMN K0 K ρ X (ρ out.1, out.2) (some .boolean) rc rs) (hR : xRm X 3 68) (hV : (6, 0) ∈ xvl K) (hW0 : (33, 0) ∈ xvl K) (hW1 : (33, 1) ∈ xvl K) (hW2 : (33, 2) ∈ xvl K)  {k134 : xSt → Int32 → Int32 → Int32 → Int32 → Int32 → Int32 → Int32 → Int32 → Int32 → Int32 → Int32 → Int32 → Int32 → Int32 → Option xR} (hk134 : ∀ (S : xSt) (i1 : Int32) (i2 : Int32) (i3 : Int32) (i4 : Int32) (i5 : Int32) (i9 : Int32) (i10 : Int32) (i11 : Int32) (i12 : Int32) (i13 : Int32) (i14 : Int32) (i15 : Int32) (i16 : Int32) (i17 : Int32), k134 S i1 i2 i3 i4 i5 i9 i10 i11 i12 i13 i14 i15 i16 i17 = some out → xG K X S 134 [(0, xr K 6 0), (1, .int i1), (2, .int i2), (3, .int i3), (4, .int i4), (5, .int i5), (6, xr K 33 0), (7, xr K 33 1), (8, xr K 33 2), (9, .int i9), (10, .int i10), (11, .int i11), (12, .int i12), (13, .int i13), (14, .int i14), (15, .int i15), (16, .int i16), (17, .int i17)] []) {S : xSt} {i1 : Int32} {i2 : Int32} {i3 : Int32} {i4 : Int32} {i5 : Int32} {i9 : Int32} {i10 : Int32} {i11 : Int32} {i12 : Int32} {i13 : Int32} {i14 : Int32} {i15 : Int32} {i16 : Int32} {i17 : Int32} (h : bW_areCodes_L134   k134 S i1 i2 i3 i4 i5 i9 i10 i11 i12 i13 i14 i15 i16 i17 = some out) : xG K X S 134 [(0, xr K 6 0), (1, .int i1), (2, .int i2), (3, .int i3), (4, .int i4), (5, .int i5), (6, xr K 33 0), (7, xr K 33 1), (8, xr K 33 2), (9, .int i9), (10, .int i10), (11, .int i11), (12, .int i12), (13, .int i13), (14, .int i14), (15, .int i15), (16, .int i16), (17, .int i17)] [] := by
  unfold bW_areCodes_L134 at h
  refine g_iload hX dL_areCodes_134 17 rfl ?_
  refine g_iload_n hX dL_areCodes_136 rfl 1 rfl ?_
  refine g_icmp_ge hX 695 dL_areCodes_137 (by decide) (fun hc => ?_) (fun hc => ?_)
  · have h := xif_t hc h
    exact g_sub [0, 1, 2, 9, 11, 13, 14, 15] (by rfl) (sfW_areCodes_J695 hX hM hR hV hW0 hW1 hW2 h)
  · have h := xif_f hc h
    refine g_iload hX dL_areCodes_140 13 rfl ?_
    refine g_iload hX dL_areCodes_142 11 rfl ?_
    obtain ⟨S1, r2, hcS1, h⟩ := xbI_inv h
    refine g_callS hX hR (fun l => cW_bits (l := l) hX.vc hcS1) xc9_21 rfl ⟨by decide, by decide⟩ rfl rfl (Nat.le_of_ble_eq_true rfl) dL_areCodes_144 ?_
    refine g_iadd hX dL_areCodes_147 ?_
    refine g_istore (lv2 := [(13, .int (i13 + r2)), (0, xr K 6 0), (1, .int i1), (2, .int i2), (3, .int i3), (4, .int i4), (5, .int i5), (6, xr K 33 0), (7, xr K 33 1), (8, xr K 33 2), (9, .int i9), (10, .int i10), (11, .int i11), (12, .int i12), (14, .int i14), (15, .int i15), (16, .int i16), (17, .int i17)]) hX dL_areCodes_148 (by decide) rfl ?_
    refine g_aload_n hX dL_areCodes_150 rfl 1 rfl ?_
    refine g_iload hX dL_areCodes_151 17 rfl ?_
    refine g_iconst (v := (5 : Int32)) hX dL_areCodes_153 (by decide) ?_
    obtain ⟨S3, r4, hcS3, h⟩ := xbI_inv h
    refine g_callV hX hR hV (fun l => c6_ofCode (l := l) hX.vc hV hcS3) xc9_17 rfl ⟨by decide, by decide⟩ rfl rfl (Nat.le_of_ble_eq_true rfl) dL_areCodes_154 ?_
    refine g_iload hX dL_areCodes_157 12 rfl ?_
    refine g_icmp_ne hX 177 dL_areCodes_159 (by decide) (fun hc => ?_) (fun hc => ?_)
    · have h := xif_f hc h
      refine g_iconst (v := (0 : Int32)) hX dL_areCodes_177 (by decide) ?_
      obtain ⟨hz, h⟩ := xne_inv h
      exact g_zretN hX hM hz (by rw [← Option.some.inj h]) dL_areCodes_178
    · have h := xif_t hc h
      refine g_aload_n hX dL_areCodes_162 rfl 1 rfl ?_
      refine g_iload hX dL_areCodes_163 17 rfl ?_
      refine g_iconst (v := (2 : Int32)) hX dL_areCodes_165 (by decide) ?_
      obtain ⟨S5, r6, hcS5, h⟩ := xbI_inv h
      refine g_callV hX hR hV (fun l => c6_ofCode (l := l) hX.vc hV hcS5) xc9_17 rfl ⟨by decide, by decide⟩ rfl rfl (Nat.le_of_ble_eq_true rfl) dL_areCodes_166 ?_
      refine g_iload hX dL_areCodes_169 12 rfl ?_
      obtain ⟨S7, r8, hcS7, h⟩ := xbI_inv h
      refine g_callS hX hR (fun l => cW_bits (l := l) hX.vc hcS7) xc9_21 rfl ⟨by decide, by decide⟩ rfl rfl (Nat.le_of_ble_eq_true rfl) dL_areCodes_171 ?_
      refine g_icmp_eq hX 179 dL_areCodes_174 (by decide) (fun hc => ?_) (fun hc => ?_)
      · have h := xif_t hc h
        refine g_iload hX dL_areCodes_179 16 rfl ?_
        refine g_if_ne hX 190 dL_areCodes_181 (by decide) (fun hc => ?_) (fun hc => ?_)
        · have h := xif_f hc h
          exact g_sub [1, 2, 3, 4, 5, 6, 7, 8, 9, 10, 12, 13, 0, 14, 15, 16, 17] (by rfl) (sfW_areCodes_J190 hX hM hR hV hW0 hW1 hW2 hk134 h)
        · have h := xif_t hc h
          refine g_iload hX dL_areCodes_184 10 rfl ?_
          refine g_iload_n hX dL_areCodes_186 rfl 3 rfl ?_
          refine g_icmp_ne hX 284 dL_areCodes_187 (by decide) (fun hc => ?_) (fun hc => ?_)
          · have h := xif_f hc h
            refine g_aload hX dL_areCodes_284 7 rfl ?_
            refine g_iload hX dL_areCodes_286 17 rfl ?_
            obtain ⟨hbj9, h⟩ := xat_inv h
            refine g_iald (n := 64) hX hW0 rfl hbj9 dL_areCodes_288 ?_
            refine g_istore (lv2 := [(18, .int (S7 33 0 (i17).toNatClampNeg)), (13, .int (i13 + r2)), (0, xr K 6 0), (1, .int i1), (2, .int i2), (3, .int i3), (4, .int i4), (5, .int i5), (6, xr K 33 0), (7, xr K 33 1), (8, xr K 33 2), (9, .int i9), (10, .int i10), (11, .int i11), (12, .int i12), (14, .int i14), (15, .int i15), (16, .int i16), (17, .int i17)]) hX dL_areCodes_289 (by decide) rfl ?_
            refine g_aload hX dL_areCodes_291 9 rfl ?_
            refine g_iload hX dL_areCodes_293 18 rfl ?_
            obtain ⟨hbj10, h⟩ := xat_inv h
            refine g_iald (n := 64) hX hW1 rfl hbj10 dL_areCodes_295 ?_
            refine g_iload hX dL_areCodes_296 11 rfl ?_
            refine g_icmp_ne hX 369 dL_areCodes_298 (by decide) (fun hc => ?_) (fun hc => ?_)
            · have h := xif_f hc h
              refine g_iconst (v := (0 : Int32)) hX dL_areCodes_369 (by decide) ?_
              obtain ⟨hz, h⟩ := xne_inv h
              exact g_zretN hX hM hz (by rw [← Option.some.inj h]) dL_areCodes_370
            · have h := xif_t hc h
              refine g_iload hX dL_areCodes_301 0 rfl ?_
              refine g_bipush (v := (8 : Int32)) hX dL_areCodes_303 (by decide) ?_
              refine g_icmp_eq hX 369 dL_areCodes_305 (by decide) (fun hc => ?_) (fun hc => ?_)
              · have h := xif_t hc h
                refine g_iconst (v := (0 : Int32)) hX dL_areCodes_369 (by decide) ?_
                obtain ⟨hz, h⟩ := xne_inv h
                exact g_zretN hX hM hz (by rw [← Option.some.inj h]) dL_areCodes_370
              · have h := xif_f hc h
                refine g_iload hX dL_areCodes_308 0 rfl ?_
                refine g_bipush (v := (9 : Int32)) hX dL_areCodes_310 (by decide) ?_
                refine g_icmp_eq hX 369 dL_areCodes_312 (by decide) (fun hc => ?_) (fun hc => ?_)
                · have h := xif_t hc h
                  refine g_iconst (v := (0 : Int32)) hX dL_areCodes_369 (by decide) ?_
                  obtain ⟨hz, h⟩ := xne_inv h
                  exact g_zretN hX hM hz (by rw [← Option.some.inj h]) dL_areCodes_370
                · have h := xif_f hc h
                  refine g_iload hX dL_areCodes_315 0 rfl ?_
                  refine g_iload hX dL_areCodes_317 13 rfl ?_
                  refine g_icmp_ge hX 369 dL_areCodes_319 (by decide) (fun hc => ?_) (fun hc => ?_)
                  · have h := xif_t hc h
                    refine g_iconst (v := (0 : Int32)) hX dL_areCodes_369 (by decide) ?_
                    obtain ⟨hz, h⟩ := xne_inv h
                    exact g_zretN hX hM hz (by rw [← Option.some.inj h]) dL_areCodes_370
                  · have h := xif_f hc h
                    refine g_iload hX dL_areCodes_322 0 rfl ?_
                    refine g_bipush (v := (8 : Int32)) hX dL_areCodes_324 (by decide) ?_
                    refine g_icmp_ge hX 333 dL_areCodes_326 (by decide) (fun hc => ?_) (fun hc => ?_)
                    · have h := xif_t hc h
                      refine g_iconst (v := (0 : Int32)) hX dL_areCodes_333 (by decide) ?_
                      exact g_sub [2, 3, 4, 5, 6, 7, 8, 9, 10, 11, 12, 13, 14, 1, 15, 16, 17, 18, 0] (by rfl) (sfW_areCodes_J334 hX hM hR hV hW0 hW1 hW2 hk134 h)
                    · have h := xif_f hc h
                      refine g_iconst (v := (1 : Int32)) hX dL_areCodes_329 (by decide) ?_
                      refine g_goto hX 334 dL_areCodes_330 (by decide) ?_
                      exact g_sub [2, 3, 4, 5, 6, 7, 8, 9, 10, 11, 12, 13, 14, 1, 15, 16, 17, 18, 0] (by rfl) (sfW_areCodes_J334 hX hM hR hV hW0 hW1 hW2 hk134 h)
          · have h := xif_t hc h
            exact g_sub [1, 2, 3, 4, 5, 6, 7, 8, 9, 10, 12, 13, 0, 14, 15, 16, 17] (by rfl) (sfW_areCodes_J190 hX hM hR hV hW0 hW1 hW2 hk134 h)
      · have h := xif_f hc h
        refine g_iconst (v := (0 : Int32)) hX dL_areCodes_177 (by decide) ?_
        obtain ⟨hz, h⟩ := xne_inv h
        exact g_zretN hX hM hz (by rw [← Option.some.inj h]) dL_areCodes_178
theorem sfW_areCodes_L134 {K0 K : xK} {ρ : xSt → xSt} {X : xX} {out : xR} {rc rs : Nat} (hX : xOK K X RL cL_areCodes 23) (hM : xMN K0 K ρ X (ρ out.1, out.2) (some .boolean) rc rs) (hR : xRm X 3 68) (hV : (6, 0) ∈ xvl K) (hW0 : (33, 0) ∈ xvl K) (hW1 : (33, 1) ∈ xvl K) (hW2 : (33, 2) ∈ xvl K)  : ∀ (n : Nat) (S : xSt) (i1 : Int32) (i2 : Int32) (i3 : Int32) (i4 : Int32) (i5 : Int32) (i9 : Int32) (i10 : Int32) (i11 : Int32) (i12 : Int32) (i13 : Int32) (i14 : Int32) (i15 : Int32) (i16 : Int32) (i17 : Int32) (h : fW_areCodes_L134   n S i1 i2 i3 i4 i5 i9 i10 i11 i12 i13 i14 i15 i16 i17 = some out), xG K X S 134 [(0, xr K 6 0), (1, .int i1), (2, .int i2), (3, .int i3), (4, .int i4), (5, .int i5), (6, xr K 33 0), (7, xr K 33 1), (8, xr K 33 2), (9, .int i9), (10, .int i10), (11, .int i11), (12, .int i12), (13, .int i13), (14, .int i14), (15, .int i15), (16, .int i16), (17, .int i17)] [] := by
  intro n
  induction n with
  | zero => intro S i1 i2 i3 i4 i5 i9 i10 i11 i12 i13 i14 i15 i16 i17 h; cases h
  | succ n ih => intro S i1 i2 i3 i4 i5 i9 i10 i11 i12 i13 i14 i15 i16 i17 h; exact sbW_areCodes_L134 hX hM hR hV hW0 hW1 hW2  ih h
set_option maxRecDepth 100000 in
theorem sfW_areCodes_J106 {K0 K : xK} {ρ : xSt → xSt} {X : xX} {out : xR} {rc rs : Nat} (hX : xOK K X RL cL_areCodes 23) (hM : xMN K0 K ρ X (ρ out.1, out.2) (some .boolean) rc rs) (hR : xRm X 3 68) (hV : (6, 0) ∈ xvl K) (hW0 : (33, 0) ∈ xvl K) (hW1 : (33, 1) ∈ xvl K) (hW2 : (33, 2) ∈ xvl K)  {S : xSt} {i1 : Int32} {i2 : Int32} {i3 : Int32} {i4 : Int32} {i5 : Int32} (h : fW_areCodes_J106   S i1 i2 i3 i4 i5 = some out) : xG K X S 106 [(0, xr K 6 0), (1, .int i1), (2, .int i2), (3, .int i3), (4, .int i4), (5, .int i5), (6, xr K 33 0), (7, xr K 33 1), (8, xr K 33 2)] [] := by
  unfold fW_areCodes_J106 at h
  refine g_iconst (v := (0 : Int32)) hX dL_areCodes_106 (by decide) ?_
  refine g_istore (lv2 := [(9, .int (0 : Int32)), (0, xr K 6 0), (1, .int i1), (2, .int i2), (3, .int i3), (4, .int i4), (5, .int i5), (6, xr K 33 0), (7, xr K 33 1), (8, xr K 33 2)]) hX dL_areCodes_107 (by decide) rfl ?_
  refine g_iconst (v := (0 : Int32)) hX dL_areCodes_109 (by decide) ?_
  refine g_istore (lv2 := [(10, .int (0 : Int32)), (9, .int (0 : Int32)), (0, xr K 6 0), (1, .int i1), (2, .int i2), (3, .int i3), (4, .int i4), (5, .int i5), (6, xr K 33 0), (7, xr K 33 1), (8, xr K 33 2)]) hX dL_areCodes_110 (by decide) rfl ?_
  refine g_bipush (v := (10 : Int32)) hX dL_areCodes_112 (by decide) ?_
  refine g_istore (lv2 := [(11, .int (10 : Int32)), (10, .int (0 : Int32)), (9, .int (0 : Int32)), (0, xr K 6 0), (1, .int i1), (2, .int i2), (3, .int i3), (4, .int i4), (5, .int i5), (6, xr K 33 0), (7, xr K 33 1), (8, xr K 33 2)]) hX dL_areCodes_114 (by decide) rfl ?_
  refine g_iconst (v := (0 : Int32)) hX dL_areCodes_116 (by decide) ?_
  refine g_istore (lv2 := [(12, .int (0 : Int32)), (11, .int (10 : Int32)), (10, .int (0 : Int32)), (9, .int (0 : Int32)), (0, xr K 6 0), (1, .int i1), (2, .int i2), (3, .int i3), (4, .int i4), (5, .int i5), (6, xr K 33 0), (7, xr K 33 1), (8, xr K 33 2)]) hX dL_areCodes_117 (by decide) rfl ?_
  refine g_iconst (v := (0 : Int32)) hX dL_areCodes_119 (by decide) ?_
  refine g_istore (lv2 := [(13, .int (0 : Int32)), (12, .int (0 : Int32)), (11, .int (10 : Int32)), (10, .int (0 : Int32)), (9, .int (0 : Int32)), (0, xr K 6 0), (1, .int i1), (2, .int i2), (3, .int i3), (4, .int i4), (5, .int i5), (6, xr K 33 0), (7, xr K 33 1), (8, xr K 33 2)]) hX dL_areCodes_120 (by decide) rfl ?_
  refine g_iconst (v := (0 : Int32)) hX dL_areCodes_122 (by decide) ?_
  refine g_istore (lv2 := [(14, .int (0 : Int32)), (13, .int (0 : Int32)), (12, .int (0 : Int32)), (11, .int (10 : Int32)), (10, .int (0 : Int32)), (9, .int (0 : Int32)), (0, xr K 6 0), (1, .int i1), (2, .int i2), (3, .int i3), (4, .int i4), (5, .int i5), (6, xr K 33 0), (7, xr K 33 1), (8, xr K 33 2)]) hX dL_areCodes_123 (by decide) rfl ?_
  refine g_iconst (v := (0 : Int32)) hX dL_areCodes_125 (by decide) ?_
  refine g_istore (lv2 := [(15, .int (0 : Int32)), (14, .int (0 : Int32)), (13, .int (0 : Int32)), (12, .int (0 : Int32)), (11, .int (10 : Int32)), (10, .int (0 : Int32)), (9, .int (0 : Int32)), (0, xr K 6 0), (1, .int i1), (2, .int i2), (3, .int i3), (4, .int i4), (5, .int i5), (6, xr K 33 0), (7, xr K 33 1), (8, xr K 33 2)]) hX dL_areCodes_126 (by decide) rfl ?_
  refine g_iconst (v := (0 : Int32)) hX dL_areCodes_128 (by decide) ?_
  refine g_istore (lv2 := [(16, .int (0 : Int32)), (15, .int (0 : Int32)), (14, .int (0 : Int32)), (13, .int (0 : Int32)), (12, .int (0 : Int32)), (11, .int (10 : Int32)), (10, .int (0 : Int32)), (9, .int (0 : Int32)), (0, xr K 6 0), (1, .int i1), (2, .int i2), (3, .int i3), (4, .int i4), (5, .int i5), (6, xr K 33 0), (7, xr K 33 1), (8, xr K 33 2)]) hX dL_areCodes_129 (by decide) rfl ?_
  refine g_iconst (v := (0 : Int32)) hX dL_areCodes_131 (by decide) ?_
  refine g_istore (lv2 := [(17, .int (0 : Int32)), (16, .int (0 : Int32)), (15, .int (0 : Int32)), (14, .int (0 : Int32)), (13, .int (0 : Int32)), (12, .int (0 : Int32)), (11, .int (10 : Int32)), (10, .int (0 : Int32)), (9, .int (0 : Int32)), (0, xr K 6 0), (1, .int i1), (2, .int i2), (3, .int i3), (4, .int i4), (5, .int i5), (6, xr K 33 0), (7, xr K 33 1), (8, xr K 33 2)]) hX dL_areCodes_132 (by decide) rfl ?_
  exact g_sub [9, 10, 11, 12, 13, 14, 15, 16, 17, 8, 7, 6, 5, 4, 3, 2, 1, 0] (by rfl) (sfW_areCodes_L134 hX hM hR hV hW0 hW1 hW2 _ _ _ _ _ _ _ _ _ _ _ _ _ _ _ _ h)
set_option maxRecDepth 100000 in
theorem sbW_areCodes_L58 {K0 K : xK} {ρ : xSt → xSt} {X : xX} {out : xR} {rc rs : Nat} (hX : xOK K X RL cL_areCodes 23) (hM : xMN K0 K ρ X (ρ out.1, out.2) (some .boolean) rc rs) (hR : xRm X 3 68) (hV : (6, 0) ∈ xvl K) (hW0 : (33, 0) ∈ xvl K) (hW1 : (33, 1) ∈ xvl K) (hW2 : (33, 2) ∈ xvl K)  {k58 : xSt → Int32 → Int32 → Int32 → Int32 → Int32 → Int32 → Option xR} (hk58 : ∀ (S : xSt) (i1 : Int32) (i2 : Int32) (i3 : Int32) (i4 : Int32) (i5 : Int32) (i9 : Int32), k58 S i1 i2 i3 i4 i5 i9 = some out → xG K X S 58 [(0, xr K 6 0), (1, .int i1), (2, .int i2), (3, .int i3), (4, .int i4), (5, .int i5), (6, xr K 33 0), (7, xr K 33 1), (8, xr K 33 2), (9, .int i9)] []) {S : xSt} {i1 : Int32} {i2 : Int32} {i3 : Int32} {i4 : Int32} {i5 : Int32} {i9 : Int32} (h : bW_areCodes_L58   k58 S i1 i2 i3 i4 i5 i9 = some out) : xG K X S 58 [(0, xr K 6 0), (1, .int i1), (2, .int i2), (3, .int i3), (4, .int i4), (5, .int i5), (6, xr K 33 0), (7, xr K 33 1), (8, xr K 33 2), (9, .int i9)] [] := by
  unfold bW_areCodes_L58 at h
  refine g_iload hX dL_areCodes_58 9 rfl ?_
  refine g_iload_n hX dL_areCodes_60 rfl 1 rfl ?_
  refine g_icmp_ge hX 106 dL_areCodes_61 (by decide) (fun hc => ?_) (fun hc => ?_)
  · have h := xif_t hc h
    exact g_sub [0, 1, 2, 3, 4, 5, 6, 7, 8] (by rfl) (sfW_areCodes_J106 hX hM hR hV hW0 hW1 hW2 h)
  · have h := xif_f hc h
    refine g_aload hX dL_areCodes_64 6 rfl ?_
    refine g_iload hX dL_areCodes_66 9 rfl ?_
    refine g_aload_n hX dL_areCodes_68 rfl 0 rfl ?_
    refine g_iload hX dL_areCodes_69 9 rfl ?_
    refine g_iconst (v := (0 : Int32)) hX dL_areCodes_71 (by decide) ?_
    obtain ⟨S1, r2, hcS1, h⟩ := xbI_inv h
    refine g_callV hX hR hV (fun l => c6_ofCode (l := l) hX.vc hV hcS1) xc9_17 rfl ⟨by decide, by decide⟩ rfl rfl (Nat.le_of_ble_eq_true rfl) dL_areCodes_72 ?_
    obtain ⟨hbj3, h⟩ := xat_inv h
    obtain ⟨S4, eS4, h⟩ := xlet_inv h
    refine g_iast (n := 64) hX hW0 (fun _ => rfl) hbj3 dL_areCodes_75 eS4 ?_
    refine g_aload hX dL_areCodes_76 7 rfl ?_
    refine g_iload hX dL_areCodes_78 9 rfl ?_
    refine g_aload_n hX dL_areCodes_80 rfl 0 rfl ?_
    refine g_iload hX dL_areCodes_81 9 rfl ?_
    refine g_iconst (v := (3 : Int32)) hX dL_areCodes_83 (by decide) ?_
    obtain ⟨S5, r6, hcS5, h⟩ := xbI_inv h
    refine g_callV hX hR hV (fun l => c6_ofCode (l := l) hX.vc hV hcS5) xc9_17 rfl ⟨by decide, by decide⟩ rfl rfl (Nat.le_of_ble_eq_true rfl) dL_areCodes_84 ?_
    obtain ⟨hbj7, h⟩ := xat_inv h
    obtain ⟨S8, eS8, h⟩ := xlet_inv h
    refine g_iast (n := 64) hX hW1 (fun _ => rfl) hbj7 dL_areCodes_87 eS8 ?_
    refine g_aload hX dL_areCodes_88 8 rfl ?_
    refine g_iload hX dL_areCodes_90 9 rfl ?_
    refine g_aload_n hX dL_areCodes_92 rfl 0 rfl ?_
    refine g_iload hX dL_areCodes_93 9 rfl ?_
    refine g_iconst (v := (4 : Int32)) hX dL_areCodes_95 (by decide) ?_
    obtain ⟨S9, r10, hcS9, h⟩ := xbI_inv h
    refine g_callV hX hR hV (fun l => c6_ofCode (l := l) hX.vc hV hcS9) xc9_17 rfl ⟨by decide, by decide⟩ rfl rfl (Nat.le_of_ble_eq_true rfl) dL_areCodes_96 ?_
    obtain ⟨hbj11, h⟩ := xat_inv h
    obtain ⟨S12, eS12, h⟩ := xlet_inv h
    refine g_iast (n := 64) hX hW2 (fun _ => rfl) hbj11 dL_areCodes_99 eS12 ?_
    refine g_iinc (v := (i9 + (1 : Int32))) (lv2 := [(9, .int (i9 + (1 : Int32))), (0, xr K 6 0), (1, .int i1), (2, .int i2), (3, .int i3), (4, .int i4), (5, .int i5), (6, xr K 33 0), (7, xr K 33 1), (8, xr K 33 2)]) hX dL_areCodes_100 9 rfl rfl (by decide) rfl ?_
    refine g_goto hX 58 dL_areCodes_103 (by decide) ?_
    exact g_sub [1, 2, 3, 4, 5, 6, 7, 8, 9, 0] (by rfl) (hk58 _ _ _ _ _ _ _ h)
theorem sfW_areCodes_L58 {K0 K : xK} {ρ : xSt → xSt} {X : xX} {out : xR} {rc rs : Nat} (hX : xOK K X RL cL_areCodes 23) (hM : xMN K0 K ρ X (ρ out.1, out.2) (some .boolean) rc rs) (hR : xRm X 3 68) (hV : (6, 0) ∈ xvl K) (hW0 : (33, 0) ∈ xvl K) (hW1 : (33, 1) ∈ xvl K) (hW2 : (33, 2) ∈ xvl K)  : ∀ (n : Nat) (S : xSt) (i1 : Int32) (i2 : Int32) (i3 : Int32) (i4 : Int32) (i5 : Int32) (i9 : Int32) (h : fW_areCodes_L58   n S i1 i2 i3 i4 i5 i9 = some out), xG K X S 58 [(0, xr K 6 0), (1, .int i1), (2, .int i2), (3, .int i3), (4, .int i4), (5, .int i5), (6, xr K 33 0), (7, xr K 33 1), (8, xr K 33 2), (9, .int i9)] [] := by
  intro n
  induction n with
  | zero => intro S i1 i2 i3 i4 i5 i9 h; cases h
  | succ n ih => intro S i1 i2 i3 i4 i5 i9 h; exact sbW_areCodes_L58 hX hM hR hV hW0 hW1 hW2  ih h
set_option maxRecDepth 100000 in
theorem cW_areCodes {l : Launch} {K : xK} (hvc : xVC (xvl K)) (hV : (6, 0) ∈ xvl K) (hN : ∀ o, (33, o) ∉ xvl K) {S : xSt} {out : xR} (h : hW_areCodes S = some out) : xMetN l K yL_areCodes cL_areCodes 23 (some .boolean) 3 68 3 192 S [xr K 6 0] out := by
  obtain ⟨out, h9, rfl⟩ := Option.map_eq_some_iff.mp h
  refine xMetN_of RL (xrst S) (by decide +kernel) rfl hvc (fun S9 U9 H9 w => xrst_Wd hN S S9 w) (Nat.le_of_ble_eq_true rfl) ?_
  intro X hX hM hR
  show xG K X S 0 [(0, xr K 6 0)] []
  have h := h9
  unfold fW_areCodes at h
  refine g_aload_n hX dL_areCodes_0 rfl 0 rfl ?_
  refine g_iconst (v := (1 : Int32)) hX dL_areCodes_1 (by decide) ?_
  obtain ⟨S1, r2, hcS1, h⟩ := xbI_inv h
  refine g_callV hX hR hV (fun l => c6_count (l := l) hX.vc hV hcS1) xc9_8 rfl ⟨by decide, by decide⟩ rfl rfl (Nat.le_of_ble_eq_true rfl) dL_areCodes_2 ?_
  refine g_istore_n (lv2 := [(1, .int r2), (0, xr K 6 0)]) hX dL_areCodes_5 rfl (by decide) rfl ?_
  refine g_aload_n hX dL_areCodes_6 rfl 1 rfl ?_
  refine g_iconst (v := (0 : Int32)) hX dL_areCodes_7 (by decide) ?_
  obtain ⟨S3, r4, hcS3, h⟩ := xbI_inv h
  refine g_callV hX hR hV (fun l => c6_count (l := l) hX.vc hV hcS3) xc9_8 rfl ⟨by decide, by decide⟩ rfl rfl (Nat.le_of_ble_eq_true rfl) dL_areCodes_8 ?_
  refine g_istore_n (lv2 := [(2, .int r4), (1, .int r2), (0, xr K 6 0)]) hX dL_areCodes_11 rfl (by decide) rfl ?_
  refine g_iconst (v := (1 : Int32)) hX dL_areCodes_12 (by decide) ?_
  refine g_aload_n hX dL_areCodes_13 rfl 2 rfl ?_
  refine g_bipush (v := (9 : Int32)) hX dL_areCodes_14 (by decide) ?_
  obtain ⟨S5, r6, hcS5, h⟩ := xbI_inv h
  refine g_callV hX hR hV (fun l => c6_count (l := l) hX.vc hV hcS5) xc9_8 rfl ⟨by decide, by decide⟩ rfl rfl (Nat.le_of_ble_eq_true rfl) dL_areCodes_16 ?_
  refine g_ishl hX dL_areCodes_19 ?_
  refine g_istore_n (lv2 := [(3, .int ((1 : Int32) <<< (r6 &&& 31))), (2, .int r4), (1, .int r2), (0, xr K 6 0)]) hX dL_areCodes_20 rfl (by decide) rfl ?_
  refine g_aload_n hX dL_areCodes_21 rfl 3 rfl ?_
  refine g_bipush (v := (10 : Int32)) hX dL_areCodes_22 (by decide) ?_
  obtain ⟨S7, r8, hcS7, h⟩ := xbI_inv h
  refine g_callV hX hR hV (fun l => c6_count (l := l) hX.vc hV hcS7) xc9_8 rfl ⟨by decide, by decide⟩ rfl rfl (Nat.le_of_ble_eq_true rfl) dL_areCodes_24 ?_
  refine g_istore (lv2 := [(4, .int r8), (3, .int ((1 : Int32) <<< (r6 &&& 31))), (2, .int r4), (1, .int r2), (0, xr K 6 0)]) hX dL_areCodes_27 (by decide) rfl ?_
  refine g_aload_n hX dL_areCodes_29 rfl 4 rfl ?_
  refine g_bipush (v := (11 : Int32)) hX dL_areCodes_30 (by decide) ?_
  obtain ⟨S9, r10, hcS9, h⟩ := xbI_inv h
  refine g_callV hX hR hV (fun l => c6_count (l := l) hX.vc hV hcS9) xc9_8 rfl ⟨by decide, by decide⟩ rfl rfl (Nat.le_of_ble_eq_true rfl) dL_areCodes_32 ?_
  refine g_istore (lv2 := [(5, .int r10), (4, .int r8), (3, .int ((1 : Int32) <<< (r6 &&& 31))), (2, .int r4), (1, .int r2), (0, xr K 6 0)]) hX dL_areCodes_35 (by decide) rfl ?_
  refine g_bipush (v := (64 : Int32)) hX dL_areCodes_37 (by decide) ?_
  obtain ⟨S11, eS11, h⟩ := xlet_inv h
  refine g_newa (j := 0) 2 128 hX hM hR (hN 0) (by decide) (by decide) xarI eS11 dL_areCodes_39 (fun K1 hE hX hM hR => ?_)
  rw [show xr K 6 0 = xr K1 6 0 from xEx_r hE (by decide)]
  have hV := xEx_in hE hV
  have hW0 := xEx_new hE
  have hN1 := xEx_no hE (hN 1) (by decide)
  have hN2 := xEx_no hE (hN 2) (by decide)
  refine g_astore (lv2 := [(6, xr K1 33 0), (5, .int r10), (4, .int r8), (3, .int ((1 : Int32) <<< (r6 &&& 31))), (2, .int r4), (1, .int r2), (0, xr K1 6 0)]) hX dL_areCodes_41 (by decide) rfl ?_
  refine g_bipush (v := (64 : Int32)) hX dL_areCodes_43 (by decide) ?_
  obtain ⟨S12, eS12, h⟩ := xlet_inv h
  refine g_newa (j := 1) 1 64 hX hM hR hN1 (by decide) (by decide) xarI eS12 dL_areCodes_45 (fun K2 hE hX hM hR => ?_)
  rw [show xr K1 33 0 = xr K2 33 0 from xEx_r hE (by decide)]
  rw [show xr K1 6 0 = xr K2 6 0 from xEx_r hE (by decide)]
  have hV := xEx_in hE hV
  have hW0 := xEx_in hE hW0
  have hW1 := xEx_new hE
  have hN2 := xEx_no hE hN2 (by decide)
  refine g_astore (lv2 := [(7, xr K2 33 1), (6, xr K2 33 0), (5, .int r10), (4, .int r8), (3, .int ((1 : Int32) <<< (r6 &&& 31))), (2, .int r4), (1, .int r2), (0, xr K2 6 0)]) hX dL_areCodes_47 (by decide) rfl ?_
  refine g_bipush (v := (64 : Int32)) hX dL_areCodes_49 (by decide) ?_
  obtain ⟨S13, eS13, h⟩ := xlet_inv h
  refine g_newa (j := 2) 0 0 hX hM hR hN2 (by decide) (by decide) xarI eS13 dL_areCodes_51 (fun K3 hE hX hM hR => ?_)
  rw [show xr K2 33 1 = xr K3 33 1 from xEx_r hE (by decide)]
  rw [show xr K2 33 0 = xr K3 33 0 from xEx_r hE (by decide)]
  rw [show xr K2 6 0 = xr K3 6 0 from xEx_r hE (by decide)]
  have hV := xEx_in hE hV
  have hW0 := xEx_in hE hW0
  have hW1 := xEx_in hE hW1
  have hW2 := xEx_new hE
  refine g_astore (lv2 := [(8, xr K3 33 2), (7, xr K3 33 1), (6, xr K3 33 0), (5, .int r10), (4, .int r8), (3, .int ((1 : Int32) <<< (r6 &&& 31))), (2, .int r4), (1, .int r2), (0, xr K3 6 0)]) hX dL_areCodes_53 (by decide) rfl ?_
  refine g_iconst (v := (0 : Int32)) hX dL_areCodes_55 (by decide) ?_
  refine g_istore (lv2 := [(9, .int (0 : Int32)), (8, xr K3 33 2), (7, xr K3 33 1), (6, xr K3 33 0), (5, .int r10), (4, .int r8), (3, .int ((1 : Int32) <<< (r6 &&& 31))), (2, .int r4), (1, .int r2), (0, xr K3 6 0)]) hX dL_areCodes_56 (by decide) rfl ?_
  exact g_sub [9, 8, 7, 6, 5, 4, 3, 2, 1, 0] (by rfl) (sfW_areCodes_L58 hX hM hR hV hW0 hW1 hW2 _ _ _ _ _ _ _ _ h)
set_option maxRecDepth 100000 in
theorem sfW_areEntries_J191 {K : xK} {X : xX} {out : xR}  (hX : xOK K X RL cL_areEntries 5) (hM : xM K X out (some .boolean)) (hR : xRm X 2 43) (hV : (6, 0) ∈ xvl K)  {S : xSt}  (h : fW_areEntries_J191   S  = some out) : xG K X S 191 [(0, xr K 6 0)] [] := by
  unfold fW_areEntries_J191 at h
  refine g_aload_n hX dL_areEntries_191 rfl 0 rfl ?_
  refine g_aload_n hX dL_areEntries_192 rfl 0 rfl ?_
  refine g_iconst (v := (4 : Int32)) hX dL_areEntries_193 (by decide) ?_
  obtain ⟨S1, r2, hcS1, h⟩ := xbI_inv h
  refine g_callV hX hR hV (fun l => c6_count (l := l) hX.vc hV hcS1) xc9_8 rfl ⟨by decide, by decide⟩ rfl rfl (Nat.le_of_ble_eq_true rfl) dL_areEntries_194 ?_
  refine g_iconst (v := (0 : Int32)) hX dL_areEntries_197 (by decide) ?_
  obtain ⟨S3, r4, hcS3, h⟩ := xbI_inv h
  refine g_callV hX hR hV (fun l => c6_entry (l := l) hX.vc hV hcS3) xc9_30 rfl ⟨by decide, by decide⟩ rfl rfl (Nat.le_of_ble_eq_true rfl) dL_areEntries_198 ?_
  refine g_iconst (v := (-1 : Int32)) hX dL_areEntries_201 (by decide) ?_
  refine g_icmp_ne hX 209 dL_areEntries_202 (by decide) (fun hc => ?_) (fun hc => ?_)
  · have h := xif_f hc h
    refine g_iconst (v := (0 : Int32)) hX dL_areEntries_209 (by decide) ?_
    obtain ⟨hz, h⟩ := xne_inv h
    exact g_zret hX hM hz (Option.some.inj h) dL_areEntries_210
  · have h := xif_t hc h
    refine g_iconst (v := (1 : Int32)) hX dL_areEntries_205 (by decide) ?_
    refine g_goto hX 210 dL_areEntries_206 (by decide) ?_
    obtain ⟨hz, h⟩ := xne_inv h
    exact g_zret hX hM hz (Option.some.inj h) dL_areEntries_210
set_option maxRecDepth 100000 in
theorem sfW_areEntries_J185 {K : xK} {X : xX} {out : xR}  (hX : xOK K X RL cL_areEntries 5) (hM : xM K X out (some .boolean)) (hR : xRm X 2 43) (hV : (6, 0) ∈ xvl K) {k42 : xSt → Int32 → Int32 → Option xR} (hk42 : ∀ (S : xSt) (i2 : Int32) (i3 : Int32), k42 S i2 i3 = some out → xG K X S 42 [(0, xr K 6 0), (2, .int i2), (3, .int i3)] []) {S : xSt} {i2 : Int32} {i3 : Int32} (h : fW_areEntries_J185  k42 S i2 i3 = some out) : xG K X S 185 [(0, xr K 6 0), (2, .int i2), (3, .int i3)] [] := by
  unfold fW_areEntries_J185 at h
  refine g_iinc (v := (i3 + (1 : Int32))) (lv2 := [(3, .int (i3 + (1 : Int32))), (0, xr K 6 0), (2, .int i2)]) hX dL_areEntries_185 2 rfl rfl (by decide) rfl ?_
  refine g_goto hX 42 dL_areEntries_188 (by decide) ?_
  exact g_sub [1, 2, 0] (by rfl) (hk42 _ _ _ h)
set_option maxRecDepth 100000 in
theorem sfW_areEntries_J113 {K : xK} {X : xX} {out : xR}  (hX : xOK K X RL cL_areEntries 5) (hM : xM K X out (some .boolean)) (hR : xRm X 2 43) (hV : (6, 0) ∈ xvl K)  {S : xSt}  (h : fW_areEntries_J113   S  = some out) : xG K X S 113 [] [] := by
  unfold fW_areEntries_J113 at h
  refine g_goto hX 183 dL_areEntries_113 (by decide) ?_
  refine g_iconst (v := (0 : Int32)) hX dL_areEntries_183 (by decide) ?_
  obtain ⟨hz, h⟩ := xne_inv h
  exact g_zret hX hM hz (Option.some.inj h) dL_areEntries_184
set_option maxRecDepth 100000 in
theorem sfW_areEntries_J99 {K : xK} {X : xX} {out : xR}  (hX : xOK K X RL cL_areEntries 5) (hM : xM K X out (some .boolean)) (hR : xRm X 2 43) (hV : (6, 0) ∈ xvl K) {k42 : xSt → Int32 → Int32 → Option xR} (hk42 : ∀ (S : xSt) (i2 : Int32) (i3 : Int32), k42 S i2 i3 = some out → xG K X S 42 [(0, xr K 6 0), (2, .int i2), (3, .int i3)] []) {S : xSt} {i2 : Int32} {i3 : Int32} {k0 : Int32} {k1 : Int32} (h : fW_areEntries_J99  k42 S i2 i3 k0 k1 = some out) : xG K X S 99 [(0, xr K 6 0), (2, .int i2), (3, .int i3)] [.int k0, .int k1] := by
  unfold fW_areEntries_J99 at h
  refine g_icmp_ne hX 183 dL_areEntries_99 (by decide) (fun hc => ?_) (fun hc => ?_)
  · have h := xif_f hc h
    refine g_iconst (v := (0 : Int32)) hX dL_areEntries_183 (by decide) ?_
    obtain ⟨hz, h⟩ := xne_inv h
    exact g_zret hX hM hz (Option.some.inj h) dL_areEntries_184
  · have h := xif_t hc h
    refine g_aload_n hX dL_areEntries_102 rfl 0 rfl ?_
    refine g_iload_n hX dL_areEntries_103 rfl 2 rfl ?_
    refine g_iconst (v := (2 : Int32)) hX dL_areEntries_104 (by decide) ?_
    obtain ⟨S1, r2, hcS1, h⟩ := xbI_inv h
    refine g_callV hX hR hV (fun l => c6_entry (l := l) hX.vc hV hcS1) xc9_30 rfl ⟨by decide, by decide⟩ rfl rfl (Nat.le_of_ble_eq_true rfl) dL_areEntries_105 ?_
    refine g_bipush (v := (-6 : Int32)) hX dL_areEntries_108 (by decide) ?_
    refine g_icmp_eq hX 185 dL_areEntries_110 (by decide) (fun hc => ?_) (fun hc => ?_)
    · have h := xif_t hc h
      exact sfW_areEntries_J185 hX hM hR hV hk42 h
    · have h := xif_f hc h
      exact g_sub [] (by rfl) (sfW_areEntries_J113 hX hM hR hV h)
set_option maxRecDepth 100000 in
theorem sfW_areEntries_J78 {K : xK} {X : xX} {out : xR}  (hX : xOK K X RL cL_areEntries 5) (hM : xM K X out (some .boolean)) (hR : xRm X 2 43) (hV : (6, 0) ∈ xvl K) {k42 : xSt → Int32 → Int32 → Option xR} (hk42 : ∀ (S : xSt) (i2 : Int32) (i3 : Int32), k42 S i2 i3 = some out → xG K X S 42 [(0, xr K 6 0), (2, .int i2), (3, .int i3)] []) {S : xSt} {i2 : Int32} {i3 : Int32} {k0 : Int32} {k1 : Int32} (h : fW_areEntries_J78  k42 S i2 i3 k0 k1 = some out) : xG K X S 78 [(0, xr K 6 0), (2, .int i2), (3, .int i3)] [.int k0, .int k1] := by
  unfold fW_areEntries_J78 at h
  refine g_icmp_ne hX 183 dL_areEntries_78 (by decide) (fun hc => ?_) (fun hc => ?_)
  · have h := xif_f hc h
    refine g_iconst (v := (0 : Int32)) hX dL_areEntries_183 (by decide) ?_
    obtain ⟨hz, h⟩ := xne_inv h
    exact g_zret hX hM hz (Option.some.inj h) dL_areEntries_184
  · have h := xif_t hc h
    refine g_aload_n hX dL_areEntries_81 rfl 0 rfl ?_
    refine g_iload_n hX dL_areEntries_82 rfl 2 rfl ?_
    refine g_iconst (v := (1 : Int32)) hX dL_areEntries_83 (by decide) ?_
    obtain ⟨S1, r2, hcS1, h⟩ := xbI_inv h
    refine g_callV hX hR hV (fun l => c6_entry (l := l) hX.vc hV hcS1) xc9_30 rfl ⟨by decide, by decide⟩ rfl rfl (Nat.le_of_ble_eq_true rfl) dL_areEntries_84 ?_
    refine g_iload_n hX dL_areEntries_87 rfl 2 rfl ?_
    refine g_bipush (v := (8 : Int32)) hX dL_areEntries_88 (by decide) ?_
    refine g_icmp_ge hX 97 dL_areEntries_90 (by decide) (fun hc => ?_) (fun hc => ?_)
    · have h := xif_t hc h
      refine g_bipush (v := (-6 : Int32)) hX dL_areEntries_97 (by decide) ?_
      exact sfW_areEntries_J99 hX hM hR hV hk42 h
    · have h := xif_f hc h
      refine g_iload_n hX dL_areEntries_93 rfl 2 rfl ?_
      refine g_goto hX 99 dL_areEntries_94 (by decide) ?_
      exact sfW_areEntries_J99 hX hM hR hV hk42 h
set_option maxRecDepth 100000 in
theorem sbW_areEntries_L42 {K : xK} {X : xX} {out : xR}  (hX : xOK K X RL cL_areEntries 5) (hM : xM K X out (some .boolean)) (hR : xRm X 2 43) (hV : (6, 0) ∈ xvl K)  {k42 : xSt → Int32 → Int32 → Option xR} (hk42 : ∀ (S : xSt) (i2 : Int32) (i3 : Int32), k42 S i2 i3 = some out → xG K X S 42 [(0, xr K 6 0), (2, .int i2), (3, .int i3)] []) {S : xSt} {i2 : Int32} {i3 : Int32} (h : bW_areEntries_L42   k42 S i2 i3 = some out) : xG K X S 42 [(0, xr K 6 0), (2, .int i2), (3, .int i3)] [] := by
  unfold bW_areEntries_L42 at h
  refine g_iload_n hX dL_areEntries_42 rfl 2 rfl ?_
  refine g_aload_n hX dL_areEntries_43 rfl 0 rfl ?_
  refine g_iconst (v := (4 : Int32)) hX dL_areEntries_44 (by decide) ?_
  obtain ⟨S1, r2, hcS1, h⟩ := xbI_inv h
  refine g_callV hX hR hV (fun l => c6_count (l := l) hX.vc hV hcS1) xc9_8 rfl ⟨by decide, by decide⟩ rfl rfl (Nat.le_of_ble_eq_true rfl) dL_areEntries_45 ?_
  refine g_icmp_ge hX 191 dL_areEntries_48 (by decide) (fun hc => ?_) (fun hc => ?_)
  · have h := xif_t hc h
    exact g_sub [0] (by rfl) (sfW_areEntries_J191 hX hM hR hV h)
  · have h := xif_f hc h
    refine g_aload_n hX dL_areEntries_51 rfl 0 rfl ?_
    refine g_iload_n hX dL_areEntries_52 rfl 2 rfl ?_
    refine g_iconst (v := (0 : Int32)) hX dL_areEntries_53 (by decide) ?_
    obtain ⟨S3, r4, hcS3, h⟩ := xbI_inv h
    refine g_callV hX hR hV (fun l => c6_entry (l := l) hX.vc hV hcS3) xc9_30 rfl ⟨by decide, by decide⟩ rfl rfl (Nat.le_of_ble_eq_true rfl) dL_areEntries_54 ?_
    refine g_istore (lv2 := [(4, .int r4), (0, xr K 6 0), (2, .int i2), (3, .int i3)]) hX dL_areEntries_57 (by decide) rfl ?_
    refine g_iload_n hX dL_areEntries_59 rfl 3 rfl ?_
    refine g_bipush (v := (10 : Int32)) hX dL_areEntries_60 (by decide) ?_
    refine g_icmp_ge hX 116 dL_areEntries_62 (by decide) (fun hc => ?_) (fun hc => ?_)
    · have h := xif_t hc h
      refine g_iload hX dL_areEntries_116 0 rfl ?_
      refine g_aload_n hX dL_areEntries_118 rfl 1 rfl ?_
      refine g_iload_n hX dL_areEntries_119 rfl 2 rfl ?_
      refine g_iload_n hX dL_areEntries_120 rfl 3 rfl ?_
      refine g_iadd hX dL_areEntries_121 ?_
      refine g_bipush (v := (10 : Int32)) hX dL_areEntries_122 (by decide) ?_
      refine g_isub hX dL_areEntries_124 ?_
      refine g_iconst (v := (4 : Int32)) hX dL_areEntries_125 (by decide) ?_
      obtain ⟨S5, r6, hcS5, h⟩ := xbI_inv h
      refine g_callV hX hR hV (fun l => c6_ofCode (l := l) hX.vc hV hcS5) xc9_17 rfl ⟨by decide, by decide⟩ rfl rfl (Nat.le_of_ble_eq_true rfl) dL_areEntries_126 ?_
      refine g_iconst (v := (1 : Int32)) hX dL_areEntries_129 (by decide) ?_
      refine g_iadd hX dL_areEntries_130 ?_
      refine g_icmp_ne hX 183 dL_areEntries_131 (by decide) (fun hc => ?_) (fun hc => ?_)
      · have h := xif_f hc h
        refine g_iconst (v := (0 : Int32)) hX dL_areEntries_183 (by decide) ?_
        obtain ⟨hz, h⟩ := xne_inv h
        exact g_zret hX hM hz (Option.some.inj h) dL_areEntries_184
      · have h := xif_t hc h
        refine g_aload_n hX dL_areEntries_134 rfl 1 rfl ?_
        refine g_iload_n hX dL_areEntries_135 rfl 3 rfl ?_
        refine g_iconst (v := (2 : Int32)) hX dL_areEntries_136 (by decide) ?_
        obtain ⟨S7, r8, hcS7, h⟩ := xbI_inv h
        refine g_callV hX hR hV (fun l => c6_entry (l := l) hX.vc hV hcS7) xc9_30 rfl ⟨by decide, by decide⟩ rfl rfl (Nat.le_of_ble_eq_true rfl) dL_areEntries_137 ?_
        refine g_aload_n hX dL_areEntries_140 rfl 1 rfl ?_
        refine g_iload_n hX dL_areEntries_141 rfl 2 rfl ?_
        refine g_iload_n hX dL_areEntries_142 rfl 3 rfl ?_
        refine g_iadd hX dL_areEntries_143 ?_
        refine g_bipush (v := (10 : Int32)) hX dL_areEntries_144 (by decide) ?_
        refine g_isub hX dL_areEntries_146 ?_
        refine g_iconst (v := (0 : Int32)) hX dL_areEntries_147 (by decide) ?_
        obtain ⟨S9, r10, hcS9, h⟩ := xbI_inv h
        refine g_callV hX hR hV (fun l => c6_ofCode (l := l) hX.vc hV hcS9) xc9_17 rfl ⟨by decide, by decide⟩ rfl rfl (Nat.le_of_ble_eq_true rfl) dL_areEntries_148 ?_
        refine g_icmp_ne hX 183 dL_areEntries_151 (by decide) (fun hc => ?_) (fun hc => ?_)
        · have h := xif_f hc h
          refine g_iconst (v := (0 : Int32)) hX dL_areEntries_183 (by decide) ?_
          obtain ⟨hz, h⟩ := xne_inv h
          exact g_zret hX hM hz (Option.some.inj h) dL_areEntries_184
        · have h := xif_t hc h
          refine g_aload_n hX dL_areEntries_154 rfl 1 rfl ?_
          refine g_iload_n hX dL_areEntries_155 rfl 3 rfl ?_
          refine g_iconst (v := (1 : Int32)) hX dL_areEntries_156 (by decide) ?_
          obtain ⟨S11, r12, hcS11, h⟩ := xbI_inv h
          refine g_callV hX hR hV (fun l => c6_entry (l := l) hX.vc hV hcS11) xc9_30 rfl ⟨by decide, by decide⟩ rfl rfl (Nat.le_of_ble_eq_true rfl) dL_areEntries_157 ?_
          refine g_aload_n hX dL_areEntries_160 rfl 1 rfl ?_
          refine g_aload_n hX dL_areEntries_161 rfl 1 rfl ?_
          refine g_iload_n hX dL_areEntries_162 rfl 2 rfl ?_
          refine g_iload_n hX dL_areEntries_163 rfl 3 rfl ?_
          refine g_iadd hX dL_areEntries_164 ?_
          refine g_bipush (v := (10 : Int32)) hX dL_areEntries_165 (by decide) ?_
          refine g_isub hX dL_areEntries_167 ?_
          refine g_iconst (v := (3 : Int32)) hX dL_areEntries_168 (by decide) ?_
          obtain ⟨S13, r14, hcS13, h⟩ := xbI_inv h
          refine g_callV hX hR hV (fun l => c6_ofCode (l := l) hX.vc hV hcS13) xc9_17 rfl ⟨by decide, by decide⟩ rfl rfl (Nat.le_of_ble_eq_true rfl) dL_areEntries_169 ?_
          refine g_iload hX dL_areEntries_172 0 rfl ?_
          refine g_iadd hX dL_areEntries_174 ?_
          refine g_iconst (v := (1 : Int32)) hX dL_areEntries_175 (by decide) ?_
          refine g_isub hX dL_areEntries_176 ?_
          obtain ⟨S15, r16, hcS15, h⟩ := xbI_inv h
          refine g_callV hX hR hV (fun l => c6_sign (l := l) hX.vc hV hcS15) xc9_14 rfl ⟨by decide, by decide⟩ rfl rfl (Nat.le_of_ble_eq_true rfl) dL_areEntries_177 ?_
          refine g_icmp_eq hX 185 dL_areEntries_180 (by decide) (fun hc => ?_) (fun hc => ?_)
          · have h := xif_t hc h
            exact g_sub [1, 2, 3] (by rfl) (sfW_areEntries_J185 hX hM hR hV hk42 h)
          · have h := xif_f hc h
            refine g_iconst (v := (0 : Int32)) hX dL_areEntries_183 (by decide) ?_
            obtain ⟨hz, h⟩ := xne_inv h
            exact g_zret hX hM hz (Option.some.inj h) dL_areEntries_184
    · have h := xif_f hc h
      refine g_iload hX dL_areEntries_65 0 rfl ?_
      refine g_iload_n hX dL_areEntries_67 rfl 3 rfl ?_
      refine g_bipush (v := (8 : Int32)) hX dL_areEntries_68 (by decide) ?_
      refine g_icmp_ge hX 77 dL_areEntries_70 (by decide) (fun hc => ?_) (fun hc => ?_)
      · have h := xif_t hc h
        refine g_iconst (v := (0 : Int32)) hX dL_areEntries_77 (by decide) ?_
        exact g_sub [1, 2, 3] (by rfl) (sfW_areEntries_J78 hX hM hR hV hk42 h)
      · have h := xif_f hc h
        refine g_iconst (v := (1 : Int32)) hX dL_areEntries_73 (by decide) ?_
        refine g_goto hX 78 dL_areEntries_74 (by decide) ?_
        exact g_sub [1, 2, 3] (by rfl) (sfW_areEntries_J78 hX hM hR hV hk42 h)
theorem sfW_areEntries_L42 {K : xK} {X : xX} {out : xR}  (hX : xOK K X RL cL_areEntries 5) (hM : xM K X out (some .boolean)) (hR : xRm X 2 43) (hV : (6, 0) ∈ xvl K)  : ∀ (n : Nat) (S : xSt) (i2 : Int32) (i3 : Int32) (h : fW_areEntries_L42   n S i2 i3 = some out), xG K X S 42 [(0, xr K 6 0), (2, .int i2), (3, .int i3)] [] := by
  intro n
  induction n with
  | zero => intro S i2 i3 h; cases h
  | succ n ih => intro S i2 i3 h; exact sbW_areEntries_L42 hX hM hR hV  ih h
set_option maxRecDepth 100000 in
theorem sfW_areEntries_J40 {K : xK} {X : xX} {out : xR}  (hX : xOK K X RL cL_areEntries 5) (hM : xM K X out (some .boolean)) (hR : xRm X 2 43) (hV : (6, 0) ∈ xvl K)  {S : xSt} {i2 : Int32} (h : fW_areEntries_J40   S i2 = some out) : xG K X S 40 [(0, xr K 6 0), (2, .int i2)] [] := by
  unfold fW_areEntries_J40 at h
  refine g_iconst (v := (0 : Int32)) hX dL_areEntries_40 (by decide) ?_
  refine g_istore_n (lv2 := [(3, .int (0 : Int32)), (0, xr K 6 0), (2, .int i2)]) hX dL_areEntries_41 rfl (by decide) rfl ?_
  exact g_sub [1, 2, 0] (by rfl) (sfW_areEntries_L42 hX hM hR hV _ _ _ _ h)
set_option maxRecDepth 100000 in
theorem sfW_areEntries_J33 {K : xK} {X : xX} {out : xR}  (hX : xOK K X RL cL_areEntries 5) (hM : xM K X out (some .boolean)) (hR : xRm X 2 43) (hV : (6, 0) ∈ xvl K) {k10 : xSt → Int32 → Int32 → Int32 → Option xR} (hk10 : ∀ (S : xSt) (i1 : Int32) (i2 : Int32) (i3 : Int32), k10 S i1 i2 i3 = some out → xG K X S 10 [(0, xr K 6 0), (1, .int i1), (2, .int i2), (3, .int i3)] []) {S : xSt} {i1 : Int32} {i3 : Int32} {k0 : Int32} (h : fW_areEntries_J33  k10 S i1 i3 k0 = some out) : xG K X S 33 [(0, xr K 6 0), (1, .int i1), (3, .int i3)] [.int k0] := by
  unfold fW_areEntries_J33 at h
  refine g_istore_n (lv2 := [(2, .int k0), (0, xr K 6 0), (1, .int i1), (3, .int i3)]) hX dL_areEntries_33 rfl (by decide) rfl ?_
  refine g_iinc (v := (i3 + (1 : Int32))) (lv2 := [(3, .int (i3 + (1 : Int32))), (2, .int k0), (0, xr K 6 0), (1, .int i1)]) hX dL_areEntries_34 3 rfl rfl (by decide) rfl ?_
  refine g_goto hX 10 dL_areEntries_37 (by decide) ?_
  exact g_sub [2, 3, 1, 0] (by rfl) (hk10 _ _ _ _ h)
set_option maxRecDepth 100000 in
theorem sbW_areEntries_L10 {K : xK} {X : xX} {out : xR}  (hX : xOK K X RL cL_areEntries 5) (hM : xM K X out (some .boolean)) (hR : xRm X 2 43) (hV : (6, 0) ∈ xvl K)  {k10 : xSt → Int32 → Int32 → Int32 → Option xR} (hk10 : ∀ (S : xSt) (i1 : Int32) (i2 : Int32) (i3 : Int32), k10 S i1 i2 i3 = some out → xG K X S 10 [(0, xr K 6 0), (1, .int i1), (2, .int i2), (3, .int i3)] []) {S : xSt} {i1 : Int32} {i2 : Int32} {i3 : Int32} (h : bW_areEntries_L10   k10 S i1 i2 i3 = some out) : xG K X S 10 [(0, xr K 6 0), (1, .int i1), (2, .int i2), (3, .int i3)] [] := by
  unfold bW_areEntries_L10 at h
  refine g_iload_n hX dL_areEntries_10 rfl 3 rfl ?_
  refine g_iload_n hX dL_areEntries_11 rfl 1 rfl ?_
  refine g_icmp_ge hX 40 dL_areEntries_12 (by decide) (fun hc => ?_) (fun hc => ?_)
  · have h := xif_t hc h
    exact g_sub [0, 2] (by rfl) (sfW_areEntries_J40 hX hM hR hV h)
  · have h := xif_f hc h
    refine g_aload_n hX dL_areEntries_15 rfl 0 rfl ?_
    refine g_iload_n hX dL_areEntries_16 rfl 3 rfl ?_
    refine g_iconst (v := (0 : Int32)) hX dL_areEntries_17 (by decide) ?_
    obtain ⟨S1, r2, hcS1, h⟩ := xbI_inv h
    refine g_callV hX hR hV (fun l => c6_ofCode (l := l) hX.vc hV hcS1) xc9_17 rfl ⟨by decide, by decide⟩ rfl rfl (Nat.le_of_ble_eq_true rfl) dL_areEntries_18 ?_
    refine g_bipush (v := (8 : Int32)) hX dL_areEntries_21 (by decide) ?_
    refine g_icmp_ne hX 32 dL_areEntries_23 (by decide) (fun hc => ?_) (fun hc => ?_)
    · have h := xif_f hc h
      refine g_iload_n hX dL_areEntries_32 rfl 2 rfl ?_
      exact g_sub [0, 1, 3] (by rfl) (sfW_areEntries_J33 hX hM hR hV hk10 h)
    · have h := xif_t hc h
      refine g_iload_n hX dL_areEntries_26 rfl 3 rfl ?_
      refine g_iconst (v := (1 : Int32)) hX dL_areEntries_27 (by decide) ?_
      refine g_iadd hX dL_areEntries_28 ?_
      refine g_goto hX 33 dL_areEntries_29 (by decide) ?_
      exact g_sub [0, 1, 3] (by rfl) (sfW_areEntries_J33 hX hM hR hV hk10 h)
theorem sfW_areEntries_L10 {K : xK} {X : xX} {out : xR}  (hX : xOK K X RL cL_areEntries 5) (hM : xM K X out (some .boolean)) (hR : xRm X 2 43) (hV : (6, 0) ∈ xvl K)  : ∀ (n : Nat) (S : xSt) (i1 : Int32) (i2 : Int32) (i3 : Int32) (h : fW_areEntries_L10   n S i1 i2 i3 = some out), xG K X S 10 [(0, xr K 6 0), (1, .int i1), (2, .int i2), (3, .int i3)] [] := by
  intro n
  induction n with
  | zero => intro S i1 i2 i3 h; cases h
  | succ n ih => intro S i1 i2 i3 h; exact sbW_areEntries_L10 hX hM hR hV  ih h
set_option maxRecDepth 100000 in
theorem cW_areEntries {l : Launch} {K : xK}  (hvc : xVC (xvl K)) (hV : (6, 0) ∈ xvl K) {S : xSt}  {out : xR} (h : fW_areEntries S   = some out) : xMet l K yL_areEntries cL_areEntries 5 (some .boolean) 2 43 S [xr K 6 0] out := by
  refine xMet_of RL (by decide +kernel) rfl hvc (Nat.le_of_ble_eq_true rfl) ?_
  intro X hX hM hR
  show xG K X S 0 [(0, xr K 6 0)] []
  unfold fW_areEntries at h
  refine g_aload_n hX dL_areEntries_0 rfl 0 rfl ?_
  refine g_iconst (v := (1 : Int32)) hX dL_areEntries_1 (by decide) ?_
  obtain ⟨S1, r2, hcS1, h⟩ := xbI_inv h
  refine g_callV hX hR hV (fun l => c6_count (l := l) hX.vc hV hcS1) xc9_8 rfl ⟨by decide, by decide⟩ rfl rfl (Nat.le_of_ble_eq_true rfl) dL_areEntries_2 ?_
  refine g_istore_n (lv2 := [(1, .int r2), (0, xr K 6 0)]) hX dL_areEntries_5 rfl (by decide) rfl ?_
  refine g_iconst (v := (0 : Int32)) hX dL_areEntries_6 (by decide) ?_
  refine g_istore_n (lv2 := [(2, .int (0 : Int32)), (1, .int r2), (0, xr K 6 0)]) hX dL_areEntries_7 rfl (by decide) rfl ?_
  refine g_iconst (v := (0 : Int32)) hX dL_areEntries_8 (by decide) ?_
  refine g_istore_n (lv2 := [(3, .int (0 : Int32)), (2, .int (0 : Int32)), (1, .int r2), (0, xr K 6 0)]) hX dL_areEntries_9 rfl (by decide) rfl ?_
  exact g_sub [3, 2, 1, 0] (by rfl) (sfW_areEntries_L10 hX hM hR hV _ _ _ _ _ h)
set_option maxRecDepth 100000 in
theorem sfW_isRead_J511 {K0 K : xK} {ρ : xSt → xSt} {X : xX} {out : xR} {rc rs : Nat} (hX : xOK K X RL cL_isRead 20) (hM : xMN K0 K ρ X (ρ out.1, out.2) (some .boolean) rc rs) (hR : xRm X 3 58) (hV : (6, 0) ∈ xvl K) (hW0 : (33, 0) ∈ xvl K) (hW1 : (33, 1) ∈ xvl K)  {S : xSt} {i8 : Int32} {k0 : Int32} {k1 : Int32} (h : fW_isRead_J511   S i8 k0 k1 = some out) : xG K X S 511 [(0, xr K 6 0), (8, .int i8)] [.int k0, .int k1] := by
  unfold fW_isRead_J511 at h
  refine g_icmp_ne hX 537 dL_isRead_511 (by decide) (fun hc => ?_) (fun hc => ?_)
  · have h := xif_f hc h
    refine g_iconst (v := (0 : Int32)) hX dL_isRead_537 (by decide) ?_
    obtain ⟨hz, h⟩ := xne_inv h
    exact g_zretN hX hM hz (by rw [← Option.some.inj h]) dL_isRead_538
  · have h := xif_t hc h
    refine g_aload_n hX dL_isRead_514 rfl 0 rfl ?_
    refine g_iload hX dL_isRead_515 1 rfl ?_
    obtain ⟨S1, r2, hcS1, h⟩ := xbI_inv h
    refine g_callV hX hR hV (fun l => c6_read (l := l) hX.vc hV hcS1) xc9_33 rfl ⟨by decide, by decide⟩ rfl rfl (Nat.le_of_ble_eq_true rfl) dL_isRead_517 ?_
    refine g_iconst (v := (-1 : Int32)) hX dL_isRead_520 (by decide) ?_
    refine g_icmp_ne hX 537 dL_isRead_521 (by decide) (fun hc => ?_) (fun hc => ?_)
    · have h := xif_f hc h
      refine g_iconst (v := (0 : Int32)) hX dL_isRead_537 (by decide) ?_
      obtain ⟨hz, h⟩ := xne_inv h
      exact g_zretN hX hM hz (by rw [← Option.some.inj h]) dL_isRead_538
    · have h := xif_t hc h
      refine g_aload_n hX dL_isRead_524 rfl 0 rfl ?_
      refine g_iconst (v := (-1 : Int32)) hX dL_isRead_525 (by decide) ?_
      obtain ⟨S3, r4, hcS3, h⟩ := xbI_inv h
      refine g_callV hX hR hV (fun l => c6_read (l := l) hX.vc hV hcS3) xc9_33 rfl ⟨by decide, by decide⟩ rfl rfl (Nat.le_of_ble_eq_true rfl) dL_isRead_526 ?_
      refine g_iconst (v := (-1 : Int32)) hX dL_isRead_529 (by decide) ?_
      refine g_icmp_ne hX 537 dL_isRead_530 (by decide) (fun hc => ?_) (fun hc => ?_)
      · have h := xif_f hc h
        refine g_iconst (v := (0 : Int32)) hX dL_isRead_537 (by decide) ?_
        obtain ⟨hz, h⟩ := xne_inv h
        exact g_zretN hX hM hz (by rw [← Option.some.inj h]) dL_isRead_538
      · have h := xif_t hc h
        refine g_iconst (v := (1 : Int32)) hX dL_isRead_533 (by decide) ?_
        refine g_goto hX 538 dL_isRead_534 (by decide) ?_
        obtain ⟨hz, h⟩ := xne_inv h
        exact g_zretN hX hM hz (by rw [← Option.some.inj h]) dL_isRead_538
set_option maxRecDepth 100000 in
theorem sfW_isRead_J509 {K0 K : xK} {ρ : xSt → xSt} {X : xX} {out : xR} {rc rs : Nat} (hX : xOK K X RL cL_isRead 20) (hM : xMN K0 K ρ X (ρ out.1, out.2) (some .boolean) rc rs) (hR : xRm X 3 58) (hV : (6, 0) ∈ xvl K) (hW0 : (33, 0) ∈ xvl K) (hW1 : (33, 1) ∈ xvl K)  {S : xSt} {i8 : Int32} {i13 : Int32} {k0 : Int32} (h : fW_isRead_J509   S i8 i13 k0 = some out) : xG K X S 509 [(0, xr K 6 0), (8, .int i8), (13, .int i13)] [.int k0] := by
  unfold fW_isRead_J509 at h
  refine g_iload hX dL_isRead_509 2 rfl ?_
  exact g_sub [0, 1] (by rfl) (sfW_isRead_J511 hX hM hR hV hW0 hW1 h)
set_option maxRecDepth 100000 in
theorem sfW_isRead_J475 {K0 K : xK} {ρ : xSt → xSt} {X : xX} {out : xR} {rc rs : Nat} (hX : xOK K X RL cL_isRead 20) (hM : xMN K0 K ρ X (ρ out.1, out.2) (some .boolean) rc rs) (hR : xRm X 3 58) (hV : (6, 0) ∈ xvl K) (hW0 : (33, 0) ∈ xvl K) (hW1 : (33, 1) ∈ xvl K)  {S : xSt} {i8 : Int32} {i13 : Int32} {k0 : Int32} (h : fW_isRead_J475   S i8 i13 k0 = some out) : xG K X S 475 [(0, xr K 6 0), (8, .int i8), (13, .int i13)] [.int k0] := by
  unfold fW_isRead_J475 at h
  refine g_istore (lv2 := [(14, .int k0), (0, xr K 6 0), (8, .int i8), (13, .int i13)]) hX dL_isRead_475 (by decide) rfl ?_
  refine g_iload hX dL_isRead_477 0 rfl ?_
  refine g_if_eq hX 537 dL_isRead_479 (by decide) (fun hc => ?_) (fun hc => ?_)
  · have h := xif_t hc h
    refine g_iconst (v := (0 : Int32)) hX dL_isRead_537 (by decide) ?_
    obtain ⟨hz, h⟩ := xne_inv h
    exact g_zretN hX hM hz (by rw [← Option.some.inj h]) dL_isRead_538
  · have h := xif_f hc h
    refine g_aload_n hX dL_isRead_482 rfl 1 rfl ?_
    refine g_iconst (v := (5 : Int32)) hX dL_isRead_483 (by decide) ?_
    obtain ⟨S1, r2, hcS1, h⟩ := xbI_inv h
    refine g_callV hX hR hV (fun l => c6_reading (l := l) hX.vc hV hcS1) xc9_36 rfl ⟨by decide, by decide⟩ rfl rfl (Nat.le_of_ble_eq_true rfl) dL_isRead_484 ?_
    refine g_iload hX dL_isRead_487 3 rfl ?_
    refine g_iload hX dL_isRead_489 2 rfl ?_
    refine g_icmp_ne hX 509 dL_isRead_491 (by decide) (fun hc => ?_) (fun hc => ?_)
    · have h := xif_f hc h
      exact g_sub [1, 2, 3] (by rfl) (sfW_isRead_J509 hX hM hR hV hW0 hW1 h)
    · have h := xif_t hc h
      refine g_iload hX dL_isRead_494 2 rfl ?_
      refine g_aload_n hX dL_isRead_496 rfl 1 rfl ?_
      refine g_iconst (v := (0 : Int32)) hX dL_isRead_497 (by decide) ?_
      obtain ⟨S3, r4, hcS3, h⟩ := xbI_inv h
      refine g_callV hX hR hV (fun l => c6_count (l := l) hX.vc hV hcS3) xc9_8 rfl ⟨by decide, by decide⟩ rfl rfl (Nat.le_of_ble_eq_true rfl) dL_isRead_498 ?_
      refine g_icmp_ne hX 509 dL_isRead_501 (by decide) (fun hc => ?_) (fun hc => ?_)
      · have h := xif_f hc h
        exact g_sub [1, 2, 3] (by rfl) (sfW_isRead_J509 hX hM hR hV hW0 hW1 h)
      · have h := xif_t hc h
        refine g_bipush (v := (-6 : Int32)) hX dL_isRead_504 (by decide) ?_
        refine g_goto hX 511 dL_isRead_506 (by decide) ?_
        exact g_sub [1, 2] (by rfl) (sfW_isRead_J511 hX hM hR hV hW0 hW1 h)
set_option maxRecDepth 100000 in
theorem sfW_isRead_J474 {K0 K : xK} {ρ : xSt → xSt} {X : xX} {out : xR} {rc rs : Nat} (hX : xOK K X RL cL_isRead 20) (hM : xMN K0 K ρ X (ρ out.1, out.2) (some .boolean) rc rs) (hR : xRm X 3 58) (hV : (6, 0) ∈ xvl K) (hW0 : (33, 0) ∈ xvl K) (hW1 : (33, 1) ∈ xvl K)  {S : xSt} {i8 : Int32} {i13 : Int32} (h : fW_isRead_J474   S i8 i13 = some out) : xG K X S 474 [(0, xr K 6 0), (8, .int i8), (13, .int i13)] [] := by
  unfold fW_isRead_J474 at h
  refine g_iconst (v := (0 : Int32)) hX dL_isRead_474 (by decide) ?_
  exact sfW_isRead_J475 hX hM hR hV hW0 hW1 h
set_option maxRecDepth 100000 in
theorem sfW_isRead_J420 {K0 K : xK} {ρ : xSt → xSt} {X : xX} {out : xR} {rc rs : Nat} (hX : xOK K X RL cL_isRead 20) (hM : xMN K0 K ρ X (ρ out.1, out.2) (some .boolean) rc rs) (hR : xRm X 3 58) (hV : (6, 0) ∈ xvl K) (hW0 : (33, 0) ∈ xvl K) (hW1 : (33, 1) ∈ xvl K)  {S : xSt} {i5 : Int32} {i8 : Int32} {i9 : Int32} {i10 : Int32} {i11 : Int32} {i13 : Int32} (h : fW_isRead_J420   S i5 i8 i9 i10 i11 i13 = some out) : xG K X S 420 [(0, xr K 6 0), (5, .int i5), (8, .int i8), (9, .int i9), (10, .int i10), (11, .int i11), (13, .int i13)] [] := by
  unfold fW_isRead_J420 at h
  refine g_aload_n hX dL_isRead_420 rfl 0 rfl ?_
  refine g_iconst (v := (0 : Int32)) hX dL_isRead_421 (by decide) ?_
  obtain ⟨S1, r2, hcS1, h⟩ := xbI_inv h
  refine g_callV hX hR hV (fun l => c6_reading (l := l) hX.vc hV hcS1) xc9_36 rfl ⟨by decide, by decide⟩ rfl rfl (Nat.le_of_ble_eq_true rfl) dL_isRead_422 ?_
  refine g_iload hX dL_isRead_425 2 rfl ?_
  refine g_icmp_ne hX 474 dL_isRead_427 (by decide) (fun hc => ?_) (fun hc => ?_)
  · have h := xif_f hc h
    exact g_sub [0, 2, 6] (by rfl) (sfW_isRead_J474 hX hM hR hV hW0 hW1 h)
  · have h := xif_t hc h
    refine g_aload_n hX dL_isRead_430 rfl 0 rfl ?_
    refine g_iconst (v := (1 : Int32)) hX dL_isRead_431 (by decide) ?_
    obtain ⟨S3, r4, hcS3, h⟩ := xbI_inv h
    refine g_callV hX hR hV (fun l => c6_reading (l := l) hX.vc hV hcS3) xc9_36 rfl ⟨by decide, by decide⟩ rfl rfl (Nat.le_of_ble_eq_true rfl) dL_isRead_432 ?_
    refine g_iload hX dL_isRead_435 4 rfl ?_
    refine g_icmp_ne hX 474 dL_isRead_437 (by decide) (fun hc => ?_) (fun hc => ?_)
    · have h := xif_f hc h
      exact g_sub [0, 2, 6] (by rfl) (sfW_isRead_J474 hX hM hR hV hW0 hW1 h)
    · have h := xif_t hc h
      refine g_aload_n hX dL_isRead_440 rfl 0 rfl ?_
      refine g_iconst (v := (2 : Int32)) hX dL_isRead_441 (by decide) ?_
      obtain ⟨S5, r6, hcS5, h⟩ := xbI_inv h
      refine g_callV hX hR hV (fun l => c6_reading (l := l) hX.vc hV hcS5) xc9_36 rfl ⟨by decide, by decide⟩ rfl rfl (Nat.le_of_ble_eq_true rfl) dL_isRead_442 ?_
      refine g_iload hX dL_isRead_445 5 rfl ?_
      refine g_icmp_ne hX 474 dL_isRead_447 (by decide) (fun hc => ?_) (fun hc => ?_)
      · have h := xif_f hc h
        exact g_sub [0, 2, 6] (by rfl) (sfW_isRead_J474 hX hM hR hV hW0 hW1 h)
      · have h := xif_t hc h
        refine g_aload_n hX dL_isRead_450 rfl 0 rfl ?_
        refine g_iconst (v := (3 : Int32)) hX dL_isRead_451 (by decide) ?_
        obtain ⟨S7, r8, hcS7, h⟩ := xbI_inv h
        refine g_callV hX hR hV (fun l => c6_reading (l := l) hX.vc hV hcS7) xc9_36 rfl ⟨by decide, by decide⟩ rfl rfl (Nat.le_of_ble_eq_true rfl) dL_isRead_452 ?_
        refine g_iload hX dL_isRead_455 1 rfl ?_
        refine g_icmp_ne hX 474 dL_isRead_457 (by decide) (fun hc => ?_) (fun hc => ?_)
        · have h := xif_f hc h
          exact g_sub [0, 2, 6] (by rfl) (sfW_isRead_J474 hX hM hR hV hW0 hW1 h)
        · have h := xif_t hc h
          refine g_aload_n hX dL_isRead_460 rfl 0 rfl ?_
          refine g_iconst (v := (4 : Int32)) hX dL_isRead_461 (by decide) ?_
          obtain ⟨S9, r10, hcS9, h⟩ := xbI_inv h
          refine g_callV hX hR hV (fun l => c6_reading (l := l) hX.vc hV hcS9) xc9_36 rfl ⟨by decide, by decide⟩ rfl rfl (Nat.le_of_ble_eq_true rfl) dL_isRead_462 ?_
          refine g_iload hX dL_isRead_465 3 rfl ?_
          refine g_icmp_ne hX 474 dL_isRead_467 (by decide) (fun hc => ?_) (fun hc => ?_)
          · have h := xif_f hc h
            exact g_sub [0, 2, 6] (by rfl) (sfW_isRead_J474 hX hM hR hV hW0 hW1 h)
          · have h := xif_t hc h
            refine g_iconst (v := (1 : Int32)) hX dL_isRead_470 (by decide) ?_
            refine g_goto hX 475 dL_isRead_471 (by decide) ?_
            exact g_sub [0, 2, 6] (by rfl) (sfW_isRead_J475 hX hM hR hV hW0 hW1 h)
set_option maxRecDepth 100000 in
theorem sbW_isRead_L382 {K0 K : xK} {ρ : xSt → xSt} {X : xX} {out : xR} {rc rs : Nat} (hX : xOK K X RL cL_isRead 20) (hM : xMN K0 K ρ X (ρ out.1, out.2) (some .boolean) rc rs) (hR : xRm X 3 58) (hV : (6, 0) ∈ xvl K) (hW0 : (33, 0) ∈ xvl K) (hW1 : (33, 1) ∈ xvl K)  {k382 : xSt → Int32 → Int32 → Int32 → Int32 → Int32 → Int32 → Option xR} (hk382 : ∀ (S : xSt) (i5 : Int32) (i8 : Int32) (i9 : Int32) (i10 : Int32) (i11 : Int32) (i13 : Int32), k382 S i5 i8 i9 i10 i11 i13 = some out → xG K X S 382 [(0, xr K 6 0), (5, .int i5), (8, .int i8), (9, .int i9), (10, .int i10), (11, .int i11), (13, .int i13)] []) {S : xSt} {i5 : Int32} {i8 : Int32} {i9 : Int32} {i10 : Int32} {i11 : Int32} {i13 : Int32} (h : bW_isRead_L382   k382 S i5 i8 i9 i10 i11 i13 = some out) : xG K X S 382 [(0, xr K 6 0), (5, .int i5), (8, .int i8), (9, .int i9), (10, .int i10), (11, .int i11), (13, .int i13)] [] := by
  unfold bW_isRead_L382 at h
  refine g_iload hX dL_isRead_382 6 rfl ?_
  refine g_iload hX dL_isRead_384 2 rfl ?_
  refine g_icmp_ge hX 420 dL_isRead_386 (by decide) (fun hc => ?_) (fun hc => ?_)
  · have h := xif_t hc h
    exact sfW_isRead_J420 hX hM hR hV hW0 hW1 h
  · have h := xif_f hc h
    refine g_iload hX dL_isRead_389 6 rfl ?_
    refine g_aload_n hX dL_isRead_391 rfl 0 rfl ?_
    refine g_iconst (v := (0 : Int32)) hX dL_isRead_392 (by decide) ?_
    obtain ⟨S1, r2, hcS1, h⟩ := xbI_inv h
    refine g_callV hX hR hV (fun l => c6_count (l := l) hX.vc hV hcS1) xc9_8 rfl ⟨by decide, by decide⟩ rfl rfl (Nat.le_of_ble_eq_true rfl) dL_isRead_393 ?_
    refine g_icmp_ge hX 420 dL_isRead_396 (by decide) (fun hc => ?_) (fun hc => ?_)
    · have h := xif_t hc h
      exact sfW_isRead_J420 hX hM hR hV hW0 hW1 h
    · have h := xif_f hc h
      refine g_aload_n hX dL_isRead_399 rfl 0 rfl ?_
      refine g_iload hX dL_isRead_400 6 rfl ?_
      obtain ⟨S3, r4, hcS3, h⟩ := xbI_inv h
      refine g_callV hX hR hV (fun l => c6_read (l := l) hX.vc hV hcS3) xc9_33 rfl ⟨by decide, by decide⟩ rfl rfl (Nat.le_of_ble_eq_true rfl) dL_isRead_402 ?_
      refine g_aload_n hX dL_isRead_405 rfl 0 rfl ?_
      refine g_iload hX dL_isRead_406 6 rfl ?_
      obtain ⟨S5, r6, hcS5, h⟩ := xbI_inv h
      refine g_callV hX hR hV (fun l => c6_sign (l := l) hX.vc hV hcS5) xc9_14 rfl ⟨by decide, by decide⟩ rfl rfl (Nat.le_of_ble_eq_true rfl) dL_isRead_408 ?_
      refine g_icmp_ne hX 420 dL_isRead_411 (by decide) (fun hc => ?_) (fun hc => ?_)
      · have h := xif_f hc h
        exact sfW_isRead_J420 hX hM hR hV hW0 hW1 h
      · have h := xif_t hc h
        refine g_iinc (v := (i13 + (1 : Int32))) (lv2 := [(13, .int (i13 + (1 : Int32))), (0, xr K 6 0), (5, .int i5), (8, .int i8), (9, .int i9), (10, .int i10), (11, .int i11)]) hX dL_isRead_414 6 rfl rfl (by decide) rfl ?_
        refine g_goto hX 382 dL_isRead_417 (by decide) ?_
        exact g_sub [1, 2, 3, 4, 5, 6, 0] (by rfl) (hk382 _ _ _ _ _ _ _ h)
theorem sfW_isRead_L382 {K0 K : xK} {ρ : xSt → xSt} {X : xX} {out : xR} {rc rs : Nat} (hX : xOK K X RL cL_isRead 20) (hM : xMN K0 K ρ X (ρ out.1, out.2) (some .boolean) rc rs) (hR : xRm X 3 58) (hV : (6, 0) ∈ xvl K) (hW0 : (33, 0) ∈ xvl K) (hW1 : (33, 1) ∈ xvl K)  : ∀ (n : Nat) (S : xSt) (i5 : Int32) (i8 : Int32) (i9 : Int32) (i10 : Int32) (i11 : Int32) (i13 : Int32) (h : fW_isRead_L382   n S i5 i8 i9 i10 i11 i13 = some out), xG K X S 382 [(0, xr K 6 0), (5, .int i5), (8, .int i8), (9, .int i9), (10, .int i10), (11, .int i11), (13, .int i13)] [] := by
  intro n
  induction n with
  | zero => intro S i5 i8 i9 i10 i11 i13 h; cases h
  | succ n ih => intro S i5 i8 i9 i10 i11 i13 h; exact sbW_isRead_L382 hX hM hR hV hW0 hW1  ih h
set_option maxRecDepth 100000 in
theorem sfW_isRead_J379 {K0 K : xK} {ρ : xSt → xSt} {X : xX} {out : xR} {rc rs : Nat} (hX : xOK K X RL cL_isRead 20) (hM : xMN K0 K ρ X (ρ out.1, out.2) (some .boolean) rc rs) (hR : xRm X 3 58) (hV : (6, 0) ∈ xvl K) (hW0 : (33, 0) ∈ xvl K) (hW1 : (33, 1) ∈ xvl K)  {S : xSt} {i5 : Int32} {i8 : Int32} {i9 : Int32} {i10 : Int32} {i11 : Int32} (h : fW_isRead_J379   S i5 i8 i9 i10 i11 = some out) : xG K X S 379 [(0, xr K 6 0), (5, .int i5), (8, .int i8), (9, .int i9), (10, .int i10), (11, .int i11)] [] := by
  unfold fW_isRead_J379 at h
  refine g_iconst (v := (0 : Int32)) hX dL_isRead_379 (by decide) ?_
  refine g_istore (lv2 := [(13, .int (0 : Int32)), (0, xr K 6 0), (5, .int i5), (8, .int i8), (9, .int i9), (10, .int i10), (11, .int i11)]) hX dL_isRead_380 (by decide) rfl ?_
  exact g_sub [1, 2, 3, 4, 5, 6, 0] (by rfl) (sfW_isRead_L382 hX hM hR hV hW0 hW1 _ _ _ _ _ _ _ _ h)
set_option maxRecDepth 100000 in
theorem sfW_isRead_J363 {K0 K : xK} {ρ : xSt → xSt} {X : xX} {out : xR} {rc rs : Nat} (hX : xOK K X RL cL_isRead 20) (hM : xMN K0 K ρ X (ρ out.1, out.2) (some .boolean) rc rs) (hR : xRm X 3 58) (hV : (6, 0) ∈ xvl K) (hW0 : (33, 0) ∈ xvl K) (hW1 : (33, 1) ∈ xvl K)  {S : xSt} {i1 : Int32} {i5 : Int32} {i8 : Int32} {i9 : Int32} {i10 : Int32} {i11 : Int32} {i12 : Int32} (h : fW_isRead_J363   S i1 i5 i8 i9 i10 i11 i12 = some out) : xG K X S 363 [(0, xr K 6 0), (1, .int i1), (5, .int i5), (8, .int i8), (9, .int i9), (10, .int i10), (11, .int i11), (12, .int i12)] [] := by
  unfold fW_isRead_J363 at h
  refine g_iload hX dL_isRead_363 6 rfl ?_
  refine g_if_ne hX 379 dL_isRead_365 (by decide) (fun hc => ?_) (fun hc => ?_)
  · have h := xif_f hc h
    exact g_sub [0, 2, 3, 4, 5, 6] (by rfl) (sfW_isRead_J379 hX hM hR hV hW0 hW1 h)
  · have h := xif_t hc h
    refine g_iload hX dL_isRead_368 7 rfl ?_
    refine g_if_ne hX 379 dL_isRead_370 (by decide) (fun hc => ?_) (fun hc => ?_)
    · have h := xif_f hc h
      exact g_sub [0, 2, 3, 4, 5, 6] (by rfl) (sfW_isRead_J379 hX hM hR hV hW0 hW1 h)
    · have h := xif_t hc h
      refine g_iload_n hX dL_isRead_373 rfl 1 rfl ?_
      refine g_istore (lv2 := [(10, .int i1), (0, xr K 6 0), (1, .int i1), (5, .int i5), (8, .int i8), (9, .int i9), (11, .int i11), (12, .int i12)]) hX dL_isRead_374 (by decide) rfl ?_
      refine g_iconst (v := (2 : Int32)) hX dL_isRead_376 (by decide) ?_
      refine g_istore (lv2 := [(11, .int (2 : Int32)), (10, .int i1), (0, xr K 6 0), (1, .int i1), (5, .int i5), (8, .int i8), (9, .int i9), (12, .int i12)]) hX dL_isRead_377 (by decide) rfl ?_
      exact g_sub [2, 4, 5, 6, 1, 0] (by rfl) (sfW_isRead_J379 hX hM hR hV hW0 hW1 h)
set_option maxRecDepth 100000 in
theorem sfW_isRead_J357 {K0 K : xK} {ρ : xSt → xSt} {X : xX} {out : xR} {rc rs : Nat} (hX : xOK K X RL cL_isRead 20) (hM : xMN K0 K ρ X (ρ out.1, out.2) (some .boolean) rc rs) (hR : xRm X 3 58) (hV : (6, 0) ∈ xvl K) (hW0 : (33, 0) ∈ xvl K) (hW1 : (33, 1) ∈ xvl K) {k55 : xSt → Int32 → Int32 → Int32 → Int32 → Int32 → Int32 → Int32 → Int32 → Int32 → Int32 → Int32 → Option xR} (hk55 : ∀ (S : xSt) (i1 : Int32) (i2 : Int32) (i5 : Int32) (i6 : Int32) (i7 : Int32) (i8 : Int32) (i9 : Int32) (i10 : Int32) (i11 : Int32) (i12 : Int32) (i13 : Int32), k55 S i1 i2 i5 i6 i7 i8 i9 i10 i11 i12 i13 = some out → xG K X S 55 [(0, xr K 6 0), (1, .int i1), (2, .int i2), (3, xr K 33 0), (4, xr K 33 1), (5, .int i5), (6, .int i6), (7, .int i7), (8, .int i8), (9, .int i9), (10, .int i10), (11, .int i11), (12, .int i12), (13, .int i13)] []) {S : xSt} {i1 : Int32} {i2 : Int32} {i5 : Int32} {i6 : Int32} {i7 : Int32} {i8 : Int32} {i9 : Int32} {i10 : Int32} {i11 : Int32} {i12 : Int32} {i13 : Int32} (h : fW_isRead_J357  k55 S i1 i2 i5 i6 i7 i8 i9 i10 i11 i12 i13 = some out) : xG K X S 357 [(0, xr K 6 0), (1, .int i1), (2, .int i2), (3, xr K 33 0), (4, xr K 33 1), (5, .int i5), (6, .int i6), (7, .int i7), (8, .int i8), (9, .int i9), (10, .int i10), (11, .int i11), (12, .int i12), (13, .int i13)] [] := by
  unfold fW_isRead_J357 at h
  refine g_iinc (v := (i13 + (1 : Int32))) (lv2 := [(13, .int (i13 + (1 : Int32))), (0, xr K 6 0), (1, .int i1), (2, .int i2), (3, xr K 33 0), (4, xr K 33 1), (5, .int i5), (6, .int i6), (7, .int i7), (8, .int i8), (9, .int i9), (10, .int i10), (11, .int i11), (12, .int i12)]) hX dL_isRead_357 13 rfl rfl (by decide) rfl ?_
  refine g_goto hX 55 dL_isRead_360 (by decide) ?_
  exact g_sub [1, 2, 3, 4, 5, 6, 7, 8, 9, 10, 11, 12, 13, 0] (by rfl) (hk55 _ _ _ _ _ _ _ _ _ _ _ _ h)
set_option maxRecDepth 100000 in
theorem sfW_isRead_J344 {K0 K : xK} {ρ : xSt → xSt} {X : xX} {out : xR} {rc rs : Nat} (hX : xOK K X RL cL_isRead 20) (hM : xMN K0 K ρ X (ρ out.1, out.2) (some .boolean) rc rs) (hR : xRm X 3 58) (hV : (6, 0) ∈ xvl K) (hW0 : (33, 0) ∈ xvl K) (hW1 : (33, 1) ∈ xvl K) {k55 : xSt → Int32 → Int32 → Int32 → Int32 → Int32 → Int32 → Int32 → Int32 → Int32 → Int32 → Int32 → Option xR} (hk55 : ∀ (S : xSt) (i1 : Int32) (i2 : Int32) (i5 : Int32) (i6 : Int32) (i7 : Int32) (i8 : Int32) (i9 : Int32) (i10 : Int32) (i11 : Int32) (i12 : Int32) (i13 : Int32), k55 S i1 i2 i5 i6 i7 i8 i9 i10 i11 i12 i13 = some out → xG K X S 55 [(0, xr K 6 0), (1, .int i1), (2, .int i2), (3, xr K 33 0), (4, xr K 33 1), (5, .int i5), (6, .int i6), (7, .int i7), (8, .int i8), (9, .int i9), (10, .int i10), (11, .int i11), (12, .int i12), (13, .int i13)] []) {S : xSt} {i1 : Int32} {i2 : Int32} {i6 : Int32} {i7 : Int32} {i8 : Int32} {i9 : Int32} {i10 : Int32} {i11 : Int32} {i12 : Int32} {i13 : Int32} {k0 : Int32} {k1 : Int32} (h : fW_isRead_J344  k55 S i1 i2 i6 i7 i8 i9 i10 i11 i12 i13 k0 k1 = some out) : xG K X S 344 [(0, xr K 6 0), (1, .int i1), (2, .int i2), (3, xr K 33 0), (4, xr K 33 1), (6, .int i6), (7, .int i7), (8, .int i8), (9, .int i9), (10, .int i10), (11, .int i11), (12, .int i12), (13, .int i13)] [.int k0, .int k1] := by
  unfold fW_isRead_J344 at h
  refine g_iadd hX dL_isRead_344 ?_
  refine g_istore (lv2 := [(5, .int (k1 + k0)), (0, xr K 6 0), (1, .int i1), (2, .int i2), (3, xr K 33 0), (4, xr K 33 1), (6, .int i6), (7, .int i7), (8, .int i8), (9, .int i9), (10, .int i10), (11, .int i11), (12, .int i12), (13, .int i13)]) hX dL_isRead_345 (by decide) rfl ?_
  refine g_goto hX 357 dL_isRead_347 (by decide) ?_
  exact g_sub [1, 2, 3, 4, 5, 0, 6, 7, 8, 9, 10, 11, 12, 13] (by rfl) (sfW_isRead_J357 hX hM hR hV hW0 hW1 hk55 h)
set_option maxRecDepth 100000 in
theorem sfW_isRead_J343 {K0 K : xK} {ρ : xSt → xSt} {X : xX} {out : xR} {rc rs : Nat} (hX : xOK K X RL cL_isRead 20) (hM : xMN K0 K ρ X (ρ out.1, out.2) (some .boolean) rc rs) (hR : xRm X 3 58) (hV : (6, 0) ∈ xvl K) (hW0 : (33, 0) ∈ xvl K) (hW1 : (33, 1) ∈ xvl K) {k55 : xSt → Int32 → Int32 → Int32 → Int32 → Int32 → Int32 → Int32 → Int32 → Int32 → Int32 → Int32 → Option xR} (hk55 : ∀ (S : xSt) (i1 : Int32) (i2 : Int32) (i5 : Int32) (i6 : Int32) (i7 : Int32) (i8 : Int32) (i9 : Int32) (i10 : Int32) (i11 : Int32) (i12 : Int32) (i13 : Int32), k55 S i1 i2 i5 i6 i7 i8 i9 i10 i11 i12 i13 = some out → xG K X S 55 [(0, xr K 6 0), (1, .int i1), (2, .int i2), (3, xr K 33 0), (4, xr K 33 1), (5, .int i5), (6, .int i6), (7, .int i7), (8, .int i8), (9, .int i9), (10, .int i10), (11, .int i11), (12, .int i12), (13, .int i13)] []) {S : xSt} {i1 : Int32} {i2 : Int32} {i6 : Int32} {i7 : Int32} {i8 : Int32} {i9 : Int32} {i10 : Int32} {i11 : Int32} {i12 : Int32} {i13 : Int32} {k0 : Int32} (h : fW_isRead_J343  k55 S i1 i2 i6 i7 i8 i9 i10 i11 i12 i13 k0 = some out) : xG K X S 343 [(0, xr K 6 0), (1, .int i1), (2, .int i2), (3, xr K 33 0), (4, xr K 33 1), (6, .int i6), (7, .int i7), (8, .int i8), (9, .int i9), (10, .int i10), (11, .int i11), (12, .int i12), (13, .int i13)] [.int k0] := by
  unfold fW_isRead_J343 at h
  refine g_iconst (v := (0 : Int32)) hX dL_isRead_343 (by decide) ?_
  exact sfW_isRead_J344 hX hM hR hV hW0 hW1 hk55 h
set_option maxRecDepth 100000 in
theorem sfW_isRead_J323 {K0 K : xK} {ρ : xSt → xSt} {X : xX} {out : xR} {rc rs : Nat} (hX : xOK K X RL cL_isRead 20) (hM : xMN K0 K ρ X (ρ out.1, out.2) (some .boolean) rc rs) (hR : xRm X 3 58) (hV : (6, 0) ∈ xvl K) (hW0 : (33, 0) ∈ xvl K) (hW1 : (33, 1) ∈ xvl K) {k55 : xSt → Int32 → Int32 → Int32 → Int32 → Int32 → Int32 → Int32 → Int32 → Int32 → Int32 → Int32 → Option xR} (hk55 : ∀ (S : xSt) (i1 : Int32) (i2 : Int32) (i5 : Int32) (i6 : Int32) (i7 : Int32) (i8 : Int32) (i9 : Int32) (i10 : Int32) (i11 : Int32) (i12 : Int32) (i13 : Int32), k55 S i1 i2 i5 i6 i7 i8 i9 i10 i11 i12 i13 = some out → xG K X S 55 [(0, xr K 6 0), (1, .int i1), (2, .int i2), (3, xr K 33 0), (4, xr K 33 1), (5, .int i5), (6, .int i6), (7, .int i7), (8, .int i8), (9, .int i9), (10, .int i10), (11, .int i11), (12, .int i12), (13, .int i13)] []) {S : xSt} {i1 : Int32} {i2 : Int32} {i5 : Int32} {i6 : Int32} {i7 : Int32} {i8 : Int32} {i10 : Int32} {i11 : Int32} {i12 : Int32} {i13 : Int32} {i15 : Int32} {k0 : Int32} {k1 : Int32} (h : fW_isRead_J323  k55 S i1 i2 i5 i6 i7 i8 i10 i11 i12 i13 i15 k0 k1 = some out) : xG K X S 323 [(0, xr K 6 0), (1, .int i1), (2, .int i2), (3, xr K 33 0), (4, xr K 33 1), (5, .int i5), (6, .int i6), (7, .int i7), (8, .int i8), (10, .int i10), (11, .int i11), (12, .int i12), (13, .int i13), (15, .int i15)] [.int k0, .int k1] := by
  unfold fW_isRead_J323 at h
  refine g_iadd hX dL_isRead_323 ?_
  refine g_istore (lv2 := [(9, .int (k1 + k0)), (0, xr K 6 0), (1, .int i1), (2, .int i2), (3, xr K 33 0), (4, xr K 33 1), (5, .int i5), (6, .int i6), (7, .int i7), (8, .int i8), (10, .int i10), (11, .int i11), (12, .int i12), (13, .int i13), (15, .int i15)]) hX dL_isRead_324 (by decide) rfl ?_
  refine g_iload hX dL_isRead_326 6 rfl ?_
  refine g_iload hX dL_isRead_328 14 rfl ?_
  refine g_if_eq hX 343 dL_isRead_330 (by decide) (fun hc => ?_) (fun hc => ?_)
  · have h := xif_t hc h
    exact g_sub [1, 2, 3, 4, 5, 7, 8, 9, 0, 10, 11, 12, 13] (by rfl) (sfW_isRead_J343 hX hM hR hV hW0 hW1 hk55 h)
  · have h := xif_f hc h
    refine g_iload hX dL_isRead_333 6 rfl ?_
    refine g_iload_n hX dL_isRead_335 rfl 3 rfl ?_
    refine g_icmp_ge hX 343 dL_isRead_336 (by decide) (fun hc => ?_) (fun hc => ?_)
    · have h := xif_t hc h
      exact g_sub [1, 2, 3, 4, 5, 7, 8, 9, 0, 10, 11, 12, 13] (by rfl) (sfW_isRead_J343 hX hM hR hV hW0 hW1 hk55 h)
    · have h := xif_f hc h
      refine g_iconst (v := (1 : Int32)) hX dL_isRead_339 (by decide) ?_
      refine g_goto hX 344 dL_isRead_340 (by decide) ?_
      exact g_sub [1, 2, 3, 4, 5, 7, 8, 9, 0, 10, 11, 12, 13] (by rfl) (sfW_isRead_J344 hX hM hR hV hW0 hW1 hk55 h)
set_option maxRecDepth 100000 in
theorem sfW_isRead_J288 {K0 K : xK} {ρ : xSt → xSt} {X : xX} {out : xR} {rc rs : Nat} (hX : xOK K X RL cL_isRead 20) (hM : xMN K0 K ρ X (ρ out.1, out.2) (some .boolean) rc rs) (hR : xRm X 3 58) (hV : (6, 0) ∈ xvl K) (hW0 : (33, 0) ∈ xvl K) (hW1 : (33, 1) ∈ xvl K) {k55 : xSt → Int32 → Int32 → Int32 → Int32 → Int32 → Int32 → Int32 → Int32 → Int32 → Int32 → Int32 → Option xR} (hk55 : ∀ (S : xSt) (i1 : Int32) (i2 : Int32) (i5 : Int32) (i6 : Int32) (i7 : Int32) (i8 : Int32) (i9 : Int32) (i10 : Int32) (i11 : Int32) (i12 : Int32) (i13 : Int32), k55 S i1 i2 i5 i6 i7 i8 i9 i10 i11 i12 i13 = some out → xG K X S 55 [(0, xr K 6 0), (1, .int i1), (2, .int i2), (3, xr K 33 0), (4, xr K 33 1), (5, .int i5), (6, .int i6), (7, .int i7), (8, .int i8), (9, .int i9), (10, .int i10), (11, .int i11), (12, .int i12), (13, .int i13)] []) {S : xSt} {i1 : Int32} {i2 : Int32} {i5 : Int32} {i6 : Int32} {i7 : Int32} {i8 : Int32} {i9 : Int32} {i10 : Int32} {i11 : Int32} {i12 : Int32} {i13 : Int32} {i15 : Int32} {i16 : Int32} {i18 : Int32} (h : fW_isRead_J288  k55 S i1 i2 i5 i6 i7 i8 i9 i10 i11 i12 i13 i15 i16 i18 = some out) : xG K X S 288 [(0, xr K 6 0), (1, .int i1), (2, .int i2), (3, xr K 33 0), (4, xr K 33 1), (5, .int i5), (6, .int i6), (7, .int i7), (8, .int i8), (9, .int i9), (10, .int i10), (11, .int i11), (12, .int i12), (13, .int i13), (15, .int i15), (16, .int i16), (18, .int i18)] [] := by
  unfold fW_isRead_J288 at h
  refine g_aload_n hX dL_isRead_288 rfl 3 rfl ?_
  refine g_iload hX dL_isRead_289 7 rfl ?_
  refine g_iload hX dL_isRead_291 8 rfl ?_
  obtain ⟨hbj1, h⟩ := xat_inv h
  obtain ⟨S2, eS2, h⟩ := xlet_inv h
  refine g_iast (n := 64) hX hW0 (fun _ => rfl) hbj1 dL_isRead_293 eS2 ?_
  refine g_aload hX dL_isRead_294 4 rfl ?_
  refine g_iload hX dL_isRead_296 7 rfl ?_
  refine g_iload hX dL_isRead_298 16 rfl ?_
  obtain ⟨hbj3, h⟩ := xat_inv h
  obtain ⟨S4, eS4, h⟩ := xlet_inv h
  refine g_iast (n := 64) hX hW1 (fun _ => rfl) hbj3 dL_isRead_300 eS4 ?_
  refine g_iinc (v := (i7 + (1 : Int32))) (lv2 := [(7, .int (i7 + (1 : Int32))), (0, xr K 6 0), (1, .int i1), (2, .int i2), (3, xr K 33 0), (4, xr K 33 1), (5, .int i5), (6, .int i6), (8, .int i8), (9, .int i9), (10, .int i10), (11, .int i11), (12, .int i12), (13, .int i13), (15, .int i15), (16, .int i16), (18, .int i18)]) hX dL_isRead_301 7 rfl rfl (by decide) rfl ?_
  refine g_iload hX dL_isRead_304 8 rfl ?_
  refine g_iload hX dL_isRead_306 16 rfl ?_
  refine g_iadd hX dL_isRead_308 ?_
  refine g_istore (lv2 := [(8, .int (i8 + i18)), (7, .int (i7 + (1 : Int32))), (0, xr K 6 0), (1, .int i1), (2, .int i2), (3, xr K 33 0), (4, xr K 33 1), (5, .int i5), (6, .int i6), (9, .int i9), (10, .int i10), (11, .int i11), (12, .int i12), (13, .int i13), (15, .int i15), (16, .int i16), (18, .int i18)]) hX dL_isRead_309 (by decide) rfl ?_
  refine g_iload hX dL_isRead_311 9 rfl ?_
  refine g_iload hX dL_isRead_313 15 rfl ?_
  refine g_if_eq hX 322 dL_isRead_315 (by decide) (fun hc => ?_) (fun hc => ?_)
  · have h := xif_t hc h
    refine g_iconst (v := (0 : Int32)) hX dL_isRead_322 (by decide) ?_
    exact g_sub [2, 3, 4, 5, 6, 7, 8, 1, 0, 10, 11, 12, 13, 14] (by rfl) (sfW_isRead_J323 hX hM hR hV hW0 hW1 hk55 h)
  · have h := xif_f hc h
    refine g_iconst (v := (1 : Int32)) hX dL_isRead_318 (by decide) ?_
    refine g_goto hX 323 dL_isRead_319 (by decide) ?_
    exact g_sub [2, 3, 4, 5, 6, 7, 8, 1, 0, 10, 11, 12, 13, 14] (by rfl) (sfW_isRead_J323 hX hM hR hV hW0 hW1 hk55 h)
set_option maxRecDepth 100000 in
theorem sbW_isRead_L252 {K0 K : xK} {ρ : xSt → xSt} {X : xX} {out : xR} {rc rs : Nat} (hX : xOK K X RL cL_isRead 20) (hM : xMN K0 K ρ X (ρ out.1, out.2) (some .boolean) rc rs) (hR : xRm X 3 58) (hV : (6, 0) ∈ xvl K) (hW0 : (33, 0) ∈ xvl K) (hW1 : (33, 1) ∈ xvl K) {k55 : xSt → Int32 → Int32 → Int32 → Int32 → Int32 → Int32 → Int32 → Int32 → Int32 → Int32 → Int32 → Option xR} (hk55 : ∀ (S : xSt) (i1 : Int32) (i2 : Int32) (i5 : Int32) (i6 : Int32) (i7 : Int32) (i8 : Int32) (i9 : Int32) (i10 : Int32) (i11 : Int32) (i12 : Int32) (i13 : Int32), k55 S i1 i2 i5 i6 i7 i8 i9 i10 i11 i12 i13 = some out → xG K X S 55 [(0, xr K 6 0), (1, .int i1), (2, .int i2), (3, xr K 33 0), (4, xr K 33 1), (5, .int i5), (6, .int i6), (7, .int i7), (8, .int i8), (9, .int i9), (10, .int i10), (11, .int i11), (12, .int i12), (13, .int i13)] []) {k252 : xSt → Int32 → Int32 → Int32 → Int32 → Int32 → Int32 → Int32 → Int32 → Int32 → Int32 → Int32 → Int32 → Int32 → Int32 → Int32 → Int32 → Option xR} (hk252 : ∀ (S : xSt) (i1 : Int32) (i2 : Int32) (i5 : Int32) (i6 : Int32) (i7 : Int32) (i8 : Int32) (i9 : Int32) (i10 : Int32) (i11 : Int32) (i12 : Int32) (i13 : Int32) (i15 : Int32) (i16 : Int32) (i17 : Int32) (i18 : Int32) (i19 : Int32), k252 S i1 i2 i5 i6 i7 i8 i9 i10 i11 i12 i13 i15 i16 i17 i18 i19 = some out → xG K X S 252 [(0, xr K 6 0), (1, .int i1), (2, .int i2), (3, xr K 33 0), (4, xr K 33 1), (5, .int i5), (6, .int i6), (7, .int i7), (8, .int i8), (9, .int i9), (10, .int i10), (11, .int i11), (12, .int i12), (13, .int i13), (15, .int i15), (16, .int i16), (17, .int i17), (18, .int i18), (19, .int i19)] []) {S : xSt} {i1 : Int32} {i2 : Int32} {i5 : Int32} {i6 : Int32} {i7 : Int32} {i8 : Int32} {i9 : Int32} {i10 : Int32} {i11 : Int32} {i12 : Int32} {i13 : Int32} {i15 : Int32} {i16 : Int32} {i17 : Int32} {i18 : Int32} {i19 : Int32} (h : bW_isRead_L252  k55 k252 S i1 i2 i5 i6 i7 i8 i9 i10 i11 i12 i13 i15 i16 i17 i18 i19 = some out) : xG K X S 252 [(0, xr K 6 0), (1, .int i1), (2, .int i2), (3, xr K 33 0), (4, xr K 33 1), (5, .int i5), (6, .int i6), (7, .int i7), (8, .int i8), (9, .int i9), (10, .int i10), (11, .int i11), (12, .int i12), (13, .int i13), (15, .int i15), (16, .int i16), (17, .int i17), (18, .int i18), (19, .int i19)] [] := by
  unfold bW_isRead_L252 at h
  refine g_iload hX dL_isRead_252 18 rfl ?_
  refine g_iload hX dL_isRead_254 17 rfl ?_
  refine g_icmp_ge hX 288 dL_isRead_256 (by decide) (fun hc => ?_) (fun hc => ?_)
  · have h := xif_t hc h
    exact g_sub [0, 1, 2, 3, 4, 5, 6, 7, 8, 9, 10, 11, 12, 13, 14, 15, 17] (by rfl) (sfW_isRead_J288 hX hM hR hV hW0 hW1 hk55 h)
  · have h := xif_f hc h
    refine g_aload_n hX dL_isRead_259 rfl 0 rfl ?_
    refine g_iload hX dL_isRead_260 8 rfl ?_
    refine g_iload hX dL_isRead_262 18 rfl ?_
    refine g_iadd hX dL_isRead_264 ?_
    obtain ⟨S1, r2, hcS1, h⟩ := xbI_inv h
    refine g_callV hX hR hV (fun l => c6_read (l := l) hX.vc hV hcS1) xc9_33 rfl ⟨by decide, by decide⟩ rfl rfl (Nat.le_of_ble_eq_true rfl) dL_isRead_265 ?_
    refine g_aload_n hX dL_isRead_268 rfl 0 rfl ?_
    refine g_iload hX dL_isRead_269 16 rfl ?_
    refine g_iload hX dL_isRead_271 18 rfl ?_
    refine g_iadd hX dL_isRead_273 ?_
    obtain ⟨S3, r4, hcS3, h⟩ := xbI_inv h
    refine g_callV hX hR hV (fun l => c6_read (l := l) hX.vc hV hcS3) xc9_33 rfl ⟨by decide, by decide⟩ rfl rfl (Nat.le_of_ble_eq_true rfl) dL_isRead_274 ?_
    refine g_icmp_eq hX 282 dL_isRead_277 (by decide) (fun hc => ?_) (fun hc => ?_)
    · have h := xif_t hc h
      refine g_iinc (v := (i19 + (1 : Int32))) (lv2 := [(19, .int (i19 + (1 : Int32))), (0, xr K 6 0), (1, .int i1), (2, .int i2), (3, xr K 33 0), (4, xr K 33 1), (5, .int i5), (6, .int i6), (7, .int i7), (8, .int i8), (9, .int i9), (10, .int i10), (11, .int i11), (12, .int i12), (13, .int i13), (15, .int i15), (16, .int i16), (17, .int i17), (18, .int i18)]) hX dL_isRead_282 18 rfl rfl (by decide) rfl ?_
      refine g_goto hX 252 dL_isRead_285 (by decide) ?_
      exact g_sub [1, 2, 3, 4, 5, 6, 7, 8, 9, 10, 11, 12, 13, 14, 15, 16, 17, 18, 0] (by rfl) (hk252 _ _ _ _ _ _ _ _ _ _ _ _ _ _ _ _ _ h)
    · have h := xif_f hc h
      refine g_iconst (v := (0 : Int32)) hX dL_isRead_280 (by decide) ?_
      obtain ⟨hz, h⟩ := xne_inv h
      exact g_zretN hX hM hz (by rw [← Option.some.inj h]) dL_isRead_281
theorem sfW_isRead_L252 {K0 K : xK} {ρ : xSt → xSt} {X : xX} {out : xR} {rc rs : Nat} (hX : xOK K X RL cL_isRead 20) (hM : xMN K0 K ρ X (ρ out.1, out.2) (some .boolean) rc rs) (hR : xRm X 3 58) (hV : (6, 0) ∈ xvl K) (hW0 : (33, 0) ∈ xvl K) (hW1 : (33, 1) ∈ xvl K) {k55 : xSt → Int32 → Int32 → Int32 → Int32 → Int32 → Int32 → Int32 → Int32 → Int32 → Int32 → Int32 → Option xR} (hk55 : ∀ (S : xSt) (i1 : Int32) (i2 : Int32) (i5 : Int32) (i6 : Int32) (i7 : Int32) (i8 : Int32) (i9 : Int32) (i10 : Int32) (i11 : Int32) (i12 : Int32) (i13 : Int32), k55 S i1 i2 i5 i6 i7 i8 i9 i10 i11 i12 i13 = some out → xG K X S 55 [(0, xr K 6 0), (1, .int i1), (2, .int i2), (3, xr K 33 0), (4, xr K 33 1), (5, .int i5), (6, .int i6), (7, .int i7), (8, .int i8), (9, .int i9), (10, .int i10), (11, .int i11), (12, .int i12), (13, .int i13)] []) : ∀ (n : Nat) (S : xSt) (i1 : Int32) (i2 : Int32) (i5 : Int32) (i6 : Int32) (i7 : Int32) (i8 : Int32) (i9 : Int32) (i10 : Int32) (i11 : Int32) (i12 : Int32) (i13 : Int32) (i15 : Int32) (i16 : Int32) (i17 : Int32) (i18 : Int32) (i19 : Int32) (h : fW_isRead_L252  k55 n S i1 i2 i5 i6 i7 i8 i9 i10 i11 i12 i13 i15 i16 i17 i18 i19 = some out), xG K X S 252 [(0, xr K 6 0), (1, .int i1), (2, .int i2), (3, xr K 33 0), (4, xr K 33 1), (5, .int i5), (6, .int i6), (7, .int i7), (8, .int i8), (9, .int i9), (10, .int i10), (11, .int i11), (12, .int i12), (13, .int i13), (15, .int i15), (16, .int i16), (17, .int i17), (18, .int i18), (19, .int i19)] [] := by
  intro n
  induction n with
  | zero => intro S i1 i2 i5 i6 i7 i8 i9 i10 i11 i12 i13 i15 i16 i17 i18 i19 h; cases h
  | succ n ih => intro S i1 i2 i5 i6 i7 i8 i9 i10 i11 i12 i13 i15 i16 i17 i18 i19 h; exact sbW_isRead_L252 hX hM hR hV hW0 hW1 hk55 ih h
set_option maxRecDepth 100000 in
theorem sfW_isRead_J249 {K0 K : xK} {ρ : xSt → xSt} {X : xX} {out : xR} {rc rs : Nat} (hX : xOK K X RL cL_isRead 20) (hM : xMN K0 K ρ X (ρ out.1, out.2) (some .boolean) rc rs) (hR : xRm X 3 58) (hV : (6, 0) ∈ xvl K) (hW0 : (33, 0) ∈ xvl K) (hW1 : (33, 1) ∈ xvl K) {k55 : xSt → Int32 → Int32 → Int32 → Int32 → Int32 → Int32 → Int32 → Int32 → Int32 → Int32 → Int32 → Option xR} (hk55 : ∀ (S : xSt) (i1 : Int32) (i2 : Int32) (i5 : Int32) (i6 : Int32) (i7 : Int32) (i8 : Int32) (i9 : Int32) (i10 : Int32) (i11 : Int32) (i12 : Int32) (i13 : Int32), k55 S i1 i2 i5 i6 i7 i8 i9 i10 i11 i12 i13 = some out → xG K X S 55 [(0, xr K 6 0), (1, .int i1), (2, .int i2), (3, xr K 33 0), (4, xr K 33 1), (5, .int i5), (6, .int i6), (7, .int i7), (8, .int i8), (9, .int i9), (10, .int i10), (11, .int i11), (12, .int i12), (13, .int i13)] []) {S : xSt} {i1 : Int32} {i2 : Int32} {i5 : Int32} {i6 : Int32} {i7 : Int32} {i8 : Int32} {i9 : Int32} {i10 : Int32} {i11 : Int32} {i12 : Int32} {i13 : Int32} {i15 : Int32} {i16 : Int32} {i17 : Int32} {i18 : Int32} (h : fW_isRead_J249  k55 S i1 i2 i5 i6 i7 i8 i9 i10 i11 i12 i13 i15 i16 i17 i18 = some out) : xG K X S 249 [(0, xr K 6 0), (1, .int i1), (2, .int i2), (3, xr K 33 0), (4, xr K 33 1), (5, .int i5), (6, .int i6), (7, .int i7), (8, .int i8), (9, .int i9), (10, .int i10), (11, .int i11), (12, .int i12), (13, .int i13), (15, .int i15), (16, .int i16), (17, .int i17), (18, .int i18)] [] := by
  unfold fW_isRead_J249 at h
  refine g_iconst (v := (0 : Int32)) hX dL_isRead_249 (by decide) ?_
  refine g_istore (lv2 := [(19, .int (0 : Int32)), (0, xr K 6 0), (1, .int i1), (2, .int i2), (3, xr K 33 0), (4, xr K 33 1), (5, .int i5), (6, .int i6), (7, .int i7), (8, .int i8), (9, .int i9), (10, .int i10), (11, .int i11), (12, .int i12), (13, .int i13), (15, .int i15), (16, .int i16), (17, .int i17), (18, .int i18)]) hX dL_isRead_250 (by decide) rfl ?_
  exact g_sub [1, 2, 3, 4, 5, 6, 7, 8, 9, 10, 11, 12, 13, 14, 15, 16, 17, 18, 0] (by rfl) (sfW_isRead_L252 hX hM hR hV hW0 hW1 hk55 _ _ _ _ _ _ _ _ _ _ _ _ _ _ _ _ _ _ h)
set_option maxRecDepth 100000 in
theorem sfW_isRead_J227 {K0 K : xK} {ρ : xSt → xSt} {X : xX} {out : xR} {rc rs : Nat} (hX : xOK K X RL cL_isRead 20) (hM : xMN K0 K ρ X (ρ out.1, out.2) (some .boolean) rc rs) (hR : xRm X 3 58) (hV : (6, 0) ∈ xvl K) (hW0 : (33, 0) ∈ xvl K) (hW1 : (33, 1) ∈ xvl K) {k55 : xSt → Int32 → Int32 → Int32 → Int32 → Int32 → Int32 → Int32 → Int32 → Int32 → Int32 → Int32 → Option xR} (hk55 : ∀ (S : xSt) (i1 : Int32) (i2 : Int32) (i5 : Int32) (i6 : Int32) (i7 : Int32) (i8 : Int32) (i9 : Int32) (i10 : Int32) (i11 : Int32) (i12 : Int32) (i13 : Int32), k55 S i1 i2 i5 i6 i7 i8 i9 i10 i11 i12 i13 = some out → xG K X S 55 [(0, xr K 6 0), (1, .int i1), (2, .int i2), (3, xr K 33 0), (4, xr K 33 1), (5, .int i5), (6, .int i6), (7, .int i7), (8, .int i8), (9, .int i9), (10, .int i10), (11, .int i11), (12, .int i12), (13, .int i13)] []) {S : xSt} {i1 : Int32} {i2 : Int32} {i5 : Int32} {i6 : Int32} {i7 : Int32} {i8 : Int32} {i9 : Int32} {i10 : Int32} {i11 : Int32} {i12 : Int32} {i13 : Int32} {i14 : Int32} {i15 : Int32} {i16 : Int32} {i17 : Int32} {k0 : Int32} (h : fW_isRead_J227  k55 S i1 i2 i5 i6 i7 i8 i9 i10 i11 i12 i13 i14 i15 i16 i17 k0 = some out) : xG K X S 227 [(0, xr K 6 0), (1, .int i1), (2, .int i2), (3, xr K 33 0), (4, xr K 33 1), (5, .int i5), (6, .int i6), (7, .int i7), (8, .int i8), (9, .int i9), (10, .int i10), (11, .int i11), (12, .int i12), (13, .int i13), (14, .int i14), (15, .int i15), (16, .int i16), (17, .int i17)] [.int k0] := by
  unfold fW_isRead_J227 at h
  refine g_istore (lv2 := [(18, .int k0), (0, xr K 6 0), (1, .int i1), (2, .int i2), (3, xr K 33 0), (4, xr K 33 1), (5, .int i5), (6, .int i6), (7, .int i7), (8, .int i8), (9, .int i9), (10, .int i10), (11, .int i11), (12, .int i12), (13, .int i13), (14, .int i14), (15, .int i15), (16, .int i16), (17, .int i17)]) hX dL_isRead_227 (by decide) rfl ?_
  refine g_iload hX dL_isRead_229 15 rfl ?_
  refine g_bipush (v := (8 : Int32)) hX dL_isRead_231 (by decide) ?_
  refine g_icmp_ge hX 249 dL_isRead_233 (by decide) (fun hc => ?_) (fun hc => ?_)
  · have h := xif_t hc h
    exact g_sub [1, 2, 3, 4, 5, 6, 7, 8, 9, 10, 11, 12, 13, 14, 16, 17, 18, 0] (by rfl) (sfW_isRead_J249 hX hM hR hV hW0 hW1 hk55 h)
  · have h := xif_f hc h
    refine g_aload_n hX dL_isRead_236 rfl 1 rfl ?_
    refine g_iload hX dL_isRead_237 9 rfl ?_
    obtain ⟨S1, r2, hcS1, h⟩ := xbI_inv h
    refine g_callV hX hR hV (fun l => c6_read (l := l) hX.vc hV hcS1) xc9_33 rfl ⟨by decide, by decide⟩ rfl rfl (Nat.le_of_ble_eq_true rfl) dL_isRead_239 ?_
    refine g_iload hX dL_isRead_242 15 rfl ?_
    refine g_icmp_eq hX 249 dL_isRead_244 (by decide) (fun hc => ?_) (fun hc => ?_)
    · have h := xif_t hc h
      exact g_sub [1, 2, 3, 4, 5, 6, 7, 8, 9, 10, 11, 12, 13, 14, 16, 17, 18, 0] (by rfl) (sfW_isRead_J249 hX hM hR hV hW0 hW1 hk55 h)
    · have h := xif_f hc h
      refine g_iconst (v := (0 : Int32)) hX dL_isRead_247 (by decide) ?_
      obtain ⟨hz, h⟩ := xne_inv h
      exact g_zretN hX hM hz (by rw [← Option.some.inj h]) dL_isRead_248
set_option maxRecDepth 100000 in
theorem sfW_isRead_J201 {K0 K : xK} {ρ : xSt → xSt} {X : xX} {out : xR} {rc rs : Nat} (hX : xOK K X RL cL_isRead 20) (hM : xMN K0 K ρ X (ρ out.1, out.2) (some .boolean) rc rs) (hR : xRm X 3 58) (hV : (6, 0) ∈ xvl K) (hW0 : (33, 0) ∈ xvl K) (hW1 : (33, 1) ∈ xvl K) {k55 : xSt → Int32 → Int32 → Int32 → Int32 → Int32 → Int32 → Int32 → Int32 → Int32 → Int32 → Int32 → Option xR} (hk55 : ∀ (S : xSt) (i1 : Int32) (i2 : Int32) (i5 : Int32) (i6 : Int32) (i7 : Int32) (i8 : Int32) (i9 : Int32) (i10 : Int32) (i11 : Int32) (i12 : Int32) (i13 : Int32), k55 S i1 i2 i5 i6 i7 i8 i9 i10 i11 i12 i13 = some out → xG K X S 55 [(0, xr K 6 0), (1, .int i1), (2, .int i2), (3, xr K 33 0), (4, xr K 33 1), (5, .int i5), (6, .int i6), (7, .int i7), (8, .int i8), (9, .int i9), (10, .int i10), (11, .int i11), (12, .int i12), (13, .int i13)] []) {S : xSt} {i1 : Int32} {i2 : Int32} {i5 : Int32} {i6 : Int32} {i7 : Int32} {i8 : Int32} {i9 : Int32} {i10 : Int32} {i11 : Int32} {i12 : Int32} {i13 : Int32} {i14 : Int32} {i15 : Int32} {i16 : Int32} {k0 : Int32} (h : fW_isRead_J201  k55 S i1 i2 i5 i6 i7 i8 i9 i10 i11 i12 i13 i14 i15 i16 k0 = some out) : xG K X S 201 [(0, xr K 6 0), (1, .int i1), (2, .int i2), (3, xr K 33 0), (4, xr K 33 1), (5, .int i5), (6, .int i6), (7, .int i7), (8, .int i8), (9, .int i9), (10, .int i10), (11, .int i11), (12, .int i12), (13, .int i13), (14, .int i14), (15, .int i15), (16, .int i16)] [.int k0] := by
  unfold fW_isRead_J201 at h
  refine g_istore (lv2 := [(17, .int k0), (0, xr K 6 0), (1, .int i1), (2, .int i2), (3, xr K 33 0), (4, xr K 33 1), (5, .int i5), (6, .int i6), (7, .int i7), (8, .int i8), (9, .int i9), (10, .int i10), (11, .int i11), (12, .int i12), (13, .int i13), (14, .int i14), (15, .int i15), (16, .int i16)]) hX dL_isRead_201 (by decide) rfl ?_
  refine g_iload hX dL_isRead_203 15 rfl ?_
  refine g_bipush (v := (8 : Int32)) hX dL_isRead_205 (by decide) ?_
  refine g_icmp_ge hX 214 dL_isRead_207 (by decide) (fun hc => ?_) (fun hc => ?_)
  · have h := xif_t hc h
    refine g_aload hX dL_isRead_214 5 rfl ?_
    refine g_iload hX dL_isRead_216 7 rfl ?_
    refine g_iload hX dL_isRead_218 15 rfl ?_
    refine g_iadd hX dL_isRead_220 ?_
    refine g_bipush (v := (10 : Int32)) hX dL_isRead_221 (by decide) ?_
    refine g_isub hX dL_isRead_223 ?_
    obtain ⟨hbj1, h⟩ := xat_inv h
    refine g_iald (n := 64) hX hW1 rfl hbj1 dL_isRead_224 ?_
    refine g_iconst (v := (1 : Int32)) hX dL_isRead_225 (by decide) ?_
    refine g_iadd hX dL_isRead_226 ?_
    exact g_sub [1, 2, 3, 4, 5, 6, 7, 8, 9, 10, 11, 12, 13, 14, 15, 16, 17, 0] (by rfl) (sfW_isRead_J227 hX hM hR hV hW0 hW1 hk55 h)
  · have h := xif_f hc h
    refine g_iconst (v := (1 : Int32)) hX dL_isRead_210 (by decide) ?_
    refine g_goto hX 227 dL_isRead_211 (by decide) ?_
    exact g_sub [1, 2, 3, 4, 5, 6, 7, 8, 9, 10, 11, 12, 13, 14, 15, 16, 17, 0] (by rfl) (sfW_isRead_J227 hX hM hR hV hW0 hW1 hk55 h)
set_option maxRecDepth 100000 in
theorem sfW_isRead_J179 {K0 K : xK} {ρ : xSt → xSt} {X : xX} {out : xR} {rc rs : Nat} (hX : xOK K X RL cL_isRead 20) (hM : xMN K0 K ρ X (ρ out.1, out.2) (some .boolean) rc rs) (hR : xRm X 3 58) (hV : (6, 0) ∈ xvl K) (hW0 : (33, 0) ∈ xvl K) (hW1 : (33, 1) ∈ xvl K) {k55 : xSt → Int32 → Int32 → Int32 → Int32 → Int32 → Int32 → Int32 → Int32 → Int32 → Int32 → Int32 → Option xR} (hk55 : ∀ (S : xSt) (i1 : Int32) (i2 : Int32) (i5 : Int32) (i6 : Int32) (i7 : Int32) (i8 : Int32) (i9 : Int32) (i10 : Int32) (i11 : Int32) (i12 : Int32) (i13 : Int32), k55 S i1 i2 i5 i6 i7 i8 i9 i10 i11 i12 i13 = some out → xG K X S 55 [(0, xr K 6 0), (1, .int i1), (2, .int i2), (3, xr K 33 0), (4, xr K 33 1), (5, .int i5), (6, .int i6), (7, .int i7), (8, .int i8), (9, .int i9), (10, .int i10), (11, .int i11), (12, .int i12), (13, .int i13)] []) {S : xSt} {i1 : Int32} {i2 : Int32} {i5 : Int32} {i6 : Int32} {i7 : Int32} {i8 : Int32} {i9 : Int32} {i10 : Int32} {i11 : Int32} {i12 : Int32} {i13 : Int32} {i14 : Int32} {i15 : Int32} {i16 : Int32} (h : fW_isRead_J179  k55 S i1 i2 i5 i6 i7 i8 i9 i10 i11 i12 i13 i14 i15 i16 = some out) : xG K X S 179 [(0, xr K 6 0), (1, .int i1), (2, .int i2), (3, xr K 33 0), (4, xr K 33 1), (5, .int i5), (6, .int i6), (7, .int i7), (8, .int i8), (9, .int i9), (10, .int i10), (11, .int i11), (12, .int i12), (13, .int i13), (14, .int i14), (15, .int i15), (16, .int i16)] [] := by
  unfold fW_isRead_J179 at h
  refine g_iload hX dL_isRead_179 14 rfl ?_
  refine g_bipush (v := (8 : Int32)) hX dL_isRead_181 (by decide) ?_
  refine g_icmp_ge hX 191 dL_isRead_183 (by decide) (fun hc => ?_) (fun hc => ?_)
  · have h := xif_t hc h
    refine g_aload_n hX dL_isRead_191 rfl 3 rfl ?_
    refine g_iload hX dL_isRead_192 6 rfl ?_
    refine g_iload hX dL_isRead_194 14 rfl ?_
    refine g_iadd hX dL_isRead_196 ?_
    refine g_bipush (v := (10 : Int32)) hX dL_isRead_197 (by decide) ?_
    refine g_isub hX dL_isRead_199 ?_
    obtain ⟨hbj1, h⟩ := xat_inv h
    refine g_iald (n := 64) hX hW0 rfl hbj1 dL_isRead_200 ?_
    exact sfW_isRead_J201 hX hM hR hV hW0 hW1 hk55 h
  · have h := xif_f hc h
    refine g_iload hX dL_isRead_186 8 rfl ?_
    refine g_goto hX 201 dL_isRead_188 (by decide) ?_
    exact sfW_isRead_J201 hX hM hR hV hW0 hW1 hk55 h
set_option maxRecDepth 100000 in
theorem sfW_isRead_J112 {K0 K : xK} {ρ : xSt → xSt} {X : xX} {out : xR} {rc rs : Nat} (hX : xOK K X RL cL_isRead 20) (hM : xMN K0 K ρ X (ρ out.1, out.2) (some .boolean) rc rs) (hR : xRm X 3 58) (hV : (6, 0) ∈ xvl K) (hW0 : (33, 0) ∈ xvl K) (hW1 : (33, 1) ∈ xvl K) {k55 : xSt → Int32 → Int32 → Int32 → Int32 → Int32 → Int32 → Int32 → Int32 → Int32 → Int32 → Int32 → Option xR} (hk55 : ∀ (S : xSt) (i1 : Int32) (i2 : Int32) (i5 : Int32) (i6 : Int32) (i7 : Int32) (i8 : Int32) (i9 : Int32) (i10 : Int32) (i11 : Int32) (i12 : Int32) (i13 : Int32), k55 S i1 i2 i5 i6 i7 i8 i9 i10 i11 i12 i13 = some out → xG K X S 55 [(0, xr K 6 0), (1, .int i1), (2, .int i2), (3, xr K 33 0), (4, xr K 33 1), (5, .int i5), (6, .int i6), (7, .int i7), (8, .int i8), (9, .int i9), (10, .int i10), (11, .int i11), (12, .int i12), (13, .int i13)] []) {S : xSt} {i1 : Int32} {i2 : Int32} {i5 : Int32} {i6 : Int32} {i7 : Int32} {i8 : Int32} {i9 : Int32} {i10 : Int32} {i11 : Int32} {i12 : Int32} {i13 : Int32} {i14 : Int32} {i15 : Int32} {k0 : Int32} (h : fW_isRead_J112  k55 S i1 i2 i5 i6 i7 i8 i9 i10 i11 i12 i13 i14 i15 k0 = some out) : xG K X S 112 [(0, xr K 6 0), (1, .int i1), (2, .int i2), (3, xr K 33 0), (4, xr K 33 1), (5, .int i5), (6, .int i6), (7, .int i7), (8, .int i8), (9, .int i9), (10, .int i10), (11, .int i11), (12, .int i12), (13, .int i13), (14, .int i14), (15, .int i15)] [.int k0] := by
  unfold fW_isRead_J112 at h
  refine g_istore (lv2 := [(16, .int k0), (0, xr K 6 0), (1, .int i1), (2, .int i2), (3, xr K 33 0), (4, xr K 33 1), (5, .int i5), (6, .int i6), (7, .int i7), (8, .int i8), (9, .int i9), (10, .int i10), (11, .int i11), (12, .int i12), (13, .int i13), (14, .int i14), (15, .int i15)]) hX dL_isRead_112 (by decide) rfl ?_
  refine g_iload hX dL_isRead_114 13 rfl ?_
  refine g_if_eq hX 129 dL_isRead_116 (by decide) (fun hc => ?_) (fun hc => ?_)
  · have h := xif_t hc h
    refine g_iload hX dL_isRead_129 15 rfl ?_
    refine g_bipush (v := (9 : Int32)) hX dL_isRead_131 (by decide) ?_
    refine g_icmp_ne hX 142 dL_isRead_133 (by decide) (fun hc => ?_) (fun hc => ?_)
    · have h := xif_f hc h
      refine g_iload hX dL_isRead_142 15 rfl ?_
      refine g_bipush (v := (8 : Int32)) hX dL_isRead_144 (by decide) ?_
      refine g_icmp_ne hX 160 dL_isRead_146 (by decide) (fun hc => ?_) (fun hc => ?_)
      · have h := xif_f hc h
        refine g_iload hX dL_isRead_160 15 rfl ?_
        refine g_bipush (v := (8 : Int32)) hX dL_isRead_162 (by decide) ?_
        refine g_icmp_lt hX 179 dL_isRead_164 (by decide) (fun hc => ?_) (fun hc => ?_)
        · have h := xif_t hc h
          exact g_sub [1, 2, 3, 4, 5, 6, 7, 8, 9, 10, 11, 12, 13, 14, 15, 16, 0] (by rfl) (sfW_isRead_J179 hX hM hR hV hW0 hW1 hk55 h)
        · have h := xif_f hc h
          refine g_iload hX dL_isRead_167 15 rfl ?_
          refine g_iload hX dL_isRead_169 6 rfl ?_
          refine g_icmp_lt hX 179 dL_isRead_171 (by decide) (fun hc => ?_) (fun hc => ?_)
          · have h := xif_t hc h
            exact g_sub [1, 2, 3, 4, 5, 6, 7, 8, 9, 10, 11, 12, 13, 14, 15, 16, 0] (by rfl) (sfW_isRead_J179 hX hM hR hV hW0 hW1 hk55 h)
          · have h := xif_f hc h
            refine g_iload hX dL_isRead_174 0 rfl ?_
            refine g_if_eq hX 350 dL_isRead_176 (by decide) (fun hc => ?_) (fun hc => ?_)
            · have h := xif_t hc h
              refine g_iload hX dL_isRead_350 14 rfl ?_
              refine g_istore (lv2 := [(10, .int i13), (16, .int k0), (0, xr K 6 0), (1, .int i1), (2, .int i2), (3, xr K 33 0), (4, xr K 33 1), (5, .int i5), (6, .int i6), (7, .int i7), (8, .int i8), (9, .int i9), (11, .int i11), (12, .int i12), (13, .int i13), (14, .int i14), (15, .int i15)]) hX dL_isRead_352 (by decide) rfl ?_
              refine g_iconst (v := (1 : Int32)) hX dL_isRead_354 (by decide) ?_
              refine g_istore (lv2 := [(11, .int (1 : Int32)), (10, .int i13), (16, .int k0), (0, xr K 6 0), (1, .int i1), (2, .int i2), (3, xr K 33 0), (4, xr K 33 1), (5, .int i5), (6, .int i6), (7, .int i7), (8, .int i8), (9, .int i9), (12, .int i12), (13, .int i13), (14, .int i14), (15, .int i15)]) hX dL_isRead_355 (by decide) rfl ?_
              exact g_sub [3, 4, 5, 6, 7, 8, 9, 10, 11, 12, 1, 0, 13, 14] (by rfl) (sfW_isRead_J357 hX hM hR hV hW0 hW1 hk55 h)
            · have h := xif_f hc h
              exact g_sub [1, 2, 3, 4, 5, 6, 7, 8, 9, 10, 11, 12, 13, 14, 15, 16, 0] (by rfl) (sfW_isRead_J179 hX hM hR hV hW0 hW1 hk55 h)
      · have h := xif_t hc h
        refine g_iload hX dL_isRead_149 8 rfl ?_
        refine g_istore (lv2 := [(6, .int i7), (16, .int k0), (0, xr K 6 0), (1, .int i1), (2, .int i2), (3, xr K 33 0), (4, xr K 33 1), (5, .int i5), (7, .int i7), (8, .int i8), (9, .int i9), (10, .int i10), (11, .int i11), (12, .int i12), (13, .int i13), (14, .int i14), (15, .int i15)]) hX dL_isRead_151 (by decide) rfl ?_
        refine g_bipush (v := (10 : Int32)) hX dL_isRead_153 (by decide) ?_
        refine g_istore (lv2 := [(5, .int (10 : Int32)), (6, .int i7), (16, .int k0), (0, xr K 6 0), (1, .int i1), (2, .int i2), (3, xr K 33 0), (4, xr K 33 1), (7, .int i7), (8, .int i8), (9, .int i9), (10, .int i10), (11, .int i11), (12, .int i12), (13, .int i13), (14, .int i14), (15, .int i15)]) hX dL_isRead_155 (by decide) rfl ?_
        refine g_goto hX 357 dL_isRead_157 (by decide) ?_
        exact g_sub [3, 4, 5, 6, 7, 0, 1, 8, 9, 10, 11, 12, 13, 14] (by rfl) (sfW_isRead_J357 hX hM hR hV hW0 hW1 hk55 h)
    · have h := xif_t hc h
      refine g_iconst (v := (1 : Int32)) hX dL_isRead_136 (by decide) ?_
      refine g_istore (lv2 := [(12, .int (1 : Int32)), (16, .int k0), (0, xr K 6 0), (1, .int i1), (2, .int i2), (3, xr K 33 0), (4, xr K 33 1), (5, .int i5), (6, .int i6), (7, .int i7), (8, .int i8), (9, .int i9), (10, .int i10), (11, .int i11), (13, .int i13), (14, .int i14), (15, .int i15)]) hX dL_isRead_137 (by decide) rfl ?_
      refine g_goto hX 357 dL_isRead_139 (by decide) ?_
      exact g_sub [2, 3, 4, 5, 6, 7, 8, 9, 10, 11, 12, 13, 0, 14] (by rfl) (sfW_isRead_J357 hX hM hR hV hW0 hW1 hk55 h)
  · have h := xif_f hc h
    refine g_iload hX dL_isRead_119 14 rfl ?_
    refine g_istore (lv2 := [(10, .int i13), (16, .int k0), (0, xr K 6 0), (1, .int i1), (2, .int i2), (3, xr K 33 0), (4, xr K 33 1), (5, .int i5), (6, .int i6), (7, .int i7), (8, .int i8), (9, .int i9), (11, .int i11), (12, .int i12), (13, .int i13), (14, .int i14), (15, .int i15)]) hX dL_isRead_121 (by decide) rfl ?_
    refine g_iconst (v := (3 : Int32)) hX dL_isRead_123 (by decide) ?_
    refine g_istore (lv2 := [(11, .int (3 : Int32)), (10, .int i13), (16, .int k0), (0, xr K 6 0), (1, .int i1), (2, .int i2), (3, xr K 33 0), (4, xr K 33 1), (5, .int i5), (6, .int i6), (7, .int i7), (8, .int i8), (9, .int i9), (12, .int i12), (13, .int i13), (14, .int i14), (15, .int i15)]) hX dL_isRead_124 (by decide) rfl ?_
    refine g_goto hX 357 dL_isRead_126 (by decide) ?_
    exact g_sub [3, 4, 5, 6, 7, 8, 9, 10, 11, 12, 1, 0, 13, 14] (by rfl) (sfW_isRead_J357 hX hM hR hV hW0 hW1 hk55 h)
set_option maxRecDepth 100000 in
theorem sfW_isRead_J111 {K0 K : xK} {ρ : xSt → xSt} {X : xX} {out : xR} {rc rs : Nat} (hX : xOK K X RL cL_isRead 20) (hM : xMN K0 K ρ X (ρ out.1, out.2) (some .boolean) rc rs) (hR : xRm X 3 58) (hV : (6, 0) ∈ xvl K) (hW0 : (33, 0) ∈ xvl K) (hW1 : (33, 1) ∈ xvl K) {k55 : xSt → Int32 → Int32 → Int32 → Int32 → Int32 → Int32 → Int32 → Int32 → Int32 → Int32 → Int32 → Option xR} (hk55 : ∀ (S : xSt) (i1 : Int32) (i2 : Int32) (i5 : Int32) (i6 : Int32) (i7 : Int32) (i8 : Int32) (i9 : Int32) (i10 : Int32) (i11 : Int32) (i12 : Int32) (i13 : Int32), k55 S i1 i2 i5 i6 i7 i8 i9 i10 i11 i12 i13 = some out → xG K X S 55 [(0, xr K 6 0), (1, .int i1), (2, .int i2), (3, xr K 33 0), (4, xr K 33 1), (5, .int i5), (6, .int i6), (7, .int i7), (8, .int i8), (9, .int i9), (10, .int i10), (11, .int i11), (12, .int i12), (13, .int i13)] []) {S : xSt} {i1 : Int32} {i2 : Int32} {i5 : Int32} {i6 : Int32} {i7 : Int32} {i8 : Int32} {i9 : Int32} {i10 : Int32} {i11 : Int32} {i12 : Int32} {i13 : Int32} {i14 : Int32} {i15 : Int32} (h : fW_isRead_J111  k55 S i1 i2 i5 i6 i7 i8 i9 i10 i11 i12 i13 i14 i15 = some out) : xG K X S 111 [(0, xr K 6 0), (1, .int i1), (2, .int i2), (3, xr K 33 0), (4, xr K 33 1), (5, .int i5), (6, .int i6), (7, .int i7), (8, .int i8), (9, .int i9), (10, .int i10), (11, .int i11), (12, .int i12), (13, .int i13), (14, .int i14), (15, .int i15)] [] := by
  unfold fW_isRead_J111 at h
  refine g_iconst (v := (0 : Int32)) hX dL_isRead_111 (by decide) ?_
  exact sfW_isRead_J112 hX hM hR hV hW0 hW1 hk55 h
set_option maxRecDepth 100000 in
theorem sfW_isRead_J87 {K0 K : xK} {ρ : xSt → xSt} {X : xX} {out : xR} {rc rs : Nat} (hX : xOK K X RL cL_isRead 20) (hM : xMN K0 K ρ X (ρ out.1, out.2) (some .boolean) rc rs) (hR : xRm X 3 58) (hV : (6, 0) ∈ xvl K) (hW0 : (33, 0) ∈ xvl K) (hW1 : (33, 1) ∈ xvl K) {k55 : xSt → Int32 → Int32 → Int32 → Int32 → Int32 → Int32 → Int32 → Int32 → Int32 → Int32 → Int32 → Option xR} (hk55 : ∀ (S : xSt) (i1 : Int32) (i2 : Int32) (i5 : Int32) (i6 : Int32) (i7 : Int32) (i8 : Int32) (i9 : Int32) (i10 : Int32) (i11 : Int32) (i12 : Int32) (i13 : Int32), k55 S i1 i2 i5 i6 i7 i8 i9 i10 i11 i12 i13 = some out → xG K X S 55 [(0, xr K 6 0), (1, .int i1), (2, .int i2), (3, xr K 33 0), (4, xr K 33 1), (5, .int i5), (6, .int i6), (7, .int i7), (8, .int i8), (9, .int i9), (10, .int i10), (11, .int i11), (12, .int i12), (13, .int i13)] []) {S : xSt} {i1 : Int32} {i2 : Int32} {i5 : Int32} {i6 : Int32} {i7 : Int32} {i8 : Int32} {i9 : Int32} {i10 : Int32} {i11 : Int32} {i12 : Int32} {i13 : Int32} {i14 : Int32} {k0 : Int32} (h : fW_isRead_J87  k55 S i1 i2 i5 i6 i7 i8 i9 i10 i11 i12 i13 i14 k0 = some out) : xG K X S 87 [(0, xr K 6 0), (1, .int i1), (2, .int i2), (3, xr K 33 0), (4, xr K 33 1), (5, .int i5), (6, .int i6), (7, .int i7), (8, .int i8), (9, .int i9), (10, .int i10), (11, .int i11), (12, .int i12), (13, .int i13), (14, .int i14)] [.int k0] := by
  unfold fW_isRead_J87 at h
  refine g_istore (lv2 := [(15, .int k0), (0, xr K 6 0), (1, .int i1), (2, .int i2), (3, xr K 33 0), (4, xr K 33 1), (5, .int i5), (6, .int i6), (7, .int i7), (8, .int i8), (9, .int i9), (10, .int i10), (11, .int i11), (12, .int i12), (13, .int i13), (14, .int i14)]) hX dL_isRead_87 (by decide) rfl ?_
  refine g_iload hX dL_isRead_89 15 rfl ?_
  refine g_iload hX dL_isRead_91 6 rfl ?_
  refine g_icmp_ne hX 111 dL_isRead_93 (by decide) (fun hc => ?_) (fun hc => ?_)
  · have h := xif_f hc h
    exact g_sub [1, 2, 3, 4, 5, 6, 7, 8, 9, 10, 11, 12, 13, 14, 15, 0] (by rfl) (sfW_isRead_J111 hX hM hR hV hW0 hW1 hk55 h)
  · have h := xif_t hc h
    refine g_iload hX dL_isRead_96 0 rfl ?_
    refine g_if_eq hX 111 dL_isRead_98 (by decide) (fun hc => ?_) (fun hc => ?_)
    · have h := xif_t hc h
      exact g_sub [1, 2, 3, 4, 5, 6, 7, 8, 9, 10, 11, 12, 13, 14, 15, 0] (by rfl) (sfW_isRead_J111 hX hM hR hV hW0 hW1 hk55 h)
    · have h := xif_f hc h
      refine g_iload hX dL_isRead_101 6 rfl ?_
      refine g_iload_n hX dL_isRead_103 rfl 3 rfl ?_
      refine g_icmp_ge hX 111 dL_isRead_104 (by decide) (fun hc => ?_) (fun hc => ?_)
      · have h := xif_t hc h
        exact g_sub [1, 2, 3, 4, 5, 6, 7, 8, 9, 10, 11, 12, 13, 14, 15, 0] (by rfl) (sfW_isRead_J111 hX hM hR hV hW0 hW1 hk55 h)
      · have h := xif_f hc h
        refine g_iconst (v := (1 : Int32)) hX dL_isRead_107 (by decide) ?_
        refine g_goto hX 112 dL_isRead_108 (by decide) ?_
        exact g_sub [1, 2, 3, 4, 5, 6, 7, 8, 9, 10, 11, 12, 13, 14, 15, 0] (by rfl) (sfW_isRead_J112 hX hM hR hV hW0 hW1 hk55 h)
set_option maxRecDepth 100000 in
theorem sbW_isRead_L55 {K0 K : xK} {ρ : xSt → xSt} {X : xX} {out : xR} {rc rs : Nat} (hX : xOK K X RL cL_isRead 20) (hM : xMN K0 K ρ X (ρ out.1, out.2) (some .boolean) rc rs) (hR : xRm X 3 58) (hV : (6, 0) ∈ xvl K) (hW0 : (33, 0) ∈ xvl K) (hW1 : (33, 1) ∈ xvl K)  {k55 : xSt → Int32 → Int32 → Int32 → Int32 → Int32 → Int32 → Int32 → Int32 → Int32 → Int32 → Int32 → Option xR} (hk55 : ∀ (S : xSt) (i1 : Int32) (i2 : Int32) (i5 : Int32) (i6 : Int32) (i7 : Int32) (i8 : Int32) (i9 : Int32) (i10 : Int32) (i11 : Int32) (i12 : Int32) (i13 : Int32), k55 S i1 i2 i5 i6 i7 i8 i9 i10 i11 i12 i13 = some out → xG K X S 55 [(0, xr K 6 0), (1, .int i1), (2, .int i2), (3, xr K 33 0), (4, xr K 33 1), (5, .int i5), (6, .int i6), (7, .int i7), (8, .int i8), (9, .int i9), (10, .int i10), (11, .int i11), (12, .int i12), (13, .int i13)] []) {S : xSt} {i1 : Int32} {i2 : Int32} {i5 : Int32} {i6 : Int32} {i7 : Int32} {i8 : Int32} {i9 : Int32} {i10 : Int32} {i11 : Int32} {i12 : Int32} {i13 : Int32} (h : bW_isRead_L55   k55 S i1 i2 i5 i6 i7 i8 i9 i10 i11 i12 i13 = some out) : xG K X S 55 [(0, xr K 6 0), (1, .int i1), (2, .int i2), (3, xr K 33 0), (4, xr K 33 1), (5, .int i5), (6, .int i6), (7, .int i7), (8, .int i8), (9, .int i9), (10, .int i10), (11, .int i11), (12, .int i12), (13, .int i13)] [] := by
  unfold bW_isRead_L55 at h
  refine g_iload hX dL_isRead_55 13 rfl ?_
  refine g_iload_n hX dL_isRead_57 rfl 1 rfl ?_
  refine g_icmp_ge hX 363 dL_isRead_58 (by decide) (fun hc => ?_) (fun hc => ?_)
  · have h := xif_t hc h
    exact g_sub [0, 1, 5, 8, 9, 10, 11, 12] (by rfl) (sfW_isRead_J363 hX hM hR hV hW0 hW1 h)
  · have h := xif_f hc h
    refine g_iload hX dL_isRead_61 11 rfl ?_
    refine g_if_ne hX 363 dL_isRead_63 (by decide) (fun hc => ?_) (fun hc => ?_)
    · have h := xif_f hc h
      exact g_sub [0, 1, 5, 8, 9, 10, 11, 12] (by rfl) (sfW_isRead_J363 hX hM hR hV hW0 hW1 h)
    · have h := xif_t hc h
      refine g_aload_n hX dL_isRead_66 rfl 0 rfl ?_
      refine g_iload hX dL_isRead_67 13 rfl ?_
      refine g_iconst (v := (1 : Int32)) hX dL_isRead_69 (by decide) ?_
      obtain ⟨S1, r2, hcS1, h⟩ := xbI_inv h
      refine g_callV hX hR hV (fun l => c6_ofCode (l := l) hX.vc hV hcS1) xc9_17 rfl ⟨by decide, by decide⟩ rfl rfl (Nat.le_of_ble_eq_true rfl) dL_isRead_70 ?_
      refine g_istore (lv2 := [(14, .int r2), (0, xr K 6 0), (1, .int i1), (2, .int i2), (3, xr K 33 0), (4, xr K 33 1), (5, .int i5), (6, .int i6), (7, .int i7), (8, .int i8), (9, .int i9), (10, .int i10), (11, .int i11), (12, .int i12), (13, .int i13)]) hX dL_isRead_73 (by decide) rfl ?_
      refine g_iload hX dL_isRead_75 8 rfl ?_
      refine g_iload hX dL_isRead_77 7 rfl ?_
      refine g_icmp_le hX 86 dL_isRead_79 (by decide) (fun hc => ?_) (fun hc => ?_)
      · have h := xif_t hc h
        refine g_iconst (v := (0 : Int32)) hX dL_isRead_86 (by decide) ?_
        exact g_sub [1, 2, 3, 4, 5, 6, 7, 8, 9, 10, 11, 12, 13, 14, 0] (by rfl) (sfW_isRead_J87 hX hM hR hV hW0 hW1 hk55 h)
      · have h := xif_f hc h
        refine g_iconst (v := (1 : Int32)) hX dL_isRead_82 (by decide) ?_
        refine g_goto hX 87 dL_isRead_83 (by decide) ?_
        exact g_sub [1, 2, 3, 4, 5, 6, 7, 8, 9, 10, 11, 12, 13, 14, 0] (by rfl) (sfW_isRead_J87 hX hM hR hV hW0 hW1 hk55 h)
theorem sfW_isRead_L55 {K0 K : xK} {ρ : xSt → xSt} {X : xX} {out : xR} {rc rs : Nat} (hX : xOK K X RL cL_isRead 20) (hM : xMN K0 K ρ X (ρ out.1, out.2) (some .boolean) rc rs) (hR : xRm X 3 58) (hV : (6, 0) ∈ xvl K) (hW0 : (33, 0) ∈ xvl K) (hW1 : (33, 1) ∈ xvl K)  : ∀ (n : Nat) (S : xSt) (i1 : Int32) (i2 : Int32) (i5 : Int32) (i6 : Int32) (i7 : Int32) (i8 : Int32) (i9 : Int32) (i10 : Int32) (i11 : Int32) (i12 : Int32) (i13 : Int32) (h : fW_isRead_L55   n S i1 i2 i5 i6 i7 i8 i9 i10 i11 i12 i13 = some out), xG K X S 55 [(0, xr K 6 0), (1, .int i1), (2, .int i2), (3, xr K 33 0), (4, xr K 33 1), (5, .int i5), (6, .int i6), (7, .int i7), (8, .int i8), (9, .int i9), (10, .int i10), (11, .int i11), (12, .int i12), (13, .int i13)] [] := by
  intro n
  induction n with
  | zero => intro S i1 i2 i5 i6 i7 i8 i9 i10 i11 i12 i13 h; cases h
  | succ n ih => intro S i1 i2 i5 i6 i7 i8 i9 i10 i11 i12 i13 h; exact sbW_isRead_L55 hX hM hR hV hW0 hW1  ih h
set_option maxRecDepth 100000 in
theorem cW_isRead {l : Launch} {K : xK} (hvc : xVC (xvl K)) (hV : (6, 0) ∈ xvl K) (hN : ∀ o, (33, o) ∉ xvl K) {S : xSt} {out : xR} (h : hW_isRead S = some out) : xMetN l K yL_isRead cL_isRead 20 (some .boolean) 3 58 2 128 S [xr K 6 0] out := by
  obtain ⟨out, h9, rfl⟩ := Option.map_eq_some_iff.mp h
  refine xMetN_of RL (xrst S) (by decide +kernel) rfl hvc (fun S9 U9 H9 w => xrst_Wd hN S S9 w) (Nat.le_of_ble_eq_true rfl) ?_
  intro X hX hM hR
  show xG K X S 0 [(0, xr K 6 0)] []
  have h := h9
  unfold fW_isRead at h
  refine g_aload_n hX dL_isRead_0 rfl 0 rfl ?_
  refine g_iconst (v := (1 : Int32)) hX dL_isRead_1 (by decide) ?_
  obtain ⟨S1, r2, hcS1, h⟩ := xbI_inv h
  refine g_callV hX hR hV (fun l => c6_count (l := l) hX.vc hV hcS1) xc9_8 rfl ⟨by decide, by decide⟩ rfl rfl (Nat.le_of_ble_eq_true rfl) dL_isRead_2 ?_
  refine g_istore_n (lv2 := [(1, .int r2), (0, xr K 6 0)]) hX dL_isRead_5 rfl (by decide) rfl ?_
  refine g_iconst (v := (1 : Int32)) hX dL_isRead_6 (by decide) ?_
  refine g_aload_n hX dL_isRead_7 rfl 1 rfl ?_
  refine g_bipush (v := (9 : Int32)) hX dL_isRead_8 (by decide) ?_
  obtain ⟨S3, r4, hcS3, h⟩ := xbI_inv h
  refine g_callV hX hR hV (fun l => c6_count (l := l) hX.vc hV hcS3) xc9_8 rfl ⟨by decide, by decide⟩ rfl rfl (Nat.le_of_ble_eq_true rfl) dL_isRead_10 ?_
  refine g_ishl hX dL_isRead_13 ?_
  refine g_istore_n (lv2 := [(2, .int ((1 : Int32) <<< (r4 &&& 31))), (1, .int r2), (0, xr K 6 0)]) hX dL_isRead_14 rfl (by decide) rfl ?_
  refine g_bipush (v := (64 : Int32)) hX dL_isRead_15 (by decide) ?_
  obtain ⟨S5, eS5, h⟩ := xlet_inv h
  refine g_newa (j := 0) 1 64 hX hM hR (hN 0) (by decide) (by decide) xarI eS5 dL_isRead_17 (fun K1 hE hX hM hR => ?_)
  rw [show xr K 6 0 = xr K1 6 0 from xEx_r hE (by decide)]
  have hV := xEx_in hE hV
  have hW0 := xEx_new hE
  have hN1 := xEx_no hE (hN 1) (by decide)
  refine g_astore_n (lv2 := [(3, xr K1 33 0), (2, .int ((1 : Int32) <<< (r4 &&& 31))), (1, .int r2), (0, xr K1 6 0)]) hX dL_isRead_19 rfl (by decide) rfl ?_
  refine g_bipush (v := (64 : Int32)) hX dL_isRead_20 (by decide) ?_
  obtain ⟨S6, eS6, h⟩ := xlet_inv h
  refine g_newa (j := 1) 0 0 hX hM hR hN1 (by decide) (by decide) xarI eS6 dL_isRead_22 (fun K2 hE hX hM hR => ?_)
  rw [show xr K1 33 0 = xr K2 33 0 from xEx_r hE (by decide)]
  rw [show xr K1 6 0 = xr K2 6 0 from xEx_r hE (by decide)]
  have hV := xEx_in hE hV
  have hW0 := xEx_in hE hW0
  have hW1 := xEx_new hE
  refine g_astore (lv2 := [(4, xr K2 33 1), (3, xr K2 33 0), (2, .int ((1 : Int32) <<< (r4 &&& 31))), (1, .int r2), (0, xr K2 6 0)]) hX dL_isRead_24 (by decide) rfl ?_
  refine g_bipush (v := (10 : Int32)) hX dL_isRead_26 (by decide) ?_
  refine g_istore (lv2 := [(5, .int (10 : Int32)), (4, xr K2 33 1), (3, xr K2 33 0), (2, .int ((1 : Int32) <<< (r4 &&& 31))), (1, .int r2), (0, xr K2 6 0)]) hX dL_isRead_28 (by decide) rfl ?_
  refine g_iconst (v := (0 : Int32)) hX dL_isRead_30 (by decide) ?_
  refine g_istore (lv2 := [(6, .int (0 : Int32)), (5, .int (10 : Int32)), (4, xr K2 33 1), (3, xr K2 33 0), (2, .int ((1 : Int32) <<< (r4 &&& 31))), (1, .int r2), (0, xr K2 6 0)]) hX dL_isRead_31 (by decide) rfl ?_
  refine g_iconst (v := (0 : Int32)) hX dL_isRead_33 (by decide) ?_
  refine g_istore (lv2 := [(7, .int (0 : Int32)), (6, .int (0 : Int32)), (5, .int (10 : Int32)), (4, xr K2 33 1), (3, xr K2 33 0), (2, .int ((1 : Int32) <<< (r4 &&& 31))), (1, .int r2), (0, xr K2 6 0)]) hX dL_isRead_34 (by decide) rfl ?_
  refine g_iconst (v := (0 : Int32)) hX dL_isRead_36 (by decide) ?_
  refine g_istore (lv2 := [(8, .int (0 : Int32)), (7, .int (0 : Int32)), (6, .int (0 : Int32)), (5, .int (10 : Int32)), (4, xr K2 33 1), (3, xr K2 33 0), (2, .int ((1 : Int32) <<< (r4 &&& 31))), (1, .int r2), (0, xr K2 6 0)]) hX dL_isRead_37 (by decide) rfl ?_
  refine g_iconst (v := (0 : Int32)) hX dL_isRead_39 (by decide) ?_
  refine g_istore (lv2 := [(9, .int (0 : Int32)), (8, .int (0 : Int32)), (7, .int (0 : Int32)), (6, .int (0 : Int32)), (5, .int (10 : Int32)), (4, xr K2 33 1), (3, xr K2 33 0), (2, .int ((1 : Int32) <<< (r4 &&& 31))), (1, .int r2), (0, xr K2 6 0)]) hX dL_isRead_40 (by decide) rfl ?_
  refine g_bipush (v := (-6 : Int32)) hX dL_isRead_42 (by decide) ?_
  refine g_istore (lv2 := [(10, .int (-6 : Int32)), (9, .int (0 : Int32)), (8, .int (0 : Int32)), (7, .int (0 : Int32)), (6, .int (0 : Int32)), (5, .int (10 : Int32)), (4, xr K2 33 1), (3, xr K2 33 0), (2, .int ((1 : Int32) <<< (r4 &&& 31))), (1, .int r2), (0, xr K2 6 0)]) hX dL_isRead_44 (by decide) rfl ?_
  refine g_iconst (v := (0 : Int32)) hX dL_isRead_46 (by decide) ?_
  refine g_istore (lv2 := [(11, .int (0 : Int32)), (10, .int (-6 : Int32)), (9, .int (0 : Int32)), (8, .int (0 : Int32)), (7, .int (0 : Int32)), (6, .int (0 : Int32)), (5, .int (10 : Int32)), (4, xr K2 33 1), (3, xr K2 33 0), (2, .int ((1 : Int32) <<< (r4 &&& 31))), (1, .int r2), (0, xr K2 6 0)]) hX dL_isRead_47 (by decide) rfl ?_
  refine g_iconst (v := (0 : Int32)) hX dL_isRead_49 (by decide) ?_
  refine g_istore (lv2 := [(12, .int (0 : Int32)), (11, .int (0 : Int32)), (10, .int (-6 : Int32)), (9, .int (0 : Int32)), (8, .int (0 : Int32)), (7, .int (0 : Int32)), (6, .int (0 : Int32)), (5, .int (10 : Int32)), (4, xr K2 33 1), (3, xr K2 33 0), (2, .int ((1 : Int32) <<< (r4 &&& 31))), (1, .int r2), (0, xr K2 6 0)]) hX dL_isRead_50 (by decide) rfl ?_
  refine g_iconst (v := (0 : Int32)) hX dL_isRead_52 (by decide) ?_
  refine g_istore (lv2 := [(13, .int (0 : Int32)), (12, .int (0 : Int32)), (11, .int (0 : Int32)), (10, .int (-6 : Int32)), (9, .int (0 : Int32)), (8, .int (0 : Int32)), (7, .int (0 : Int32)), (6, .int (0 : Int32)), (5, .int (10 : Int32)), (4, xr K2 33 1), (3, xr K2 33 0), (2, .int ((1 : Int32) <<< (r4 &&& 31))), (1, .int r2), (0, xr K2 6 0)]) hX dL_isRead_53 (by decide) rfl ?_
  exact g_sub [13, 12, 11, 10, 9, 8, 7, 6, 5, 4, 3, 2, 1, 0] (by rfl) (sfW_isRead_L55 hX hM hR hV hW0 hW1 _ _ _ _ _ _ _ _ _ _ _ _ _ h)
set_option maxRecDepth 100000 in
theorem sfW_agree_J95 {K0 K : xK} {ρ : xSt → xSt} {X : xX} {out : xR} {rc rs : Nat} (hX : xOK K X RL cL_agree 3) (hM : xMN K0 K ρ X (ρ out.1, out.2) (some .boolean) rc rs) (hR : xRm X 4 110) (hV : (6, 0) ∈ xvl K)  {S : xSt}  (h : fW_agree_J95   S  = some out) : xG K X S 95 [] [] := by
  unfold fW_agree_J95 at h
  refine g_iconst (v := (1 : Int32)) hX dL_agree_95 (by decide) ?_
  refine g_goto hX 100 dL_agree_96 (by decide) ?_
  obtain ⟨hz, h⟩ := xne_inv h
  exact g_zretN hX hM hz (by rw [← Option.some.inj h]) dL_agree_100
set_option maxRecDepth 100000 in
theorem sfW_agree_J42 {K0 K : xK} {ρ : xSt → xSt} {X : xX} {out : xR} {rc rs : Nat} (hX : xOK K X RL cL_agree 3) (hM : xMN K0 K ρ X (ρ out.1, out.2) (some .boolean) rc rs) (hR : xRm X 4 110) (hV : (6, 0) ∈ xvl K) (hN : ∀ o, (33, o) ∉ xvl K) (hcr : 5 ≤ rc ∧ 320 ≤ rs)  {S : xSt} {i1 : Int32} (h : fW_agree_J42   S i1 = some out) : xG K X S 42 [(0, xr K 6 0), (1, .int i1)] [] := by
  unfold fW_agree_J42 at h
  refine g_aload_n hX dL_agree_42 rfl 0 rfl ?_
  refine g_bipush (v := (6 : Int32)) hX dL_agree_43 (by decide) ?_
  obtain ⟨S1, r2, hcS1, h⟩ := xbI_inv h
  refine g_callV hX hR hV (fun l => c6_count (l := l) hX.vc hV hcS1) xc9_8 rfl ⟨by decide, by decide⟩ rfl rfl (Nat.le_of_ble_eq_true rfl) dL_agree_45 ?_
  refine g_iload_n hX dL_agree_48 rfl 1 rfl ?_
  refine g_icmp_ne hX 99 dL_agree_49 (by decide) (fun hc => ?_) (fun hc => ?_)
  · have h := xif_f hc h
    refine g_iconst (v := (0 : Int32)) hX dL_agree_99 (by decide) ?_
    obtain ⟨hz, h⟩ := xne_inv h
    exact g_zretN hX hM hz (by rw [← Option.some.inj h]) dL_agree_100
  · have h := xif_t hc h
    refine g_aload_n hX dL_agree_52 rfl 0 rfl ?_
    obtain ⟨S3, r4, hcS3, h⟩ := xbI_inv h
    have hR2 := xRm_kA (k := 3) (n := 192) hM hR (by omega) (by omega)
    refine g_callN (mc := 3) (ms := 192) hX hR hR2 (fun l => cW_areCodes (l := l) hX.vc hV hN hcS3) xc9_39 rfl ⟨by decide, by decide⟩ rfl rfl (Nat.le_of_ble_eq_true rfl) dL_agree_53 ?_
    have hX := xOK_kA 3 192 hX
    have hM := xMN_kA (k := 3) (n := 192) (rc2 := rc - 3) (rs2 := rs - 192) hM (by omega) (by omega)
    have hR := hR2
    refine g_if_eq hX 99 dL_agree_56 (by decide) (fun hc => ?_) (fun hc => ?_)
    · have h := xif_t hc h
      refine g_iconst (v := (0 : Int32)) hX dL_agree_99 (by decide) ?_
      obtain ⟨hz, h⟩ := xne_inv h
      exact g_zretN hX hM hz (by rw [← Option.some.inj h]) dL_agree_100
    · have h := xif_f hc h
      refine g_aload_n hX dL_agree_59 rfl 0 rfl ?_
      obtain ⟨S5, r6, hcS5, h⟩ := xbI_inv h
      refine g_callS hX hR (fun l => cW_areEntries (l := l) hX.vc hV hcS5) xc9_43 rfl ⟨by decide, by decide⟩ rfl rfl (Nat.le_of_ble_eq_true rfl) dL_agree_60 ?_
      refine g_if_eq hX 99 dL_agree_63 (by decide) (fun hc => ?_) (fun hc => ?_)
      · have h := xif_t hc h
        refine g_iconst (v := (0 : Int32)) hX dL_agree_99 (by decide) ?_
        obtain ⟨hz, h⟩ := xne_inv h
        exact g_zretN hX hM hz (by rw [← Option.some.inj h]) dL_agree_100
      · have h := xif_f hc h
        refine g_aload_n hX dL_agree_66 rfl 0 rfl ?_
        obtain ⟨S7, r8, hcS7, h⟩ := xbI_inv h
        have hR2 := xRm_kA (k := 2) (n := 128) hM hR (by omega) (by omega)
        refine g_callN (mc := 2) (ms := 128) hX hR hR2 (fun l => cW_isRead (l := l) hX.vc hV hN hcS7) xc9_46 rfl ⟨by decide, by decide⟩ rfl rfl (Nat.le_of_ble_eq_true rfl) dL_agree_67 ?_
        have hX := xOK_kA 2 128 hX
        have hM := xMN_kA (k := 2) (n := 128) (rc2 := rc - 5) (rs2 := rs - 320) hM (by omega) (by omega)
        have hR := hR2
        refine g_if_eq hX 99 dL_agree_70 (by decide) (fun hc => ?_) (fun hc => ?_)
        · have h := xif_t hc h
          refine g_iconst (v := (0 : Int32)) hX dL_agree_99 (by decide) ?_
          obtain ⟨hz, h⟩ := xne_inv h
          exact g_zretN hX hM hz (by rw [← Option.some.inj h]) dL_agree_100
        · have h := xif_f hc h
          refine g_iload_n hX dL_agree_73 rfl 1 rfl ?_
          refine g_if_gt hX 95 dL_agree_74 (by decide) (fun hc => ?_) (fun hc => ?_)
          · have h := xif_t hc h
            exact g_sub [] (by rfl) (sfW_agree_J95 hX hM hR hV h)
          · have h := xif_f hc h
            refine g_aload_n hX dL_agree_77 rfl 0 rfl ?_
            refine g_iconst (v := (5 : Int32)) hX dL_agree_78 (by decide) ?_
            obtain ⟨S9, r10, hcS9, h⟩ := xbI_inv h
            refine g_callV hX hR hV (fun l => c6_reading (l := l) hX.vc hV hcS9) xc9_36 rfl ⟨by decide, by decide⟩ rfl rfl (Nat.le_of_ble_eq_true rfl) dL_agree_79 ?_
            refine g_bipush (v := (-6 : Int32)) hX dL_agree_82 (by decide) ?_
            refine g_icmp_ne hX 99 dL_agree_84 (by decide) (fun hc => ?_) (fun hc => ?_)
            · have h := xif_f hc h
              refine g_iconst (v := (0 : Int32)) hX dL_agree_99 (by decide) ?_
              obtain ⟨hz, h⟩ := xne_inv h
              exact g_zretN hX hM hz (by rw [← Option.some.inj h]) dL_agree_100
            · have h := xif_t hc h
              refine g_aload_n hX dL_agree_87 rfl 0 rfl ?_
              refine g_iconst (v := (2 : Int32)) hX dL_agree_88 (by decide) ?_
              obtain ⟨S11, r12, hcS11, h⟩ := xbI_inv h
              refine g_callV hX hR hV (fun l => c6_reading (l := l) hX.vc hV hcS11) xc9_36 rfl ⟨by decide, by decide⟩ rfl rfl (Nat.le_of_ble_eq_true rfl) dL_agree_89 ?_
              refine g_if_ne hX 99 dL_agree_92 (by decide) (fun hc => ?_) (fun hc => ?_)
              · have h := xif_f hc h
                refine g_iconst (v := (0 : Int32)) hX dL_agree_99 (by decide) ?_
                obtain ⟨hz, h⟩ := xne_inv h
                exact g_zretN hX hM hz (by rw [← Option.some.inj h]) dL_agree_100
              · have h := xif_t hc h
                exact g_sub [] (by rfl) (sfW_agree_J95 hX hM hR hV h)
set_option maxRecDepth 100000 in
theorem sfW_agree_J34 {K0 K : xK} {ρ : xSt → xSt} {X : xX} {out : xR} {rc rs : Nat} (hX : xOK K X RL cL_agree 3) (hM : xMN K0 K ρ X (ρ out.1, out.2) (some .boolean) rc rs) (hR : xRm X 4 110) (hV : (6, 0) ∈ xvl K) (hN : ∀ o, (33, o) ∉ xvl K) (hcr : 5 ≤ rc ∧ 320 ≤ rs) {k4 : xSt → Int32 → Int32 → Option xR} (hk4 : ∀ (S : xSt) (i1 : Int32) (i2 : Int32), k4 S i1 i2 = some out → xG K X S 4 [(0, xr K 6 0), (1, .int i1), (2, .int i2)] []) {S : xSt} {i2 : Int32} {k0 : Int32} {k1 : Int32} (h : fW_agree_J34  k4 S i2 k0 k1 = some out) : xG K X S 34 [(0, xr K 6 0), (2, .int i2)] [.int k0, .int k1] := by
  unfold fW_agree_J34 at h
  refine g_iadd hX dL_agree_34 ?_
  refine g_istore_n (lv2 := [(1, .int (k1 + k0)), (0, xr K 6 0), (2, .int i2)]) hX dL_agree_35 rfl (by decide) rfl ?_
  refine g_iinc (v := (i2 + (1 : Int32))) (lv2 := [(2, .int (i2 + (1 : Int32))), (1, .int (k1 + k0)), (0, xr K 6 0)]) hX dL_agree_36 2 rfl rfl (by decide) rfl ?_
  refine g_goto hX 4 dL_agree_39 (by decide) ?_
  exact g_sub [2, 1, 0] (by rfl) (hk4 _ _ _ h)
set_option maxRecDepth 100000 in
theorem sbW_agree_L4 {K0 K : xK} {ρ : xSt → xSt} {X : xX} {out : xR} {rc rs : Nat} (hX : xOK K X RL cL_agree 3) (hM : xMN K0 K ρ X (ρ out.1, out.2) (some .boolean) rc rs) (hR : xRm X 4 110) (hV : (6, 0) ∈ xvl K) (hN : ∀ o, (33, o) ∉ xvl K) (hcr : 5 ≤ rc ∧ 320 ≤ rs)  {k4 : xSt → Int32 → Int32 → Option xR} (hk4 : ∀ (S : xSt) (i1 : Int32) (i2 : Int32), k4 S i1 i2 = some out → xG K X S 4 [(0, xr K 6 0), (1, .int i1), (2, .int i2)] []) {S : xSt} {i1 : Int32} {i2 : Int32} (h : bW_agree_L4   k4 S i1 i2 = some out) : xG K X S 4 [(0, xr K 6 0), (1, .int i1), (2, .int i2)] [] := by
  unfold bW_agree_L4 at h
  refine g_iload_n hX dL_agree_4 rfl 2 rfl ?_
  refine g_aload_n hX dL_agree_5 rfl 0 rfl ?_
  refine g_iconst (v := (1 : Int32)) hX dL_agree_6 (by decide) ?_
  obtain ⟨S1, r2, hcS1, h⟩ := xbI_inv h
  refine g_callV hX hR hV (fun l => c6_count (l := l) hX.vc hV hcS1) xc9_8 rfl ⟨by decide, by decide⟩ rfl rfl (Nat.le_of_ble_eq_true rfl) dL_agree_7 ?_
  refine g_icmp_ge hX 42 dL_agree_10 (by decide) (fun hc => ?_) (fun hc => ?_)
  · have h := xif_t hc h
    exact g_sub [0, 1] (by rfl) (sfW_agree_J42 hX hM hR hV hN hcr h)
  · have h := xif_f hc h
    refine g_iload_n hX dL_agree_13 rfl 1 rfl ?_
    refine g_aload_n hX dL_agree_14 rfl 0 rfl ?_
    refine g_iload_n hX dL_agree_15 rfl 2 rfl ?_
    refine g_iconst (v := (0 : Int32)) hX dL_agree_16 (by decide) ?_
    obtain ⟨S3, r4, hcS3, h⟩ := xbI_inv h
    refine g_callV hX hR hV (fun l => c6_ofCode (l := l) hX.vc hV hcS3) xc9_17 rfl ⟨by decide, by decide⟩ rfl rfl (Nat.le_of_ble_eq_true rfl) dL_agree_17 ?_
    refine g_aload_n hX dL_agree_20 rfl 0 rfl ?_
    refine g_iload_n hX dL_agree_21 rfl 2 rfl ?_
    refine g_iconst (v := (1 : Int32)) hX dL_agree_22 (by decide) ?_
    obtain ⟨S5, r6, hcS5, h⟩ := xbI_inv h
    refine g_callV hX hR hV (fun l => c6_ofCode (l := l) hX.vc hV hcS5) xc9_17 rfl ⟨by decide, by decide⟩ rfl rfl (Nat.le_of_ble_eq_true rfl) dL_agree_23 ?_
    refine g_icmp_eq hX 33 dL_agree_26 (by decide) (fun hc => ?_) (fun hc => ?_)
    · have h := xif_t hc h
      refine g_iconst (v := (0 : Int32)) hX dL_agree_33 (by decide) ?_
      exact g_sub [0, 2] (by rfl) (sfW_agree_J34 hX hM hR hV hN hcr hk4 h)
    · have h := xif_f hc h
      refine g_iconst (v := (1 : Int32)) hX dL_agree_29 (by decide) ?_
      refine g_goto hX 34 dL_agree_30 (by decide) ?_
      exact g_sub [0, 2] (by rfl) (sfW_agree_J34 hX hM hR hV hN hcr hk4 h)
theorem sfW_agree_L4 {K0 K : xK} {ρ : xSt → xSt} {X : xX} {out : xR} {rc rs : Nat} (hX : xOK K X RL cL_agree 3) (hM : xMN K0 K ρ X (ρ out.1, out.2) (some .boolean) rc rs) (hR : xRm X 4 110) (hV : (6, 0) ∈ xvl K) (hN : ∀ o, (33, o) ∉ xvl K) (hcr : 5 ≤ rc ∧ 320 ≤ rs)  : ∀ (n : Nat) (S : xSt) (i1 : Int32) (i2 : Int32) (h : fW_agree_L4   n S i1 i2 = some out), xG K X S 4 [(0, xr K 6 0), (1, .int i1), (2, .int i2)] [] := by
  intro n
  induction n with
  | zero => intro S i1 i2 h; cases h
  | succ n ih => intro S i1 i2 h; exact sbW_agree_L4 hX hM hR hV hN hcr  ih h
set_option maxRecDepth 100000 in
theorem cW_agree {l : Launch} {K : xK} (hvc : xVC (xvl K)) (hV : (6, 0) ∈ xvl K) (hN : ∀ o, (33, o) ∉ xvl K) {S : xSt} {out : xR} (h : fW_agree S = some out) : xMetN l K yL_agree cL_agree 3 (some .boolean) 4 110 5 320 S [xr K 6 0] out := by
  refine xMetN_of RL (fun S => S) (by decide +kernel) rfl hvc (fun S9 U9 H9 w => w) (Nat.le_of_ble_eq_true rfl) ?_
  intro X hX hM hR
  have hcr : 5 ≤ 5 ∧ 320 ≤ 320 := ⟨Nat.le_refl _, Nat.le_refl _⟩
  show xG K X S 0 [(0, xr K 6 0)] []
  unfold fW_agree at h
  refine g_iconst (v := (0 : Int32)) hX dL_agree_0 (by decide) ?_
  refine g_istore_n (lv2 := [(1, .int (0 : Int32)), (0, xr K 6 0)]) hX dL_agree_1 rfl (by decide) rfl ?_
  refine g_iconst (v := (0 : Int32)) hX dL_agree_2 (by decide) ?_
  refine g_istore_n (lv2 := [(2, .int (0 : Int32)), (1, .int (0 : Int32)), (0, xr K 6 0)]) hX dL_agree_3 rfl (by decide) rfl ?_
  exact g_sub [2, 1, 0] (by rfl) (sfW_agree_L4 hX hM hR hV hN hcr _ _ _ _ h)
set_option maxRecDepth 100000 in
theorem sfW_isSpoiled_J19 {K : xK} {X : xX} {out : xR}  (hX : xOK K X RL cL_isSpoiled 5) (hM : xM K X out (some .boolean)) (hR : xRm X 7 161) (hV : (6, 0) ∈ xvl K)  {S : xSt} {i1 : Int32} {i2 : Int32} {k0 : Int32} (h : fW_isSpoiled_J19   S i1 i2 k0 = some out) : xG K X S 19 [(0, xr K 6 0), (1, .int i1), (2, .int i2)] [.int k0] := by
  unfold fW_isSpoiled_J19 at h
  refine g_istore_n (lv2 := [(3, .int k0), (0, xr K 6 0), (1, .int i1), (2, .int i2)]) hX dL_isSpoiled_19 rfl (by decide) rfl ?_
  refine g_aload_n hX dL_isSpoiled_20 rfl 1 rfl ?_
  refine g_iload_n hX dL_isSpoiled_21 rfl 2 rfl ?_
  refine g_iload_n hX dL_isSpoiled_22 rfl 3 rfl ?_
  obtain ⟨S1, r2, hcS1, h⟩ := xbI_inv h
  refine g_callV hX hR hV (fun l => c6_spoil (l := l) hX.vc hV hcS1) xc9_49 rfl ⟨by decide, by decide⟩ rfl rfl (Nat.le_of_ble_eq_true rfl) dL_isSpoiled_23 ?_
  refine g_istore (lv2 := [(4, .int r2), (3, .int k0), (0, xr K 6 0), (1, .int i1), (2, .int i2)]) hX dL_isSpoiled_26 (by decide) rfl ?_
  refine g_iload_n hX dL_isSpoiled_28 rfl 1 rfl ?_
  refine g_if_ge hX 46 dL_isSpoiled_29 (by decide) (fun hc => ?_) (fun hc => ?_)
  · have h := xif_t hc h
    refine g_iload hX dL_isSpoiled_46 0 rfl ?_
    refine g_iload_n hX dL_isSpoiled_48 rfl 1 rfl ?_
    refine g_iload_n hX dL_isSpoiled_49 rfl 4 rfl ?_
    refine g_ixor hX dL_isSpoiled_50 ?_
    refine g_icmp_ne hX 69 dL_isSpoiled_51 (by decide) (fun hc => ?_) (fun hc => ?_)
    · have h := xif_f hc h
      refine g_iconst (v := (0 : Int32)) hX dL_isSpoiled_69 (by decide) ?_
      obtain ⟨hz, h⟩ := xne_inv h
      exact g_zret hX hM hz (Option.some.inj h) dL_isSpoiled_70
    · have h := xif_t hc h
      refine g_aload_n hX dL_isSpoiled_54 rfl 2 rfl ?_
      refine g_iload_n hX dL_isSpoiled_55 rfl 3 rfl ?_
      refine g_iconst (v := (1 : Int32)) hX dL_isSpoiled_56 (by decide) ?_
      obtain ⟨S3, r4, hcS3, h⟩ := xbI_inv h
      refine g_callV hX hR hV (fun l => c6_ofCode (l := l) hX.vc hV hcS3) xc9_17 rfl ⟨by decide, by decide⟩ rfl rfl (Nat.le_of_ble_eq_true rfl) dL_isSpoiled_57 ?_
      refine g_iload hX dL_isSpoiled_60 0 rfl ?_
      refine g_icmp_ne hX 69 dL_isSpoiled_62 (by decide) (fun hc => ?_) (fun hc => ?_)
      · have h := xif_f hc h
        refine g_iconst (v := (0 : Int32)) hX dL_isSpoiled_69 (by decide) ?_
        obtain ⟨hz, h⟩ := xne_inv h
        exact g_zret hX hM hz (Option.some.inj h) dL_isSpoiled_70
      · have h := xif_t hc h
        refine g_iconst (v := (1 : Int32)) hX dL_isSpoiled_65 (by decide) ?_
        refine g_goto hX 70 dL_isSpoiled_66 (by decide) ?_
        obtain ⟨hz, h⟩ := xne_inv h
        exact g_zret hX hM hz (Option.some.inj h) dL_isSpoiled_70
  · have h := xif_f hc h
    refine g_iload hX dL_isSpoiled_32 0 rfl ?_
    refine g_iconst (v := (-1 : Int32)) hX dL_isSpoiled_34 (by decide) ?_
    refine g_icmp_ne hX 42 dL_isSpoiled_35 (by decide) (fun hc => ?_) (fun hc => ?_)
    · have h := xif_f hc h
      refine g_iconst (v := (0 : Int32)) hX dL_isSpoiled_42 (by decide) ?_
      refine g_goto hX 70 dL_isSpoiled_43 (by decide) ?_
      obtain ⟨hz, h⟩ := xne_inv h
      exact g_zret hX hM hz (Option.some.inj h) dL_isSpoiled_70
    · have h := xif_t hc h
      refine g_iconst (v := (1 : Int32)) hX dL_isSpoiled_38 (by decide) ?_
      refine g_goto hX 70 dL_isSpoiled_39 (by decide) ?_
      obtain ⟨hz, h⟩ := xne_inv h
      exact g_zret hX hM hz (Option.some.inj h) dL_isSpoiled_70
set_option maxRecDepth 100000 in
theorem cW_isSpoiled {l : Launch} {K : xK}  (hvc : xVC (xvl K)) (hV : (6, 0) ∈ xvl K) {S : xSt} {a1 : Int32} {a2 : Int32} {out : xR} (h : fW_isSpoiled S  a1 a2 = some out) : xMet l K yL_isSpoiled cL_isSpoiled 5 (some .boolean) 7 161 S [xr K 6 0, .int a1, .int a2] out := by
  refine xMet_of RL (by decide +kernel) rfl hvc (Nat.le_of_ble_eq_true rfl) ?_
  intro X hX hM hR
  show xG K X S 0 [(0, xr K 6 0), (1, .int a1), (2, .int a2)] []
  unfold fW_isSpoiled at h
  refine g_iload_n hX dL_isSpoiled_0 rfl 1 rfl ?_
  refine g_aload_n hX dL_isSpoiled_1 rfl 0 rfl ?_
  refine g_iconst (v := (1 : Int32)) hX dL_isSpoiled_2 (by decide) ?_
  obtain ⟨S1, r2, hcS1, h⟩ := xbI_inv h
  refine g_callV hX hR hV (fun l => c6_count (l := l) hX.vc hV hcS1) xc9_8 rfl ⟨by decide, by decide⟩ rfl rfl (Nat.le_of_ble_eq_true rfl) dL_isSpoiled_3 ?_
  refine g_icmp_ge hX 18 dL_isSpoiled_6 (by decide) (fun hc => ?_) (fun hc => ?_)
  · have h := xif_t hc h
    refine g_iconst (v := (-1 : Int32)) hX dL_isSpoiled_18 (by decide) ?_
    exact sfW_isSpoiled_J19 hX hM hR hV h
  · have h := xif_f hc h
    refine g_aload_n hX dL_isSpoiled_9 rfl 0 rfl ?_
    refine g_iload_n hX dL_isSpoiled_10 rfl 1 rfl ?_
    refine g_iconst (v := (1 : Int32)) hX dL_isSpoiled_11 (by decide) ?_
    obtain ⟨S3, r4, hcS3, h⟩ := xbI_inv h
    refine g_callV hX hR hV (fun l => c6_ofCode (l := l) hX.vc hV hcS3) xc9_17 rfl ⟨by decide, by decide⟩ rfl rfl (Nat.le_of_ble_eq_true rfl) dL_isSpoiled_12 ?_
    refine g_goto hX 19 dL_isSpoiled_15 (by decide) ?_
    exact sfW_isSpoiled_J19 hX hM hR hV h
set_option maxRecDepth 100000 in
theorem sfW_isAct_J344 {K : xK} {X : xX} {out : xR}  {L : Nat} {xs : Nat → Int32} (hX : xOK K X RL cL_isAct 10) (hM : xM K X out (some .boolean)) (hR : xRm X 8 185) (hV : (6, 0) ∈ xvl K) (hL : xsa K 4 = L) (hxs : xxs K = xs)  {S : xSt} {k0 : Int32} {k1 : Int32} (h : fW_isAct_J344  L xs  S k0 k1 = some out) : xG K X S 344 [] [.int k0, .int k1, xr K 6 0] := by
  unfold fW_isAct_J344 at h
  obtain ⟨S1, r2, hcS1, h⟩ := xbI_inv h
  refine g_callS hX hR (fun l => cW_isSpoiled (l := l) hX.vc hV hcS1) xc9_65 rfl ⟨by decide, by decide⟩ rfl rfl (Nat.le_of_ble_eq_true rfl) dL_isAct_344 ?_
  obtain ⟨hz, h⟩ := xne_inv h
  exact g_zret hX hM hz (Option.some.inj h) dL_isAct_347
set_option maxRecDepth 100000 in
theorem sfW_isAct_J134 {K : xK} {X : xX} {out : xR}  {L : Nat} {xs : Nat → Int32} (hX : xOK K X RL cL_isAct 10) (hM : xM K X out (some .boolean)) (hR : xRm X 8 185) (hV : (6, 0) ∈ xvl K) (hL : xsa K 4 = L) (hxs : xxs K = xs)  {S : xSt}  (h : fW_isAct_J134  L xs  S  = some out) : xG K X S 134 [] [] := by
  unfold fW_isAct_J134 at h
  refine g_iconst (v := (1 : Int32)) hX dL_isAct_134 (by decide) ?_
  refine g_goto hX 139 dL_isAct_135 (by decide) ?_
  obtain ⟨hz, h⟩ := xne_inv h
  exact g_zret hX hM hz (Option.some.inj h) dL_isAct_139
set_option maxRecDepth 100000 in
theorem sfW_isAct_J69 {K : xK} {X : xX} {out : xR}  {L : Nat} {xs : Nat → Int32} (hX : xOK K X RL cL_isAct 10) (hM : xM K X out (some .boolean)) (hR : xRm X 8 185) (hV : (6, 0) ∈ xvl K) (hL : xsa K 4 = L) (hxs : xxs K = xs)  {S : xSt} {i2 : Int32} {i3 : Int32} {k0 : Int32} {k1 : Int32} (h : fW_isAct_J69  L xs  S i2 i3 k0 k1 = some out) : xG K X S 69 [(0, xr K 6 0), (1, xrs K 3), (2, .int i2), (3, .int i3)] [.int k0, .int k1, xrs K 3] := by
  unfold fW_isAct_J69 at h
  obtain ⟨S1, r2, hcS1, h⟩ := xbI_inv h
  refine g_callS hX hR (fun l => cW_cell (l := l) hX.vc hL hxs hcS1) xc9_52 rfl ⟨by decide, by decide⟩ rfl rfl (Nat.le_of_ble_eq_true rfl) dL_isAct_69 ?_
  refine g_istore (lv2 := [(4, .int r2), (0, xr K 6 0), (1, xrs K 3), (2, .int i2), (3, .int i3)]) hX dL_isAct_72 (by decide) rfl ?_
  refine g_iconst (v := (1 : Int32)) hX dL_isAct_74 (by decide) ?_
  refine g_aloads_n hX dL_isAct_75 rfl 2 rfl ?_
  refine g_iload_n hX dL_isAct_76 rfl 3 rfl ?_
  refine g_iconst (v := (3 : Int32)) hX dL_isAct_77 (by decide) ?_
  refine g_iadd hX dL_isAct_78 ?_
  refine g_iconst (v := (3 : Int32)) hX dL_isAct_79 (by decide) ?_
  obtain ⟨S3, r4, hcS3, h⟩ := xbI_inv h
  refine g_callS hX hR (fun l => cW_cell (l := l) hX.vc hL hxs hcS3) xc9_52 rfl ⟨by decide, by decide⟩ rfl rfl (Nat.le_of_ble_eq_true rfl) dL_isAct_80 ?_
  refine g_iadd hX dL_isAct_83 ?_
  refine g_istore (lv2 := [(5, .int ((1 : Int32) + r4)), (4, .int r2), (0, xr K 6 0), (1, xrs K 3), (2, .int i2), (3, .int i3)]) hX dL_isAct_84 (by decide) rfl ?_
  refine g_iload_n hX dL_isAct_86 rfl 5 rfl ?_
  refine g_iload hX dL_isAct_87 0 rfl ?_
  refine g_iadd hX dL_isAct_89 ?_
  refine g_bipush (v := (34 : Int32)) hX dL_isAct_90 (by decide) ?_
  refine g_icmp_gt hX 134 dL_isAct_92 (by decide) (fun hc => ?_) (fun hc => ?_)
  · have h := xif_t hc h
    exact g_sub [] (by rfl) (sfW_isAct_J134 hX hM hR hV hL hxs h)
  · have h := xif_f hc h
    refine g_aload_n hX dL_isAct_95 rfl 2 rfl ?_
    refine g_iload hX dL_isAct_96 1 rfl ?_
    refine g_iload hX dL_isAct_98 0 rfl ?_
    obtain ⟨S5, r6, hcS5, h⟩ := xbI_inv h
    refine g_callV hX hR hV (fun l => c6_add (l := l) hX.vc hV hcS5) xc9_56 rfl ⟨by decide, by decide⟩ rfl rfl (Nat.le_of_ble_eq_true rfl) dL_isAct_100 ?_
    refine g_iload_n hX dL_isAct_103 rfl 5 rfl ?_
    refine g_iload hX dL_isAct_104 0 rfl ?_
    refine g_iadd hX dL_isAct_106 ?_
    refine g_icmp_ne hX 138 dL_isAct_107 (by decide) (fun hc => ?_) (fun hc => ?_)
    · have h := xif_f hc h
      refine g_iconst (v := (0 : Int32)) hX dL_isAct_138 (by decide) ?_
      obtain ⟨hz, h⟩ := xne_inv h
      exact g_zret hX hM hz (Option.some.inj h) dL_isAct_139
    · have h := xif_t hc h
      refine g_aload_n hX dL_isAct_110 rfl 2 rfl ?_
      refine g_iload_n hX dL_isAct_111 rfl 5 rfl ?_
      refine g_iload hX dL_isAct_112 0 rfl ?_
      refine g_iadd hX dL_isAct_114 ?_
      refine g_iconst (v := (1 : Int32)) hX dL_isAct_115 (by decide) ?_
      refine g_isub hX dL_isAct_116 ?_
      obtain ⟨S7, r8, hcS7, h⟩ := xbI_inv h
      refine g_callV hX hR hV (fun l => c6_sign (l := l) hX.vc hV hcS7) xc9_14 rfl ⟨by decide, by decide⟩ rfl rfl (Nat.le_of_ble_eq_true rfl) dL_isAct_117 ?_
      refine g_iload hX dL_isAct_120 1 rfl ?_
      refine g_icmp_ne hX 138 dL_isAct_122 (by decide) (fun hc => ?_) (fun hc => ?_)
      · have h := xif_f hc h
        refine g_iconst (v := (0 : Int32)) hX dL_isAct_138 (by decide) ?_
        obtain ⟨hz, h⟩ := xne_inv h
        exact g_zret hX hM hz (Option.some.inj h) dL_isAct_139
      · have h := xif_t hc h
        refine g_aload_n hX dL_isAct_125 rfl 2 rfl ?_
        refine g_bipush (v := (6 : Int32)) hX dL_isAct_126 (by decide) ?_
        obtain ⟨S9, r10, hcS9, h⟩ := xbI_inv h
        refine g_callV hX hR hV (fun l => c6_count (l := l) hX.vc hV hcS9) xc9_8 rfl ⟨by decide, by decide⟩ rfl rfl (Nat.le_of_ble_eq_true rfl) dL_isAct_128 ?_
        refine g_if_ne hX 138 dL_isAct_131 (by decide) (fun hc => ?_) (fun hc => ?_)
        · have h := xif_f hc h
          refine g_iconst (v := (0 : Int32)) hX dL_isAct_138 (by decide) ?_
          obtain ⟨hz, h⟩ := xne_inv h
          exact g_zret hX hM hz (Option.some.inj h) dL_isAct_139
        · have h := xif_t hc h
          exact g_sub [] (by rfl) (sfW_isAct_J134 hX hM hR hV hL hxs h)
set_option maxRecDepth 100000 in
theorem sfW_isAct_J174 {K : xK} {X : xX} {out : xR}  {L : Nat} {xs : Nat → Int32} (hX : xOK K X RL cL_isAct 10) (hM : xM K X out (some .boolean)) (hR : xRm X 8 185) (hV : (6, 0) ∈ xvl K) (hL : xsa K 4 = L) (hxs : xxs K = xs)  {S : xSt} {k0 : Int32} {k1 : Int32} (h : fW_isAct_J174  L xs  S k0 k1 = some out) : xG K X S 174 [] [.int k0, .int k1] := by
  unfold fW_isAct_J174 at h
  refine g_icmp_ne hX 181 dL_isAct_174 (by decide) (fun hc => ?_) (fun hc => ?_)
  · have h := xif_f hc h
    refine g_iconst (v := (0 : Int32)) hX dL_isAct_181 (by decide) ?_
    obtain ⟨hz, h⟩ := xne_inv h
    exact g_zret hX hM hz (Option.some.inj h) dL_isAct_182
  · have h := xif_t hc h
    refine g_iconst (v := (1 : Int32)) hX dL_isAct_177 (by decide) ?_
    refine g_goto hX 182 dL_isAct_178 (by decide) ?_
    obtain ⟨hz, h⟩ := xne_inv h
    exact g_zret hX hM hz (Option.some.inj h) dL_isAct_182
set_option maxRecDepth 100000 in
theorem sfW_isAct_J238 {K : xK} {X : xX} {out : xR}  {L : Nat} {xs : Nat → Int32} (hX : xOK K X RL cL_isAct 10) (hM : xM K X out (some .boolean)) (hR : xRm X 8 185) (hV : (6, 0) ∈ xvl K) (hL : xsa K 4 = L) (hxs : xxs K = xs)  {S : xSt} {i7 : Int32} {k0 : Int32} (h : fW_isAct_J238  L xs  S i7 k0 = some out) : xG K X S 238 [(0, xr K 6 0), (7, .int i7)] [.int k0] := by
  unfold fW_isAct_J238 at h
  refine g_istore (lv2 := [(8, .int k0), (0, xr K 6 0), (7, .int i7)]) hX dL_isAct_238 (by decide) rfl ?_
  refine g_aload_n hX dL_isAct_240 rfl 1 rfl ?_
  refine g_bipush (v := (9 : Int32)) hX dL_isAct_241 (by decide) ?_
  refine g_iload hX dL_isAct_243 2 rfl ?_
  refine g_iadd hX dL_isAct_245 ?_
  obtain ⟨S1, r2, hcS1, h⟩ := xbI_inv h
  refine g_callV hX hR hV (fun l => c6_count (l := l) hX.vc hV hcS1) xc9_8 rfl ⟨by decide, by decide⟩ rfl rfl (Nat.le_of_ble_eq_true rfl) dL_isAct_246 ?_
  refine g_istore (lv2 := [(9, .int r2), (8, .int k0), (0, xr K 6 0), (7, .int i7)]) hX dL_isAct_249 (by decide) rfl ?_
  refine g_aload_n hX dL_isAct_251 rfl 2 rfl ?_
  refine g_iload hX dL_isAct_252 3 rfl ?_
  refine g_iload hX dL_isAct_254 1 rfl ?_
  obtain ⟨S3, r4, hcS3, h⟩ := xbI_inv h
  refine g_callV hX hR hV (fun l => c6_set (l := l) hX.vc hV hcS3) xc9_62 rfl ⟨by decide, by decide⟩ rfl rfl (Nat.le_of_ble_eq_true rfl) dL_isAct_256 ?_
  refine g_iload hX dL_isAct_259 0 rfl ?_
  refine g_icmp_ne hX 291 dL_isAct_261 (by decide) (fun hc => ?_) (fun hc => ?_)
  · have h := xif_f hc h
    refine g_iconst (v := (0 : Int32)) hX dL_isAct_291 (by decide) ?_
    obtain ⟨hz, h⟩ := xne_inv h
    exact g_zret hX hM hz (Option.some.inj h) dL_isAct_292
  · have h := xif_t hc h
    refine g_aload_n hX dL_isAct_264 rfl 2 rfl ?_
    refine g_bipush (v := (9 : Int32)) hX dL_isAct_265 (by decide) ?_
    refine g_iload hX dL_isAct_267 3 rfl ?_
    refine g_iadd hX dL_isAct_269 ?_
    obtain ⟨S5, r6, hcS5, h⟩ := xbI_inv h
    refine g_callV hX hR hV (fun l => c6_count (l := l) hX.vc hV hcS5) xc9_8 rfl ⟨by decide, by decide⟩ rfl rfl (Nat.le_of_ble_eq_true rfl) dL_isAct_270 ?_
    refine g_iload hX dL_isAct_273 1 rfl ?_
    refine g_icmp_ne hX 291 dL_isAct_275 (by decide) (fun hc => ?_) (fun hc => ?_)
    · have h := xif_f hc h
      refine g_iconst (v := (0 : Int32)) hX dL_isAct_291 (by decide) ?_
      obtain ⟨hz, h⟩ := xne_inv h
      exact g_zret hX hM hz (Option.some.inj h) dL_isAct_292
    · have h := xif_t hc h
      refine g_aload_n hX dL_isAct_278 rfl 2 rfl ?_
      refine g_bipush (v := (6 : Int32)) hX dL_isAct_279 (by decide) ?_
      obtain ⟨S7, r8, hcS7, h⟩ := xbI_inv h
      refine g_callV hX hR hV (fun l => c6_count (l := l) hX.vc hV hcS7) xc9_8 rfl ⟨by decide, by decide⟩ rfl rfl (Nat.le_of_ble_eq_true rfl) dL_isAct_281 ?_
      refine g_if_ne hX 291 dL_isAct_284 (by decide) (fun hc => ?_) (fun hc => ?_)
      · have h := xif_f hc h
        refine g_iconst (v := (0 : Int32)) hX dL_isAct_291 (by decide) ?_
        obtain ⟨hz, h⟩ := xne_inv h
        exact g_zret hX hM hz (Option.some.inj h) dL_isAct_292
      · have h := xif_t hc h
        refine g_iconst (v := (1 : Int32)) hX dL_isAct_287 (by decide) ?_
        refine g_goto hX 292 dL_isAct_288 (by decide) ?_
        obtain ⟨hz, h⟩ := xne_inv h
        exact g_zret hX hM hz (Option.some.inj h) dL_isAct_292
set_option maxRecDepth 100000 in
theorem cW_isAct {l : Launch} {K : xK}  {L : Nat} {xs : Nat → Int32} (hvc : xVC (xvl K)) (hV : (6, 0) ∈ xvl K) (hL : xsa K 4 = L) (hxs : xxs K = xs) {S : xSt} {a2 : Int32} {out : xR} (h : fW_isAct S  L xs a2 = some out) : xMet l K yL_isAct cL_isAct 10 (some .boolean) 8 185 S [xr K 6 0, xrs K 3, .int a2] out := by
  refine xMet_of RL (by decide +kernel) rfl hvc (Nat.le_of_ble_eq_true rfl) ?_
  intro X hX hM hR
  show xG K X S 0 [(0, xr K 6 0), (1, xrs K 3), (2, .int a2)] []
  unfold fW_isAct at h
  refine g_aload_n hX dL_isAct_0 rfl 0 rfl ?_
  refine g_iconst (v := (0 : Int32)) hX dL_isAct_1 (by decide) ?_
  obtain ⟨S1, r2, hcS1, h⟩ := xbI_inv h
  refine g_callV hX hR hV (fun l => c6_count (l := l) hX.vc hV hcS1) xc9_8 rfl ⟨by decide, by decide⟩ rfl rfl (Nat.le_of_ble_eq_true rfl) dL_isAct_2 ?_
  refine g_istore_n (lv2 := [(3, .int r2), (0, xr K 6 0), (1, xrs K 3), (2, .int a2)]) hX dL_isAct_5 rfl (by decide) rfl ?_
  refine g_aloads_n hX dL_isAct_6 rfl 2 rfl ?_
  refine g_iload_n hX dL_isAct_7 rfl 3 rfl ?_
  refine g_bipush (v := (10 : Int32)) hX dL_isAct_8 (by decide) ?_
  obtain ⟨S3, r4, hcS3, h⟩ := xbI_inv h
  refine g_callS hX hR (fun l => cW_cell (l := l) hX.vc hL hxs hcS3) xc9_52 rfl ⟨by decide, by decide⟩ rfl rfl (Nat.le_of_ble_eq_true rfl) dL_isAct_10 ?_
  by_cases hc : r4.toInt < 0 ∨ 4 < r4.toInt
  · have h := xif_t hc h
    refine g_tsOut hX 293 dL_isAct_13 hc (by decide) ?_
    refine g_aload_n hX dL_isAct_293 rfl 1 rfl ?_
    refine g_aloads_n hX dL_isAct_294 rfl 2 rfl ?_
    refine g_iload_n hX dL_isAct_295 rfl 3 rfl ?_
    refine g_iconst (v := (1 : Int32)) hX dL_isAct_296 (by decide) ?_
    refine g_iadd hX dL_isAct_297 ?_
    refine g_aload_n hX dL_isAct_298 rfl 1 rfl ?_
    refine g_iconst (v := (1 : Int32)) hX dL_isAct_299 (by decide) ?_
    obtain ⟨S5, r6, hcS5, h⟩ := xbI_inv h
    refine g_callV hX hR hV (fun l => c6_count (l := l) hX.vc hV hcS5) xc9_8 rfl ⟨by decide, by decide⟩ rfl rfl (Nat.le_of_ble_eq_true rfl) dL_isAct_300 ?_
    refine g_iconst (v := (1 : Int32)) hX dL_isAct_303 (by decide) ?_
    refine g_iadd hX dL_isAct_304 ?_
    obtain ⟨S7, r8, hcS7, h⟩ := xbI_inv h
    refine g_callS hX hR (fun l => cW_cell (l := l) hX.vc hL hxs hcS7) xc9_52 rfl ⟨by decide, by decide⟩ rfl rfl (Nat.le_of_ble_eq_true rfl) dL_isAct_305 ?_
    refine g_aloads_n hX dL_isAct_308 rfl 2 rfl ?_
    refine g_iload_n hX dL_isAct_309 rfl 3 rfl ?_
    refine g_iconst (v := (2 : Int32)) hX dL_isAct_310 (by decide) ?_
    refine g_iadd hX dL_isAct_311 ?_
    refine g_iconst (v := (3 : Int32)) hX dL_isAct_312 (by decide) ?_
    obtain ⟨S9, r10, hcS9, h⟩ := xbI_inv h
    refine g_callS hX hR (fun l => cW_cell (l := l) hX.vc hL hxs hcS9) xc9_52 rfl ⟨by decide, by decide⟩ rfl rfl (Nat.le_of_ble_eq_true rfl) dL_isAct_313 ?_
    refine g_if_ne hX 334 dL_isAct_316 (by decide) (fun hc => ?_) (fun hc => ?_)
    · have h := xif_f hc h
      refine g_iconst (v := (1 : Int32)) hX dL_isAct_334 (by decide) ?_
      refine g_aloads_n hX dL_isAct_335 rfl 2 rfl ?_
      refine g_iload_n hX dL_isAct_336 rfl 3 rfl ?_
      refine g_iconst (v := (3 : Int32)) hX dL_isAct_337 (by decide) ?_
      refine g_iadd hX dL_isAct_338 ?_
      refine g_iconst (v := (5 : Int32)) hX dL_isAct_339 (by decide) ?_
      obtain ⟨S11, r12, hcS11, h⟩ := xbI_inv h
      refine g_callS hX hR (fun l => cW_cell (l := l) hX.vc hL hxs hcS11) xc9_52 rfl ⟨by decide, by decide⟩ rfl rfl (Nat.le_of_ble_eq_true rfl) dL_isAct_340 ?_
      refine g_ishl hX dL_isAct_343 ?_
      exact g_sub [] (by rfl) (sfW_isAct_J344 hX hM hR hV hL hxs h)
    · have h := xif_t hc h
      refine g_iconst (v := (1 : Int32)) hX dL_isAct_319 (by decide) ?_
      refine g_aloads_n hX dL_isAct_320 rfl 2 rfl ?_
      refine g_iload_n hX dL_isAct_321 rfl 3 rfl ?_
      refine g_iconst (v := (3 : Int32)) hX dL_isAct_322 (by decide) ?_
      refine g_iadd hX dL_isAct_323 ?_
      refine g_sipush (v := (511 : Int32)) hX dL_isAct_324 (by decide) ?_
      obtain ⟨S13, r14, hcS13, h⟩ := xbI_inv h
      refine g_callS hX hR (fun l => cW_cell (l := l) hX.vc hL hxs hcS13) xc9_52 rfl ⟨by decide, by decide⟩ rfl rfl (Nat.le_of_ble_eq_true rfl) dL_isAct_327 ?_
      refine g_iadd hX dL_isAct_330 ?_
      refine g_goto hX 344 dL_isAct_331 (by decide) ?_
      exact g_sub [] (by rfl) (sfW_isAct_J344 hX hM hR hV hL hxs h)
  have h := xif_f hc h
  generalize hn : (r4.toInt - 0).toNat = n at h
  match n, hn, h with
  | 0, hn, h =>
    refine g_tsIn hX 48 dL_isAct_13 hc 0 hn (by rfl) (by decide) ?_
    refine g_aloads_n hX dL_isAct_48 rfl 2 rfl ?_
    refine g_iload_n hX dL_isAct_49 rfl 3 rfl ?_
    refine g_iconst (v := (1 : Int32)) hX dL_isAct_50 (by decide) ?_
    refine g_iadd hX dL_isAct_51 ?_
    refine g_aloads_n hX dL_isAct_52 rfl 2 rfl ?_
    refine g_iload_n hX dL_isAct_53 rfl 3 rfl ?_
    refine g_iconst (v := (2 : Int32)) hX dL_isAct_54 (by decide) ?_
    refine g_iadd hX dL_isAct_55 ?_
    refine g_iconst (v := (3 : Int32)) hX dL_isAct_56 (by decide) ?_
    obtain ⟨S15, r16, hcS15, h⟩ := xbI_inv h
    refine g_callS hX hR (fun l => cW_cell (l := l) hX.vc hL hxs hcS15) xc9_52 rfl ⟨by decide, by decide⟩ rfl rfl (Nat.le_of_ble_eq_true rfl) dL_isAct_57 ?_
    refine g_if_ne hX 68 dL_isAct_60 (by decide) (fun hc => ?_) (fun hc => ?_)
    · have h := xif_f hc h
      refine g_iconst (v := (2 : Int32)) hX dL_isAct_68 (by decide) ?_
      exact g_sub [1, 2, 3, 0] (by rfl) (sfW_isAct_J69 hX hM hR hV hL hxs h)
    · have h := xif_t hc h
      refine g_bipush (v := (8 : Int32)) hX dL_isAct_63 (by decide) ?_
      refine g_goto hX 69 dL_isAct_65 (by decide) ?_
      exact g_sub [1, 2, 3, 0] (by rfl) (sfW_isAct_J69 hX hM hR hV hL hxs h)
  | 1, hn, h =>
    refine g_tsIn hX 48 dL_isAct_13 hc 1 hn (by rfl) (by decide) ?_
    refine g_aloads_n hX dL_isAct_48 rfl 2 rfl ?_
    refine g_iload_n hX dL_isAct_49 rfl 3 rfl ?_
    refine g_iconst (v := (1 : Int32)) hX dL_isAct_50 (by decide) ?_
    refine g_iadd hX dL_isAct_51 ?_
    refine g_aloads_n hX dL_isAct_52 rfl 2 rfl ?_
    refine g_iload_n hX dL_isAct_53 rfl 3 rfl ?_
    refine g_iconst (v := (2 : Int32)) hX dL_isAct_54 (by decide) ?_
    refine g_iadd hX dL_isAct_55 ?_
    refine g_iconst (v := (3 : Int32)) hX dL_isAct_56 (by decide) ?_
    obtain ⟨S17, r18, hcS17, h⟩ := xbI_inv h
    refine g_callS hX hR (fun l => cW_cell (l := l) hX.vc hL hxs hcS17) xc9_52 rfl ⟨by decide, by decide⟩ rfl rfl (Nat.le_of_ble_eq_true rfl) dL_isAct_57 ?_
    refine g_if_ne hX 68 dL_isAct_60 (by decide) (fun hc => ?_) (fun hc => ?_)
    · have h := xif_f hc h
      refine g_iconst (v := (2 : Int32)) hX dL_isAct_68 (by decide) ?_
      exact g_sub [1, 2, 3, 0] (by rfl) (sfW_isAct_J69 hX hM hR hV hL hxs h)
    · have h := xif_t hc h
      refine g_bipush (v := (8 : Int32)) hX dL_isAct_63 (by decide) ?_
      refine g_goto hX 69 dL_isAct_65 (by decide) ?_
      exact g_sub [1, 2, 3, 0] (by rfl) (sfW_isAct_J69 hX hM hR hV hL hxs h)
  | 2, hn, h =>
    refine g_tsIn hX 48 dL_isAct_13 hc 2 hn (by rfl) (by decide) ?_
    refine g_aloads_n hX dL_isAct_48 rfl 2 rfl ?_
    refine g_iload_n hX dL_isAct_49 rfl 3 rfl ?_
    refine g_iconst (v := (1 : Int32)) hX dL_isAct_50 (by decide) ?_
    refine g_iadd hX dL_isAct_51 ?_
    refine g_aloads_n hX dL_isAct_52 rfl 2 rfl ?_
    refine g_iload_n hX dL_isAct_53 rfl 3 rfl ?_
    refine g_iconst (v := (2 : Int32)) hX dL_isAct_54 (by decide) ?_
    refine g_iadd hX dL_isAct_55 ?_
    refine g_iconst (v := (3 : Int32)) hX dL_isAct_56 (by decide) ?_
    obtain ⟨S19, r20, hcS19, h⟩ := xbI_inv h
    refine g_callS hX hR (fun l => cW_cell (l := l) hX.vc hL hxs hcS19) xc9_52 rfl ⟨by decide, by decide⟩ rfl rfl (Nat.le_of_ble_eq_true rfl) dL_isAct_57 ?_
    refine g_if_ne hX 68 dL_isAct_60 (by decide) (fun hc => ?_) (fun hc => ?_)
    · have h := xif_f hc h
      refine g_iconst (v := (2 : Int32)) hX dL_isAct_68 (by decide) ?_
      exact g_sub [1, 2, 3, 0] (by rfl) (sfW_isAct_J69 hX hM hR hV hL hxs h)
    · have h := xif_t hc h
      refine g_bipush (v := (8 : Int32)) hX dL_isAct_63 (by decide) ?_
      refine g_goto hX 69 dL_isAct_65 (by decide) ?_
      exact g_sub [1, 2, 3, 0] (by rfl) (sfW_isAct_J69 hX hM hR hV hL hxs h)
  | 3, hn, h =>
    refine g_tsIn hX 140 dL_isAct_13 hc 3 hn (by rfl) (by decide) ?_
    refine g_iconst (v := (1 : Int32)) hX dL_isAct_140 (by decide) ?_
    refine g_aloads_n hX dL_isAct_141 rfl 2 rfl ?_
    refine g_iload_n hX dL_isAct_142 rfl 3 rfl ?_
    refine g_iconst (v := (1 : Int32)) hX dL_isAct_143 (by decide) ?_
    refine g_iadd hX dL_isAct_144 ?_
    refine g_bipush (v := (12 : Int32)) hX dL_isAct_145 (by decide) ?_
    obtain ⟨S21, r22, hcS21, h⟩ := xbI_inv h
    refine g_callS hX hR (fun l => cW_cell (l := l) hX.vc hL hxs hcS21) xc9_52 rfl ⟨by decide, by decide⟩ rfl rfl (Nat.le_of_ble_eq_true rfl) dL_isAct_147 ?_
    refine g_iadd hX dL_isAct_150 ?_
    refine g_istore (lv2 := [(6, .int ((1 : Int32) + r22)), (3, .int r2), (0, xr K 6 0), (1, xrs K 3), (2, .int a2)]) hX dL_isAct_151 (by decide) rfl ?_
    refine g_aload_n hX dL_isAct_153 rfl 2 rfl ?_
    refine g_iload hX dL_isAct_154 0 rfl ?_
    obtain ⟨S23, r24, hcS23, h⟩ := xbI_inv h
    refine g_callV hX hR hV (fun l => c6_cut (l := l) hX.vc hV hcS23) xc9_59 rfl ⟨by decide, by decide⟩ rfl rfl (Nat.le_of_ble_eq_true rfl) dL_isAct_156 ?_
    refine g_iload hX dL_isAct_159 0 rfl ?_
    refine g_iload_n hX dL_isAct_161 rfl 1 rfl ?_
    refine g_icmp_le hX 170 dL_isAct_162 (by decide) (fun hc => ?_) (fun hc => ?_)
    · have h := xif_t hc h
      refine g_iload_n hX dL_isAct_170 rfl 1 rfl ?_
      refine g_iload hX dL_isAct_171 0 rfl ?_
      refine g_isub hX dL_isAct_173 ?_
      exact g_sub [] (by rfl) (sfW_isAct_J174 hX hM hR hV hL hxs h)
    · have h := xif_f hc h
      refine g_bipush (v := (-5 : Int32)) hX dL_isAct_165 (by decide) ?_
      refine g_goto hX 174 dL_isAct_167 (by decide) ?_
      exact g_sub [] (by rfl) (sfW_isAct_J174 hX hM hR hV hL hxs h)
  | 4, hn, h =>
    refine g_tsIn hX 183 dL_isAct_13 hc 4 hn (by rfl) (by decide) ?_
    refine g_aloads_n hX dL_isAct_183 rfl 2 rfl ?_
    refine g_iload_n hX dL_isAct_184 rfl 3 rfl ?_
    refine g_iconst (v := (1 : Int32)) hX dL_isAct_185 (by decide) ?_
    refine g_iadd hX dL_isAct_186 ?_
    refine g_iconst (v := (3 : Int32)) hX dL_isAct_187 (by decide) ?_
    obtain ⟨S25, r26, hcS25, h⟩ := xbI_inv h
    refine g_callS hX hR (fun l => cW_cell (l := l) hX.vc hL hxs hcS25) xc9_52 rfl ⟨by decide, by decide⟩ rfl rfl (Nat.le_of_ble_eq_true rfl) dL_isAct_188 ?_
    refine g_istore (lv2 := [(7, .int r26), (3, .int r2), (0, xr K 6 0), (1, xrs K 3), (2, .int a2)]) hX dL_isAct_191 (by decide) rfl ?_
    refine g_iload hX dL_isAct_193 0 rfl ?_
    refine g_if_ne hX 211 dL_isAct_195 (by decide) (fun hc => ?_) (fun hc => ?_)
    · have h := xif_f hc h
      refine g_iload hX dL_isAct_211 0 rfl ?_
      refine g_iconst (v := (1 : Int32)) hX dL_isAct_213 (by decide) ?_
      refine g_icmp_ne hX 228 dL_isAct_214 (by decide) (fun hc => ?_) (fun hc => ?_)
      · have h := xif_f hc h
        refine g_iconst (v := (4 : Int32)) hX dL_isAct_228 (by decide) ?_
        refine g_aloads_n hX dL_isAct_229 rfl 3 rfl ?_
        refine g_iload_n hX dL_isAct_230 rfl 4 rfl ?_
        refine g_iconst (v := (2 : Int32)) hX dL_isAct_231 (by decide) ?_
        refine g_iadd hX dL_isAct_232 ?_
        refine g_iconst (v := (3 : Int32)) hX dL_isAct_233 (by decide) ?_
        obtain ⟨S27, r28, hcS27, h⟩ := xbI_inv h
        refine g_callS hX hR (fun l => cW_cell (l := l) hX.vc hL hxs hcS27) xc9_52 rfl ⟨by decide, by decide⟩ rfl rfl (Nat.le_of_ble_eq_true rfl) dL_isAct_234 ?_
        refine g_iadd hX dL_isAct_237 ?_
        exact g_sub [2, 0] (by rfl) (sfW_isAct_J238 hX hM hR hV hL hxs h)
      · have h := xif_t hc h
        refine g_aloads_n hX dL_isAct_217 rfl 3 rfl ?_
        refine g_iload_n hX dL_isAct_218 rfl 4 rfl ?_
        refine g_iconst (v := (2 : Int32)) hX dL_isAct_219 (by decide) ?_
        refine g_iadd hX dL_isAct_220 ?_
        refine g_iconst (v := (3 : Int32)) hX dL_isAct_221 (by decide) ?_
        obtain ⟨S29, r30, hcS29, h⟩ := xbI_inv h
        refine g_callS hX hR (fun l => cW_cell (l := l) hX.vc hL hxs hcS29) xc9_52 rfl ⟨by decide, by decide⟩ rfl rfl (Nat.le_of_ble_eq_true rfl) dL_isAct_222 ?_
        refine g_goto hX 238 dL_isAct_225 (by decide) ?_
        exact g_sub [2, 0] (by rfl) (sfW_isAct_J238 hX hM hR hV hL hxs h)
    · have h := xif_t hc h
      refine g_iconst (v := (4 : Int32)) hX dL_isAct_198 (by decide) ?_
      refine g_aloads_n hX dL_isAct_199 rfl 3 rfl ?_
      refine g_iload_n hX dL_isAct_200 rfl 4 rfl ?_
      refine g_iconst (v := (2 : Int32)) hX dL_isAct_201 (by decide) ?_
      refine g_iadd hX dL_isAct_202 ?_
      refine g_iconst (v := (3 : Int32)) hX dL_isAct_203 (by decide) ?_
      obtain ⟨S31, r32, hcS31, h⟩ := xbI_inv h
      refine g_callS hX hR (fun l => cW_cell (l := l) hX.vc hL hxs hcS31) xc9_52 rfl ⟨by decide, by decide⟩ rfl rfl (Nat.le_of_ble_eq_true rfl) dL_isAct_204 ?_
      refine g_iadd hX dL_isAct_207 ?_
      refine g_goto hX 238 dL_isAct_208 (by decide) ?_
      exact g_sub [2, 0] (by rfl) (sfW_isAct_J238 hX hM hR hV hL hxs h)
  | n + 5, hn, h => cases h
end
