-- ===== PART A: goes FIRST, ahead of the names: the tables' words, and 'selects' of the private methods out of them =====
/-- a private method of a class that the tables say can be made, by its rows of tables_1 -/
def lw_okq (q : MethodName × Nat) : Prop := (q.1.cls ≠ "java/lang/invoke/MethodHandle" ∧ q.1.cls ≠ "java/lang/invoke/VarHandle") ∧ Cond.instantiable q.1.cls q.2 ∈ tables_1 ∧ Cond.privateMethod q.1 ∈ tables_1 ∧ Cond.instanceMethod q.1 ∈ tables_1
theorem lw_p0 : lw_okq (⟨"GrowingBook", "refresh", "()V"⟩, 11) := ⟨⟨by decide +kernel, by decide +kernel⟩, List.mem_of_getElem? (i := 13) (by decide +kernel), List.mem_of_getElem? (i := 226) (by decide +kernel), List.mem_of_getElem? (i := 227) (by decide +kernel)⟩
theorem lw_p1 : lw_okq (⟨"GrowingBook$Writer", "begin", "(I)V"⟩, 12) := ⟨⟨by decide +kernel, by decide +kernel⟩, List.mem_of_getElem? (i := 98) (by decide +kernel), List.mem_of_getElem? (i := 234) (by decide +kernel), List.mem_of_getElem? (i := 235) (by decide +kernel)⟩
theorem lw_p2 : lw_okq (⟨"GrowingBook$Writer", "writeCode", "(III)V"⟩, 12) := ⟨⟨by decide +kernel, by decide +kernel⟩, List.mem_of_getElem? (i := 98) (by decide +kernel), List.mem_of_getElem? (i := 252) (by decide +kernel), List.mem_of_getElem? (i := 253) (by decide +kernel)⟩
theorem lw_p3 : lw_okq (⟨"GrowingBook$Writer", "grow", "(II)V"⟩, 12) := ⟨⟨by decide +kernel, by decide +kernel⟩, List.mem_of_getElem? (i := 98) (by decide +kernel), List.mem_of_getElem? (i := 263) (by decide +kernel), List.mem_of_getElem? (i := 264) (by decide +kernel)⟩
theorem lw_p4 : lw_okq (⟨"GrowingBook$Writer", "mustClear", "(II)Z"⟩, 12) := ⟨⟨by decide +kernel, by decide +kernel⟩, List.mem_of_getElem? (i := 98) (by decide +kernel), List.mem_of_getElem? (i := 274) (by decide +kernel), List.mem_of_getElem? (i := 275) (by decide +kernel)⟩
theorem lw_p5 : lw_okq (⟨"GrowingBook$Writer", "losesBy", "(I)Z"⟩, 12) := ⟨⟨by decide +kernel, by decide +kernel⟩, List.mem_of_getElem? (i := 98) (by decide +kernel), List.mem_of_getElem? (i := 278) (by decide +kernel), List.mem_of_getElem? (i := 279) (by decide +kernel)⟩
theorem lw_p6 : lw_okq (⟨"GrowingBook$Writer", "signsOf", "(II)I"⟩, 12) := ⟨⟨by decide +kernel, by decide +kernel⟩, List.mem_of_getElem? (i := 98) (by decide +kernel), List.mem_of_getElem? (i := 282) (by decide +kernel), List.mem_of_getElem? (i := 283) (by decide +kernel)⟩
theorem lw_p7 : lw_okq (⟨"GrowingBook$Reader", "begin", "(I)V"⟩, 11) := ⟨⟨by decide +kernel, by decide +kernel⟩, List.mem_of_getElem? (i := 179) (by decide +kernel), List.mem_of_getElem? (i := 290) (by decide +kernel), List.mem_of_getElem? (i := 291) (by decide +kernel)⟩
theorem lw_p8 : lw_okq (⟨"GrowingBook$Reader", "dropPhrases", "()V"⟩, 11) := ⟨⟨by decide +kernel, by decide +kernel⟩, List.mem_of_getElem? (i := 179) (by decide +kernel), List.mem_of_getElem? (i := 294) (by decide +kernel), List.mem_of_getElem? (i := 295) (by decide +kernel)⟩
theorem lw_p9 : lw_okq (⟨"GrowingBook$Reader", "noteFault", "(II)V"⟩, 11) := ⟨⟨by decide +kernel, by decide +kernel⟩, List.mem_of_getElem? (i := 179) (by decide +kernel), List.mem_of_getElem? (i := 298) (by decide +kernel), List.mem_of_getElem? (i := 299) (by decide +kernel)⟩
theorem lw_p10 : lw_okq (⟨"GrowingBook$Reader", "canStand", "(I)Z"⟩, 11) := ⟨⟨by decide +kernel, by decide +kernel⟩, List.mem_of_getElem? (i := 179) (by decide +kernel), List.mem_of_getElem? (i := 302) (by decide +kernel), List.mem_of_getElem? (i := 303) (by decide +kernel)⟩
theorem lw_p11 : lw_okq (⟨"GrowingBook$Reader", "canGrow", "()Z"⟩, 11) := ⟨⟨by decide +kernel, by decide +kernel⟩, List.mem_of_getElem? (i := 179) (by decide +kernel), List.mem_of_getElem? (i := 306) (by decide +kernel), List.mem_of_getElem? (i := 307) (by decide +kernel)⟩
theorem lw_p12 : lw_okq (⟨"GrowingBook$Reader", "readEntry", "(I)V"⟩, 11) := ⟨⟨by decide +kernel, by decide +kernel⟩, List.mem_of_getElem? (i := 179) (by decide +kernel), List.mem_of_getElem? (i := 310) (by decide +kernel), List.mem_of_getElem? (i := 311) (by decide +kernel)⟩
theorem lw_p13 : lw_okq (⟨"GrowingBook$Reader", "readSign", "(I)V"⟩, 11) := ⟨⟨by decide +kernel, by decide +kernel⟩, List.mem_of_getElem? (i := 179) (by decide +kernel), List.mem_of_getElem? (i := 314) (by decide +kernel), List.mem_of_getElem? (i := 315) (by decide +kernel)⟩
theorem lw_p14 : lw_okq (⟨"GrowingBook$Reader", "readPhrase", "(II)V"⟩, 11) := ⟨⟨by decide +kernel, by decide +kernel⟩, List.mem_of_getElem? (i := 179) (by decide +kernel), List.mem_of_getElem? (i := 318) (by decide +kernel), List.mem_of_getElem? (i := 319) (by decide +kernel)⟩
theorem lw_p15 : lw_okq (⟨"GrowingBook", "isCode", "(I)Z"⟩, 11) := ⟨⟨by decide +kernel, by decide +kernel⟩, List.mem_of_getElem? (i := 13) (by decide +kernel), List.mem_of_getElem? (i := 398) (by decide +kernel), List.mem_of_getElem? (i := 399) (by decide +kernel)⟩
def lw_privs_1 : List (MethodName × Nat) := [(⟨"GrowingBook", "refresh", "()V"⟩, 11), (⟨"GrowingBook$Writer", "begin", "(I)V"⟩, 12), (⟨"GrowingBook$Writer", "writeCode", "(III)V"⟩, 12), (⟨"GrowingBook$Writer", "grow", "(II)V"⟩, 12), (⟨"GrowingBook$Writer", "mustClear", "(II)Z"⟩, 12), (⟨"GrowingBook$Writer", "losesBy", "(I)Z"⟩, 12), (⟨"GrowingBook$Writer", "signsOf", "(II)I"⟩, 12), (⟨"GrowingBook$Reader", "begin", "(I)V"⟩, 11), (⟨"GrowingBook$Reader", "dropPhrases", "()V"⟩, 11), (⟨"GrowingBook$Reader", "noteFault", "(II)V"⟩, 11), (⟨"GrowingBook$Reader", "canStand", "(I)Z"⟩, 11), (⟨"GrowingBook$Reader", "canGrow", "()Z"⟩, 11), (⟨"GrowingBook$Reader", "readEntry", "(I)V"⟩, 11), (⟨"GrowingBook$Reader", "readSign", "(I)V"⟩, 11), (⟨"GrowingBook$Reader", "readPhrase", "(II)V"⟩, 11), (⟨"GrowingBook", "isCode", "(I)Z"⟩, 11)]
theorem lw_r1 : ∀ q ∈ lw_privs_1, lw_okq q := List.forall_mem_cons.mpr ⟨lw_p0, List.forall_mem_cons.mpr ⟨lw_p1, List.forall_mem_cons.mpr ⟨lw_p2, List.forall_mem_cons.mpr ⟨lw_p3, List.forall_mem_cons.mpr ⟨lw_p4, List.forall_mem_cons.mpr ⟨lw_p5, List.forall_mem_cons.mpr ⟨lw_p6, List.forall_mem_cons.mpr ⟨lw_p7, List.forall_mem_cons.mpr ⟨lw_p8, List.forall_mem_cons.mpr ⟨lw_p9, List.forall_mem_cons.mpr ⟨lw_p10, List.forall_mem_cons.mpr ⟨lw_p11, List.forall_mem_cons.mpr ⟨lw_p12, List.forall_mem_cons.mpr ⟨lw_p13, List.forall_mem_cons.mpr ⟨lw_p14, List.forall_mem_cons.mpr ⟨lw_p15, fun _ h => absurd h List.not_mem_nil⟩⟩⟩⟩⟩⟩⟩⟩⟩⟩⟩⟩⟩⟩⟩⟩
theorem lw_p16 : lw_okq (⟨"GrowingBook$Pad", "repeat", "(III)I"⟩, 5) := ⟨⟨by decide +kernel, by decide +kernel⟩, List.mem_of_getElem? (i := 73) (by decide +kernel), List.mem_of_getElem? (i := 443) (by decide +kernel), List.mem_of_getElem? (i := 444) (by decide +kernel)⟩
theorem lw_p17 : lw_okq (⟨"GrowingBook$Pad", "spellSign", "(III)I"⟩, 5) := ⟨⟨by decide +kernel, by decide +kernel⟩, List.mem_of_getElem? (i := 73) (by decide +kernel), List.mem_of_getElem? (i := 447) (by decide +kernel), List.mem_of_getElem? (i := 448) (by decide +kernel)⟩
theorem lw_p18 : lw_okq (⟨"GrowingBook", "trialBits", "(III)I"⟩, 11) := ⟨⟨by decide +kernel, by decide +kernel⟩, List.mem_of_getElem? (i := 13) (by decide +kernel), List.mem_of_getElem? (i := 490) (by decide +kernel), List.mem_of_getElem? (i := 491) (by decide +kernel)⟩
theorem lw_p19 : lw_okq (⟨"GrowingBook", "signsLeft", "(I)I"⟩, 11) := ⟨⟨by decide +kernel, by decide +kernel⟩, List.mem_of_getElem? (i := 13) (by decide +kernel), List.mem_of_getElem? (i := 503) (by decide +kernel), List.mem_of_getElem? (i := 504) (by decide +kernel)⟩
theorem lw_p20 : lw_okq (⟨"GrowingBookModel", "record", "()V"⟩, 28) := ⟨⟨by decide +kernel, by decide +kernel⟩, List.mem_of_getElem? (i := 528) (by decide +kernel), List.mem_of_getElem? (i := 631) (by decide +kernel), List.mem_of_getElem? (i := 632) (by decide +kernel)⟩
theorem lw_p21 : lw_okq (⟨"GrowingBookModel", "mend", "()V"⟩, 28) := ⟨⟨by decide +kernel, by decide +kernel⟩, List.mem_of_getElem? (i := 528) (by decide +kernel), List.mem_of_getElem? (i := 635) (by decide +kernel), List.mem_of_getElem? (i := 636) (by decide +kernel)⟩
theorem lw_p22 : lw_okq (⟨"GrowingBookModel", "writeNow", "()V"⟩, 28) := ⟨⟨by decide +kernel, by decide +kernel⟩, List.mem_of_getElem? (i := 528) (by decide +kernel), List.mem_of_getElem? (i := 651) (by decide +kernel), List.mem_of_getElem? (i := 652) (by decide +kernel)⟩
theorem lw_p23 : lw_okq (⟨"GrowingBookModel", "write", "(II)V"⟩, 28) := ⟨⟨by decide +kernel, by decide +kernel⟩, List.mem_of_getElem? (i := 528) (by decide +kernel), List.mem_of_getElem? (i := 655) (by decide +kernel), List.mem_of_getElem? (i := 656) (by decide +kernel)⟩
theorem lw_p24 : lw_okq (⟨"GrowingBookModel", "beginBook", "()V"⟩, 28) := ⟨⟨by decide +kernel, by decide +kernel⟩, List.mem_of_getElem? (i := 528) (by decide +kernel), List.mem_of_getElem? (i := 659) (by decide +kernel), List.mem_of_getElem? (i := 660) (by decide +kernel)⟩
theorem lw_p25 : lw_okq (⟨"GrowingBookModel", "longer", "(II)I"⟩, 28) := ⟨⟨by decide +kernel, by decide +kernel⟩, List.mem_of_getElem? (i := 528) (by decide +kernel), List.mem_of_getElem? (i := 663) (by decide +kernel), List.mem_of_getElem? (i := 664) (by decide +kernel)⟩
theorem lw_p26 : lw_okq (⟨"GrowingBookModel", "writeCode", "(III)V"⟩, 28) := ⟨⟨by decide +kernel, by decide +kernel⟩, List.mem_of_getElem? (i := 528) (by decide +kernel), List.mem_of_getElem? (i := 667) (by decide +kernel), List.mem_of_getElem? (i := 668) (by decide +kernel)⟩
theorem lw_p27 : lw_okq (⟨"GrowingBookModel", "enterPhrase", "(II)V"⟩, 28) := ⟨⟨by decide +kernel, by decide +kernel⟩, List.mem_of_getElem? (i := 528) (by decide +kernel), List.mem_of_getElem? (i := 671) (by decide +kernel), List.mem_of_getElem? (i := 672) (by decide +kernel)⟩
theorem lw_p28 : lw_okq (⟨"GrowingBookModel", "sumUpTo", "(I)I"⟩, 28) := ⟨⟨by decide +kernel, by decide +kernel⟩, List.mem_of_getElem? (i := 528) (by decide +kernel), List.mem_of_getElem? (i := 675) (by decide +kernel), List.mem_of_getElem? (i := 676) (by decide +kernel)⟩
theorem lw_p29 : lw_okq (⟨"GrowingBookModel", "readPad", "()I"⟩, 28) := ⟨⟨by decide +kernel, by decide +kernel⟩, List.mem_of_getElem? (i := 528) (by decide +kernel), List.mem_of_getElem? (i := 692) (by decide +kernel), List.mem_of_getElem? (i := 693) (by decide +kernel)⟩
theorem lw_p30 : lw_okq (⟨"GrowingBookModel", "repeat", "(II)V"⟩, 28) := ⟨⟨by decide +kernel, by decide +kernel⟩, List.mem_of_getElem? (i := 528) (by decide +kernel), List.mem_of_getElem? (i := 696) (by decide +kernel), List.mem_of_getElem? (i := 697) (by decide +kernel)⟩
theorem lw_p31 : lw_okq (⟨"GrowingBookModel", "bits", "()I"⟩, 28) := ⟨⟨by decide +kernel, by decide +kernel⟩, List.mem_of_getElem? (i := 528) (by decide +kernel), List.mem_of_getElem? (i := 716) (by decide +kernel), List.mem_of_getElem? (i := 717) (by decide +kernel)⟩
def lw_privs_2 : List (MethodName × Nat) := [(⟨"GrowingBook$Pad", "repeat", "(III)I"⟩, 5), (⟨"GrowingBook$Pad", "spellSign", "(III)I"⟩, 5), (⟨"GrowingBook", "trialBits", "(III)I"⟩, 11), (⟨"GrowingBook", "signsLeft", "(I)I"⟩, 11), (⟨"GrowingBookModel", "record", "()V"⟩, 28), (⟨"GrowingBookModel", "mend", "()V"⟩, 28), (⟨"GrowingBookModel", "writeNow", "()V"⟩, 28), (⟨"GrowingBookModel", "write", "(II)V"⟩, 28), (⟨"GrowingBookModel", "beginBook", "()V"⟩, 28), (⟨"GrowingBookModel", "longer", "(II)I"⟩, 28), (⟨"GrowingBookModel", "writeCode", "(III)V"⟩, 28), (⟨"GrowingBookModel", "enterPhrase", "(II)V"⟩, 28), (⟨"GrowingBookModel", "sumUpTo", "(I)I"⟩, 28), (⟨"GrowingBookModel", "readPad", "()I"⟩, 28), (⟨"GrowingBookModel", "repeat", "(II)V"⟩, 28), (⟨"GrowingBookModel", "bits", "()I"⟩, 28)]
theorem lw_r2 : ∀ q ∈ lw_privs_2, lw_okq q := List.forall_mem_cons.mpr ⟨lw_p16, List.forall_mem_cons.mpr ⟨lw_p17, List.forall_mem_cons.mpr ⟨lw_p18, List.forall_mem_cons.mpr ⟨lw_p19, List.forall_mem_cons.mpr ⟨lw_p20, List.forall_mem_cons.mpr ⟨lw_p21, List.forall_mem_cons.mpr ⟨lw_p22, List.forall_mem_cons.mpr ⟨lw_p23, List.forall_mem_cons.mpr ⟨lw_p24, List.forall_mem_cons.mpr ⟨lw_p25, List.forall_mem_cons.mpr ⟨lw_p26, List.forall_mem_cons.mpr ⟨lw_p27, List.forall_mem_cons.mpr ⟨lw_p28, List.forall_mem_cons.mpr ⟨lw_p29, List.forall_mem_cons.mpr ⟨lw_p30, List.forall_mem_cons.mpr ⟨lw_p31, fun _ h => absurd h List.not_mem_nil⟩⟩⟩⟩⟩⟩⟩⟩⟩⟩⟩⟩⟩⟩⟩⟩
theorem lw_p32 : lw_okq (⟨"GrowingBookModel", "clears", "()I"⟩, 28) := ⟨⟨by decide +kernel, by decide +kernel⟩, List.mem_of_getElem? (i := 528) (by decide +kernel), List.mem_of_getElem? (i := 720) (by decide +kernel), List.mem_of_getElem? (i := 721) (by decide +kernel)⟩
theorem lw_p33 : lw_okq (⟨"GrowingBookModel", "spoiled", "()I"⟩, 28) := ⟨⟨by decide +kernel, by decide +kernel⟩, List.mem_of_getElem? (i := 528) (by decide +kernel), List.mem_of_getElem? (i := 724) (by decide +kernel), List.mem_of_getElem? (i := 725) (by decide +kernel)⟩
theorem lw_p34 : lw_okq (⟨"GrowingBookModel", "readCodes", "(I)V"⟩, 28) := ⟨⟨by decide +kernel, by decide +kernel⟩, List.mem_of_getElem? (i := 528) (by decide +kernel), List.mem_of_getElem? (i := 736) (by decide +kernel), List.mem_of_getElem? (i := 737) (by decide +kernel)⟩
theorem lw_p35 : lw_okq (⟨"GrowingBookModel", "say", "(I)V"⟩, 28) := ⟨⟨by decide +kernel, by decide +kernel⟩, List.mem_of_getElem? (i := 528) (by decide +kernel), List.mem_of_getElem? (i := 740) (by decide +kernel), List.mem_of_getElem? (i := 741) (by decide +kernel)⟩
theorem lw_p36 : lw_okq (⟨"GrowingBookModel", "alike", "()I"⟩, 28) := ⟨⟨by decide +kernel, by decide +kernel⟩, List.mem_of_getElem? (i := 528) (by decide +kernel), List.mem_of_getElem? (i := 744) (by decide +kernel), List.mem_of_getElem? (i := 745) (by decide +kernel)⟩
def lw_privs_3 : List (MethodName × Nat) := [(⟨"GrowingBookModel", "clears", "()I"⟩, 28), (⟨"GrowingBookModel", "spoiled", "()I"⟩, 28), (⟨"GrowingBookModel", "readCodes", "(I)V"⟩, 28), (⟨"GrowingBookModel", "say", "(I)V"⟩, 28), (⟨"GrowingBookModel", "alike", "()I"⟩, 28)]
theorem lw_r3 : ∀ q ∈ lw_privs_3, lw_okq q := List.forall_mem_cons.mpr ⟨lw_p32, List.forall_mem_cons.mpr ⟨lw_p33, List.forall_mem_cons.mpr ⟨lw_p34, List.forall_mem_cons.mpr ⟨lw_p35, List.forall_mem_cons.mpr ⟨lw_p36, fun _ h => absurd h List.not_mem_nil⟩⟩⟩⟩⟩
def lw_privs : List (MethodName × Nat) := lw_privs_1 ++ (lw_privs_2 ++ (lw_privs_3))
def lw_tbl : List Cond := k2_sels lw_privs ++ tables_1
theorem lw_privs_ok : ∀ q ∈ lw_privs, lw_okq q := by
  show ∀ q ∈ lw_privs_1 ++ (lw_privs_2 ++ (lw_privs_3)), lw_okq q
  exact List.forall_mem_append.mpr ⟨lw_r1, List.forall_mem_append.mpr ⟨lw_r2, lw_r3⟩⟩
-- ===== end of PART A
def RX0 : String := "GrowingBook$Book"
def TX0 : u_T := fun k => match k with
  | 0 => ("GrowingBook$Book", "shorter", "[I", true)
  | 1 => ("GrowingBook$Book", "lastSigns", "[I", true)
  | 2 => ("GrowingBook$Book", "lengths", "[I", true)
  | 3 => ("GrowingBook$Book", "longer", "[I", true)
  | _ => ("GrowingBook$Book", "entries", "I", false)
def tyX0 : Nat → FieldType := fun k => match k with
  | 0 => .array .int
  | 1 => .array .int
  | 2 => .array .int
  | 3 => .array .int
  | _ => .int
theorem nmX0 : ∀ a, a < 5 → ∀ b, b < 5 → a ≠ b → (TX0 a).2.1 ≠ (TX0 b).2.1 := by decide +kernel
theorem tyX0_ok : ∀ k, k < 5 → parseFieldDescriptor (TX0 k).2.2.1 = some (tyX0 k) := by decide +kernel
abbrev cX0_init : ByteArray := prog_2_method_1_code
def yX0_init : MethodName := ⟨RX0, "<init>", "()V"⟩
abbrev cX0_dropPhrases : ByteArray := prog_2_method_2_code
def yX0_dropPhrases : MethodName := ⟨RX0, "dropPhrases", "()V"⟩
abbrev cX0_addPhrase : ByteArray := prog_2_method_3_code
def yX0_addPhrase : MethodName := ⟨RX0, "addPhrase", "(II)V"⟩
abbrev cX0_longestAt : ByteArray := prog_2_method_4_code
def yX0_longestAt : MethodName := ⟨RX0, "longestAt", "([III)I"⟩
def RX1 : String := "GrowingBook$History"
def TX1 : u_T := fun k => match k with
  | 0 => ("GrowingBook$History", "states", "[LGrowingBook$State;", true)
  | 1 => ("GrowingBook$History", "latest", "I", false)
  | _ => ("GrowingBook$History", "held", "I", false)
def tyX1 : Nat → FieldType := fun k => match k with
  | 0 => .array (.object "GrowingBook$State")
  | 1 => .int
  | _ => .int
theorem nmX1 : ∀ a, a < 3 → ∀ b, b < 3 → a ≠ b → (TX1 a).2.1 ≠ (TX1 b).2.1 := by decide +kernel
theorem tyX1_ok : ∀ k, k < 3 → parseFieldDescriptor (TX1 k).2.2.1 = some (tyX1 k) := by decide +kernel
abbrev cX1_init : ByteArray := prog_3_method_1_code
def yX1_init : MethodName := ⟨RX1, "<init>", "()V"⟩
abbrev cX1_record : ByteArray := prog_3_method_2_code
def yX1_record : MethodName := ⟨RX1, "record", "(LGrowingBook$State;)V"⟩
abbrev cX1_takeBack : ByteArray := prog_3_method_3_code
def yX1_takeBack : MethodName := ⟨RX1, "takeBack", "(LGrowingBook$State;)V"⟩
def RX2 : String := "GrowingBook$Pad"
def TX2 : u_T := fun k => match k with
  | 0 => ("GrowingBook$Pad", "characters", "[I", true)
  | 1 => ("GrowingBook$Pad", "spelled", "[I", true)
  | 2 => ("GrowingBook$Pad", "begins", "[I", true)
  | 3 => ("GrowingBook$Pad", "times", "[I", true)
  | _ => ("GrowingBook$Pad", "length", "I", false)
def tyX2 : Nat → FieldType := fun k => match k with
  | 0 => .array .int
  | 1 => .array .int
  | 2 => .array .int
  | 3 => .array .int
  | _ => .int
theorem nmX2 : ∀ a, a < 5 → ∀ b, b < 5 → a ≠ b → (TX2 a).2.1 ≠ (TX2 b).2.1 := by decide +kernel
theorem tyX2_ok : ∀ k, k < 5 → parseFieldDescriptor (TX2 k).2.2.1 = some (tyX2 k) := by decide +kernel
abbrev cX2_init : ByteArray := prog_4_method_1_code
def yX2_init : MethodName := ⟨RX2, "<init>", "()V"⟩
abbrev cX2_charactersIn : ByteArray := prog_4_method_2_code
def yX2_charactersIn : MethodName := ⟨RX2, "charactersIn", "(J)I"⟩
abbrev cX2_append : ByteArray := prog_4_method_3_code
def yX2_append : MethodName := ⟨RX2, "append", "(JI)V"⟩
abbrev cX2_isDigit : ByteArray := prog_4_method_4_code
def yX2_isDigit : MethodName := ⟨RX2, "isDigit", "(I)Z"⟩
abbrev cX2_isSign : ByteArray := prog_4_method_5_code
def yX2_isSign : MethodName := ⟨RX2, "isSign", "(I)Z"⟩
abbrev cX2_findFault : ByteArray := prog_4_method_6_code
def yX2_findFault : MethodName := ⟨RX2, "findFault", "()I"⟩
abbrev cX2_spell : ByteArray := prog_4_method_7_code
def yX2_spell : MethodName := ⟨RX2, "spell", "()I"⟩
abbrev cX2_spellSign : ByteArray := prog_4_method_8_code
def yX2_spellSign : MethodName := ⟨RX2, "spellSign", "(III)I"⟩
abbrev cX2_repeat : ByteArray := prog_4_method_9_code
def yX2_repeat : MethodName := ⟨RX2, "repeat", "(III)I"⟩
def RX3 : String := "GrowingBook$Reader"
def TX3 : u_T := fun k => match k with
  | 0 => ("GrowingBook$Reader", "signs", "[I", true)
  | 1 => ("GrowingBook$Reader", "many", "I", false)
  | 2 => ("GrowingBook$Reader", "entries", "I", false)
  | 3 => ("GrowingBook$Reader", "early", "I", false)
  | 4 => ("GrowingBook$Reader", "faultPlace", "I", false)
  | 5 => ("GrowingBook$Reader", "reason", "I", false)
  | 6 => ("GrowingBook$Reader", "begins", "[I", true)
  | 7 => ("GrowingBook$Reader", "lengths", "[I", true)
  | 8 => ("GrowingBook$Reader", "full", "I", false)
  | 9 => ("GrowingBook$Reader", "aheadBegin", "I", false)
  | _ => ("GrowingBook$Reader", "aheadLength", "I", false)
def tyX3 : Nat → FieldType := fun k => match k with
  | 0 => .array .int
  | 1 => .int
  | 2 => .int
  | 3 => .int
  | 4 => .int
  | 5 => .int
  | 6 => .array .int
  | 7 => .array .int
  | 8 => .int
  | 9 => .int
  | _ => .int
theorem nmX3 : ∀ a, a < 11 → ∀ b, b < 11 → a ≠ b → (TX3 a).2.1 ≠ (TX3 b).2.1 := by decide +kernel
theorem tyX3_ok : ∀ k, k < 11 → parseFieldDescriptor (TX3 k).2.2.1 = some (tyX3 k) := by decide +kernel
abbrev cX3_init : ByteArray := prog_5_method_1_code
def yX3_init : MethodName := ⟨RX3, "<init>", "()V"⟩
abbrev cX3_readAll : ByteArray := prog_5_method_2_code
def yX3_readAll : MethodName := ⟨RX3, "readAll", "([III)V"⟩
abbrev cX3_begin : ByteArray := prog_5_method_3_code
def yX3_begin : MethodName := ⟨RX3, "begin", "(I)V"⟩
abbrev cX3_dropPhrases : ByteArray := prog_5_method_4_code
def yX3_dropPhrases : MethodName := ⟨RX3, "dropPhrases", "()V"⟩
abbrev cX3_noteFault : ByteArray := prog_5_method_5_code
def yX3_noteFault : MethodName := ⟨RX3, "noteFault", "(II)V"⟩
abbrev cX3_canGrow : ByteArray := prog_5_method_6_code
def yX3_canGrow : MethodName := ⟨RX3, "canGrow", "()Z"⟩
abbrev cX3_canStand : ByteArray := prog_5_method_7_code
def yX3_canStand : MethodName := ⟨RX3, "canStand", "(I)Z"⟩
abbrev cX3_readEntry : ByteArray := prog_5_method_8_code
def yX3_readEntry : MethodName := ⟨RX3, "readEntry", "(I)V"⟩
abbrev cX3_readPhrase : ByteArray := prog_5_method_9_code
def yX3_readPhrase : MethodName := ⟨RX3, "readPhrase", "(II)V"⟩
abbrev cX3_readSign : ByteArray := prog_5_method_10_code
def yX3_readSign : MethodName := ⟨RX3, "readSign", "(I)V"⟩
abbrev cX3_firstDifference : ByteArray := prog_5_method_11_code
def yX3_firstDifference : MethodName := ⟨RX3, "firstDifference", "([II)I"⟩
def RX4 : String := "GrowingBook$State"
def TX4 : u_T := fun k => match k with
  | 0 => ("GrowingBook$State", "settings", "[I", true)
  | 1 => ("GrowingBook$State", "signs", "[I", true)
  | 2 => ("GrowingBook$State", "turned", "[I", true)
  | _ => ("GrowingBook$State", "length", "I", false)
def tyX4 : Nat → FieldType := fun k => match k with
  | 0 => .array .int
  | 1 => .array .int
  | 2 => .array .int
  | _ => .int
theorem nmX4 : ∀ a, a < 4 → ∀ b, b < 4 → a ≠ b → (TX4 a).2.1 ≠ (TX4 b).2.1 := by decide +kernel
theorem tyX4_ok : ∀ k, k < 4 → parseFieldDescriptor (TX4 k).2.2.1 = some (tyX4 k) := by decide +kernel
abbrev cX4_init : ByteArray := prog_6_method_1_code
def yX4_init : MethodName := ⟨RX4, "<init>", "()V"⟩
abbrev cX4_mendCodes : ByteArray := prog_6_method_2_code
def yX4_mendCodes : MethodName := ⟨RX4, "mendCodes", "()V"⟩
abbrev cX4_countSpoiled : ByteArray := prog_6_method_3_code
def yX4_countSpoiled : MethodName := ⟨RX4, "countSpoiled", "()I"⟩
def RX5 : String := "GrowingBook$Writer"
def TX5 : u_T := fun k => match k with
  | 0 => ("GrowingBook$Writer", "book", "LGrowingBook$Book;", true)
  | 1 => ("GrowingBook$Writer", "numbers", "[I", true)
  | 2 => ("GrowingBook$Writer", "widths", "[I", true)
  | 3 => ("GrowingBook$Writer", "places", "[I", true)
  | 4 => ("GrowingBook$Writer", "lengths", "[I", true)
  | 5 => ("GrowingBook$Writer", "books", "[I", true)
  | 6 => ("GrowingBook$Writer", "codes", "I", false)
  | 7 => ("GrowingBook$Writer", "bits", "I", false)
  | 8 => ("GrowingBook$Writer", "clears", "I", false)
  | 9 => ("GrowingBook$Writer", "longest", "I", false)
  | 10 => ("GrowingBook$Writer", "full", "I", false)
  | _ => ("GrowingBook$Writer", "firstSinceFull", "I", false)
def tyX5 : Nat → FieldType := fun k => match k with
  | 0 => .object "GrowingBook$Book"
  | 1 => .array .int
  | 2 => .array .int
  | 3 => .array .int
  | 4 => .array .int
  | 5 => .array .int
  | 6 => .int
  | 7 => .int
  | 8 => .int
  | 9 => .int
  | 10 => .int
  | _ => .int
theorem nmX5 : ∀ a, a < 12 → ∀ b, b < 12 → a ≠ b → (TX5 a).2.1 ≠ (TX5 b).2.1 := by decide +kernel
theorem tyX5_ok : ∀ k, k < 12 → parseFieldDescriptor (TX5 k).2.2.1 = some (tyX5 k) := by decide +kernel
abbrev cX5_init : ByteArray := prog_7_method_1_code
def yX5_init : MethodName := ⟨RX5, "<init>", "()V"⟩
abbrev cX5_writeOut : ByteArray := prog_7_method_2_code
def yX5_writeOut : MethodName := ⟨RX5, "writeOut", "([IIIII)V"⟩
abbrev cX5_begin : ByteArray := prog_7_method_3_code
def yX5_begin : MethodName := ⟨RX5, "begin", "(I)V"⟩
abbrev cX5_writeCode : ByteArray := prog_7_method_4_code
def yX5_writeCode : MethodName := ⟨RX5, "writeCode", "(III)V"⟩
abbrev cX5_bitsOf : ByteArray := prog_7_method_5_code
def yX5_bitsOf : MethodName := ⟨RX5, "bitsOf", "(I)I"⟩
abbrev cX5_grow : ByteArray := prog_7_method_6_code
def yX5_grow : MethodName := ⟨RX5, "grow", "(II)V"⟩
abbrev cX5_mustClear : ByteArray := prog_7_method_7_code
def yX5_mustClear : MethodName := ⟨RX5, "mustClear", "(II)Z"⟩
abbrev cX5_losesBy : ByteArray := prog_7_method_8_code
def yX5_losesBy : MethodName := ⟨RX5, "losesBy", "(I)Z"⟩
abbrev cX5_signsOf : ByteArray := prog_7_method_9_code
def yX5_signsOf : MethodName := ⟨RX5, "signsOf", "(II)I"⟩
def RX6 : String := "GrowingBook"
def TX6 : u_T := fun k => match k with
  | 0 => ("GrowingBook", "now", "LGrowingBook$State;", true)
  | 1 => ("GrowingBook", "history", "LGrowingBook$History;", true)
  | 2 => ("GrowingBook", "slots", "[LGrowingBook$State;", true)
  | 3 => ("GrowingBook", "saved", "[Z", true)
  | 4 => ("GrowingBook", "pad", "LGrowingBook$Pad;", true)
  | 5 => ("GrowingBook", "writer", "LGrowingBook$Writer;", true)
  | 6 => ("GrowingBook", "reader", "LGrowingBook$Reader;", true)
  | 7 => ("GrowingBook", "coming", "[I", true)
  | 8 => ("GrowingBook", "trialWriter", "LGrowingBook$Writer;", true)
  | 9 => ("GrowingBook", "trialReader", "LGrowingBook$Reader;", true)
  | _ => ("GrowingBook", "trialCodes", "[I", true)
def tyX6 : Nat → FieldType := fun k => match k with
  | 0 => .object "GrowingBook$State"
  | 1 => .object "GrowingBook$History"
  | 2 => .array (.object "GrowingBook$State")
  | 3 => .array .boolean
  | 4 => .object "GrowingBook$Pad"
  | 5 => .object "GrowingBook$Writer"
  | 6 => .object "GrowingBook$Reader"
  | 7 => .array .int
  | 8 => .object "GrowingBook$Writer"
  | 9 => .object "GrowingBook$Reader"
  | _ => .array .int
theorem nmX6 : ∀ a, a < 11 → ∀ b, b < 11 → a ≠ b → (TX6 a).2.1 ≠ (TX6 b).2.1 := by decide +kernel
theorem tyX6_ok : ∀ k, k < 11 → parseFieldDescriptor (TX6 k).2.2.1 = some (tyX6 k) := by decide +kernel
abbrev cX6_init : ByteArray := prog_1_method_1_code
def yX6_init : MethodName := ⟨RX6, "<init>", "()V"⟩
abbrev cX6_set : ByteArray := prog_1_method_2_code
def yX6_set : MethodName := ⟨RX6, "set", "(II)I"⟩
abbrev cX6_add : ByteArray := prog_1_method_3_code
def yX6_add : MethodName := ⟨RX6, "add", "(II)I"⟩
abbrev cX6_cut : ByteArray := prog_1_method_4_code
def yX6_cut : MethodName := ⟨RX6, "cut", "(I)I"⟩
abbrev cX6_spoil : ByteArray := prog_1_method_5_code
def yX6_spoil : MethodName := ⟨RX6, "spoil", "(II)I"⟩
abbrev cX6_put : ByteArray := prog_1_method_6_code
def yX6_put : MethodName := ⟨RX6, "put", "(J)I"⟩
abbrev cX6_wipe : ByteArray := prog_1_method_7_code
def yX6_wipe : MethodName := ⟨RX6, "wipe", "()I"⟩
abbrev cX6_fault : ByteArray := prog_1_method_8_code
def yX6_fault : MethodName := ⟨RX6, "fault", "()I"⟩
abbrev cX6_load : ByteArray := prog_1_method_9_code
def yX6_load : MethodName := ⟨RX6, "load", "()I"⟩
abbrev cX6_sign : ByteArray := prog_1_method_10_code
def yX6_sign : MethodName := ⟨RX6, "sign", "(I)I"⟩
abbrev cX6_ofCode : ByteArray := prog_1_method_11_code
def yX6_ofCode : MethodName := ⟨RX6, "ofCode", "(II)I"⟩
abbrev cX6_count : ByteArray := prog_1_method_12_code
def yX6_count : MethodName := ⟨RX6, "count", "(I)I"⟩
abbrev cX6_entry : ByteArray := prog_1_method_13_code
def yX6_entry : MethodName := ⟨RX6, "entry", "(II)I"⟩
abbrev cX6_reading : ByteArray := prog_1_method_14_code
def yX6_reading : MethodName := ⟨RX6, "reading", "(I)I"⟩
abbrev cX6_read : ByteArray := prog_1_method_15_code
def yX6_read : MethodName := ⟨RX6, "read", "(I)I"⟩
abbrev cX6_bitsWith : ByteArray := prog_1_method_16_code
def yX6_bitsWith : MethodName := ⟨RX6, "bitsWith", "(II)I"⟩
abbrev cX6_best : ByteArray := prog_1_method_17_code
def yX6_best : MethodName := ⟨RX6, "best", "(I)I"⟩
abbrev cX6_tenderest : ByteArray := prog_1_method_18_code
def yX6_tenderest : MethodName := ⟨RX6, "tenderest", "(I)I"⟩
abbrev cX6_cheapest : ByteArray := prog_1_method_19_code
def yX6_cheapest : MethodName := ⟨RX6, "cheapest", "(I)I"⟩
abbrev cX6_undo : ByteArray := prog_1_method_20_code
def yX6_undo : MethodName := ⟨RX6, "undo", "()I"⟩
abbrev cX6_save : ByteArray := prog_1_method_21_code
def yX6_save : MethodName := ⟨RX6, "save", "(I)I"⟩
abbrev cX6_restore : ByteArray := prog_1_method_22_code
def yX6_restore : MethodName := ⟨RX6, "restore", "(I)I"⟩
abbrev cX6_isSetting : ByteArray := prog_1_method_23_code
def yX6_isSetting : MethodName := ⟨RX6, "isSetting", "(II)Z"⟩
abbrev cX6_isCode : ByteArray := prog_1_method_24_code
def yX6_isCode : MethodName := ⟨RX6, "isCode", "(I)Z"⟩
abbrev cX6_refresh : ByteArray := prog_1_method_25_code
def yX6_refresh : MethodName := ⟨RX6, "refresh", "()V"⟩
abbrev cX6_trialBits : ByteArray := prog_1_method_26_code
def yX6_trialBits : MethodName := ⟨RX6, "trialBits", "(III)I"⟩
abbrev cX6_signsLeft : ByteArray := prog_1_method_27_code
def yX6_signsLeft : MethodName := ⟨RX6, "signsLeft", "(I)I"⟩
abbrev cX6_copyState : ByteArray := prog_1_method_28_code
def yX6_copyState : MethodName := ⟨RX6, "copyState", "(LGrowingBook$State;LGrowingBook$State;)V"⟩
def RX7 : String := "GrowingBookModel"
def TX7 : u_T := fun k => match k with
  | 0 => ("GrowingBookModel", "now", "[I", true)
  | 1 => ("GrowingBookModel", "history", "[I", true)
  | 2 => ("GrowingBookModel", "undos", "I", false)
  | 3 => ("GrowingBookModel", "saved", "[I", true)
  | 4 => ("GrowingBookModel", "isSaved", "[Z", true)
  | 5 => ("GrowingBookModel", "pad", "[I", true)
  | 6 => ("GrowingBookModel", "signs", "I", false)
  | 7 => ("GrowingBookModel", "head", "[I", true)
  | 8 => ("GrowingBookModel", "last", "[I", true)
  | 9 => ("GrowingBookModel", "first", "[I", true)
  | 10 => ("GrowingBookModel", "size", "[I", true)
  | 11 => ("GrowingBookModel", "entries", "I", false)
  | 12 => ("GrowingBookModel", "code", "[I", true)
  | 13 => ("GrowingBookModel", "width", "[I", true)
  | 14 => ("GrowingBookModel", "begins", "[I", true)
  | 15 => ("GrowingBookModel", "stands", "[I", true)
  | 16 => ("GrowingBookModel", "had", "[I", true)
  | 17 => ("GrowingBookModel", "codes", "I", false)
  | 18 => ("GrowingBookModel", "longest", "I", false)
  | 19 => ("GrowingBookModel", "told", "[I", true)
  | 20 => ("GrowingBookModel", "tolds", "I", false)
  | 21 => ("GrowingBookModel", "openAt", "[I", true)
  | 22 => ("GrowingBookModel", "openTimes", "[I", true)
  | 23 => ("GrowingBookModel", "got", "[B", true)
  | 24 => ("GrowingBookModel", "gots", "I", false)
  | 25 => ("GrowingBookModel", "faultAt", "I", false)
  | 26 => ("GrowingBookModel", "reason", "I", false)
  | _ => ("GrowingBookModel", "ahead", "I", false)
def tyX7 : Nat → FieldType := fun k => match k with
  | 0 => .array .int
  | 1 => .array .int
  | 2 => .int
  | 3 => .array .int
  | 4 => .array .boolean
  | 5 => .array .int
  | 6 => .int
  | 7 => .array .int
  | 8 => .array .int
  | 9 => .array .int
  | 10 => .array .int
  | 11 => .int
  | 12 => .array .int
  | 13 => .array .int
  | 14 => .array .int
  | 15 => .array .int
  | 16 => .array .int
  | 17 => .int
  | 18 => .int
  | 19 => .array .int
  | 20 => .int
  | 21 => .array .int
  | 22 => .array .int
  | 23 => .array .byte
  | 24 => .int
  | 25 => .int
  | 26 => .int
  | _ => .int
theorem nmX7 : ∀ a, a < 28 → ∀ b, b < 28 → a ≠ b → (TX7 a).2.1 ≠ (TX7 b).2.1 := by decide +kernel
theorem tyX7_ok : ∀ k, k < 28 → parseFieldDescriptor (TX7 k).2.2.1 = some (tyX7 k) := by decide +kernel
abbrev cX7_init : ByteArray := prog_9_method_1_code
def yX7_init : MethodName := ⟨RX7, "<init>", "()V"⟩
abbrev cX7_in : ByteArray := prog_9_method_2_code
def yX7_in : MethodName := ⟨RX7, "in", "(III)Z"⟩
abbrev cX7_record : ByteArray := prog_9_method_3_code
def yX7_record : MethodName := ⟨RX7, "record", "()V"⟩
abbrev cX7_mend : ByteArray := prog_9_method_4_code
def yX7_mend : MethodName := ⟨RX7, "mend", "()V"⟩
abbrev cX7_isSetting : ByteArray := prog_9_method_5_code
def yX7_isSetting : MethodName := ⟨RX7, "isSetting", "(II)Z"⟩
abbrev cX7_set : ByteArray := prog_9_method_6_code
def yX7_set : MethodName := ⟨RX7, "set", "(II)I"⟩
abbrev cX7_add : ByteArray := prog_9_method_7_code
def yX7_add : MethodName := ⟨RX7, "add", "(II)I"⟩
abbrev cX7_cut : ByteArray := prog_9_method_8_code
def yX7_cut : MethodName := ⟨RX7, "cut", "(I)I"⟩
abbrev cX7_beginBook : ByteArray := prog_9_method_9_code
def yX7_beginBook : MethodName := ⟨RX7, "beginBook", "()V"⟩
abbrev cX7_enterPhrase : ByteArray := prog_9_method_10_code
def yX7_enterPhrase : MethodName := ⟨RX7, "enterPhrase", "(II)V"⟩
abbrev cX7_longer : ByteArray := prog_9_method_11_code
def yX7_longer : MethodName := ⟨RX7, "longer", "(II)I"⟩
abbrev cX7_writeCode : ByteArray := prog_9_method_12_code
def yX7_writeCode : MethodName := ⟨RX7, "writeCode", "(III)V"⟩
abbrev cX7_sumUpTo : ByteArray := prog_9_method_13_code
def yX7_sumUpTo : MethodName := ⟨RX7, "sumUpTo", "(I)I"⟩
abbrev cX7_write : ByteArray := prog_9_method_14_code
def yX7_write : MethodName := ⟨RX7, "write", "(II)V"⟩
abbrev cX7_writeNow : ByteArray := prog_9_method_15_code
def yX7_writeNow : MethodName := ⟨RX7, "writeNow", "()V"⟩
abbrev cX7_bits : ByteArray := prog_9_method_16_code
def yX7_bits : MethodName := ⟨RX7, "bits", "()I"⟩
abbrev cX7_spoil : ByteArray := prog_9_method_17_code
def yX7_spoil : MethodName := ⟨RX7, "spoil", "(II)I"⟩
abbrev cX7_repeat : ByteArray := prog_9_method_18_code
def yX7_repeat : MethodName := ⟨RX7, "repeat", "(II)V"⟩
abbrev cX7_readPad : ByteArray := prog_9_method_19_code
def yX7_readPad : MethodName := ⟨RX7, "readPad", "()I"⟩
abbrev cX7_put : ByteArray := prog_9_method_20_code
def yX7_put : MethodName := ⟨RX7, "put", "(J)I"⟩
abbrev cX7_wipe : ByteArray := prog_9_method_21_code
def yX7_wipe : MethodName := ⟨RX7, "wipe", "()I"⟩
abbrev cX7_fault : ByteArray := prog_9_method_22_code
def yX7_fault : MethodName := ⟨RX7, "fault", "()I"⟩
abbrev cX7_load : ByteArray := prog_9_method_23_code
def yX7_load : MethodName := ⟨RX7, "load", "()I"⟩
abbrev cX7_sign : ByteArray := prog_9_method_24_code
def yX7_sign : MethodName := ⟨RX7, "sign", "(I)I"⟩
abbrev cX7_ofCode : ByteArray := prog_9_method_25_code
def yX7_ofCode : MethodName := ⟨RX7, "ofCode", "(II)I"⟩
abbrev cX7_clears : ByteArray := prog_9_method_26_code
def yX7_clears : MethodName := ⟨RX7, "clears", "()I"⟩
abbrev cX7_spoiled : ByteArray := prog_9_method_27_code
def yX7_spoiled : MethodName := ⟨RX7, "spoiled", "()I"⟩
abbrev cX7_count : ByteArray := prog_9_method_28_code
def yX7_count : MethodName := ⟨RX7, "count", "(I)I"⟩
abbrev cX7_entry : ByteArray := prog_9_method_29_code
def yX7_entry : MethodName := ⟨RX7, "entry", "(II)I"⟩
abbrev cX7_say : ByteArray := prog_9_method_30_code
def yX7_say : MethodName := ⟨RX7, "say", "(I)V"⟩
abbrev cX7_readCodes : ByteArray := prog_9_method_31_code
def yX7_readCodes : MethodName := ⟨RX7, "readCodes", "(I)V"⟩
abbrev cX7_alike : ByteArray := prog_9_method_32_code
def yX7_alike : MethodName := ⟨RX7, "alike", "()I"⟩
abbrev cX7_reading : ByteArray := prog_9_method_33_code
def yX7_reading : MethodName := ⟨RX7, "reading", "(I)I"⟩
abbrev cX7_read : ByteArray := prog_9_method_34_code
def yX7_read : MethodName := ⟨RX7, "read", "(I)I"⟩
abbrev cX7_bitsWith : ByteArray := prog_9_method_35_code
def yX7_bitsWith : MethodName := ⟨RX7, "bitsWith", "(II)I"⟩
abbrev cX7_best : ByteArray := prog_9_method_36_code
def yX7_best : MethodName := ⟨RX7, "best", "(I)I"⟩
abbrev cX7_tenderest : ByteArray := prog_9_method_37_code
def yX7_tenderest : MethodName := ⟨RX7, "tenderest", "(I)I"⟩
abbrev cX7_cheapest : ByteArray := prog_9_method_38_code
def yX7_cheapest : MethodName := ⟨RX7, "cheapest", "(I)I"⟩
abbrev cX7_undo : ByteArray := prog_9_method_39_code
def yX7_undo : MethodName := ⟨RX7, "undo", "()I"⟩
abbrev cX7_save : ByteArray := prog_9_method_40_code
def yX7_save : MethodName := ⟨RX7, "save", "(I)I"⟩
abbrev cX7_restore : ByteArray := prog_9_method_41_code
def yX7_restore : MethodName := ⟨RX7, "restore", "(I)I"⟩
def RJx8e188 : String := "java/lang/Cloneable"
def TJx8e188 : u_T := fun k => match k with
  | _ => ("", "", "", false)
def tyJx8e188 : Nat → FieldType := fun k => match k with
  | _ => .int
theorem nmJx8e188 : ∀ a, a < 0 → ∀ b, b < 0 → a ≠ b → (TJx8e188 a).2.1 ≠ (TJx8e188 b).2.1 := by decide +kernel
theorem tyJx8e188_ok : ∀ k, k < 0 → parseFieldDescriptor (TJx8e188 k).2.2.1 = some (tyJx8e188 k) := by decide +kernel
def RJ9 : String := "java/lang/Math"
def TJ9 : u_T := fun k => match k with
  | _ => ("", "", "", false)
def tyJ9 : Nat → FieldType := fun k => match k with
  | _ => .int
theorem nmJ9 : ∀ a, a < 0 → ∀ b, b < 0 → a ≠ b → (TJ9 a).2.1 ≠ (TJ9 b).2.1 := by decide +kernel
theorem tyJ9_ok : ∀ k, k < 0 → parseFieldDescriptor (TJ9 k).2.2.1 = some (tyJ9 k) := by decide +kernel
abbrev cJ9_max_7cf53 : ByteArray := prog_11_method_65_code
def yJ9_max_7cf53 : MethodName := ⟨RJ9, "max", "(II)I"⟩
abbrev cJ9_min_7cf53 : ByteArray := prog_11_method_69_code
def yJ9_min_7cf53 : MethodName := ⟨RJ9, "min", "(II)I"⟩
def RJ10 : String := "java/lang/System"
def TJ10 : u_T := fun k => match k with
  | _ => ("", "", "", false)
def tyJ10 : Nat → FieldType := fun k => match k with
  | _ => .int
theorem nmJ10 : ∀ a, a < 0 → ∀ b, b < 0 → a ≠ b → (TJ10 a).2.1 ≠ (TJ10 b).2.1 := by decide +kernel
theorem tyJ10_ok : ∀ k, k < 0 → parseFieldDescriptor (TJ10 k).2.2.1 = some (tyJ10 k) := by decide +kernel
def RJ7 : String := "java/util/Arrays"
def TJ7 : u_T := fun k => match k with
  | _ => ("", "", "", false)
def tyJ7 : Nat → FieldType := fun k => match k with
  | _ => .int
theorem nmJ7 : ∀ a, a < 0 → ∀ b, b < 0 → a ≠ b → (TJ7 a).2.1 ≠ (TJ7 b).2.1 := by decide +kernel
theorem tyJ7_ok : ∀ k, k < 0 → parseFieldDescriptor (TJ7 k).2.2.1 = some (tyJ7 k) := by decide +kernel
abbrev cJ7_rangeCheck_23922 : ByteArray := prog_13_method_30_code
def yJ7_rangeCheck_23922 : MethodName := ⟨RJ7, "rangeCheck", "(III)V"⟩
abbrev cJ7_fill_53178 : ByteArray := prog_13_method_103_code
def yJ7_fill_53178 : MethodName := ⟨RJ7, "fill", "([II)V"⟩
abbrev cJ7_fill_fda19 : ByteArray := prog_13_method_104_code
def yJ7_fill_fda19 : MethodName := ⟨RJ7, "fill", "([IIII)V"⟩
def RL : String := "GrowingBookLaw"
abbrev cL_law : ByteArray := code
def yL_law : MethodName := ⟨RL, "law", "([I)Z"⟩
theorem dX0_init_0 : decode cX0_init 0 = .ok (.aload_n 0, 1) := by decide +kernel
theorem dX0_init_1 : decode cX0_init 1 = .ok (.invokespecial 3, 3) := by decide +kernel
theorem dX0_init_4 : decode cX0_init 4 = .ok (.aload_n 0, 1) := by decide +kernel
theorem dX0_init_5 : decode cX0_init 5 = .ok (.sipush 512, 3) := by decide +kernel
theorem dX0_init_8 : decode cX0_init 8 = .ok (.newarray .int, 2) := by decide +kernel
theorem dX0_init_10 : decode cX0_init 10 = .ok (.putfield 9, 3) := by decide +kernel
theorem dX0_init_13 : decode cX0_init 13 = .ok (.aload_n 0, 1) := by decide +kernel
theorem dX0_init_14 : decode cX0_init 14 = .ok (.sipush 512, 3) := by decide +kernel
theorem dX0_init_17 : decode cX0_init 17 = .ok (.newarray .int, 2) := by decide +kernel
theorem dX0_init_19 : decode cX0_init 19 = .ok (.putfield 15, 3) := by decide +kernel
theorem dX0_init_22 : decode cX0_init 22 = .ok (.aload_n 0, 1) := by decide +kernel
theorem dX0_init_23 : decode cX0_init 23 = .ok (.sipush 512, 3) := by decide +kernel
theorem dX0_init_26 : decode cX0_init 26 = .ok (.newarray .int, 2) := by decide +kernel
theorem dX0_init_28 : decode cX0_init 28 = .ok (.putfield 18, 3) := by decide +kernel
theorem dX0_init_31 : decode cX0_init 31 = .ok (.aload_n 0, 1) := by decide +kernel
theorem dX0_init_32 : decode cX0_init 32 = .ok (.sipush 4096, 3) := by decide +kernel
theorem dX0_init_35 : decode cX0_init 35 = .ok (.newarray .int, 2) := by decide +kernel
theorem dX0_init_37 : decode cX0_init 37 = .ok (.putfield 21, 3) := by decide +kernel
theorem dX0_init_40 : decode cX0_init 40 = .ok (.iconst 0, 1) := by decide +kernel
theorem dX0_init_41 : decode cX0_init 41 = .ok (.istore_n 1, 1) := by decide +kernel
theorem dX0_init_42 : decode cX0_init 42 = .ok (.iload_n 1, 1) := by decide +kernel
theorem dX0_init_43 : decode cX0_init 43 = .ok (.bipush 10, 2) := by decide +kernel
theorem dX0_init_45 : decode cX0_init 45 = .ok (.if_icmp .ge 52, 3) := by decide +kernel
theorem dX0_init_48 : decode cX0_init 48 = .ok (.aload_n 0, 1) := by decide +kernel
theorem dX0_init_49 : decode cX0_init 49 = .ok (.getfield 9, 3) := by decide +kernel
theorem dX0_init_52 : decode cX0_init 52 = .ok (.iload_n 1, 1) := by decide +kernel
theorem dX0_init_53 : decode cX0_init 53 = .ok (.bipush (-6), 2) := by decide +kernel
theorem dX0_init_55 : decode cX0_init 55 = .ok (.iastore, 1) := by decide +kernel
theorem dX0_init_56 : decode cX0_init 56 = .ok (.aload_n 0, 1) := by decide +kernel
theorem dX0_init_57 : decode cX0_init 57 = .ok (.getfield 15, 3) := by decide +kernel
theorem dX0_init_60 : decode cX0_init 60 = .ok (.iload_n 1, 1) := by decide +kernel
theorem dX0_init_61 : decode cX0_init 61 = .ok (.iload_n 1, 1) := by decide +kernel
theorem dX0_init_62 : decode cX0_init 62 = .ok (.bipush 8, 2) := by decide +kernel
theorem dX0_init_64 : decode cX0_init 64 = .ok (.if_icmp .ge 7, 3) := by decide +kernel
theorem dX0_init_67 : decode cX0_init 67 = .ok (.iload_n 1, 1) := by decide +kernel
theorem dX0_init_68 : decode cX0_init 68 = .ok (.goto 5, 3) := by decide +kernel
theorem dX0_init_71 : decode cX0_init 71 = .ok (.bipush (-6), 2) := by decide +kernel
theorem dX0_init_73 : decode cX0_init 73 = .ok (.iastore, 1) := by decide +kernel
theorem dX0_init_74 : decode cX0_init 74 = .ok (.aload_n 0, 1) := by decide +kernel
theorem dX0_init_75 : decode cX0_init 75 = .ok (.getfield 18, 3) := by decide +kernel
theorem dX0_init_78 : decode cX0_init 78 = .ok (.iload_n 1, 1) := by decide +kernel
theorem dX0_init_79 : decode cX0_init 79 = .ok (.iload_n 1, 1) := by decide +kernel
theorem dX0_init_80 : decode cX0_init 80 = .ok (.bipush 8, 2) := by decide +kernel
theorem dX0_init_82 : decode cX0_init 82 = .ok (.if_icmp .ge 7, 3) := by decide +kernel
theorem dX0_init_85 : decode cX0_init 85 = .ok (.iconst 1, 1) := by decide +kernel
theorem dX0_init_86 : decode cX0_init 86 = .ok (.goto 4, 3) := by decide +kernel
theorem dX0_init_89 : decode cX0_init 89 = .ok (.iconst 0, 1) := by decide +kernel
theorem dX0_init_90 : decode cX0_init 90 = .ok (.iastore, 1) := by decide +kernel
theorem dX0_init_91 : decode cX0_init 91 = .ok (.iinc 1 1, 3) := by decide +kernel
theorem dX0_init_94 : decode cX0_init 94 = .ok (.goto (-52), 3) := by decide +kernel
theorem dX0_init_97 : decode cX0_init 97 = .ok (.aload_n 0, 1) := by decide +kernel
theorem dX0_init_98 : decode cX0_init 98 = .ok (.bipush 10, 2) := by decide +kernel
theorem dX0_init_100 : decode cX0_init 100 = .ok (.putfield 24, 3) := by decide +kernel
theorem dX0_init_103 : decode cX0_init 103 = .ok (.return_, 1) := by decide +kernel
theorem dX0_dropPhrases_0 : decode cX0_dropPhrases 0 = .ok (.aload_n 0, 1) := by decide +kernel
theorem dX0_dropPhrases_1 : decode cX0_dropPhrases 1 = .ok (.bipush 10, 2) := by decide +kernel
theorem dX0_dropPhrases_3 : decode cX0_dropPhrases 3 = .ok (.putfield 24, 3) := by decide +kernel
theorem dX0_dropPhrases_6 : decode cX0_dropPhrases 6 = .ok (.aload_n 0, 1) := by decide +kernel
theorem dX0_dropPhrases_7 : decode cX0_dropPhrases 7 = .ok (.getfield 21, 3) := by decide +kernel
theorem dX0_dropPhrases_10 : decode cX0_dropPhrases 10 = .ok (.iconst 0, 1) := by decide +kernel
theorem dX0_dropPhrases_11 : decode cX0_dropPhrases 11 = .ok (.bipush 80, 2) := by decide +kernel
theorem dX0_dropPhrases_13 : decode cX0_dropPhrases 13 = .ok (.iconst 0, 1) := by decide +kernel
theorem dX0_dropPhrases_14 : decode cX0_dropPhrases 14 = .ok (.invokestatic 28, 3) := by decide +kernel
theorem dX0_dropPhrases_17 : decode cX0_dropPhrases 17 = .ok (.return_, 1) := by decide +kernel
theorem dX0_addPhrase_0 : decode cX0_addPhrase 0 = .ok (.aload_n 0, 1) := by decide +kernel
theorem dX0_addPhrase_1 : decode cX0_addPhrase 1 = .ok (.getfield 24, 3) := by decide +kernel
theorem dX0_addPhrase_4 : decode cX0_addPhrase 4 = .ok (.sipush 512, 3) := by decide +kernel
theorem dX0_addPhrase_7 : decode cX0_addPhrase 7 = .ok (.if_icmp .lt 4, 3) := by decide +kernel
theorem dX0_addPhrase_10 : decode cX0_addPhrase 10 = .ok (.return_, 1) := by decide +kernel
theorem dX0_addPhrase_11 : decode cX0_addPhrase 11 = .ok (.aload_n 0, 1) := by decide +kernel
theorem dX0_addPhrase_12 : decode cX0_addPhrase 12 = .ok (.getfield 9, 3) := by decide +kernel
theorem dX0_addPhrase_15 : decode cX0_addPhrase 15 = .ok (.aload_n 0, 1) := by decide +kernel
theorem dX0_addPhrase_16 : decode cX0_addPhrase 16 = .ok (.getfield 24, 3) := by decide +kernel
theorem dX0_addPhrase_19 : decode cX0_addPhrase 19 = .ok (.iload_n 1, 1) := by decide +kernel
theorem dX0_addPhrase_20 : decode cX0_addPhrase 20 = .ok (.iastore, 1) := by decide +kernel
theorem dX0_addPhrase_21 : decode cX0_addPhrase 21 = .ok (.aload_n 0, 1) := by decide +kernel
theorem dX0_addPhrase_22 : decode cX0_addPhrase 22 = .ok (.getfield 15, 3) := by decide +kernel
theorem dX0_addPhrase_25 : decode cX0_addPhrase 25 = .ok (.aload_n 0, 1) := by decide +kernel
theorem dX0_addPhrase_26 : decode cX0_addPhrase 26 = .ok (.getfield 24, 3) := by decide +kernel
theorem dX0_addPhrase_29 : decode cX0_addPhrase 29 = .ok (.iload_n 2, 1) := by decide +kernel
theorem dX0_addPhrase_30 : decode cX0_addPhrase 30 = .ok (.iastore, 1) := by decide +kernel
theorem dX0_addPhrase_31 : decode cX0_addPhrase 31 = .ok (.aload_n 0, 1) := by decide +kernel
theorem dX0_addPhrase_32 : decode cX0_addPhrase 32 = .ok (.getfield 18, 3) := by decide +kernel
theorem dX0_addPhrase_35 : decode cX0_addPhrase 35 = .ok (.aload_n 0, 1) := by decide +kernel
theorem dX0_addPhrase_36 : decode cX0_addPhrase 36 = .ok (.getfield 24, 3) := by decide +kernel
theorem dX0_addPhrase_39 : decode cX0_addPhrase 39 = .ok (.aload_n 0, 1) := by decide +kernel
theorem dX0_addPhrase_40 : decode cX0_addPhrase 40 = .ok (.getfield 18, 3) := by decide +kernel
theorem dX0_addPhrase_43 : decode cX0_addPhrase 43 = .ok (.iload_n 1, 1) := by decide +kernel
theorem dX0_addPhrase_44 : decode cX0_addPhrase 44 = .ok (.iaload, 1) := by decide +kernel
theorem dX0_addPhrase_45 : decode cX0_addPhrase 45 = .ok (.iconst 1, 1) := by decide +kernel
theorem dX0_addPhrase_46 : decode cX0_addPhrase 46 = .ok (.iadd, 1) := by decide +kernel
theorem dX0_addPhrase_47 : decode cX0_addPhrase 47 = .ok (.iastore, 1) := by decide +kernel
theorem dX0_addPhrase_48 : decode cX0_addPhrase 48 = .ok (.aload_n 0, 1) := by decide +kernel
theorem dX0_addPhrase_49 : decode cX0_addPhrase 49 = .ok (.getfield 21, 3) := by decide +kernel
theorem dX0_addPhrase_52 : decode cX0_addPhrase 52 = .ok (.iload_n 1, 1) := by decide +kernel
theorem dX0_addPhrase_53 : decode cX0_addPhrase 53 = .ok (.bipush 8, 2) := by decide +kernel
theorem dX0_addPhrase_55 : decode cX0_addPhrase 55 = .ok (.imul, 1) := by decide +kernel
theorem dX0_addPhrase_56 : decode cX0_addPhrase 56 = .ok (.iload_n 2, 1) := by decide +kernel
theorem dX0_addPhrase_57 : decode cX0_addPhrase 57 = .ok (.iadd, 1) := by decide +kernel
theorem dX0_addPhrase_58 : decode cX0_addPhrase 58 = .ok (.aload_n 0, 1) := by decide +kernel
theorem dX0_addPhrase_59 : decode cX0_addPhrase 59 = .ok (.getfield 24, 3) := by decide +kernel
theorem dX0_addPhrase_62 : decode cX0_addPhrase 62 = .ok (.iastore, 1) := by decide +kernel
theorem dX0_addPhrase_63 : decode cX0_addPhrase 63 = .ok (.aload_n 0, 1) := by decide +kernel
theorem dX0_addPhrase_64 : decode cX0_addPhrase 64 = .ok (.getfield 21, 3) := by decide +kernel
theorem dX0_addPhrase_67 : decode cX0_addPhrase 67 = .ok (.aload_n 0, 1) := by decide +kernel
theorem dX0_addPhrase_68 : decode cX0_addPhrase 68 = .ok (.getfield 24, 3) := by decide +kernel
theorem dX0_addPhrase_71 : decode cX0_addPhrase 71 = .ok (.bipush 8, 2) := by decide +kernel
theorem dX0_addPhrase_73 : decode cX0_addPhrase 73 = .ok (.imul, 1) := by decide +kernel
theorem dX0_addPhrase_74 : decode cX0_addPhrase 74 = .ok (.aload_n 0, 1) := by decide +kernel
theorem dX0_addPhrase_75 : decode cX0_addPhrase 75 = .ok (.getfield 24, 3) := by decide +kernel
theorem dX0_addPhrase_78 : decode cX0_addPhrase 78 = .ok (.iconst 1, 1) := by decide +kernel
theorem dX0_addPhrase_79 : decode cX0_addPhrase 79 = .ok (.iadd, 1) := by decide +kernel
theorem dX0_addPhrase_80 : decode cX0_addPhrase 80 = .ok (.bipush 8, 2) := by decide +kernel
theorem dX0_addPhrase_82 : decode cX0_addPhrase 82 = .ok (.imul, 1) := by decide +kernel
theorem dX0_addPhrase_83 : decode cX0_addPhrase 83 = .ok (.iconst 0, 1) := by decide +kernel
theorem dX0_addPhrase_84 : decode cX0_addPhrase 84 = .ok (.invokestatic 28, 3) := by decide +kernel
theorem dX0_addPhrase_87 : decode cX0_addPhrase 87 = .ok (.aload_n 0, 1) := by decide +kernel
theorem dX0_addPhrase_88 : decode cX0_addPhrase 88 = .ok (.dup, 1) := by decide +kernel
theorem dX0_addPhrase_89 : decode cX0_addPhrase 89 = .ok (.getfield 24, 3) := by decide +kernel
theorem dX0_addPhrase_92 : decode cX0_addPhrase 92 = .ok (.iconst 1, 1) := by decide +kernel
theorem dX0_addPhrase_93 : decode cX0_addPhrase 93 = .ok (.iadd, 1) := by decide +kernel
theorem dX0_addPhrase_94 : decode cX0_addPhrase 94 = .ok (.putfield 24, 3) := by decide +kernel
theorem dX0_addPhrase_97 : decode cX0_addPhrase 97 = .ok (.return_, 1) := by decide +kernel
theorem dX0_longestAt_0 : decode cX0_longestAt 0 = .ok (.aload_n 1, 1) := by decide +kernel
theorem dX0_longestAt_1 : decode cX0_longestAt 1 = .ok (.iload_n 2, 1) := by decide +kernel
theorem dX0_longestAt_2 : decode cX0_longestAt 2 = .ok (.iaload, 1) := by decide +kernel
theorem dX0_longestAt_3 : decode cX0_longestAt 3 = .ok (.istore 4, 2) := by decide +kernel
theorem dX0_longestAt_5 : decode cX0_longestAt 5 = .ok (.iload_n 2, 1) := by decide +kernel
theorem dX0_longestAt_6 : decode cX0_longestAt 6 = .ok (.iconst 1, 1) := by decide +kernel
theorem dX0_longestAt_7 : decode cX0_longestAt 7 = .ok (.iadd, 1) := by decide +kernel
theorem dX0_longestAt_8 : decode cX0_longestAt 8 = .ok (.istore 5, 2) := by decide +kernel
theorem dX0_longestAt_10 : decode cX0_longestAt 10 = .ok (.iload 5, 2) := by decide +kernel
theorem dX0_longestAt_12 : decode cX0_longestAt 12 = .ok (.iload_n 3, 1) := by decide +kernel
theorem dX0_longestAt_13 : decode cX0_longestAt 13 = .ok (.if_icmp .ge 38, 3) := by decide +kernel
theorem dX0_longestAt_16 : decode cX0_longestAt 16 = .ok (.aload_n 0, 1) := by decide +kernel
theorem dX0_longestAt_17 : decode cX0_longestAt 17 = .ok (.getfield 21, 3) := by decide +kernel
theorem dX0_longestAt_20 : decode cX0_longestAt 20 = .ok (.iload 4, 2) := by decide +kernel
theorem dX0_longestAt_22 : decode cX0_longestAt 22 = .ok (.bipush 8, 2) := by decide +kernel
theorem dX0_longestAt_24 : decode cX0_longestAt 24 = .ok (.imul, 1) := by decide +kernel
theorem dX0_longestAt_25 : decode cX0_longestAt 25 = .ok (.aload_n 1, 1) := by decide +kernel
theorem dX0_longestAt_26 : decode cX0_longestAt 26 = .ok (.iload 5, 2) := by decide +kernel
theorem dX0_longestAt_28 : decode cX0_longestAt 28 = .ok (.iaload, 1) := by decide +kernel
theorem dX0_longestAt_29 : decode cX0_longestAt 29 = .ok (.iadd, 1) := by decide +kernel
theorem dX0_longestAt_30 : decode cX0_longestAt 30 = .ok (.iaload, 1) := by decide +kernel
theorem dX0_longestAt_31 : decode cX0_longestAt 31 = .ok (.istore 6, 2) := by decide +kernel
theorem dX0_longestAt_33 : decode cX0_longestAt 33 = .ok (.iload 6, 2) := by decide +kernel
theorem dX0_longestAt_35 : decode cX0_longestAt 35 = .ok (.ifCond .ne 6, 3) := by decide +kernel
theorem dX0_longestAt_38 : decode cX0_longestAt 38 = .ok (.iload 4, 2) := by decide +kernel
theorem dX0_longestAt_40 : decode cX0_longestAt 40 = .ok (.ireturn, 1) := by decide +kernel
theorem dX0_longestAt_41 : decode cX0_longestAt 41 = .ok (.iload 6, 2) := by decide +kernel
theorem dX0_longestAt_43 : decode cX0_longestAt 43 = .ok (.istore 4, 2) := by decide +kernel
theorem dX0_longestAt_45 : decode cX0_longestAt 45 = .ok (.iinc 5 1, 3) := by decide +kernel
theorem dX0_longestAt_48 : decode cX0_longestAt 48 = .ok (.goto (-38), 3) := by decide +kernel
theorem dX0_longestAt_51 : decode cX0_longestAt 51 = .ok (.iload 4, 2) := by decide +kernel
theorem dX0_longestAt_53 : decode cX0_longestAt 53 = .ok (.ireturn, 1) := by decide +kernel
theorem dX1_init_0 : decode cX1_init 0 = .ok (.aload_n 0, 1) := by decide +kernel
theorem dX1_init_1 : decode cX1_init 1 = .ok (.invokespecial 3, 3) := by decide +kernel
theorem dX1_init_4 : decode cX1_init 4 = .ok (.aload_n 0, 1) := by decide +kernel
theorem dX1_init_5 : decode cX1_init 5 = .ok (.bipush 6, 2) := by decide +kernel
theorem dX1_init_7 : decode cX1_init 7 = .ok (.anewarray 9, 3) := by decide +kernel
theorem dX1_init_10 : decode cX1_init 10 = .ok (.putfield 11, 3) := by decide +kernel
theorem dX1_init_13 : decode cX1_init 13 = .ok (.iconst 0, 1) := by decide +kernel
theorem dX1_init_14 : decode cX1_init 14 = .ok (.istore_n 1, 1) := by decide +kernel
theorem dX1_init_15 : decode cX1_init 15 = .ok (.iload_n 1, 1) := by decide +kernel
theorem dX1_init_16 : decode cX1_init 16 = .ok (.bipush 6, 2) := by decide +kernel
theorem dX1_init_18 : decode cX1_init 18 = .ok (.if_icmp .ge 22, 3) := by decide +kernel
theorem dX1_init_21 : decode cX1_init 21 = .ok (.aload_n 0, 1) := by decide +kernel
theorem dX1_init_22 : decode cX1_init 22 = .ok (.getfield 11, 3) := by decide +kernel
theorem dX1_init_25 : decode cX1_init 25 = .ok (.iload_n 1, 1) := by decide +kernel
theorem dX1_init_26 : decode cX1_init 26 = .ok (.new 9, 3) := by decide +kernel
theorem dX1_init_29 : decode cX1_init 29 = .ok (.dup, 1) := by decide +kernel
theorem dX1_init_30 : decode cX1_init 30 = .ok (.invokespecial 17, 3) := by decide +kernel
theorem dX1_init_33 : decode cX1_init 33 = .ok (.aastore, 1) := by decide +kernel
theorem dX1_init_34 : decode cX1_init 34 = .ok (.iinc 1 1, 3) := by decide +kernel
theorem dX1_init_37 : decode cX1_init 37 = .ok (.goto (-22), 3) := by decide +kernel
theorem dX1_init_40 : decode cX1_init 40 = .ok (.return_, 1) := by decide +kernel
theorem dX1_record_0 : decode cX1_record 0 = .ok (.aload_n 0, 1) := by decide +kernel
theorem dX1_record_1 : decode cX1_record 1 = .ok (.aload_n 0, 1) := by decide +kernel
theorem dX1_record_2 : decode cX1_record 2 = .ok (.getfield 18, 3) := by decide +kernel
theorem dX1_record_5 : decode cX1_record 5 = .ok (.iconst 5, 1) := by decide +kernel
theorem dX1_record_6 : decode cX1_record 6 = .ok (.if_icmp .lt 7, 3) := by decide +kernel
theorem dX1_record_9 : decode cX1_record 9 = .ok (.iconst 0, 1) := by decide +kernel
theorem dX1_record_10 : decode cX1_record 10 = .ok (.goto 9, 3) := by decide +kernel
theorem dX1_record_13 : decode cX1_record 13 = .ok (.aload_n 0, 1) := by decide +kernel
theorem dX1_record_14 : decode cX1_record 14 = .ok (.getfield 18, 3) := by decide +kernel
theorem dX1_record_17 : decode cX1_record 17 = .ok (.iconst 1, 1) := by decide +kernel
theorem dX1_record_18 : decode cX1_record 18 = .ok (.iadd, 1) := by decide +kernel
theorem dX1_record_19 : decode cX1_record 19 = .ok (.putfield 18, 3) := by decide +kernel
theorem dX1_record_22 : decode cX1_record 22 = .ok (.aload_n 0, 1) := by decide +kernel
theorem dX1_record_23 : decode cX1_record 23 = .ok (.aload_n 0, 1) := by decide +kernel
theorem dX1_record_24 : decode cX1_record 24 = .ok (.getfield 22, 3) := by decide +kernel
theorem dX1_record_27 : decode cX1_record 27 = .ok (.iconst 1, 1) := by decide +kernel
theorem dX1_record_28 : decode cX1_record 28 = .ok (.iadd, 1) := by decide +kernel
theorem dX1_record_29 : decode cX1_record 29 = .ok (.bipush 6, 2) := by decide +kernel
theorem dX1_record_31 : decode cX1_record 31 = .ok (.invokestatic 25, 3) := by decide +kernel
theorem dX1_record_34 : decode cX1_record 34 = .ok (.putfield 22, 3) := by decide +kernel
theorem dX1_record_37 : decode cX1_record 37 = .ok (.aload_n 1, 1) := by decide +kernel
theorem dX1_record_38 : decode cX1_record 38 = .ok (.aload_n 0, 1) := by decide +kernel
theorem dX1_record_39 : decode cX1_record 39 = .ok (.getfield 11, 3) := by decide +kernel
theorem dX1_record_42 : decode cX1_record 42 = .ok (.aload_n 0, 1) := by decide +kernel
theorem dX1_record_43 : decode cX1_record 43 = .ok (.getfield 18, 3) := by decide +kernel
theorem dX1_record_46 : decode cX1_record 46 = .ok (.aaload, 1) := by decide +kernel
theorem dX1_record_47 : decode cX1_record 47 = .ok (.invokestatic 31, 3) := by decide +kernel
theorem dX1_record_50 : decode cX1_record 50 = .ok (.return_, 1) := by decide +kernel
theorem dX1_takeBack_0 : decode cX1_takeBack 0 = .ok (.aload_n 0, 1) := by decide +kernel
theorem dX1_takeBack_1 : decode cX1_takeBack 1 = .ok (.getfield 11, 3) := by decide +kernel
theorem dX1_takeBack_4 : decode cX1_takeBack 4 = .ok (.aload_n 0, 1) := by decide +kernel
theorem dX1_takeBack_5 : decode cX1_takeBack 5 = .ok (.getfield 18, 3) := by decide +kernel
theorem dX1_takeBack_8 : decode cX1_takeBack 8 = .ok (.aaload, 1) := by decide +kernel
theorem dX1_takeBack_9 : decode cX1_takeBack 9 = .ok (.aload_n 1, 1) := by decide +kernel
theorem dX1_takeBack_10 : decode cX1_takeBack 10 = .ok (.invokestatic 31, 3) := by decide +kernel
theorem dX1_takeBack_13 : decode cX1_takeBack 13 = .ok (.aload_n 0, 1) := by decide +kernel
theorem dX1_takeBack_14 : decode cX1_takeBack 14 = .ok (.aload_n 0, 1) := by decide +kernel
theorem dX1_takeBack_15 : decode cX1_takeBack 15 = .ok (.getfield 18, 3) := by decide +kernel
theorem dX1_takeBack_18 : decode cX1_takeBack 18 = .ok (.ifCond .gt 7, 3) := by decide +kernel
theorem dX1_takeBack_21 : decode cX1_takeBack 21 = .ok (.iconst 5, 1) := by decide +kernel
theorem dX1_takeBack_22 : decode cX1_takeBack 22 = .ok (.goto 9, 3) := by decide +kernel
theorem dX1_takeBack_25 : decode cX1_takeBack 25 = .ok (.aload_n 0, 1) := by decide +kernel
theorem dX1_takeBack_26 : decode cX1_takeBack 26 = .ok (.getfield 18, 3) := by decide +kernel
theorem dX1_takeBack_29 : decode cX1_takeBack 29 = .ok (.iconst 1, 1) := by decide +kernel
theorem dX1_takeBack_30 : decode cX1_takeBack 30 = .ok (.isub, 1) := by decide +kernel
theorem dX1_takeBack_31 : decode cX1_takeBack 31 = .ok (.putfield 18, 3) := by decide +kernel
theorem dX1_takeBack_34 : decode cX1_takeBack 34 = .ok (.aload_n 0, 1) := by decide +kernel
theorem dX1_takeBack_35 : decode cX1_takeBack 35 = .ok (.dup, 1) := by decide +kernel
theorem dX1_takeBack_36 : decode cX1_takeBack 36 = .ok (.getfield 22, 3) := by decide +kernel
theorem dX1_takeBack_39 : decode cX1_takeBack 39 = .ok (.iconst 1, 1) := by decide +kernel
theorem dX1_takeBack_40 : decode cX1_takeBack 40 = .ok (.isub, 1) := by decide +kernel
theorem dX1_takeBack_41 : decode cX1_takeBack 41 = .ok (.putfield 22, 3) := by decide +kernel
theorem dX1_takeBack_44 : decode cX1_takeBack 44 = .ok (.return_, 1) := by decide +kernel
theorem dX2_init_0 : decode cX2_init 0 = .ok (.aload_n 0, 1) := by decide +kernel
theorem dX2_init_1 : decode cX2_init 1 = .ok (.invokespecial 3, 3) := by decide +kernel
theorem dX2_init_4 : decode cX2_init 4 = .ok (.aload_n 0, 1) := by decide +kernel
theorem dX2_init_5 : decode cX2_init 5 = .ok (.bipush 80, 2) := by decide +kernel
theorem dX2_init_7 : decode cX2_init 7 = .ok (.newarray .int, 2) := by decide +kernel
theorem dX2_init_9 : decode cX2_init 9 = .ok (.putfield 9, 3) := by decide +kernel
theorem dX2_init_12 : decode cX2_init 12 = .ok (.aload_n 0, 1) := by decide +kernel
theorem dX2_init_13 : decode cX2_init 13 = .ok (.sipush 240, 3) := by decide +kernel
theorem dX2_init_16 : decode cX2_init 16 = .ok (.newarray .int, 2) := by decide +kernel
theorem dX2_init_18 : decode cX2_init 18 = .ok (.putfield 15, 3) := by decide +kernel
theorem dX2_init_21 : decode cX2_init 21 = .ok (.aload_n 0, 1) := by decide +kernel
theorem dX2_init_22 : decode cX2_init 22 = .ok (.iconst 3, 1) := by decide +kernel
theorem dX2_init_23 : decode cX2_init 23 = .ok (.newarray .int, 2) := by decide +kernel
theorem dX2_init_25 : decode cX2_init 25 = .ok (.putfield 18, 3) := by decide +kernel
theorem dX2_init_28 : decode cX2_init 28 = .ok (.aload_n 0, 1) := by decide +kernel
theorem dX2_init_29 : decode cX2_init 29 = .ok (.iconst 3, 1) := by decide +kernel
theorem dX2_init_30 : decode cX2_init 30 = .ok (.newarray .int, 2) := by decide +kernel
theorem dX2_init_32 : decode cX2_init 32 = .ok (.putfield 21, 3) := by decide +kernel
theorem dX2_init_35 : decode cX2_init 35 = .ok (.return_, 1) := by decide +kernel
theorem dX2_charactersIn_0 : decode cX2_charactersIn 0 = .ok (.lload_n 0, 1) := by decide +kernel
theorem dX2_charactersIn_1 : decode cX2_charactersIn 1 = .ok (.lstore_n 2, 1) := by decide +kernel
theorem dX2_charactersIn_2 : decode cX2_charactersIn 2 = .ok (.iconst 0, 1) := by decide +kernel
theorem dX2_charactersIn_3 : decode cX2_charactersIn 3 = .ok (.istore 4, 2) := by decide +kernel
theorem dX2_charactersIn_5 : decode cX2_charactersIn 5 = .ok (.iload 4, 2) := by decide +kernel
theorem dX2_charactersIn_7 : decode cX2_charactersIn 7 = .ok (.bipush 8, 2) := by decide +kernel
theorem dX2_charactersIn_9 : decode cX2_charactersIn 9 = .ok (.if_icmp .ge 50, 3) := by decide +kernel
theorem dX2_charactersIn_12 : decode cX2_charactersIn 12 = .ok (.lload_n 2, 1) := by decide +kernel
theorem dX2_charactersIn_13 : decode cX2_charactersIn 13 = .ok (.ldc2_w 24, 3) := by decide +kernel
theorem dX2_charactersIn_16 : decode cX2_charactersIn 16 = .ok (.land, 1) := by decide +kernel
theorem dX2_charactersIn_17 : decode cX2_charactersIn 17 = .ok (.lconst 0, 1) := by decide +kernel
theorem dX2_charactersIn_18 : decode cX2_charactersIn 18 = .ok (.lcmp, 1) := by decide +kernel
theorem dX2_charactersIn_19 : decode cX2_charactersIn 19 = .ok (.ifCond .eq 40, 3) := by decide +kernel
theorem dX2_charactersIn_22 : decode cX2_charactersIn 22 = .ok (.lload_n 2, 1) := by decide +kernel
theorem dX2_charactersIn_23 : decode cX2_charactersIn 23 = .ok (.ldc2_w 24, 3) := by decide +kernel
theorem dX2_charactersIn_26 : decode cX2_charactersIn 26 = .ok (.land, 1) := by decide +kernel
theorem dX2_charactersIn_27 : decode cX2_charactersIn 27 = .ok (.ldc2_w 26, 3) := by decide +kernel
theorem dX2_charactersIn_30 : decode cX2_charactersIn 30 = .ok (.lcmp, 1) := by decide +kernel
theorem dX2_charactersIn_31 : decode cX2_charactersIn 31 = .ok (.ifCond .lt 15, 3) := by decide +kernel
theorem dX2_charactersIn_34 : decode cX2_charactersIn 34 = .ok (.lload_n 2, 1) := by decide +kernel
theorem dX2_charactersIn_35 : decode cX2_charactersIn 35 = .ok (.ldc2_w 24, 3) := by decide +kernel
theorem dX2_charactersIn_38 : decode cX2_charactersIn 38 = .ok (.land, 1) := by decide +kernel
theorem dX2_charactersIn_39 : decode cX2_charactersIn 39 = .ok (.ldc2_w 28, 3) := by decide +kernel
theorem dX2_charactersIn_42 : decode cX2_charactersIn 42 = .ok (.lcmp, 1) := by decide +kernel
theorem dX2_charactersIn_43 : decode cX2_charactersIn 43 = .ok (.ifCond .le 5, 3) := by decide +kernel
theorem dX2_charactersIn_46 : decode cX2_charactersIn 46 = .ok (.iconst 0, 1) := by decide +kernel
theorem dX2_charactersIn_47 : decode cX2_charactersIn 47 = .ok (.ireturn, 1) := by decide +kernel
theorem dX2_charactersIn_48 : decode cX2_charactersIn 48 = .ok (.lload_n 2, 1) := by decide +kernel
theorem dX2_charactersIn_49 : decode cX2_charactersIn 49 = .ok (.bipush 8, 2) := by decide +kernel
theorem dX2_charactersIn_51 : decode cX2_charactersIn 51 = .ok (.lushr, 1) := by decide +kernel
theorem dX2_charactersIn_52 : decode cX2_charactersIn 52 = .ok (.lstore_n 2, 1) := by decide +kernel
theorem dX2_charactersIn_53 : decode cX2_charactersIn 53 = .ok (.iinc 4 1, 3) := by decide +kernel
theorem dX2_charactersIn_56 : decode cX2_charactersIn 56 = .ok (.goto (-51), 3) := by decide +kernel
theorem dX2_charactersIn_59 : decode cX2_charactersIn 59 = .ok (.lload_n 2, 1) := by decide +kernel
theorem dX2_charactersIn_60 : decode cX2_charactersIn 60 = .ok (.lconst 0, 1) := by decide +kernel
theorem dX2_charactersIn_61 : decode cX2_charactersIn 61 = .ok (.lcmp, 1) := by decide +kernel
theorem dX2_charactersIn_62 : decode cX2_charactersIn 62 = .ok (.ifCond .ne 8, 3) := by decide +kernel
theorem dX2_charactersIn_65 : decode cX2_charactersIn 65 = .ok (.iload 4, 2) := by decide +kernel
theorem dX2_charactersIn_67 : decode cX2_charactersIn 67 = .ok (.goto 4, 3) := by decide +kernel
theorem dX2_charactersIn_70 : decode cX2_charactersIn 70 = .ok (.iconst 0, 1) := by decide +kernel
theorem dX2_charactersIn_71 : decode cX2_charactersIn 71 = .ok (.ireturn, 1) := by decide +kernel
theorem dX2_append_0 : decode cX2_append 0 = .ok (.iload_n 3, 1) := by decide +kernel
theorem dX2_append_1 : decode cX2_append 1 = .ok (.iconst 1, 1) := by decide +kernel
theorem dX2_append_2 : decode cX2_append 2 = .ok (.isub, 1) := by decide +kernel
theorem dX2_append_3 : decode cX2_append 3 = .ok (.istore 4, 2) := by decide +kernel
theorem dX2_append_5 : decode cX2_append 5 = .ok (.iload 4, 2) := by decide +kernel
theorem dX2_append_7 : decode cX2_append 7 = .ok (.ifCond .lt 49, 3) := by decide +kernel
theorem dX2_append_10 : decode cX2_append 10 = .ok (.aload_n 0, 1) := by decide +kernel
theorem dX2_append_11 : decode cX2_append 11 = .ok (.getfield 30, 3) := by decide +kernel
theorem dX2_append_14 : decode cX2_append 14 = .ok (.bipush 80, 2) := by decide +kernel
theorem dX2_append_16 : decode cX2_append 16 = .ok (.if_icmp .ge 40, 3) := by decide +kernel
theorem dX2_append_19 : decode cX2_append 19 = .ok (.aload_n 0, 1) := by decide +kernel
theorem dX2_append_20 : decode cX2_append 20 = .ok (.getfield 9, 3) := by decide +kernel
theorem dX2_append_23 : decode cX2_append 23 = .ok (.aload_n 0, 1) := by decide +kernel
theorem dX2_append_24 : decode cX2_append 24 = .ok (.getfield 30, 3) := by decide +kernel
theorem dX2_append_27 : decode cX2_append 27 = .ok (.lload_n 1, 1) := by decide +kernel
theorem dX2_append_28 : decode cX2_append 28 = .ok (.bipush 8, 2) := by decide +kernel
theorem dX2_append_30 : decode cX2_append 30 = .ok (.iload 4, 2) := by decide +kernel
theorem dX2_append_32 : decode cX2_append 32 = .ok (.imul, 1) := by decide +kernel
theorem dX2_append_33 : decode cX2_append 33 = .ok (.lushr, 1) := by decide +kernel
theorem dX2_append_34 : decode cX2_append 34 = .ok (.l2i, 1) := by decide +kernel
theorem dX2_append_35 : decode cX2_append 35 = .ok (.sipush 255, 3) := by decide +kernel
theorem dX2_append_38 : decode cX2_append 38 = .ok (.iand, 1) := by decide +kernel
theorem dX2_append_39 : decode cX2_append 39 = .ok (.iastore, 1) := by decide +kernel
theorem dX2_append_40 : decode cX2_append 40 = .ok (.aload_n 0, 1) := by decide +kernel
theorem dX2_append_41 : decode cX2_append 41 = .ok (.dup, 1) := by decide +kernel
theorem dX2_append_42 : decode cX2_append 42 = .ok (.getfield 30, 3) := by decide +kernel
theorem dX2_append_45 : decode cX2_append 45 = .ok (.iconst 1, 1) := by decide +kernel
theorem dX2_append_46 : decode cX2_append 46 = .ok (.iadd, 1) := by decide +kernel
theorem dX2_append_47 : decode cX2_append 47 = .ok (.putfield 30, 3) := by decide +kernel
theorem dX2_append_50 : decode cX2_append 50 = .ok (.iinc 4 (-1), 3) := by decide +kernel
theorem dX2_append_53 : decode cX2_append 53 = .ok (.goto (-48), 3) := by decide +kernel
theorem dX2_append_56 : decode cX2_append 56 = .ok (.return_, 1) := by decide +kernel
theorem dX2_isDigit_0 : decode cX2_isDigit 0 = .ok (.iload_n 0, 1) := by decide +kernel
theorem dX2_isDigit_1 : decode cX2_isDigit 1 = .ok (.bipush 48, 2) := by decide +kernel
theorem dX2_isDigit_3 : decode cX2_isDigit 3 = .ok (.if_icmp .lt 13, 3) := by decide +kernel
theorem dX2_isDigit_6 : decode cX2_isDigit 6 = .ok (.iload_n 0, 1) := by decide +kernel
theorem dX2_isDigit_7 : decode cX2_isDigit 7 = .ok (.bipush 57, 2) := by decide +kernel
theorem dX2_isDigit_9 : decode cX2_isDigit 9 = .ok (.if_icmp .gt 7, 3) := by decide +kernel
theorem dX2_isDigit_12 : decode cX2_isDigit 12 = .ok (.iconst 1, 1) := by decide +kernel
theorem dX2_isDigit_13 : decode cX2_isDigit 13 = .ok (.goto 4, 3) := by decide +kernel
theorem dX2_isDigit_16 : decode cX2_isDigit 16 = .ok (.iconst 0, 1) := by decide +kernel
theorem dX2_isDigit_17 : decode cX2_isDigit 17 = .ok (.ireturn, 1) := by decide +kernel
theorem dX2_isSign_0 : decode cX2_isSign 0 = .ok (.iload_n 0, 1) := by decide +kernel
theorem dX2_isSign_1 : decode cX2_isSign 1 = .ok (.bipush 97, 2) := by decide +kernel
theorem dX2_isSign_3 : decode cX2_isSign 3 = .ok (.if_icmp .lt 13, 3) := by decide +kernel
theorem dX2_isSign_6 : decode cX2_isSign 6 = .ok (.iload_n 0, 1) := by decide +kernel
theorem dX2_isSign_7 : decode cX2_isSign 7 = .ok (.bipush 105, 2) := by decide +kernel
theorem dX2_isSign_9 : decode cX2_isSign 9 = .ok (.if_icmp .ge 7, 3) := by decide +kernel
theorem dX2_isSign_12 : decode cX2_isSign 12 = .ok (.iconst 1, 1) := by decide +kernel
theorem dX2_isSign_13 : decode cX2_isSign 13 = .ok (.goto 4, 3) := by decide +kernel
theorem dX2_isSign_16 : decode cX2_isSign 16 = .ok (.iconst 0, 1) := by decide +kernel
theorem dX2_isSign_17 : decode cX2_isSign 17 = .ok (.ireturn, 1) := by decide +kernel
theorem dX2_findFault_0 : decode cX2_findFault 0 = .ok (.iconst 0, 1) := by decide +kernel
theorem dX2_findFault_1 : decode cX2_findFault 1 = .ok (.istore_n 1, 1) := by decide +kernel
theorem dX2_findFault_2 : decode cX2_findFault 2 = .ok (.iconst 0, 1) := by decide +kernel
theorem dX2_findFault_3 : decode cX2_findFault 3 = .ok (.istore_n 2, 1) := by decide +kernel
theorem dX2_findFault_4 : decode cX2_findFault 4 = .ok (.iconst 0, 1) := by decide +kernel
theorem dX2_findFault_5 : decode cX2_findFault 5 = .ok (.istore_n 3, 1) := by decide +kernel
theorem dX2_findFault_6 : decode cX2_findFault 6 = .ok (.iconst 0, 1) := by decide +kernel
theorem dX2_findFault_7 : decode cX2_findFault 7 = .ok (.istore 4, 2) := by decide +kernel
theorem dX2_findFault_9 : decode cX2_findFault 9 = .ok (.iload 4, 2) := by decide +kernel
theorem dX2_findFault_11 : decode cX2_findFault 11 = .ok (.aload_n 0, 1) := by decide +kernel
theorem dX2_findFault_12 : decode cX2_findFault 12 = .ok (.getfield 30, 3) := by decide +kernel
theorem dX2_findFault_15 : decode cX2_findFault 15 = .ok (.if_icmp .ge 134, 3) := by decide +kernel
theorem dX2_findFault_18 : decode cX2_findFault 18 = .ok (.aload_n 0, 1) := by decide +kernel
theorem dX2_findFault_19 : decode cX2_findFault 19 = .ok (.getfield 9, 3) := by decide +kernel
theorem dX2_findFault_22 : decode cX2_findFault 22 = .ok (.iload 4, 2) := by decide +kernel
theorem dX2_findFault_24 : decode cX2_findFault 24 = .ok (.iaload, 1) := by decide +kernel
theorem dX2_findFault_25 : decode cX2_findFault 25 = .ok (.istore 5, 2) := by decide +kernel
theorem dX2_findFault_27 : decode cX2_findFault 27 = .ok (.iload 5, 2) := by decide +kernel
theorem dX2_findFault_29 : decode cX2_findFault 29 = .ok (.invokestatic 34, 3) := by decide +kernel
theorem dX2_findFault_32 : decode cX2_findFault 32 = .ok (.ifCond .eq 27, 3) := by decide +kernel
theorem dX2_findFault_35 : decode cX2_findFault 35 = .ok (.iload_n 2, 1) := by decide +kernel
theorem dX2_findFault_36 : decode cX2_findFault 36 = .ok (.bipush 10, 2) := by decide +kernel
theorem dX2_findFault_38 : decode cX2_findFault 38 = .ok (.imul, 1) := by decide +kernel
theorem dX2_findFault_39 : decode cX2_findFault 39 = .ok (.iload 5, 2) := by decide +kernel
theorem dX2_findFault_41 : decode cX2_findFault 41 = .ok (.iadd, 1) := by decide +kernel
theorem dX2_findFault_42 : decode cX2_findFault 42 = .ok (.bipush 48, 2) := by decide +kernel
theorem dX2_findFault_44 : decode cX2_findFault 44 = .ok (.isub, 1) := by decide +kernel
theorem dX2_findFault_45 : decode cX2_findFault 45 = .ok (.istore_n 2, 1) := by decide +kernel
theorem dX2_findFault_46 : decode cX2_findFault 46 = .ok (.iload_n 2, 1) := by decide +kernel
theorem dX2_findFault_47 : decode cX2_findFault 47 = .ok (.ifCond .eq 9, 3) := by decide +kernel
theorem dX2_findFault_50 : decode cX2_findFault 50 = .ok (.iload_n 2, 1) := by decide +kernel
theorem dX2_findFault_51 : decode cX2_findFault 51 = .ok (.bipush 60, 2) := by decide +kernel
theorem dX2_findFault_53 : decode cX2_findFault 53 = .ok (.if_icmp .le 90, 3) := by decide +kernel
theorem dX2_findFault_56 : decode cX2_findFault 56 = .ok (.iload 4, 2) := by decide +kernel
theorem dX2_findFault_58 : decode cX2_findFault 58 = .ok (.ireturn, 1) := by decide +kernel
theorem dX2_findFault_59 : decode cX2_findFault 59 = .ok (.iload 5, 2) := by decide +kernel
theorem dX2_findFault_61 : decode cX2_findFault 61 = .ok (.invokestatic 38, 3) := by decide +kernel
theorem dX2_findFault_64 : decode cX2_findFault 64 = .ok (.ifCond .eq 18, 3) := by decide +kernel
theorem dX2_findFault_67 : decode cX2_findFault 67 = .ok (.iload_n 2, 1) := by decide +kernel
theorem dX2_findFault_68 : decode cX2_findFault 68 = .ok (.iconst 1, 1) := by decide +kernel
theorem dX2_findFault_69 : decode cX2_findFault 69 = .ok (.if_icmp .ne 6, 3) := by decide +kernel
theorem dX2_findFault_72 : decode cX2_findFault 72 = .ok (.iload 4, 2) := by decide +kernel
theorem dX2_findFault_74 : decode cX2_findFault 74 = .ok (.ireturn, 1) := by decide +kernel
theorem dX2_findFault_75 : decode cX2_findFault 75 = .ok (.iconst 0, 1) := by decide +kernel
theorem dX2_findFault_76 : decode cX2_findFault 76 = .ok (.istore_n 2, 1) := by decide +kernel
theorem dX2_findFault_77 : decode cX2_findFault 77 = .ok (.iconst 1, 1) := by decide +kernel
theorem dX2_findFault_78 : decode cX2_findFault 78 = .ok (.istore_n 3, 1) := by decide +kernel
theorem dX2_findFault_79 : decode cX2_findFault 79 = .ok (.goto 64, 3) := by decide +kernel
theorem dX2_findFault_82 : decode cX2_findFault 82 = .ok (.iload 5, 2) := by decide +kernel
theorem dX2_findFault_84 : decode cX2_findFault 84 = .ok (.bipush 40, 2) := by decide +kernel
theorem dX2_findFault_86 : decode cX2_findFault 86 = .ok (.if_icmp .ne 26, 3) := by decide +kernel
theorem dX2_findFault_89 : decode cX2_findFault 89 = .ok (.iload_n 2, 1) := by decide +kernel
theorem dX2_findFault_90 : decode cX2_findFault 90 = .ok (.iconst 1, 1) := by decide +kernel
theorem dX2_findFault_91 : decode cX2_findFault 91 = .ok (.if_icmp .eq 8, 3) := by decide +kernel
theorem dX2_findFault_94 : decode cX2_findFault 94 = .ok (.iload_n 1, 1) := by decide +kernel
theorem dX2_findFault_95 : decode cX2_findFault 95 = .ok (.iconst 3, 1) := by decide +kernel
theorem dX2_findFault_96 : decode cX2_findFault 96 = .ok (.if_icmp .ne 6, 3) := by decide +kernel
theorem dX2_findFault_99 : decode cX2_findFault 99 = .ok (.iload 4, 2) := by decide +kernel
theorem dX2_findFault_101 : decode cX2_findFault 101 = .ok (.ireturn, 1) := by decide +kernel
theorem dX2_findFault_102 : decode cX2_findFault 102 = .ok (.iinc 1 1, 3) := by decide +kernel
theorem dX2_findFault_105 : decode cX2_findFault 105 = .ok (.iconst 0, 1) := by decide +kernel
theorem dX2_findFault_106 : decode cX2_findFault 106 = .ok (.istore_n 2, 1) := by decide +kernel
theorem dX2_findFault_107 : decode cX2_findFault 107 = .ok (.iconst 0, 1) := by decide +kernel
theorem dX2_findFault_108 : decode cX2_findFault 108 = .ok (.istore_n 3, 1) := by decide +kernel
theorem dX2_findFault_109 : decode cX2_findFault 109 = .ok (.goto 34, 3) := by decide +kernel
theorem dX2_findFault_112 : decode cX2_findFault 112 = .ok (.iload 5, 2) := by decide +kernel
theorem dX2_findFault_114 : decode cX2_findFault 114 = .ok (.bipush 41, 2) := by decide +kernel
theorem dX2_findFault_116 : decode cX2_findFault 116 = .ok (.if_icmp .ne 24, 3) := by decide +kernel
theorem dX2_findFault_119 : decode cX2_findFault 119 = .ok (.iload_n 2, 1) := by decide +kernel
theorem dX2_findFault_120 : decode cX2_findFault 120 = .ok (.ifCond .ne 11, 3) := by decide +kernel
theorem dX2_findFault_123 : decode cX2_findFault 123 = .ok (.iload_n 1, 1) := by decide +kernel
theorem dX2_findFault_124 : decode cX2_findFault 124 = .ok (.ifCond .eq 7, 3) := by decide +kernel
theorem dX2_findFault_127 : decode cX2_findFault 127 = .ok (.iload_n 3, 1) := by decide +kernel
theorem dX2_findFault_128 : decode cX2_findFault 128 = .ok (.ifCond .ne 6, 3) := by decide +kernel
theorem dX2_findFault_131 : decode cX2_findFault 131 = .ok (.iload 4, 2) := by decide +kernel
theorem dX2_findFault_133 : decode cX2_findFault 133 = .ok (.ireturn, 1) := by decide +kernel
theorem dX2_findFault_134 : decode cX2_findFault 134 = .ok (.iinc 1 (-1), 3) := by decide +kernel
theorem dX2_findFault_137 : decode cX2_findFault 137 = .ok (.goto 6, 3) := by decide +kernel
theorem dX2_findFault_140 : decode cX2_findFault 140 = .ok (.iload 4, 2) := by decide +kernel
theorem dX2_findFault_142 : decode cX2_findFault 142 = .ok (.ireturn, 1) := by decide +kernel
theorem dX2_findFault_143 : decode cX2_findFault 143 = .ok (.iinc 4 1, 3) := by decide +kernel
theorem dX2_findFault_146 : decode cX2_findFault 146 = .ok (.goto (-137), 3) := by decide +kernel
theorem dX2_findFault_149 : decode cX2_findFault 149 = .ok (.iload_n 2, 1) := by decide +kernel
theorem dX2_findFault_150 : decode cX2_findFault 150 = .ok (.ifCond .ne 11, 3) := by decide +kernel
theorem dX2_findFault_153 : decode cX2_findFault 153 = .ok (.iload_n 1, 1) := by decide +kernel
theorem dX2_findFault_154 : decode cX2_findFault 154 = .ok (.ifCond .ne 7, 3) := by decide +kernel
theorem dX2_findFault_157 : decode cX2_findFault 157 = .ok (.iload_n 3, 1) := by decide +kernel
theorem dX2_findFault_158 : decode cX2_findFault 158 = .ok (.ifCond .ne 10, 3) := by decide +kernel
theorem dX2_findFault_161 : decode cX2_findFault 161 = .ok (.aload_n 0, 1) := by decide +kernel
theorem dX2_findFault_162 : decode cX2_findFault 162 = .ok (.getfield 30, 3) := by decide +kernel
theorem dX2_findFault_165 : decode cX2_findFault 165 = .ok (.goto 5, 3) := by decide +kernel
theorem dX2_findFault_168 : decode cX2_findFault 168 = .ok (.bipush (-6), 2) := by decide +kernel
theorem dX2_findFault_170 : decode cX2_findFault 170 = .ok (.ireturn, 1) := by decide +kernel
theorem dX2_spell_0 : decode cX2_spell 0 = .ok (.iconst 0, 1) := by decide +kernel
theorem dX2_spell_1 : decode cX2_spell 1 = .ok (.istore_n 1, 1) := by decide +kernel
theorem dX2_spell_2 : decode cX2_spell 2 = .ok (.iconst 0, 1) := by decide +kernel
theorem dX2_spell_3 : decode cX2_spell 3 = .ok (.istore_n 2, 1) := by decide +kernel
theorem dX2_spell_4 : decode cX2_spell 4 = .ok (.iconst 0, 1) := by decide +kernel
theorem dX2_spell_5 : decode cX2_spell 5 = .ok (.istore_n 3, 1) := by decide +kernel
theorem dX2_spell_6 : decode cX2_spell 6 = .ok (.iconst 0, 1) := by decide +kernel
theorem dX2_spell_7 : decode cX2_spell 7 = .ok (.istore 4, 2) := by decide +kernel
theorem dX2_spell_9 : decode cX2_spell 9 = .ok (.iload 4, 2) := by decide +kernel
theorem dX2_spell_11 : decode cX2_spell 11 = .ok (.aload_n 0, 1) := by decide +kernel
theorem dX2_spell_12 : decode cX2_spell 12 = .ok (.getfield 30, 3) := by decide +kernel
theorem dX2_spell_15 : decode cX2_spell 15 = .ok (.if_icmp .ge 138, 3) := by decide +kernel
theorem dX2_spell_18 : decode cX2_spell 18 = .ok (.iload_n 3, 1) := by decide +kernel
theorem dX2_spell_19 : decode cX2_spell 19 = .ok (.sipush 240, 3) := by decide +kernel
theorem dX2_spell_22 : decode cX2_spell 22 = .ok (.if_icmp .gt 131, 3) := by decide +kernel
theorem dX2_spell_25 : decode cX2_spell 25 = .ok (.aload_n 0, 1) := by decide +kernel
theorem dX2_spell_26 : decode cX2_spell 26 = .ok (.getfield 9, 3) := by decide +kernel
theorem dX2_spell_29 : decode cX2_spell 29 = .ok (.iload 4, 2) := by decide +kernel
theorem dX2_spell_31 : decode cX2_spell 31 = .ok (.iaload, 1) := by decide +kernel
theorem dX2_spell_32 : decode cX2_spell 32 = .ok (.istore 5, 2) := by decide +kernel
theorem dX2_spell_34 : decode cX2_spell 34 = .ok (.iload 5, 2) := by decide +kernel
theorem dX2_spell_36 : decode cX2_spell 36 = .ok (.invokestatic 34, 3) := by decide +kernel
theorem dX2_spell_39 : decode cX2_spell 39 = .ok (.ifCond .eq 17, 3) := by decide +kernel
theorem dX2_spell_42 : decode cX2_spell 42 = .ok (.iload_n 2, 1) := by decide +kernel
theorem dX2_spell_43 : decode cX2_spell 43 = .ok (.bipush 10, 2) := by decide +kernel
theorem dX2_spell_45 : decode cX2_spell 45 = .ok (.imul, 1) := by decide +kernel
theorem dX2_spell_46 : decode cX2_spell 46 = .ok (.iload 5, 2) := by decide +kernel
theorem dX2_spell_48 : decode cX2_spell 48 = .ok (.iadd, 1) := by decide +kernel
theorem dX2_spell_49 : decode cX2_spell 49 = .ok (.bipush 48, 2) := by decide +kernel
theorem dX2_spell_51 : decode cX2_spell 51 = .ok (.isub, 1) := by decide +kernel
theorem dX2_spell_52 : decode cX2_spell 52 = .ok (.istore_n 2, 1) := by decide +kernel
theorem dX2_spell_53 : decode cX2_spell 53 = .ok (.goto 94, 3) := by decide +kernel
theorem dX2_spell_56 : decode cX2_spell 56 = .ok (.iload 5, 2) := by decide +kernel
theorem dX2_spell_58 : decode cX2_spell 58 = .ok (.bipush 40, 2) := by decide +kernel
theorem dX2_spell_60 : decode cX2_spell 60 = .ok (.if_icmp .ne 34, 3) := by decide +kernel
theorem dX2_spell_63 : decode cX2_spell 63 = .ok (.iload_n 1, 1) := by decide +kernel
theorem dX2_spell_64 : decode cX2_spell 64 = .ok (.iconst 3, 1) := by decide +kernel
theorem dX2_spell_65 : decode cX2_spell 65 = .ok (.if_icmp .ge 29, 3) := by decide +kernel
theorem dX2_spell_68 : decode cX2_spell 68 = .ok (.aload_n 0, 1) := by decide +kernel
theorem dX2_spell_69 : decode cX2_spell 69 = .ok (.getfield 18, 3) := by decide +kernel
theorem dX2_spell_72 : decode cX2_spell 72 = .ok (.iload_n 1, 1) := by decide +kernel
theorem dX2_spell_73 : decode cX2_spell 73 = .ok (.iload_n 3, 1) := by decide +kernel
theorem dX2_spell_74 : decode cX2_spell 74 = .ok (.iastore, 1) := by decide +kernel
theorem dX2_spell_75 : decode cX2_spell 75 = .ok (.aload_n 0, 1) := by decide +kernel
theorem dX2_spell_76 : decode cX2_spell 76 = .ok (.getfield 21, 3) := by decide +kernel
theorem dX2_spell_79 : decode cX2_spell 79 = .ok (.iload_n 1, 1) := by decide +kernel
theorem dX2_spell_80 : decode cX2_spell 80 = .ok (.iload_n 2, 1) := by decide +kernel
theorem dX2_spell_81 : decode cX2_spell 81 = .ok (.iconst 1, 1) := by decide +kernel
theorem dX2_spell_82 : decode cX2_spell 82 = .ok (.invokestatic 41, 3) := by decide +kernel
theorem dX2_spell_85 : decode cX2_spell 85 = .ok (.iastore, 1) := by decide +kernel
theorem dX2_spell_86 : decode cX2_spell 86 = .ok (.iinc 1 1, 3) := by decide +kernel
theorem dX2_spell_89 : decode cX2_spell 89 = .ok (.iconst 0, 1) := by decide +kernel
theorem dX2_spell_90 : decode cX2_spell 90 = .ok (.istore_n 2, 1) := by decide +kernel
theorem dX2_spell_91 : decode cX2_spell 91 = .ok (.goto 56, 3) := by decide +kernel
theorem dX2_spell_94 : decode cX2_spell 94 = .ok (.iload 5, 2) := by decide +kernel
theorem dX2_spell_96 : decode cX2_spell 96 = .ok (.bipush 41, 2) := by decide +kernel
theorem dX2_spell_98 : decode cX2_spell 98 = .ok (.if_icmp .ne 31, 3) := by decide +kernel
theorem dX2_spell_101 : decode cX2_spell 101 = .ok (.iload_n 1, 1) := by decide +kernel
theorem dX2_spell_102 : decode cX2_spell 102 = .ok (.ifCond .le 27, 3) := by decide +kernel
theorem dX2_spell_105 : decode cX2_spell 105 = .ok (.iinc 1 (-1), 3) := by decide +kernel
theorem dX2_spell_108 : decode cX2_spell 108 = .ok (.aload_n 0, 1) := by decide +kernel
theorem dX2_spell_109 : decode cX2_spell 109 = .ok (.aload_n 0, 1) := by decide +kernel
theorem dX2_spell_110 : decode cX2_spell 110 = .ok (.getfield 18, 3) := by decide +kernel
theorem dX2_spell_113 : decode cX2_spell 113 = .ok (.iload_n 1, 1) := by decide +kernel
theorem dX2_spell_114 : decode cX2_spell 114 = .ok (.iaload, 1) := by decide +kernel
theorem dX2_spell_115 : decode cX2_spell 115 = .ok (.iload_n 3, 1) := by decide +kernel
theorem dX2_spell_116 : decode cX2_spell 116 = .ok (.aload_n 0, 1) := by decide +kernel
theorem dX2_spell_117 : decode cX2_spell 117 = .ok (.getfield 21, 3) := by decide +kernel
theorem dX2_spell_120 : decode cX2_spell 120 = .ok (.iload_n 1, 1) := by decide +kernel
theorem dX2_spell_121 : decode cX2_spell 121 = .ok (.iaload, 1) := by decide +kernel
theorem dX2_spell_122 : decode cX2_spell 122 = .ok (.invokevirtual 47, 3) := by decide +kernel
theorem dX2_spell_125 : decode cX2_spell 125 = .ok (.istore_n 3, 1) := by decide +kernel
theorem dX2_spell_126 : decode cX2_spell 126 = .ok (.goto 21, 3) := by decide +kernel
theorem dX2_spell_129 : decode cX2_spell 129 = .ok (.aload_n 0, 1) := by decide +kernel
theorem dX2_spell_130 : decode cX2_spell 130 = .ok (.iload_n 3, 1) := by decide +kernel
theorem dX2_spell_131 : decode cX2_spell 131 = .ok (.iload 5, 2) := by decide +kernel
theorem dX2_spell_133 : decode cX2_spell 133 = .ok (.bipush 97, 2) := by decide +kernel
theorem dX2_spell_135 : decode cX2_spell 135 = .ok (.isub, 1) := by decide +kernel
theorem dX2_spell_136 : decode cX2_spell 136 = .ok (.iload_n 2, 1) := by decide +kernel
theorem dX2_spell_137 : decode cX2_spell 137 = .ok (.iconst 1, 1) := by decide +kernel
theorem dX2_spell_138 : decode cX2_spell 138 = .ok (.invokestatic 41, 3) := by decide +kernel
theorem dX2_spell_141 : decode cX2_spell 141 = .ok (.invokevirtual 51, 3) := by decide +kernel
theorem dX2_spell_144 : decode cX2_spell 144 = .ok (.istore_n 3, 1) := by decide +kernel
theorem dX2_spell_145 : decode cX2_spell 145 = .ok (.iconst 0, 1) := by decide +kernel
theorem dX2_spell_146 : decode cX2_spell 146 = .ok (.istore_n 2, 1) := by decide +kernel
theorem dX2_spell_147 : decode cX2_spell 147 = .ok (.iinc 4 1, 3) := by decide +kernel
theorem dX2_spell_150 : decode cX2_spell 150 = .ok (.goto (-141), 3) := by decide +kernel
theorem dX2_spell_153 : decode cX2_spell 153 = .ok (.iload_n 3, 1) := by decide +kernel
theorem dX2_spell_154 : decode cX2_spell 154 = .ok (.ireturn, 1) := by decide +kernel
theorem dX2_spellSign_0 : decode cX2_spellSign 0 = .ok (.iload_n 1, 1) := by decide +kernel
theorem dX2_spellSign_1 : decode cX2_spellSign 1 = .ok (.iload_n 3, 1) := by decide +kernel
theorem dX2_spellSign_2 : decode cX2_spellSign 2 = .ok (.iadd, 1) := by decide +kernel
theorem dX2_spellSign_3 : decode cX2_spellSign 3 = .ok (.sipush 240, 3) := by decide +kernel
theorem dX2_spellSign_6 : decode cX2_spellSign 6 = .ok (.if_icmp .le 7, 3) := by decide +kernel
theorem dX2_spellSign_9 : decode cX2_spellSign 9 = .ok (.sipush 241, 3) := by decide +kernel
theorem dX2_spellSign_12 : decode cX2_spellSign 12 = .ok (.ireturn, 1) := by decide +kernel
theorem dX2_spellSign_13 : decode cX2_spellSign 13 = .ok (.aload_n 0, 1) := by decide +kernel
theorem dX2_spellSign_14 : decode cX2_spellSign 14 = .ok (.getfield 15, 3) := by decide +kernel
theorem dX2_spellSign_17 : decode cX2_spellSign 17 = .ok (.iload_n 1, 1) := by decide +kernel
theorem dX2_spellSign_18 : decode cX2_spellSign 18 = .ok (.iload_n 1, 1) := by decide +kernel
theorem dX2_spellSign_19 : decode cX2_spellSign 19 = .ok (.iload_n 3, 1) := by decide +kernel
theorem dX2_spellSign_20 : decode cX2_spellSign 20 = .ok (.iadd, 1) := by decide +kernel
theorem dX2_spellSign_21 : decode cX2_spellSign 21 = .ok (.iload_n 2, 1) := by decide +kernel
theorem dX2_spellSign_22 : decode cX2_spellSign 22 = .ok (.invokestatic 54, 3) := by decide +kernel
theorem dX2_spellSign_25 : decode cX2_spellSign 25 = .ok (.iload_n 1, 1) := by decide +kernel
theorem dX2_spellSign_26 : decode cX2_spellSign 26 = .ok (.iload_n 3, 1) := by decide +kernel
theorem dX2_spellSign_27 : decode cX2_spellSign 27 = .ok (.iadd, 1) := by decide +kernel
theorem dX2_spellSign_28 : decode cX2_spellSign 28 = .ok (.ireturn, 1) := by decide +kernel
theorem dX2_repeat_0 : decode cX2_repeat 0 = .ok (.iload_n 1, 1) := by decide +kernel
theorem dX2_repeat_1 : decode cX2_repeat 1 = .ok (.iload_n 2, 1) := by decide +kernel
theorem dX2_repeat_2 : decode cX2_repeat 2 = .ok (.iload_n 1, 1) := by decide +kernel
theorem dX2_repeat_3 : decode cX2_repeat 3 = .ok (.isub, 1) := by decide +kernel
theorem dX2_repeat_4 : decode cX2_repeat 4 = .ok (.iload_n 3, 1) := by decide +kernel
theorem dX2_repeat_5 : decode cX2_repeat 5 = .ok (.imul, 1) := by decide +kernel
theorem dX2_repeat_6 : decode cX2_repeat 6 = .ok (.iadd, 1) := by decide +kernel
theorem dX2_repeat_7 : decode cX2_repeat 7 = .ok (.istore 4, 2) := by decide +kernel
theorem dX2_repeat_9 : decode cX2_repeat 9 = .ok (.iload 4, 2) := by decide +kernel
theorem dX2_repeat_11 : decode cX2_repeat 11 = .ok (.sipush 240, 3) := by decide +kernel
theorem dX2_repeat_14 : decode cX2_repeat 14 = .ok (.if_icmp .le 7, 3) := by decide +kernel
theorem dX2_repeat_17 : decode cX2_repeat 17 = .ok (.sipush 241, 3) := by decide +kernel
theorem dX2_repeat_20 : decode cX2_repeat 20 = .ok (.ireturn, 1) := by decide +kernel
theorem dX2_repeat_21 : decode cX2_repeat 21 = .ok (.iload_n 2, 1) := by decide +kernel
theorem dX2_repeat_22 : decode cX2_repeat 22 = .ok (.istore 5, 2) := by decide +kernel
theorem dX2_repeat_24 : decode cX2_repeat 24 = .ok (.iload 5, 2) := by decide +kernel
theorem dX2_repeat_26 : decode cX2_repeat 26 = .ok (.iload 4, 2) := by decide +kernel
theorem dX2_repeat_28 : decode cX2_repeat 28 = .ok (.if_icmp .ge 27, 3) := by decide +kernel
theorem dX2_repeat_31 : decode cX2_repeat 31 = .ok (.aload_n 0, 1) := by decide +kernel
theorem dX2_repeat_32 : decode cX2_repeat 32 = .ok (.getfield 15, 3) := by decide +kernel
theorem dX2_repeat_35 : decode cX2_repeat 35 = .ok (.iload 5, 2) := by decide +kernel
theorem dX2_repeat_37 : decode cX2_repeat 37 = .ok (.aload_n 0, 1) := by decide +kernel
theorem dX2_repeat_38 : decode cX2_repeat 38 = .ok (.getfield 15, 3) := by decide +kernel
theorem dX2_repeat_41 : decode cX2_repeat 41 = .ok (.iload 5, 2) := by decide +kernel
theorem dX2_repeat_43 : decode cX2_repeat 43 = .ok (.iload_n 2, 1) := by decide +kernel
theorem dX2_repeat_44 : decode cX2_repeat 44 = .ok (.iload_n 1, 1) := by decide +kernel
theorem dX2_repeat_45 : decode cX2_repeat 45 = .ok (.isub, 1) := by decide +kernel
theorem dX2_repeat_46 : decode cX2_repeat 46 = .ok (.isub, 1) := by decide +kernel
theorem dX2_repeat_47 : decode cX2_repeat 47 = .ok (.iaload, 1) := by decide +kernel
theorem dX2_repeat_48 : decode cX2_repeat 48 = .ok (.iastore, 1) := by decide +kernel
theorem dX2_repeat_49 : decode cX2_repeat 49 = .ok (.iinc 5 1, 3) := by decide +kernel
theorem dX2_repeat_52 : decode cX2_repeat 52 = .ok (.goto (-28), 3) := by decide +kernel
theorem dX2_repeat_55 : decode cX2_repeat 55 = .ok (.iload 4, 2) := by decide +kernel
theorem dX2_repeat_57 : decode cX2_repeat 57 = .ok (.ireturn, 1) := by decide +kernel
theorem dX3_init_0 : decode cX3_init 0 = .ok (.aload_n 0, 1) := by decide +kernel
theorem dX3_init_1 : decode cX3_init 1 = .ok (.invokespecial 3, 3) := by decide +kernel
theorem dX3_init_4 : decode cX3_init 4 = .ok (.aload_n 0, 1) := by decide +kernel
theorem dX3_init_5 : decode cX3_init 5 = .ok (.ldc 9, 2) := by decide +kernel
theorem dX3_init_7 : decode cX3_init 7 = .ok (.newarray .int, 2) := by decide +kernel
theorem dX3_init_9 : decode cX3_init 9 = .ok (.putfield 10, 3) := by decide +kernel
theorem dX3_init_12 : decode cX3_init 12 = .ok (.aload_n 0, 1) := by decide +kernel
theorem dX3_init_13 : decode cX3_init 13 = .ok (.sipush 512, 3) := by decide +kernel
theorem dX3_init_16 : decode cX3_init 16 = .ok (.newarray .int, 2) := by decide +kernel
theorem dX3_init_18 : decode cX3_init 18 = .ok (.putfield 16, 3) := by decide +kernel
theorem dX3_init_21 : decode cX3_init 21 = .ok (.aload_n 0, 1) := by decide +kernel
theorem dX3_init_22 : decode cX3_init 22 = .ok (.sipush 512, 3) := by decide +kernel
theorem dX3_init_25 : decode cX3_init 25 = .ok (.newarray .int, 2) := by decide +kernel
theorem dX3_init_27 : decode cX3_init 27 = .ok (.putfield 19, 3) := by decide +kernel
theorem dX3_init_30 : decode cX3_init 30 = .ok (.return_, 1) := by decide +kernel
theorem dX3_readAll_0 : decode cX3_readAll 0 = .ok (.aload_n 0, 1) := by decide +kernel
theorem dX3_readAll_1 : decode cX3_readAll 1 = .ok (.iload_n 3, 1) := by decide +kernel
theorem dX3_readAll_2 : decode cX3_readAll 2 = .ok (.invokevirtual 22, 3) := by decide +kernel
theorem dX3_readAll_5 : decode cX3_readAll 5 = .ok (.iconst 0, 1) := by decide +kernel
theorem dX3_readAll_6 : decode cX3_readAll 6 = .ok (.istore 4, 2) := by decide +kernel
theorem dX3_readAll_8 : decode cX3_readAll 8 = .ok (.iload 4, 2) := by decide +kernel
theorem dX3_readAll_10 : decode cX3_readAll 10 = .ok (.iload_n 2, 1) := by decide +kernel
theorem dX3_readAll_11 : decode cX3_readAll 11 = .ok (.if_icmp .ge 80, 3) := by decide +kernel
theorem dX3_readAll_14 : decode cX3_readAll 14 = .ok (.aload_n 1, 1) := by decide +kernel
theorem dX3_readAll_15 : decode cX3_readAll 15 = .ok (.iload 4, 2) := by decide +kernel
theorem dX3_readAll_17 : decode cX3_readAll 17 = .ok (.iaload, 1) := by decide +kernel
theorem dX3_readAll_18 : decode cX3_readAll 18 = .ok (.istore 5, 2) := by decide +kernel
theorem dX3_readAll_20 : decode cX3_readAll 20 = .ok (.iload 5, 2) := by decide +kernel
theorem dX3_readAll_22 : decode cX3_readAll 22 = .ok (.bipush 9, 2) := by decide +kernel
theorem dX3_readAll_24 : decode cX3_readAll 24 = .ok (.if_icmp .ne 21, 3) := by decide +kernel
theorem dX3_readAll_27 : decode cX3_readAll 27 = .ok (.iload 4, 2) := by decide +kernel
theorem dX3_readAll_29 : decode cX3_readAll 29 = .ok (.iconst 1, 1) := by decide +kernel
theorem dX3_readAll_30 : decode cX3_readAll 30 = .ok (.iadd, 1) := by decide +kernel
theorem dX3_readAll_31 : decode cX3_readAll 31 = .ok (.iload_n 2, 1) := by decide +kernel
theorem dX3_readAll_32 : decode cX3_readAll 32 = .ok (.if_icmp .ge 12, 3) := by decide +kernel
theorem dX3_readAll_35 : decode cX3_readAll 35 = .ok (.aload_n 0, 1) := by decide +kernel
theorem dX3_readAll_36 : decode cX3_readAll 36 = .ok (.iload 4, 2) := by decide +kernel
theorem dX3_readAll_38 : decode cX3_readAll 38 = .ok (.iconst 1, 1) := by decide +kernel
theorem dX3_readAll_39 : decode cX3_readAll 39 = .ok (.iadd, 1) := by decide +kernel
theorem dX3_readAll_40 : decode cX3_readAll 40 = .ok (.iconst 3, 1) := by decide +kernel
theorem dX3_readAll_41 : decode cX3_readAll 41 = .ok (.invokevirtual 26, 3) := by decide +kernel
theorem dX3_readAll_44 : decode cX3_readAll 44 = .ok (.return_, 1) := by decide +kernel
theorem dX3_readAll_45 : decode cX3_readAll 45 = .ok (.iload 5, 2) := by decide +kernel
theorem dX3_readAll_47 : decode cX3_readAll 47 = .ok (.bipush 8, 2) := by decide +kernel
theorem dX3_readAll_49 : decode cX3_readAll 49 = .ok (.if_icmp .ne 10, 3) := by decide +kernel
theorem dX3_readAll_52 : decode cX3_readAll 52 = .ok (.aload_n 0, 1) := by decide +kernel
theorem dX3_readAll_53 : decode cX3_readAll 53 = .ok (.invokevirtual 30, 3) := by decide +kernel
theorem dX3_readAll_56 : decode cX3_readAll 56 = .ok (.goto 29, 3) := by decide +kernel
theorem dX3_readAll_59 : decode cX3_readAll 59 = .ok (.aload_n 0, 1) := by decide +kernel
theorem dX3_readAll_60 : decode cX3_readAll 60 = .ok (.iload 5, 2) := by decide +kernel
theorem dX3_readAll_62 : decode cX3_readAll 62 = .ok (.invokevirtual 33, 3) := by decide +kernel
theorem dX3_readAll_65 : decode cX3_readAll 65 = .ok (.ifCond .eq 12, 3) := by decide +kernel
theorem dX3_readAll_68 : decode cX3_readAll 68 = .ok (.aload_n 0, 1) := by decide +kernel
theorem dX3_readAll_69 : decode cX3_readAll 69 = .ok (.iload 5, 2) := by decide +kernel
theorem dX3_readAll_71 : decode cX3_readAll 71 = .ok (.invokevirtual 37, 3) := by decide +kernel
theorem dX3_readAll_74 : decode cX3_readAll 74 = .ok (.goto 11, 3) := by decide +kernel
theorem dX3_readAll_77 : decode cX3_readAll 77 = .ok (.aload_n 0, 1) := by decide +kernel
theorem dX3_readAll_78 : decode cX3_readAll 78 = .ok (.iload 4, 2) := by decide +kernel
theorem dX3_readAll_80 : decode cX3_readAll 80 = .ok (.iconst 1, 1) := by decide +kernel
theorem dX3_readAll_81 : decode cX3_readAll 81 = .ok (.invokevirtual 26, 3) := by decide +kernel
theorem dX3_readAll_84 : decode cX3_readAll 84 = .ok (.return_, 1) := by decide +kernel
theorem dX3_readAll_85 : decode cX3_readAll 85 = .ok (.iinc 4 1, 3) := by decide +kernel
theorem dX3_readAll_88 : decode cX3_readAll 88 = .ok (.goto (-80), 3) := by decide +kernel
theorem dX3_readAll_91 : decode cX3_readAll 91 = .ok (.aload_n 0, 1) := by decide +kernel
theorem dX3_readAll_92 : decode cX3_readAll 92 = .ok (.iload_n 2, 1) := by decide +kernel
theorem dX3_readAll_93 : decode cX3_readAll 93 = .ok (.iconst 2, 1) := by decide +kernel
theorem dX3_readAll_94 : decode cX3_readAll 94 = .ok (.invokevirtual 26, 3) := by decide +kernel
theorem dX3_readAll_97 : decode cX3_readAll 97 = .ok (.return_, 1) := by decide +kernel
theorem dX3_begin_0 : decode cX3_begin 0 = .ok (.aload_n 0, 1) := by decide +kernel
theorem dX3_begin_1 : decode cX3_begin 1 = .ok (.iconst 1, 1) := by decide +kernel
theorem dX3_begin_2 : decode cX3_begin 2 = .ok (.iload_n 1, 1) := by decide +kernel
theorem dX3_begin_3 : decode cX3_begin 3 = .ok (.ishl, 1) := by decide +kernel
theorem dX3_begin_4 : decode cX3_begin 4 = .ok (.putfield 40, 3) := by decide +kernel
theorem dX3_begin_7 : decode cX3_begin 7 = .ok (.aload_n 0, 1) := by decide +kernel
theorem dX3_begin_8 : decode cX3_begin 8 = .ok (.iconst 0, 1) := by decide +kernel
theorem dX3_begin_9 : decode cX3_begin 9 = .ok (.putfield 44, 3) := by decide +kernel
theorem dX3_begin_12 : decode cX3_begin 12 = .ok (.aload_n 0, 1) := by decide +kernel
theorem dX3_begin_13 : decode cX3_begin 13 = .ok (.iconst 0, 1) := by decide +kernel
theorem dX3_begin_14 : decode cX3_begin 14 = .ok (.putfield 47, 3) := by decide +kernel
theorem dX3_begin_17 : decode cX3_begin 17 = .ok (.aload_n 0, 1) := by decide +kernel
theorem dX3_begin_18 : decode cX3_begin 18 = .ok (.bipush (-6), 2) := by decide +kernel
theorem dX3_begin_20 : decode cX3_begin 20 = .ok (.putfield 50, 3) := by decide +kernel
theorem dX3_begin_23 : decode cX3_begin 23 = .ok (.aload_n 0, 1) := by decide +kernel
theorem dX3_begin_24 : decode cX3_begin 24 = .ok (.iconst 0, 1) := by decide +kernel
theorem dX3_begin_25 : decode cX3_begin 25 = .ok (.putfield 53, 3) := by decide +kernel
theorem dX3_begin_28 : decode cX3_begin 28 = .ok (.aload_n 0, 1) := by decide +kernel
theorem dX3_begin_29 : decode cX3_begin 29 = .ok (.invokevirtual 30, 3) := by decide +kernel
theorem dX3_begin_32 : decode cX3_begin 32 = .ok (.return_, 1) := by decide +kernel
theorem dX3_dropPhrases_0 : decode cX3_dropPhrases 0 = .ok (.aload_n 0, 1) := by decide +kernel
theorem dX3_dropPhrases_1 : decode cX3_dropPhrases 1 = .ok (.bipush 10, 2) := by decide +kernel
theorem dX3_dropPhrases_3 : decode cX3_dropPhrases 3 = .ok (.putfield 56, 3) := by decide +kernel
theorem dX3_dropPhrases_6 : decode cX3_dropPhrases 6 = .ok (.aload_n 0, 1) := by decide +kernel
theorem dX3_dropPhrases_7 : decode cX3_dropPhrases 7 = .ok (.iconst 0, 1) := by decide +kernel
theorem dX3_dropPhrases_8 : decode cX3_dropPhrases 8 = .ok (.putfield 59, 3) := by decide +kernel
theorem dX3_dropPhrases_11 : decode cX3_dropPhrases 11 = .ok (.return_, 1) := by decide +kernel
theorem dX3_noteFault_0 : decode cX3_noteFault 0 = .ok (.aload_n 0, 1) := by decide +kernel
theorem dX3_noteFault_1 : decode cX3_noteFault 1 = .ok (.iload_n 1, 1) := by decide +kernel
theorem dX3_noteFault_2 : decode cX3_noteFault 2 = .ok (.putfield 50, 3) := by decide +kernel
theorem dX3_noteFault_5 : decode cX3_noteFault 5 = .ok (.aload_n 0, 1) := by decide +kernel
theorem dX3_noteFault_6 : decode cX3_noteFault 6 = .ok (.iload_n 2, 1) := by decide +kernel
theorem dX3_noteFault_7 : decode cX3_noteFault 7 = .ok (.putfield 53, 3) := by decide +kernel
theorem dX3_noteFault_10 : decode cX3_noteFault 10 = .ok (.return_, 1) := by decide +kernel
theorem dX3_canGrow_0 : decode cX3_canGrow 0 = .ok (.aload_n 0, 1) := by decide +kernel
theorem dX3_canGrow_1 : decode cX3_canGrow 1 = .ok (.getfield 59, 3) := by decide +kernel
theorem dX3_canGrow_4 : decode cX3_canGrow 4 = .ok (.ifCond .le 28, 3) := by decide +kernel
theorem dX3_canGrow_7 : decode cX3_canGrow 7 = .ok (.aload_n 0, 1) := by decide +kernel
theorem dX3_canGrow_8 : decode cX3_canGrow 8 = .ok (.getfield 56, 3) := by decide +kernel
theorem dX3_canGrow_11 : decode cX3_canGrow 11 = .ok (.aload_n 0, 1) := by decide +kernel
theorem dX3_canGrow_12 : decode cX3_canGrow 12 = .ok (.getfield 40, 3) := by decide +kernel
theorem dX3_canGrow_15 : decode cX3_canGrow 15 = .ok (.if_icmp .ge 17, 3) := by decide +kernel
theorem dX3_canGrow_18 : decode cX3_canGrow 18 = .ok (.aload_n 0, 1) := by decide +kernel
theorem dX3_canGrow_19 : decode cX3_canGrow 19 = .ok (.getfield 56, 3) := by decide +kernel
theorem dX3_canGrow_22 : decode cX3_canGrow 22 = .ok (.sipush 512, 3) := by decide +kernel
theorem dX3_canGrow_25 : decode cX3_canGrow 25 = .ok (.if_icmp .ge 7, 3) := by decide +kernel
theorem dX3_canGrow_28 : decode cX3_canGrow 28 = .ok (.iconst 1, 1) := by decide +kernel
theorem dX3_canGrow_29 : decode cX3_canGrow 29 = .ok (.goto 4, 3) := by decide +kernel
theorem dX3_canGrow_32 : decode cX3_canGrow 32 = .ok (.iconst 0, 1) := by decide +kernel
theorem dX3_canGrow_33 : decode cX3_canGrow 33 = .ok (.ireturn, 1) := by decide +kernel
theorem dX3_canStand_0 : decode cX3_canStand 0 = .ok (.iload_n 1, 1) := by decide +kernel
theorem dX3_canStand_1 : decode cX3_canStand 1 = .ok (.ifCond .lt 30, 3) := by decide +kernel
theorem dX3_canStand_4 : decode cX3_canStand 4 = .ok (.iload_n 1, 1) := by decide +kernel
theorem dX3_canStand_5 : decode cX3_canStand 5 = .ok (.aload_n 0, 1) := by decide +kernel
theorem dX3_canStand_6 : decode cX3_canStand 6 = .ok (.getfield 56, 3) := by decide +kernel
theorem dX3_canStand_9 : decode cX3_canStand 9 = .ok (.if_icmp .lt 18, 3) := by decide +kernel
theorem dX3_canStand_12 : decode cX3_canStand 12 = .ok (.iload_n 1, 1) := by decide +kernel
theorem dX3_canStand_13 : decode cX3_canStand 13 = .ok (.aload_n 0, 1) := by decide +kernel
theorem dX3_canStand_14 : decode cX3_canStand 14 = .ok (.getfield 56, 3) := by decide +kernel
theorem dX3_canStand_17 : decode cX3_canStand 17 = .ok (.if_icmp .ne 14, 3) := by decide +kernel
theorem dX3_canStand_20 : decode cX3_canStand 20 = .ok (.aload_n 0, 1) := by decide +kernel
theorem dX3_canStand_21 : decode cX3_canStand 21 = .ok (.invokevirtual 62, 3) := by decide +kernel
theorem dX3_canStand_24 : decode cX3_canStand 24 = .ok (.ifCond .eq 7, 3) := by decide +kernel
theorem dX3_canStand_27 : decode cX3_canStand 27 = .ok (.iconst 1, 1) := by decide +kernel
theorem dX3_canStand_28 : decode cX3_canStand 28 = .ok (.goto 4, 3) := by decide +kernel
theorem dX3_canStand_31 : decode cX3_canStand 31 = .ok (.iconst 0, 1) := by decide +kernel
theorem dX3_canStand_32 : decode cX3_canStand 32 = .ok (.ireturn, 1) := by decide +kernel
theorem dX3_readEntry_0 : decode cX3_readEntry 0 = .ok (.aload_n 0, 1) := by decide +kernel
theorem dX3_readEntry_1 : decode cX3_readEntry 1 = .ok (.dup, 1) := by decide +kernel
theorem dX3_readEntry_2 : decode cX3_readEntry 2 = .ok (.getfield 47, 3) := by decide +kernel
theorem dX3_readEntry_5 : decode cX3_readEntry 5 = .ok (.iload_n 1, 1) := by decide +kernel
theorem dX3_readEntry_6 : decode cX3_readEntry 6 = .ok (.aload_n 0, 1) := by decide +kernel
theorem dX3_readEntry_7 : decode cX3_readEntry 7 = .ok (.getfield 56, 3) := by decide +kernel
theorem dX3_readEntry_10 : decode cX3_readEntry 10 = .ok (.if_icmp .ne 7, 3) := by decide +kernel
theorem dX3_readEntry_13 : decode cX3_readEntry 13 = .ok (.iconst 1, 1) := by decide +kernel
theorem dX3_readEntry_14 : decode cX3_readEntry 14 = .ok (.goto 4, 3) := by decide +kernel
theorem dX3_readEntry_17 : decode cX3_readEntry 17 = .ok (.iconst 0, 1) := by decide +kernel
theorem dX3_readEntry_18 : decode cX3_readEntry 18 = .ok (.iadd, 1) := by decide +kernel
theorem dX3_readEntry_19 : decode cX3_readEntry 19 = .ok (.putfield 47, 3) := by decide +kernel
theorem dX3_readEntry_22 : decode cX3_readEntry 22 = .ok (.aload_n 0, 1) := by decide +kernel
theorem dX3_readEntry_23 : decode cX3_readEntry 23 = .ok (.invokevirtual 62, 3) := by decide +kernel
theorem dX3_readEntry_26 : decode cX3_readEntry 26 = .ok (.ifCond .eq 41, 3) := by decide +kernel
theorem dX3_readEntry_29 : decode cX3_readEntry 29 = .ok (.aload_n 0, 1) := by decide +kernel
theorem dX3_readEntry_30 : decode cX3_readEntry 30 = .ok (.getfield 16, 3) := by decide +kernel
theorem dX3_readEntry_33 : decode cX3_readEntry 33 = .ok (.aload_n 0, 1) := by decide +kernel
theorem dX3_readEntry_34 : decode cX3_readEntry 34 = .ok (.getfield 56, 3) := by decide +kernel
theorem dX3_readEntry_37 : decode cX3_readEntry 37 = .ok (.aload_n 0, 1) := by decide +kernel
theorem dX3_readEntry_38 : decode cX3_readEntry 38 = .ok (.getfield 66, 3) := by decide +kernel
theorem dX3_readEntry_41 : decode cX3_readEntry 41 = .ok (.iastore, 1) := by decide +kernel
theorem dX3_readEntry_42 : decode cX3_readEntry 42 = .ok (.aload_n 0, 1) := by decide +kernel
theorem dX3_readEntry_43 : decode cX3_readEntry 43 = .ok (.getfield 19, 3) := by decide +kernel
theorem dX3_readEntry_46 : decode cX3_readEntry 46 = .ok (.aload_n 0, 1) := by decide +kernel
theorem dX3_readEntry_47 : decode cX3_readEntry 47 = .ok (.getfield 56, 3) := by decide +kernel
theorem dX3_readEntry_50 : decode cX3_readEntry 50 = .ok (.aload_n 0, 1) := by decide +kernel
theorem dX3_readEntry_51 : decode cX3_readEntry 51 = .ok (.getfield 59, 3) := by decide +kernel
theorem dX3_readEntry_54 : decode cX3_readEntry 54 = .ok (.iconst 1, 1) := by decide +kernel
theorem dX3_readEntry_55 : decode cX3_readEntry 55 = .ok (.iadd, 1) := by decide +kernel
theorem dX3_readEntry_56 : decode cX3_readEntry 56 = .ok (.iastore, 1) := by decide +kernel
theorem dX3_readEntry_57 : decode cX3_readEntry 57 = .ok (.aload_n 0, 1) := by decide +kernel
theorem dX3_readEntry_58 : decode cX3_readEntry 58 = .ok (.dup, 1) := by decide +kernel
theorem dX3_readEntry_59 : decode cX3_readEntry 59 = .ok (.getfield 56, 3) := by decide +kernel
theorem dX3_readEntry_62 : decode cX3_readEntry 62 = .ok (.iconst 1, 1) := by decide +kernel
theorem dX3_readEntry_63 : decode cX3_readEntry 63 = .ok (.iadd, 1) := by decide +kernel
theorem dX3_readEntry_64 : decode cX3_readEntry 64 = .ok (.putfield 56, 3) := by decide +kernel
theorem dX3_readEntry_67 : decode cX3_readEntry 67 = .ok (.aload_n 0, 1) := by decide +kernel
theorem dX3_readEntry_68 : decode cX3_readEntry 68 = .ok (.aload_n 0, 1) := by decide +kernel
theorem dX3_readEntry_69 : decode cX3_readEntry 69 = .ok (.getfield 44, 3) := by decide +kernel
theorem dX3_readEntry_72 : decode cX3_readEntry 72 = .ok (.putfield 66, 3) := by decide +kernel
theorem dX3_readEntry_75 : decode cX3_readEntry 75 = .ok (.iload_n 1, 1) := by decide +kernel
theorem dX3_readEntry_76 : decode cX3_readEntry 76 = .ok (.bipush 8, 2) := by decide +kernel
theorem dX3_readEntry_78 : decode cX3_readEntry 78 = .ok (.if_icmp .ge 16, 3) := by decide +kernel
theorem dX3_readEntry_81 : decode cX3_readEntry 81 = .ok (.aload_n 0, 1) := by decide +kernel
theorem dX3_readEntry_82 : decode cX3_readEntry 82 = .ok (.iconst 1, 1) := by decide +kernel
theorem dX3_readEntry_83 : decode cX3_readEntry 83 = .ok (.putfield 59, 3) := by decide +kernel
theorem dX3_readEntry_86 : decode cX3_readEntry 86 = .ok (.aload_n 0, 1) := by decide +kernel
theorem dX3_readEntry_87 : decode cX3_readEntry 87 = .ok (.iload_n 1, 1) := by decide +kernel
theorem dX3_readEntry_88 : decode cX3_readEntry 88 = .ok (.invokevirtual 69, 3) := by decide +kernel
theorem dX3_readEntry_91 : decode cX3_readEntry 91 = .ok (.goto 29, 3) := by decide +kernel
theorem dX3_readEntry_94 : decode cX3_readEntry 94 = .ok (.aload_n 0, 1) := by decide +kernel
theorem dX3_readEntry_95 : decode cX3_readEntry 95 = .ok (.aload_n 0, 1) := by decide +kernel
theorem dX3_readEntry_96 : decode cX3_readEntry 96 = .ok (.getfield 19, 3) := by decide +kernel
theorem dX3_readEntry_99 : decode cX3_readEntry 99 = .ok (.iload_n 1, 1) := by decide +kernel
theorem dX3_readEntry_100 : decode cX3_readEntry 100 = .ok (.iaload, 1) := by decide +kernel
theorem dX3_readEntry_101 : decode cX3_readEntry 101 = .ok (.putfield 59, 3) := by decide +kernel
theorem dX3_readEntry_104 : decode cX3_readEntry 104 = .ok (.aload_n 0, 1) := by decide +kernel
theorem dX3_readEntry_105 : decode cX3_readEntry 105 = .ok (.aload_n 0, 1) := by decide +kernel
theorem dX3_readEntry_106 : decode cX3_readEntry 106 = .ok (.getfield 16, 3) := by decide +kernel
theorem dX3_readEntry_109 : decode cX3_readEntry 109 = .ok (.iload_n 1, 1) := by decide +kernel
theorem dX3_readEntry_110 : decode cX3_readEntry 110 = .ok (.iaload, 1) := by decide +kernel
theorem dX3_readEntry_111 : decode cX3_readEntry 111 = .ok (.aload_n 0, 1) := by decide +kernel
theorem dX3_readEntry_112 : decode cX3_readEntry 112 = .ok (.getfield 19, 3) := by decide +kernel
theorem dX3_readEntry_115 : decode cX3_readEntry 115 = .ok (.iload_n 1, 1) := by decide +kernel
theorem dX3_readEntry_116 : decode cX3_readEntry 116 = .ok (.iaload, 1) := by decide +kernel
theorem dX3_readEntry_117 : decode cX3_readEntry 117 = .ok (.invokevirtual 72, 3) := by decide +kernel
theorem dX3_readEntry_120 : decode cX3_readEntry 120 = .ok (.return_, 1) := by decide +kernel
theorem dX3_readPhrase_0 : decode cX3_readPhrase 0 = .ok (.iload_n 1, 1) := by decide +kernel
theorem dX3_readPhrase_1 : decode cX3_readPhrase 1 = .ok (.istore_n 3, 1) := by decide +kernel
theorem dX3_readPhrase_2 : decode cX3_readPhrase 2 = .ok (.iload_n 3, 1) := by decide +kernel
theorem dX3_readPhrase_3 : decode cX3_readPhrase 3 = .ok (.iload_n 1, 1) := by decide +kernel
theorem dX3_readPhrase_4 : decode cX3_readPhrase 4 = .ok (.iload_n 2, 1) := by decide +kernel
theorem dX3_readPhrase_5 : decode cX3_readPhrase 5 = .ok (.iadd, 1) := by decide +kernel
theorem dX3_readPhrase_6 : decode cX3_readPhrase 6 = .ok (.if_icmp .ge 27, 3) := by decide +kernel
theorem dX3_readPhrase_9 : decode cX3_readPhrase 9 = .ok (.iload_n 3, 1) := by decide +kernel
theorem dX3_readPhrase_10 : decode cX3_readPhrase 10 = .ok (.aload_n 0, 1) := by decide +kernel
theorem dX3_readPhrase_11 : decode cX3_readPhrase 11 = .ok (.getfield 44, 3) := by decide +kernel
theorem dX3_readPhrase_14 : decode cX3_readPhrase 14 = .ok (.if_icmp .ge 19, 3) := by decide +kernel
theorem dX3_readPhrase_17 : decode cX3_readPhrase 17 = .ok (.aload_n 0, 1) := by decide +kernel
theorem dX3_readPhrase_18 : decode cX3_readPhrase 18 = .ok (.aload_n 0, 1) := by decide +kernel
theorem dX3_readPhrase_19 : decode cX3_readPhrase 19 = .ok (.getfield 10, 3) := by decide +kernel
theorem dX3_readPhrase_22 : decode cX3_readPhrase 22 = .ok (.iload_n 3, 1) := by decide +kernel
theorem dX3_readPhrase_23 : decode cX3_readPhrase 23 = .ok (.iaload, 1) := by decide +kernel
theorem dX3_readPhrase_24 : decode cX3_readPhrase 24 = .ok (.invokevirtual 69, 3) := by decide +kernel
theorem dX3_readPhrase_27 : decode cX3_readPhrase 27 = .ok (.iinc 3 1, 3) := by decide +kernel
theorem dX3_readPhrase_30 : decode cX3_readPhrase 30 = .ok (.goto (-28), 3) := by decide +kernel
theorem dX3_readPhrase_33 : decode cX3_readPhrase 33 = .ok (.return_, 1) := by decide +kernel
theorem dX3_readSign_0 : decode cX3_readSign 0 = .ok (.aload_n 0, 1) := by decide +kernel
theorem dX3_readSign_1 : decode cX3_readSign 1 = .ok (.getfield 44, 3) := by decide +kernel
theorem dX3_readSign_4 : decode cX3_readSign 4 = .ok (.ldc 9, 2) := by decide +kernel
theorem dX3_readSign_6 : decode cX3_readSign 6 = .ok (.if_icmp .ge 23, 3) := by decide +kernel
theorem dX3_readSign_9 : decode cX3_readSign 9 = .ok (.aload_n 0, 1) := by decide +kernel
theorem dX3_readSign_10 : decode cX3_readSign 10 = .ok (.getfield 10, 3) := by decide +kernel
theorem dX3_readSign_13 : decode cX3_readSign 13 = .ok (.aload_n 0, 1) := by decide +kernel
theorem dX3_readSign_14 : decode cX3_readSign 14 = .ok (.getfield 44, 3) := by decide +kernel
theorem dX3_readSign_17 : decode cX3_readSign 17 = .ok (.iload_n 1, 1) := by decide +kernel
theorem dX3_readSign_18 : decode cX3_readSign 18 = .ok (.iastore, 1) := by decide +kernel
theorem dX3_readSign_19 : decode cX3_readSign 19 = .ok (.aload_n 0, 1) := by decide +kernel
theorem dX3_readSign_20 : decode cX3_readSign 20 = .ok (.dup, 1) := by decide +kernel
theorem dX3_readSign_21 : decode cX3_readSign 21 = .ok (.getfield 44, 3) := by decide +kernel
theorem dX3_readSign_24 : decode cX3_readSign 24 = .ok (.iconst 1, 1) := by decide +kernel
theorem dX3_readSign_25 : decode cX3_readSign 25 = .ok (.iadd, 1) := by decide +kernel
theorem dX3_readSign_26 : decode cX3_readSign 26 = .ok (.putfield 44, 3) := by decide +kernel
theorem dX3_readSign_29 : decode cX3_readSign 29 = .ok (.return_, 1) := by decide +kernel
theorem dX3_firstDifference_0 : decode cX3_firstDifference 0 = .ok (.aload_n 0, 1) := by decide +kernel
theorem dX3_firstDifference_1 : decode cX3_firstDifference 1 = .ok (.getfield 44, 3) := by decide +kernel
theorem dX3_firstDifference_4 : decode cX3_firstDifference 4 = .ok (.iload_n 2, 1) := by decide +kernel
theorem dX3_firstDifference_5 : decode cX3_firstDifference 5 = .ok (.invokestatic 75, 3) := by decide +kernel
theorem dX3_firstDifference_8 : decode cX3_firstDifference 8 = .ok (.istore_n 3, 1) := by decide +kernel
theorem dX3_firstDifference_9 : decode cX3_firstDifference 9 = .ok (.iconst 0, 1) := by decide +kernel
theorem dX3_firstDifference_10 : decode cX3_firstDifference 10 = .ok (.istore 4, 2) := by decide +kernel
theorem dX3_firstDifference_12 : decode cX3_firstDifference 12 = .ok (.iload 4, 2) := by decide +kernel
theorem dX3_firstDifference_14 : decode cX3_firstDifference 14 = .ok (.iload_n 3, 1) := by decide +kernel
theorem dX3_firstDifference_15 : decode cX3_firstDifference 15 = .ok (.if_icmp .ge 26, 3) := by decide +kernel
theorem dX3_firstDifference_18 : decode cX3_firstDifference 18 = .ok (.aload_n 0, 1) := by decide +kernel
theorem dX3_firstDifference_19 : decode cX3_firstDifference 19 = .ok (.getfield 10, 3) := by decide +kernel
theorem dX3_firstDifference_22 : decode cX3_firstDifference 22 = .ok (.iload 4, 2) := by decide +kernel
theorem dX3_firstDifference_24 : decode cX3_firstDifference 24 = .ok (.iaload, 1) := by decide +kernel
theorem dX3_firstDifference_25 : decode cX3_firstDifference 25 = .ok (.aload_n 1, 1) := by decide +kernel
theorem dX3_firstDifference_26 : decode cX3_firstDifference 26 = .ok (.iload 4, 2) := by decide +kernel
theorem dX3_firstDifference_28 : decode cX3_firstDifference 28 = .ok (.iaload, 1) := by decide +kernel
theorem dX3_firstDifference_29 : decode cX3_firstDifference 29 = .ok (.if_icmp .eq 6, 3) := by decide +kernel
theorem dX3_firstDifference_32 : decode cX3_firstDifference 32 = .ok (.iload 4, 2) := by decide +kernel
theorem dX3_firstDifference_34 : decode cX3_firstDifference 34 = .ok (.ireturn, 1) := by decide +kernel
theorem dX3_firstDifference_35 : decode cX3_firstDifference 35 = .ok (.iinc 4 1, 3) := by decide +kernel
theorem dX3_firstDifference_38 : decode cX3_firstDifference 38 = .ok (.goto (-26), 3) := by decide +kernel
theorem dX3_firstDifference_41 : decode cX3_firstDifference 41 = .ok (.aload_n 0, 1) := by decide +kernel
theorem dX3_firstDifference_42 : decode cX3_firstDifference 42 = .ok (.getfield 44, 3) := by decide +kernel
theorem dX3_firstDifference_45 : decode cX3_firstDifference 45 = .ok (.iload_n 2, 1) := by decide +kernel
theorem dX3_firstDifference_46 : decode cX3_firstDifference 46 = .ok (.if_icmp .ne 8, 3) := by decide +kernel
theorem dX3_firstDifference_49 : decode cX3_firstDifference 49 = .ok (.bipush (-6), 2) := by decide +kernel
theorem dX3_firstDifference_51 : decode cX3_firstDifference 51 = .ok (.goto 4, 3) := by decide +kernel
theorem dX3_firstDifference_54 : decode cX3_firstDifference 54 = .ok (.iload_n 3, 1) := by decide +kernel
theorem dX3_firstDifference_55 : decode cX3_firstDifference 55 = .ok (.ireturn, 1) := by decide +kernel
theorem dX4_init_0 : decode cX4_init 0 = .ok (.aload_n 0, 1) := by decide +kernel
theorem dX4_init_1 : decode cX4_init 1 = .ok (.invokespecial 3, 3) := by decide +kernel
theorem dX4_init_4 : decode cX4_init 4 = .ok (.aload_n 0, 1) := by decide +kernel
theorem dX4_init_5 : decode cX4_init 5 = .ok (.getstatic 9, 3) := by decide +kernel
theorem dX4_init_8 : decode cX4_init 8 = .ok (.invokevirtual 13, 3) := by decide +kernel
theorem dX4_init_11 : decode cX4_init 11 = .ok (.checkcast 14, 3) := by decide +kernel
theorem dX4_init_14 : decode cX4_init 14 = .ok (.putfield 18, 3) := by decide +kernel
theorem dX4_init_17 : decode cX4_init 17 = .ok (.aload_n 0, 1) := by decide +kernel
theorem dX4_init_18 : decode cX4_init 18 = .ok (.sipush 240, 3) := by decide +kernel
theorem dX4_init_21 : decode cX4_init 21 = .ok (.newarray .int, 2) := by decide +kernel
theorem dX4_init_23 : decode cX4_init 23 = .ok (.putfield 23, 3) := by decide +kernel
theorem dX4_init_26 : decode cX4_init 26 = .ok (.aload_n 0, 1) := by decide +kernel
theorem dX4_init_27 : decode cX4_init 27 = .ok (.sipush 281, 3) := by decide +kernel
theorem dX4_init_30 : decode cX4_init 30 = .ok (.newarray .int, 2) := by decide +kernel
theorem dX4_init_32 : decode cX4_init 32 = .ok (.putfield 26, 3) := by decide +kernel
theorem dX4_init_35 : decode cX4_init 35 = .ok (.return_, 1) := by decide +kernel
theorem dX4_mendCodes_0 : decode cX4_mendCodes 0 = .ok (.aload_n 0, 1) := by decide +kernel
theorem dX4_mendCodes_1 : decode cX4_mendCodes 1 = .ok (.getfield 26, 3) := by decide +kernel
theorem dX4_mendCodes_4 : decode cX4_mendCodes 4 = .ok (.iconst 0, 1) := by decide +kernel
theorem dX4_mendCodes_5 : decode cX4_mendCodes 5 = .ok (.invokestatic 29, 3) := by decide +kernel
theorem dX4_mendCodes_8 : decode cX4_mendCodes 8 = .ok (.return_, 1) := by decide +kernel
theorem dX4_countSpoiled_0 : decode cX4_countSpoiled 0 = .ok (.iconst 0, 1) := by decide +kernel
theorem dX4_countSpoiled_1 : decode cX4_countSpoiled 1 = .ok (.istore_n 1, 1) := by decide +kernel
theorem dX4_countSpoiled_2 : decode cX4_countSpoiled 2 = .ok (.iconst 0, 1) := by decide +kernel
theorem dX4_countSpoiled_3 : decode cX4_countSpoiled 3 = .ok (.istore_n 2, 1) := by decide +kernel
theorem dX4_countSpoiled_4 : decode cX4_countSpoiled 4 = .ok (.iload_n 2, 1) := by decide +kernel
theorem dX4_countSpoiled_5 : decode cX4_countSpoiled 5 = .ok (.sipush 281, 3) := by decide +kernel
theorem dX4_countSpoiled_8 : decode cX4_countSpoiled 8 = .ok (.if_icmp .ge 26, 3) := by decide +kernel
theorem dX4_countSpoiled_11 : decode cX4_countSpoiled 11 = .ok (.iload_n 1, 1) := by decide +kernel
theorem dX4_countSpoiled_12 : decode cX4_countSpoiled 12 = .ok (.aload_n 0, 1) := by decide +kernel
theorem dX4_countSpoiled_13 : decode cX4_countSpoiled 13 = .ok (.getfield 26, 3) := by decide +kernel
theorem dX4_countSpoiled_16 : decode cX4_countSpoiled 16 = .ok (.iload_n 2, 1) := by decide +kernel
theorem dX4_countSpoiled_17 : decode cX4_countSpoiled 17 = .ok (.iaload, 1) := by decide +kernel
theorem dX4_countSpoiled_18 : decode cX4_countSpoiled 18 = .ok (.ifCond .eq 7, 3) := by decide +kernel
theorem dX4_countSpoiled_21 : decode cX4_countSpoiled 21 = .ok (.iconst 1, 1) := by decide +kernel
theorem dX4_countSpoiled_22 : decode cX4_countSpoiled 22 = .ok (.goto 4, 3) := by decide +kernel
theorem dX4_countSpoiled_25 : decode cX4_countSpoiled 25 = .ok (.iconst 0, 1) := by decide +kernel
theorem dX4_countSpoiled_26 : decode cX4_countSpoiled 26 = .ok (.iadd, 1) := by decide +kernel
theorem dX4_countSpoiled_27 : decode cX4_countSpoiled 27 = .ok (.istore_n 1, 1) := by decide +kernel
theorem dX4_countSpoiled_28 : decode cX4_countSpoiled 28 = .ok (.iinc 2 1, 3) := by decide +kernel
theorem dX4_countSpoiled_31 : decode cX4_countSpoiled 31 = .ok (.goto (-27), 3) := by decide +kernel
theorem dX4_countSpoiled_34 : decode cX4_countSpoiled 34 = .ok (.iload_n 1, 1) := by decide +kernel
theorem dX4_countSpoiled_35 : decode cX4_countSpoiled 35 = .ok (.ireturn, 1) := by decide +kernel
theorem dX5_init_0 : decode cX5_init 0 = .ok (.aload_n 0, 1) := by decide +kernel
theorem dX5_init_1 : decode cX5_init 1 = .ok (.invokespecial 3, 3) := by decide +kernel
theorem dX5_init_4 : decode cX5_init 4 = .ok (.aload_n 0, 1) := by decide +kernel
theorem dX5_init_5 : decode cX5_init 5 = .ok (.new 9, 3) := by decide +kernel
theorem dX5_init_8 : decode cX5_init 8 = .ok (.dup, 1) := by decide +kernel
theorem dX5_init_9 : decode cX5_init 9 = .ok (.invokespecial 11, 3) := by decide +kernel
theorem dX5_init_12 : decode cX5_init 12 = .ok (.putfield 12, 3) := by decide +kernel
theorem dX5_init_15 : decode cX5_init 15 = .ok (.aload_n 0, 1) := by decide +kernel
theorem dX5_init_16 : decode cX5_init 16 = .ok (.sipush 281, 3) := by decide +kernel
theorem dX5_init_19 : decode cX5_init 19 = .ok (.newarray .int, 2) := by decide +kernel
theorem dX5_init_21 : decode cX5_init 21 = .ok (.putfield 18, 3) := by decide +kernel
theorem dX5_init_24 : decode cX5_init 24 = .ok (.aload_n 0, 1) := by decide +kernel
theorem dX5_init_25 : decode cX5_init 25 = .ok (.sipush 281, 3) := by decide +kernel
theorem dX5_init_28 : decode cX5_init 28 = .ok (.newarray .int, 2) := by decide +kernel
theorem dX5_init_30 : decode cX5_init 30 = .ok (.putfield 22, 3) := by decide +kernel
theorem dX5_init_33 : decode cX5_init 33 = .ok (.aload_n 0, 1) := by decide +kernel
theorem dX5_init_34 : decode cX5_init 34 = .ok (.sipush 281, 3) := by decide +kernel
theorem dX5_init_37 : decode cX5_init 37 = .ok (.newarray .int, 2) := by decide +kernel
theorem dX5_init_39 : decode cX5_init 39 = .ok (.putfield 25, 3) := by decide +kernel
theorem dX5_init_42 : decode cX5_init 42 = .ok (.aload_n 0, 1) := by decide +kernel
theorem dX5_init_43 : decode cX5_init 43 = .ok (.sipush 281, 3) := by decide +kernel
theorem dX5_init_46 : decode cX5_init 46 = .ok (.newarray .int, 2) := by decide +kernel
theorem dX5_init_48 : decode cX5_init 48 = .ok (.putfield 28, 3) := by decide +kernel
theorem dX5_init_51 : decode cX5_init 51 = .ok (.aload_n 0, 1) := by decide +kernel
theorem dX5_init_52 : decode cX5_init 52 = .ok (.sipush 281, 3) := by decide +kernel
theorem dX5_init_55 : decode cX5_init 55 = .ok (.newarray .int, 2) := by decide +kernel
theorem dX5_init_57 : decode cX5_init 57 = .ok (.putfield 31, 3) := by decide +kernel
theorem dX5_init_60 : decode cX5_init 60 = .ok (.return_, 1) := by decide +kernel
theorem dX5_writeOut_0 : decode cX5_writeOut 0 = .ok (.aload_n 0, 1) := by decide +kernel
theorem dX5_writeOut_1 : decode cX5_writeOut 1 = .ok (.iload_n 3, 1) := by decide +kernel
theorem dX5_writeOut_2 : decode cX5_writeOut 2 = .ok (.invokevirtual 34, 3) := by decide +kernel
theorem dX5_writeOut_5 : decode cX5_writeOut 5 = .ok (.iconst 0, 1) := by decide +kernel
theorem dX5_writeOut_6 : decode cX5_writeOut 6 = .ok (.istore 6, 2) := by decide +kernel
theorem dX5_writeOut_8 : decode cX5_writeOut 8 = .ok (.iconst 0, 1) := by decide +kernel
theorem dX5_writeOut_9 : decode cX5_writeOut 9 = .ok (.istore 7, 2) := by decide +kernel
theorem dX5_writeOut_11 : decode cX5_writeOut 11 = .ok (.iload 7, 2) := by decide +kernel
theorem dX5_writeOut_13 : decode cX5_writeOut 13 = .ok (.sipush 240, 3) := by decide +kernel
theorem dX5_writeOut_16 : decode cX5_writeOut 16 = .ok (.if_icmp .ge 114, 3) := by decide +kernel
theorem dX5_writeOut_19 : decode cX5_writeOut 19 = .ok (.iload 6, 2) := by decide +kernel
theorem dX5_writeOut_21 : decode cX5_writeOut 21 = .ok (.iload_n 2, 1) := by decide +kernel
theorem dX5_writeOut_22 : decode cX5_writeOut 22 = .ok (.if_icmp .ge 108, 3) := by decide +kernel
theorem dX5_writeOut_25 : decode cX5_writeOut 25 = .ok (.aload_n 0, 1) := by decide +kernel
theorem dX5_writeOut_26 : decode cX5_writeOut 26 = .ok (.getfield 12, 3) := by decide +kernel
theorem dX5_writeOut_29 : decode cX5_writeOut 29 = .ok (.aload_n 1, 1) := by decide +kernel
theorem dX5_writeOut_30 : decode cX5_writeOut 30 = .ok (.iload 6, 2) := by decide +kernel
theorem dX5_writeOut_32 : decode cX5_writeOut 32 = .ok (.iload_n 2, 1) := by decide +kernel
theorem dX5_writeOut_33 : decode cX5_writeOut 33 = .ok (.invokevirtual 38, 3) := by decide +kernel
theorem dX5_writeOut_36 : decode cX5_writeOut 36 = .ok (.istore 8, 2) := by decide +kernel
theorem dX5_writeOut_38 : decode cX5_writeOut 38 = .ok (.aload_n 0, 1) := by decide +kernel
theorem dX5_writeOut_39 : decode cX5_writeOut 39 = .ok (.iload 8, 2) := by decide +kernel
theorem dX5_writeOut_41 : decode cX5_writeOut 41 = .ok (.iload 6, 2) := by decide +kernel
theorem dX5_writeOut_43 : decode cX5_writeOut 43 = .ok (.aload_n 0, 1) := by decide +kernel
theorem dX5_writeOut_44 : decode cX5_writeOut 44 = .ok (.getfield 12, 3) := by decide +kernel
theorem dX5_writeOut_47 : decode cX5_writeOut 47 = .ok (.getfield 42, 3) := by decide +kernel
theorem dX5_writeOut_50 : decode cX5_writeOut 50 = .ok (.iload 8, 2) := by decide +kernel
theorem dX5_writeOut_52 : decode cX5_writeOut 52 = .ok (.iaload, 1) := by decide +kernel
theorem dX5_writeOut_53 : decode cX5_writeOut 53 = .ok (.invokevirtual 43, 3) := by decide +kernel
theorem dX5_writeOut_56 : decode cX5_writeOut 56 = .ok (.iload 6, 2) := by decide +kernel
theorem dX5_writeOut_58 : decode cX5_writeOut 58 = .ok (.aload_n 0, 1) := by decide +kernel
theorem dX5_writeOut_59 : decode cX5_writeOut 59 = .ok (.getfield 12, 3) := by decide +kernel
theorem dX5_writeOut_62 : decode cX5_writeOut 62 = .ok (.getfield 42, 3) := by decide +kernel
theorem dX5_writeOut_65 : decode cX5_writeOut 65 = .ok (.iload 8, 2) := by decide +kernel
theorem dX5_writeOut_67 : decode cX5_writeOut 67 = .ok (.iaload, 1) := by decide +kernel
theorem dX5_writeOut_68 : decode cX5_writeOut 68 = .ok (.iadd, 1) := by decide +kernel
theorem dX5_writeOut_69 : decode cX5_writeOut 69 = .ok (.istore 6, 2) := by decide +kernel
theorem dX5_writeOut_71 : decode cX5_writeOut 71 = .ok (.iload 6, 2) := by decide +kernel
theorem dX5_writeOut_73 : decode cX5_writeOut 73 = .ok (.iload_n 2, 1) := by decide +kernel
theorem dX5_writeOut_74 : decode cX5_writeOut 74 = .ok (.if_icmp .ge 50, 3) := by decide +kernel
theorem dX5_writeOut_77 : decode cX5_writeOut 77 = .ok (.aload_n 0, 1) := by decide +kernel
theorem dX5_writeOut_78 : decode cX5_writeOut 78 = .ok (.iload 8, 2) := by decide +kernel
theorem dX5_writeOut_80 : decode cX5_writeOut 80 = .ok (.aload_n 1, 1) := by decide +kernel
theorem dX5_writeOut_81 : decode cX5_writeOut 81 = .ok (.iload 6, 2) := by decide +kernel
theorem dX5_writeOut_83 : decode cX5_writeOut 83 = .ok (.iaload, 1) := by decide +kernel
theorem dX5_writeOut_84 : decode cX5_writeOut 84 = .ok (.invokevirtual 47, 3) := by decide +kernel
theorem dX5_writeOut_87 : decode cX5_writeOut 87 = .ok (.aload_n 0, 1) := by decide +kernel
theorem dX5_writeOut_88 : decode cX5_writeOut 88 = .ok (.iload 4, 2) := by decide +kernel
theorem dX5_writeOut_90 : decode cX5_writeOut 90 = .ok (.iload 5, 2) := by decide +kernel
theorem dX5_writeOut_92 : decode cX5_writeOut 92 = .ok (.invokevirtual 51, 3) := by decide +kernel
theorem dX5_writeOut_95 : decode cX5_writeOut 95 = .ok (.ifCond .eq 29, 3) := by decide +kernel
theorem dX5_writeOut_98 : decode cX5_writeOut 98 = .ok (.aload_n 0, 1) := by decide +kernel
theorem dX5_writeOut_99 : decode cX5_writeOut 99 = .ok (.bipush 8, 2) := by decide +kernel
theorem dX5_writeOut_101 : decode cX5_writeOut 101 = .ok (.bipush (-6), 2) := by decide +kernel
theorem dX5_writeOut_103 : decode cX5_writeOut 103 = .ok (.iconst 0, 1) := by decide +kernel
theorem dX5_writeOut_104 : decode cX5_writeOut 104 = .ok (.invokevirtual 43, 3) := by decide +kernel
theorem dX5_writeOut_107 : decode cX5_writeOut 107 = .ok (.aload_n 0, 1) := by decide +kernel
theorem dX5_writeOut_108 : decode cX5_writeOut 108 = .ok (.dup, 1) := by decide +kernel
theorem dX5_writeOut_109 : decode cX5_writeOut 109 = .ok (.getfield 55, 3) := by decide +kernel
theorem dX5_writeOut_112 : decode cX5_writeOut 112 = .ok (.iconst 1, 1) := by decide +kernel
theorem dX5_writeOut_113 : decode cX5_writeOut 113 = .ok (.iadd, 1) := by decide +kernel
theorem dX5_writeOut_114 : decode cX5_writeOut 114 = .ok (.putfield 55, 3) := by decide +kernel
theorem dX5_writeOut_117 : decode cX5_writeOut 117 = .ok (.aload_n 0, 1) := by decide +kernel
theorem dX5_writeOut_118 : decode cX5_writeOut 118 = .ok (.getfield 12, 3) := by decide +kernel
theorem dX5_writeOut_121 : decode cX5_writeOut 121 = .ok (.invokevirtual 59, 3) := by decide +kernel
theorem dX5_writeOut_124 : decode cX5_writeOut 124 = .ok (.iinc 7 1, 3) := by decide +kernel
theorem dX5_writeOut_127 : decode cX5_writeOut 127 = .ok (.goto (-116), 3) := by decide +kernel
theorem dX5_writeOut_130 : decode cX5_writeOut 130 = .ok (.aload_n 0, 1) := by decide +kernel
theorem dX5_writeOut_131 : decode cX5_writeOut 131 = .ok (.bipush 9, 2) := by decide +kernel
theorem dX5_writeOut_133 : decode cX5_writeOut 133 = .ok (.bipush (-6), 2) := by decide +kernel
theorem dX5_writeOut_135 : decode cX5_writeOut 135 = .ok (.iconst 0, 1) := by decide +kernel
theorem dX5_writeOut_136 : decode cX5_writeOut 136 = .ok (.invokevirtual 43, 3) := by decide +kernel
theorem dX5_writeOut_139 : decode cX5_writeOut 139 = .ok (.return_, 1) := by decide +kernel
theorem dX5_begin_0 : decode cX5_begin 0 = .ok (.aload_n 0, 1) := by decide +kernel
theorem dX5_begin_1 : decode cX5_begin 1 = .ok (.getfield 12, 3) := by decide +kernel
theorem dX5_begin_4 : decode cX5_begin 4 = .ok (.invokevirtual 59, 3) := by decide +kernel
theorem dX5_begin_7 : decode cX5_begin 7 = .ok (.aload_n 0, 1) := by decide +kernel
theorem dX5_begin_8 : decode cX5_begin 8 = .ok (.iconst 1, 1) := by decide +kernel
theorem dX5_begin_9 : decode cX5_begin 9 = .ok (.iload_n 1, 1) := by decide +kernel
theorem dX5_begin_10 : decode cX5_begin 10 = .ok (.ishl, 1) := by decide +kernel
theorem dX5_begin_11 : decode cX5_begin 11 = .ok (.putfield 62, 3) := by decide +kernel
theorem dX5_begin_14 : decode cX5_begin 14 = .ok (.aload_n 0, 1) := by decide +kernel
theorem dX5_begin_15 : decode cX5_begin 15 = .ok (.iconst 0, 1) := by decide +kernel
theorem dX5_begin_16 : decode cX5_begin 16 = .ok (.putfield 65, 3) := by decide +kernel
theorem dX5_begin_19 : decode cX5_begin 19 = .ok (.aload_n 0, 1) := by decide +kernel
theorem dX5_begin_20 : decode cX5_begin 20 = .ok (.iconst 0, 1) := by decide +kernel
theorem dX5_begin_21 : decode cX5_begin 21 = .ok (.putfield 68, 3) := by decide +kernel
theorem dX5_begin_24 : decode cX5_begin 24 = .ok (.aload_n 0, 1) := by decide +kernel
theorem dX5_begin_25 : decode cX5_begin 25 = .ok (.iconst 0, 1) := by decide +kernel
theorem dX5_begin_26 : decode cX5_begin 26 = .ok (.putfield 55, 3) := by decide +kernel
theorem dX5_begin_29 : decode cX5_begin 29 = .ok (.aload_n 0, 1) := by decide +kernel
theorem dX5_begin_30 : decode cX5_begin 30 = .ok (.iconst 0, 1) := by decide +kernel
theorem dX5_begin_31 : decode cX5_begin 31 = .ok (.putfield 71, 3) := by decide +kernel
theorem dX5_begin_34 : decode cX5_begin 34 = .ok (.return_, 1) := by decide +kernel
theorem dX5_writeCode_0 : decode cX5_writeCode 0 = .ok (.aload_n 0, 1) := by decide +kernel
theorem dX5_writeCode_1 : decode cX5_writeCode 1 = .ok (.getfield 65, 3) := by decide +kernel
theorem dX5_writeCode_4 : decode cX5_writeCode 4 = .ok (.sipush 281, 3) := by decide +kernel
theorem dX5_writeCode_7 : decode cX5_writeCode 7 = .ok (.if_icmp .lt 4, 3) := by decide +kernel
theorem dX5_writeCode_10 : decode cX5_writeCode 10 = .ok (.return_, 1) := by decide +kernel
theorem dX5_writeCode_11 : decode cX5_writeCode 11 = .ok (.aload_n 0, 1) := by decide +kernel
theorem dX5_writeCode_12 : decode cX5_writeCode 12 = .ok (.getfield 12, 3) := by decide +kernel
theorem dX5_writeCode_15 : decode cX5_writeCode 15 = .ok (.getfield 74, 3) := by decide +kernel
theorem dX5_writeCode_18 : decode cX5_writeCode 18 = .ok (.iconst 1, 1) := by decide +kernel
theorem dX5_writeCode_19 : decode cX5_writeCode 19 = .ok (.isub, 1) := by decide +kernel
theorem dX5_writeCode_20 : decode cX5_writeCode 20 = .ok (.invokestatic 77, 3) := by decide +kernel
theorem dX5_writeCode_23 : decode cX5_writeCode 23 = .ok (.istore 4, 2) := by decide +kernel
theorem dX5_writeCode_25 : decode cX5_writeCode 25 = .ok (.aload_n 0, 1) := by decide +kernel
theorem dX5_writeCode_26 : decode cX5_writeCode 26 = .ok (.getfield 18, 3) := by decide +kernel
theorem dX5_writeCode_29 : decode cX5_writeCode 29 = .ok (.aload_n 0, 1) := by decide +kernel
theorem dX5_writeCode_30 : decode cX5_writeCode 30 = .ok (.getfield 65, 3) := by decide +kernel
theorem dX5_writeCode_33 : decode cX5_writeCode 33 = .ok (.iload_n 1, 1) := by decide +kernel
theorem dX5_writeCode_34 : decode cX5_writeCode 34 = .ok (.iastore, 1) := by decide +kernel
theorem dX5_writeCode_35 : decode cX5_writeCode 35 = .ok (.aload_n 0, 1) := by decide +kernel
theorem dX5_writeCode_36 : decode cX5_writeCode 36 = .ok (.getfield 22, 3) := by decide +kernel
theorem dX5_writeCode_39 : decode cX5_writeCode 39 = .ok (.aload_n 0, 1) := by decide +kernel
theorem dX5_writeCode_40 : decode cX5_writeCode 40 = .ok (.getfield 65, 3) := by decide +kernel
theorem dX5_writeCode_43 : decode cX5_writeCode 43 = .ok (.iload 4, 2) := by decide +kernel
theorem dX5_writeCode_45 : decode cX5_writeCode 45 = .ok (.iastore, 1) := by decide +kernel
theorem dX5_writeCode_46 : decode cX5_writeCode 46 = .ok (.aload_n 0, 1) := by decide +kernel
theorem dX5_writeCode_47 : decode cX5_writeCode 47 = .ok (.getfield 25, 3) := by decide +kernel
theorem dX5_writeCode_50 : decode cX5_writeCode 50 = .ok (.aload_n 0, 1) := by decide +kernel
theorem dX5_writeCode_51 : decode cX5_writeCode 51 = .ok (.getfield 65, 3) := by decide +kernel
theorem dX5_writeCode_54 : decode cX5_writeCode 54 = .ok (.iload_n 2, 1) := by decide +kernel
theorem dX5_writeCode_55 : decode cX5_writeCode 55 = .ok (.iastore, 1) := by decide +kernel
theorem dX5_writeCode_56 : decode cX5_writeCode 56 = .ok (.aload_n 0, 1) := by decide +kernel
theorem dX5_writeCode_57 : decode cX5_writeCode 57 = .ok (.getfield 28, 3) := by decide +kernel
theorem dX5_writeCode_60 : decode cX5_writeCode 60 = .ok (.aload_n 0, 1) := by decide +kernel
theorem dX5_writeCode_61 : decode cX5_writeCode 61 = .ok (.getfield 65, 3) := by decide +kernel
theorem dX5_writeCode_64 : decode cX5_writeCode 64 = .ok (.iload_n 3, 1) := by decide +kernel
theorem dX5_writeCode_65 : decode cX5_writeCode 65 = .ok (.iastore, 1) := by decide +kernel
theorem dX5_writeCode_66 : decode cX5_writeCode 66 = .ok (.aload_n 0, 1) := by decide +kernel
theorem dX5_writeCode_67 : decode cX5_writeCode 67 = .ok (.getfield 31, 3) := by decide +kernel
theorem dX5_writeCode_70 : decode cX5_writeCode 70 = .ok (.aload_n 0, 1) := by decide +kernel
theorem dX5_writeCode_71 : decode cX5_writeCode 71 = .ok (.getfield 65, 3) := by decide +kernel
theorem dX5_writeCode_74 : decode cX5_writeCode 74 = .ok (.aload_n 0, 1) := by decide +kernel
theorem dX5_writeCode_75 : decode cX5_writeCode 75 = .ok (.getfield 12, 3) := by decide +kernel
theorem dX5_writeCode_78 : decode cX5_writeCode 78 = .ok (.getfield 74, 3) := by decide +kernel
theorem dX5_writeCode_81 : decode cX5_writeCode 81 = .ok (.iastore, 1) := by decide +kernel
theorem dX5_writeCode_82 : decode cX5_writeCode 82 = .ok (.aload_n 0, 1) := by decide +kernel
theorem dX5_writeCode_83 : decode cX5_writeCode 83 = .ok (.dup, 1) := by decide +kernel
theorem dX5_writeCode_84 : decode cX5_writeCode 84 = .ok (.getfield 68, 3) := by decide +kernel
theorem dX5_writeCode_87 : decode cX5_writeCode 87 = .ok (.iload 4, 2) := by decide +kernel
theorem dX5_writeCode_89 : decode cX5_writeCode 89 = .ok (.iadd, 1) := by decide +kernel
theorem dX5_writeCode_90 : decode cX5_writeCode 90 = .ok (.putfield 68, 3) := by decide +kernel
theorem dX5_writeCode_93 : decode cX5_writeCode 93 = .ok (.aload_n 0, 1) := by decide +kernel
theorem dX5_writeCode_94 : decode cX5_writeCode 94 = .ok (.dup, 1) := by decide +kernel
theorem dX5_writeCode_95 : decode cX5_writeCode 95 = .ok (.getfield 65, 3) := by decide +kernel
theorem dX5_writeCode_98 : decode cX5_writeCode 98 = .ok (.iconst 1, 1) := by decide +kernel
theorem dX5_writeCode_99 : decode cX5_writeCode 99 = .ok (.iadd, 1) := by decide +kernel
theorem dX5_writeCode_100 : decode cX5_writeCode 100 = .ok (.putfield 65, 3) := by decide +kernel
theorem dX5_writeCode_103 : decode cX5_writeCode 103 = .ok (.return_, 1) := by decide +kernel
theorem dX5_bitsOf_0 : decode cX5_bitsOf 0 = .ok (.getstatic 81, 3) := by decide +kernel
theorem dX5_bitsOf_3 : decode cX5_bitsOf 3 = .ok (.iconst 0, 1) := by decide +kernel
theorem dX5_bitsOf_4 : decode cX5_bitsOf 4 = .ok (.iaload, 1) := by decide +kernel
theorem dX5_bitsOf_5 : decode cX5_bitsOf 5 = .ok (.istore_n 1, 1) := by decide +kernel
theorem dX5_bitsOf_6 : decode cX5_bitsOf 6 = .ok (.iload_n 1, 1) := by decide +kernel
theorem dX5_bitsOf_7 : decode cX5_bitsOf 7 = .ok (.getstatic 84, 3) := by decide +kernel
theorem dX5_bitsOf_10 : decode cX5_bitsOf 10 = .ok (.iconst 0, 1) := by decide +kernel
theorem dX5_bitsOf_11 : decode cX5_bitsOf 11 = .ok (.iaload, 1) := by decide +kernel
theorem dX5_bitsOf_12 : decode cX5_bitsOf 12 = .ok (.if_icmp .ge 15, 3) := by decide +kernel
theorem dX5_bitsOf_15 : decode cX5_bitsOf 15 = .ok (.iload_n 0, 1) := by decide +kernel
theorem dX5_bitsOf_16 : decode cX5_bitsOf 16 = .ok (.iload_n 1, 1) := by decide +kernel
theorem dX5_bitsOf_17 : decode cX5_bitsOf 17 = .ok (.ishr, 1) := by decide +kernel
theorem dX5_bitsOf_18 : decode cX5_bitsOf 18 = .ok (.ifCond .eq 9, 3) := by decide +kernel
theorem dX5_bitsOf_21 : decode cX5_bitsOf 21 = .ok (.iinc 1 1, 3) := by decide +kernel
theorem dX5_bitsOf_24 : decode cX5_bitsOf 24 = .ok (.goto (-18), 3) := by decide +kernel
theorem dX5_bitsOf_27 : decode cX5_bitsOf 27 = .ok (.iload_n 1, 1) := by decide +kernel
theorem dX5_bitsOf_28 : decode cX5_bitsOf 28 = .ok (.ireturn, 1) := by decide +kernel
theorem dX5_grow_0 : decode cX5_grow 0 = .ok (.aload_n 0, 1) := by decide +kernel
theorem dX5_grow_1 : decode cX5_grow 1 = .ok (.getfield 12, 3) := by decide +kernel
theorem dX5_grow_4 : decode cX5_grow 4 = .ok (.getfield 74, 3) := by decide +kernel
theorem dX5_grow_7 : decode cX5_grow 7 = .ok (.aload_n 0, 1) := by decide +kernel
theorem dX5_grow_8 : decode cX5_grow 8 = .ok (.getfield 62, 3) := by decide +kernel
theorem dX5_grow_11 : decode cX5_grow 11 = .ok (.if_icmp .lt 4, 3) := by decide +kernel
theorem dX5_grow_14 : decode cX5_grow 14 = .ok (.return_, 1) := by decide +kernel
theorem dX5_grow_15 : decode cX5_grow 15 = .ok (.aload_n 0, 1) := by decide +kernel
theorem dX5_grow_16 : decode cX5_grow 16 = .ok (.getfield 12, 3) := by decide +kernel
theorem dX5_grow_19 : decode cX5_grow 19 = .ok (.iload_n 1, 1) := by decide +kernel
theorem dX5_grow_20 : decode cX5_grow 20 = .ok (.iload_n 2, 1) := by decide +kernel
theorem dX5_grow_21 : decode cX5_grow 21 = .ok (.invokevirtual 87, 3) := by decide +kernel
theorem dX5_grow_24 : decode cX5_grow 24 = .ok (.aload_n 0, 1) := by decide +kernel
theorem dX5_grow_25 : decode cX5_grow 25 = .ok (.aload_n 0, 1) := by decide +kernel
theorem dX5_grow_26 : decode cX5_grow 26 = .ok (.getfield 71, 3) := by decide +kernel
theorem dX5_grow_29 : decode cX5_grow 29 = .ok (.aload_n 0, 1) := by decide +kernel
theorem dX5_grow_30 : decode cX5_grow 30 = .ok (.getfield 12, 3) := by decide +kernel
theorem dX5_grow_33 : decode cX5_grow 33 = .ok (.getfield 42, 3) := by decide +kernel
theorem dX5_grow_36 : decode cX5_grow 36 = .ok (.iload_n 1, 1) := by decide +kernel
theorem dX5_grow_37 : decode cX5_grow 37 = .ok (.iaload, 1) := by decide +kernel
theorem dX5_grow_38 : decode cX5_grow 38 = .ok (.iconst 1, 1) := by decide +kernel
theorem dX5_grow_39 : decode cX5_grow 39 = .ok (.iadd, 1) := by decide +kernel
theorem dX5_grow_40 : decode cX5_grow 40 = .ok (.invokestatic 90, 3) := by decide +kernel
theorem dX5_grow_43 : decode cX5_grow 43 = .ok (.putfield 71, 3) := by decide +kernel
theorem dX5_grow_46 : decode cX5_grow 46 = .ok (.aload_n 0, 1) := by decide +kernel
theorem dX5_grow_47 : decode cX5_grow 47 = .ok (.aload_n 0, 1) := by decide +kernel
theorem dX5_grow_48 : decode cX5_grow 48 = .ok (.getfield 65, 3) := by decide +kernel
theorem dX5_grow_51 : decode cX5_grow 51 = .ok (.putfield 96, 3) := by decide +kernel
theorem dX5_grow_54 : decode cX5_grow 54 = .ok (.return_, 1) := by decide +kernel
theorem dX5_mustClear_0 : decode cX5_mustClear 0 = .ok (.iload_n 1, 1) := by decide +kernel
theorem dX5_mustClear_1 : decode cX5_mustClear 1 = .ok (.ifCond .eq 17, 3) := by decide +kernel
theorem dX5_mustClear_4 : decode cX5_mustClear 4 = .ok (.aload_n 0, 1) := by decide +kernel
theorem dX5_mustClear_5 : decode cX5_mustClear 5 = .ok (.getfield 12, 3) := by decide +kernel
theorem dX5_mustClear_8 : decode cX5_mustClear 8 = .ok (.getfield 74, 3) := by decide +kernel
theorem dX5_mustClear_11 : decode cX5_mustClear 11 = .ok (.aload_n 0, 1) := by decide +kernel
theorem dX5_mustClear_12 : decode cX5_mustClear 12 = .ok (.getfield 62, 3) := by decide +kernel
theorem dX5_mustClear_15 : decode cX5_mustClear 15 = .ok (.if_icmp .ge 5, 3) := by decide +kernel
theorem dX5_mustClear_18 : decode cX5_mustClear 18 = .ok (.iconst 0, 1) := by decide +kernel
theorem dX5_mustClear_19 : decode cX5_mustClear 19 = .ok (.ireturn, 1) := by decide +kernel
theorem dX5_mustClear_20 : decode cX5_mustClear 20 = .ok (.iload_n 1, 1) := by decide +kernel
theorem dX5_mustClear_21 : decode cX5_mustClear 21 = .ok (.iconst 1, 1) := by decide +kernel
theorem dX5_mustClear_22 : decode cX5_mustClear 22 = .ok (.if_icmp .eq 11, 3) := by decide +kernel
theorem dX5_mustClear_25 : decode cX5_mustClear 25 = .ok (.aload_n 0, 1) := by decide +kernel
theorem dX5_mustClear_26 : decode cX5_mustClear 26 = .ok (.iload_n 2, 1) := by decide +kernel
theorem dX5_mustClear_27 : decode cX5_mustClear 27 = .ok (.invokevirtual 99, 3) := by decide +kernel
theorem dX5_mustClear_30 : decode cX5_mustClear 30 = .ok (.ifCond .eq 7, 3) := by decide +kernel
theorem dX5_mustClear_33 : decode cX5_mustClear 33 = .ok (.iconst 1, 1) := by decide +kernel
theorem dX5_mustClear_34 : decode cX5_mustClear 34 = .ok (.goto 4, 3) := by decide +kernel
theorem dX5_mustClear_37 : decode cX5_mustClear 37 = .ok (.iconst 0, 1) := by decide +kernel
theorem dX5_mustClear_38 : decode cX5_mustClear 38 = .ok (.ireturn, 1) := by decide +kernel
theorem dX5_losesBy_0 : decode cX5_losesBy 0 = .ok (.aload_n 0, 1) := by decide +kernel
theorem dX5_losesBy_1 : decode cX5_losesBy 1 = .ok (.getfield 65, 3) := by decide +kernel
theorem dX5_losesBy_4 : decode cX5_losesBy 4 = .ok (.aload_n 0, 1) := by decide +kernel
theorem dX5_losesBy_5 : decode cX5_losesBy 5 = .ok (.getfield 96, 3) := by decide +kernel
theorem dX5_losesBy_8 : decode cX5_losesBy 8 = .ok (.isub, 1) := by decide +kernel
theorem dX5_losesBy_9 : decode cX5_losesBy 9 = .ok (.iconst 2, 1) := by decide +kernel
theorem dX5_losesBy_10 : decode cX5_losesBy 10 = .ok (.iload_n 1, 1) := by decide +kernel
theorem dX5_losesBy_11 : decode cX5_losesBy 11 = .ok (.imul, 1) := by decide +kernel
theorem dX5_losesBy_12 : decode cX5_losesBy 12 = .ok (.if_icmp .ge 5, 3) := by decide +kernel
theorem dX5_losesBy_15 : decode cX5_losesBy 15 = .ok (.iconst 0, 1) := by decide +kernel
theorem dX5_losesBy_16 : decode cX5_losesBy 16 = .ok (.ireturn, 1) := by decide +kernel
theorem dX5_losesBy_17 : decode cX5_losesBy 17 = .ok (.aload_n 0, 1) := by decide +kernel
theorem dX5_losesBy_18 : decode cX5_losesBy 18 = .ok (.aload_n 0, 1) := by decide +kernel
theorem dX5_losesBy_19 : decode cX5_losesBy 19 = .ok (.getfield 65, 3) := by decide +kernel
theorem dX5_losesBy_22 : decode cX5_losesBy 22 = .ok (.iload_n 1, 1) := by decide +kernel
theorem dX5_losesBy_23 : decode cX5_losesBy 23 = .ok (.isub, 1) := by decide +kernel
theorem dX5_losesBy_24 : decode cX5_losesBy 24 = .ok (.aload_n 0, 1) := by decide +kernel
theorem dX5_losesBy_25 : decode cX5_losesBy 25 = .ok (.getfield 65, 3) := by decide +kernel
theorem dX5_losesBy_28 : decode cX5_losesBy 28 = .ok (.invokevirtual 103, 3) := by decide +kernel
theorem dX5_losesBy_31 : decode cX5_losesBy 31 = .ok (.aload_n 0, 1) := by decide +kernel
theorem dX5_losesBy_32 : decode cX5_losesBy 32 = .ok (.aload_n 0, 1) := by decide +kernel
theorem dX5_losesBy_33 : decode cX5_losesBy 33 = .ok (.getfield 65, 3) := by decide +kernel
theorem dX5_losesBy_36 : decode cX5_losesBy 36 = .ok (.iconst 2, 1) := by decide +kernel
theorem dX5_losesBy_37 : decode cX5_losesBy 37 = .ok (.iload_n 1, 1) := by decide +kernel
theorem dX5_losesBy_38 : decode cX5_losesBy 38 = .ok (.imul, 1) := by decide +kernel
theorem dX5_losesBy_39 : decode cX5_losesBy 39 = .ok (.isub, 1) := by decide +kernel
theorem dX5_losesBy_40 : decode cX5_losesBy 40 = .ok (.aload_n 0, 1) := by decide +kernel
theorem dX5_losesBy_41 : decode cX5_losesBy 41 = .ok (.getfield 65, 3) := by decide +kernel
theorem dX5_losesBy_44 : decode cX5_losesBy 44 = .ok (.iload_n 1, 1) := by decide +kernel
theorem dX5_losesBy_45 : decode cX5_losesBy 45 = .ok (.isub, 1) := by decide +kernel
theorem dX5_losesBy_46 : decode cX5_losesBy 46 = .ok (.invokevirtual 103, 3) := by decide +kernel
theorem dX5_losesBy_49 : decode cX5_losesBy 49 = .ok (.if_icmp .ge 7, 3) := by decide +kernel
theorem dX5_losesBy_52 : decode cX5_losesBy 52 = .ok (.iconst 1, 1) := by decide +kernel
theorem dX5_losesBy_53 : decode cX5_losesBy 53 = .ok (.goto 4, 3) := by decide +kernel
theorem dX5_losesBy_56 : decode cX5_losesBy 56 = .ok (.iconst 0, 1) := by decide +kernel
theorem dX5_losesBy_57 : decode cX5_losesBy 57 = .ok (.ireturn, 1) := by decide +kernel
theorem dX5_signsOf_0 : decode cX5_signsOf 0 = .ok (.iconst 0, 1) := by decide +kernel
theorem dX5_signsOf_1 : decode cX5_signsOf 1 = .ok (.istore_n 3, 1) := by decide +kernel
theorem dX5_signsOf_2 : decode cX5_signsOf 2 = .ok (.iload_n 1, 1) := by decide +kernel
theorem dX5_signsOf_3 : decode cX5_signsOf 3 = .ok (.istore 4, 2) := by decide +kernel
theorem dX5_signsOf_5 : decode cX5_signsOf 5 = .ok (.iload 4, 2) := by decide +kernel
theorem dX5_signsOf_7 : decode cX5_signsOf 7 = .ok (.iload_n 2, 1) := by decide +kernel
theorem dX5_signsOf_8 : decode cX5_signsOf 8 = .ok (.if_icmp .ge 19, 3) := by decide +kernel
theorem dX5_signsOf_11 : decode cX5_signsOf 11 = .ok (.iload_n 3, 1) := by decide +kernel
theorem dX5_signsOf_12 : decode cX5_signsOf 12 = .ok (.aload_n 0, 1) := by decide +kernel
theorem dX5_signsOf_13 : decode cX5_signsOf 13 = .ok (.getfield 28, 3) := by decide +kernel
theorem dX5_signsOf_16 : decode cX5_signsOf 16 = .ok (.iload 4, 2) := by decide +kernel
theorem dX5_signsOf_18 : decode cX5_signsOf 18 = .ok (.iaload, 1) := by decide +kernel
theorem dX5_signsOf_19 : decode cX5_signsOf 19 = .ok (.iadd, 1) := by decide +kernel
theorem dX5_signsOf_20 : decode cX5_signsOf 20 = .ok (.istore_n 3, 1) := by decide +kernel
theorem dX5_signsOf_21 : decode cX5_signsOf 21 = .ok (.iinc 4 1, 3) := by decide +kernel
theorem dX5_signsOf_24 : decode cX5_signsOf 24 = .ok (.goto (-19), 3) := by decide +kernel
theorem dX5_signsOf_27 : decode cX5_signsOf 27 = .ok (.iload_n 3, 1) := by decide +kernel
theorem dX5_signsOf_28 : decode cX5_signsOf 28 = .ok (.ireturn, 1) := by decide +kernel
theorem dX6_init_0 : decode cX6_init 0 = .ok (.aload_n 0, 1) := by decide +kernel
theorem dX6_init_1 : decode cX6_init 1 = .ok (.invokespecial 3, 3) := by decide +kernel
theorem dX6_init_4 : decode cX6_init 4 = .ok (.aload_n 0, 1) := by decide +kernel
theorem dX6_init_5 : decode cX6_init 5 = .ok (.new 9, 3) := by decide +kernel
theorem dX6_init_8 : decode cX6_init 8 = .ok (.dup, 1) := by decide +kernel
theorem dX6_init_9 : decode cX6_init 9 = .ok (.invokespecial 11, 3) := by decide +kernel
theorem dX6_init_12 : decode cX6_init 12 = .ok (.putfield 12, 3) := by decide +kernel
theorem dX6_init_15 : decode cX6_init 15 = .ok (.aload_n 0, 1) := by decide +kernel
theorem dX6_init_16 : decode cX6_init 16 = .ok (.new 16, 3) := by decide +kernel
theorem dX6_init_19 : decode cX6_init 19 = .ok (.dup, 1) := by decide +kernel
theorem dX6_init_20 : decode cX6_init 20 = .ok (.invokespecial 18, 3) := by decide +kernel
theorem dX6_init_23 : decode cX6_init 23 = .ok (.putfield 19, 3) := by decide +kernel
theorem dX6_init_26 : decode cX6_init 26 = .ok (.aload_n 0, 1) := by decide +kernel
theorem dX6_init_27 : decode cX6_init 27 = .ok (.iconst 2, 1) := by decide +kernel
theorem dX6_init_28 : decode cX6_init 28 = .ok (.anewarray 9, 3) := by decide +kernel
theorem dX6_init_31 : decode cX6_init 31 = .ok (.putfield 23, 3) := by decide +kernel
theorem dX6_init_34 : decode cX6_init 34 = .ok (.aload_n 0, 1) := by decide +kernel
theorem dX6_init_35 : decode cX6_init 35 = .ok (.iconst 2, 1) := by decide +kernel
theorem dX6_init_36 : decode cX6_init 36 = .ok (.newarray .boolean, 2) := by decide +kernel
theorem dX6_init_38 : decode cX6_init 38 = .ok (.putfield 27, 3) := by decide +kernel
theorem dX6_init_41 : decode cX6_init 41 = .ok (.aload_n 0, 1) := by decide +kernel
theorem dX6_init_42 : decode cX6_init 42 = .ok (.new 31, 3) := by decide +kernel
theorem dX6_init_45 : decode cX6_init 45 = .ok (.dup, 1) := by decide +kernel
theorem dX6_init_46 : decode cX6_init 46 = .ok (.invokespecial 33, 3) := by decide +kernel
theorem dX6_init_49 : decode cX6_init 49 = .ok (.putfield 34, 3) := by decide +kernel
theorem dX6_init_52 : decode cX6_init 52 = .ok (.aload_n 0, 1) := by decide +kernel
theorem dX6_init_53 : decode cX6_init 53 = .ok (.new 38, 3) := by decide +kernel
theorem dX6_init_56 : decode cX6_init 56 = .ok (.dup, 1) := by decide +kernel
theorem dX6_init_57 : decode cX6_init 57 = .ok (.invokespecial 40, 3) := by decide +kernel
theorem dX6_init_60 : decode cX6_init 60 = .ok (.putfield 41, 3) := by decide +kernel
theorem dX6_init_63 : decode cX6_init 63 = .ok (.aload_n 0, 1) := by decide +kernel
theorem dX6_init_64 : decode cX6_init 64 = .ok (.new 45, 3) := by decide +kernel
theorem dX6_init_67 : decode cX6_init 67 = .ok (.dup, 1) := by decide +kernel
theorem dX6_init_68 : decode cX6_init 68 = .ok (.invokespecial 47, 3) := by decide +kernel
theorem dX6_init_71 : decode cX6_init 71 = .ok (.putfield 48, 3) := by decide +kernel
theorem dX6_init_74 : decode cX6_init 74 = .ok (.aload_n 0, 1) := by decide +kernel
theorem dX6_init_75 : decode cX6_init 75 = .ok (.sipush 281, 3) := by decide +kernel
theorem dX6_init_78 : decode cX6_init 78 = .ok (.newarray .int, 2) := by decide +kernel
theorem dX6_init_80 : decode cX6_init 80 = .ok (.putfield 52, 3) := by decide +kernel
theorem dX6_init_83 : decode cX6_init 83 = .ok (.aload_n 0, 1) := by decide +kernel
theorem dX6_init_84 : decode cX6_init 84 = .ok (.new 38, 3) := by decide +kernel
theorem dX6_init_87 : decode cX6_init 87 = .ok (.dup, 1) := by decide +kernel
theorem dX6_init_88 : decode cX6_init 88 = .ok (.invokespecial 40, 3) := by decide +kernel
theorem dX6_init_91 : decode cX6_init 91 = .ok (.putfield 56, 3) := by decide +kernel
theorem dX6_init_94 : decode cX6_init 94 = .ok (.aload_n 0, 1) := by decide +kernel
theorem dX6_init_95 : decode cX6_init 95 = .ok (.new 45, 3) := by decide +kernel
theorem dX6_init_98 : decode cX6_init 98 = .ok (.dup, 1) := by decide +kernel
theorem dX6_init_99 : decode cX6_init 99 = .ok (.invokespecial 47, 3) := by decide +kernel
theorem dX6_init_102 : decode cX6_init 102 = .ok (.putfield 59, 3) := by decide +kernel
theorem dX6_init_105 : decode cX6_init 105 = .ok (.aload_n 0, 1) := by decide +kernel
theorem dX6_init_106 : decode cX6_init 106 = .ok (.sipush 281, 3) := by decide +kernel
theorem dX6_init_109 : decode cX6_init 109 = .ok (.newarray .int, 2) := by decide +kernel
theorem dX6_init_111 : decode cX6_init 111 = .ok (.putfield 62, 3) := by decide +kernel
theorem dX6_init_114 : decode cX6_init 114 = .ok (.iconst 0, 1) := by decide +kernel
theorem dX6_init_115 : decode cX6_init 115 = .ok (.istore_n 1, 1) := by decide +kernel
theorem dX6_init_116 : decode cX6_init 116 = .ok (.iload_n 1, 1) := by decide +kernel
theorem dX6_init_117 : decode cX6_init 117 = .ok (.iconst 2, 1) := by decide +kernel
theorem dX6_init_118 : decode cX6_init 118 = .ok (.if_icmp .ge 22, 3) := by decide +kernel
theorem dX6_init_121 : decode cX6_init 121 = .ok (.aload_n 0, 1) := by decide +kernel
theorem dX6_init_122 : decode cX6_init 122 = .ok (.getfield 23, 3) := by decide +kernel
theorem dX6_init_125 : decode cX6_init 125 = .ok (.iload_n 1, 1) := by decide +kernel
theorem dX6_init_126 : decode cX6_init 126 = .ok (.new 9, 3) := by decide +kernel
theorem dX6_init_129 : decode cX6_init 129 = .ok (.dup, 1) := by decide +kernel
theorem dX6_init_130 : decode cX6_init 130 = .ok (.invokespecial 11, 3) := by decide +kernel
theorem dX6_init_133 : decode cX6_init 133 = .ok (.aastore, 1) := by decide +kernel
theorem dX6_init_134 : decode cX6_init 134 = .ok (.iinc 1 1, 3) := by decide +kernel
theorem dX6_init_137 : decode cX6_init 137 = .ok (.goto (-21), 3) := by decide +kernel
theorem dX6_init_140 : decode cX6_init 140 = .ok (.aload_n 0, 1) := by decide +kernel
theorem dX6_init_141 : decode cX6_init 141 = .ok (.invokevirtual 65, 3) := by decide +kernel
theorem dX6_init_144 : decode cX6_init 144 = .ok (.return_, 1) := by decide +kernel
theorem dX6_set_0 : decode cX6_set 0 = .ok (.iload_n 1, 1) := by decide +kernel
theorem dX6_set_1 : decode cX6_set 1 = .ok (.iload_n 2, 1) := by decide +kernel
theorem dX6_set_2 : decode cX6_set 2 = .ok (.invokestatic 68, 3) := by decide +kernel
theorem dX6_set_5 : decode cX6_set 5 = .ok (.ifCond .ne 6, 3) := by decide +kernel
theorem dX6_set_8 : decode cX6_set 8 = .ok (.bipush (-2), 2) := by decide +kernel
theorem dX6_set_10 : decode cX6_set 10 = .ok (.ireturn, 1) := by decide +kernel
theorem dX6_set_11 : decode cX6_set 11 = .ok (.aload_n 0, 1) := by decide +kernel
theorem dX6_set_12 : decode cX6_set 12 = .ok (.getfield 19, 3) := by decide +kernel
theorem dX6_set_15 : decode cX6_set 15 = .ok (.aload_n 0, 1) := by decide +kernel
theorem dX6_set_16 : decode cX6_set 16 = .ok (.getfield 12, 3) := by decide +kernel
theorem dX6_set_19 : decode cX6_set 19 = .ok (.invokevirtual 72, 3) := by decide +kernel
theorem dX6_set_22 : decode cX6_set 22 = .ok (.aload_n 0, 1) := by decide +kernel
theorem dX6_set_23 : decode cX6_set 23 = .ok (.getfield 12, 3) := by decide +kernel
theorem dX6_set_26 : decode cX6_set 26 = .ok (.getfield 76, 3) := by decide +kernel
theorem dX6_set_29 : decode cX6_set 29 = .ok (.iload_n 1, 1) := by decide +kernel
theorem dX6_set_30 : decode cX6_set 30 = .ok (.iaload, 1) := by decide +kernel
theorem dX6_set_31 : decode cX6_set 31 = .ok (.istore_n 3, 1) := by decide +kernel
theorem dX6_set_32 : decode cX6_set 32 = .ok (.aload_n 0, 1) := by decide +kernel
theorem dX6_set_33 : decode cX6_set 33 = .ok (.getfield 12, 3) := by decide +kernel
theorem dX6_set_36 : decode cX6_set 36 = .ok (.getfield 76, 3) := by decide +kernel
theorem dX6_set_39 : decode cX6_set 39 = .ok (.iload_n 1, 1) := by decide +kernel
theorem dX6_set_40 : decode cX6_set 40 = .ok (.iload_n 2, 1) := by decide +kernel
theorem dX6_set_41 : decode cX6_set 41 = .ok (.iastore, 1) := by decide +kernel
theorem dX6_set_42 : decode cX6_set 42 = .ok (.aload_n 0, 1) := by decide +kernel
theorem dX6_set_43 : decode cX6_set 43 = .ok (.getfield 12, 3) := by decide +kernel
theorem dX6_set_46 : decode cX6_set 46 = .ok (.invokevirtual 79, 3) := by decide +kernel
theorem dX6_set_49 : decode cX6_set 49 = .ok (.aload_n 0, 1) := by decide +kernel
theorem dX6_set_50 : decode cX6_set 50 = .ok (.invokevirtual 65, 3) := by decide +kernel
theorem dX6_set_53 : decode cX6_set 53 = .ok (.iload_n 3, 1) := by decide +kernel
theorem dX6_set_54 : decode cX6_set 54 = .ok (.ireturn, 1) := by decide +kernel
theorem dX6_add_0 : decode cX6_add 0 = .ok (.iload_n 1, 1) := by decide +kernel
theorem dX6_add_1 : decode cX6_add 1 = .ok (.ifCond .lt 21, 3) := by decide +kernel
theorem dX6_add_4 : decode cX6_add 4 = .ok (.iload_n 1, 1) := by decide +kernel
theorem dX6_add_5 : decode cX6_add 5 = .ok (.bipush 8, 2) := by decide +kernel
theorem dX6_add_7 : decode cX6_add 7 = .ok (.if_icmp .ge 15, 3) := by decide +kernel
theorem dX6_add_10 : decode cX6_add 10 = .ok (.iload_n 2, 1) := by decide +kernel
theorem dX6_add_11 : decode cX6_add 11 = .ok (.iconst 1, 1) := by decide +kernel
theorem dX6_add_12 : decode cX6_add 12 = .ok (.if_icmp .lt 10, 3) := by decide +kernel
theorem dX6_add_15 : decode cX6_add 15 = .ok (.iload_n 2, 1) := by decide +kernel
theorem dX6_add_16 : decode cX6_add 16 = .ok (.sipush 240, 3) := by decide +kernel
theorem dX6_add_19 : decode cX6_add 19 = .ok (.if_icmp .le 6, 3) := by decide +kernel
theorem dX6_add_22 : decode cX6_add 22 = .ok (.bipush (-2), 2) := by decide +kernel
theorem dX6_add_24 : decode cX6_add 24 = .ok (.ireturn, 1) := by decide +kernel
theorem dX6_add_25 : decode cX6_add 25 = .ok (.aload_n 0, 1) := by decide +kernel
theorem dX6_add_26 : decode cX6_add 26 = .ok (.getfield 12, 3) := by decide +kernel
theorem dX6_add_29 : decode cX6_add 29 = .ok (.getfield 82, 3) := by decide +kernel
theorem dX6_add_32 : decode cX6_add 32 = .ok (.iload_n 2, 1) := by decide +kernel
theorem dX6_add_33 : decode cX6_add 33 = .ok (.iadd, 1) := by decide +kernel
theorem dX6_add_34 : decode cX6_add 34 = .ok (.sipush 240, 3) := by decide +kernel
theorem dX6_add_37 : decode cX6_add 37 = .ok (.if_icmp .le 6, 3) := by decide +kernel
theorem dX6_add_40 : decode cX6_add 40 = .ok (.bipush (-4), 2) := by decide +kernel
theorem dX6_add_42 : decode cX6_add 42 = .ok (.ireturn, 1) := by decide +kernel
theorem dX6_add_43 : decode cX6_add 43 = .ok (.aload_n 0, 1) := by decide +kernel
theorem dX6_add_44 : decode cX6_add 44 = .ok (.getfield 19, 3) := by decide +kernel
theorem dX6_add_47 : decode cX6_add 47 = .ok (.aload_n 0, 1) := by decide +kernel
theorem dX6_add_48 : decode cX6_add 48 = .ok (.getfield 12, 3) := by decide +kernel
theorem dX6_add_51 : decode cX6_add 51 = .ok (.invokevirtual 72, 3) := by decide +kernel
theorem dX6_add_54 : decode cX6_add 54 = .ok (.aload_n 0, 1) := by decide +kernel
theorem dX6_add_55 : decode cX6_add 55 = .ok (.getfield 12, 3) := by decide +kernel
theorem dX6_add_58 : decode cX6_add 58 = .ok (.getfield 86, 3) := by decide +kernel
theorem dX6_add_61 : decode cX6_add 61 = .ok (.aload_n 0, 1) := by decide +kernel
theorem dX6_add_62 : decode cX6_add 62 = .ok (.getfield 12, 3) := by decide +kernel
theorem dX6_add_65 : decode cX6_add 65 = .ok (.getfield 82, 3) := by decide +kernel
theorem dX6_add_68 : decode cX6_add 68 = .ok (.aload_n 0, 1) := by decide +kernel
theorem dX6_add_69 : decode cX6_add 69 = .ok (.getfield 12, 3) := by decide +kernel
theorem dX6_add_72 : decode cX6_add 72 = .ok (.getfield 82, 3) := by decide +kernel
theorem dX6_add_75 : decode cX6_add 75 = .ok (.iload_n 2, 1) := by decide +kernel
theorem dX6_add_76 : decode cX6_add 76 = .ok (.iadd, 1) := by decide +kernel
theorem dX6_add_77 : decode cX6_add 77 = .ok (.iload_n 1, 1) := by decide +kernel
theorem dX6_add_78 : decode cX6_add 78 = .ok (.invokestatic 89, 3) := by decide +kernel
theorem dX6_add_81 : decode cX6_add 81 = .ok (.aload_n 0, 1) := by decide +kernel
theorem dX6_add_82 : decode cX6_add 82 = .ok (.getfield 12, 3) := by decide +kernel
theorem dX6_add_85 : decode cX6_add 85 = .ok (.dup, 1) := by decide +kernel
theorem dX6_add_86 : decode cX6_add 86 = .ok (.getfield 82, 3) := by decide +kernel
theorem dX6_add_89 : decode cX6_add 89 = .ok (.iload_n 2, 1) := by decide +kernel
theorem dX6_add_90 : decode cX6_add 90 = .ok (.iadd, 1) := by decide +kernel
theorem dX6_add_91 : decode cX6_add 91 = .ok (.putfield 82, 3) := by decide +kernel
theorem dX6_add_94 : decode cX6_add 94 = .ok (.aload_n 0, 1) := by decide +kernel
theorem dX6_add_95 : decode cX6_add 95 = .ok (.getfield 12, 3) := by decide +kernel
theorem dX6_add_98 : decode cX6_add 98 = .ok (.invokevirtual 79, 3) := by decide +kernel
theorem dX6_add_101 : decode cX6_add 101 = .ok (.aload_n 0, 1) := by decide +kernel
theorem dX6_add_102 : decode cX6_add 102 = .ok (.invokevirtual 65, 3) := by decide +kernel
theorem dX6_add_105 : decode cX6_add 105 = .ok (.aload_n 0, 1) := by decide +kernel
theorem dX6_add_106 : decode cX6_add 106 = .ok (.getfield 12, 3) := by decide +kernel
theorem dX6_add_109 : decode cX6_add 109 = .ok (.getfield 82, 3) := by decide +kernel
theorem dX6_add_112 : decode cX6_add 112 = .ok (.ireturn, 1) := by decide +kernel
theorem dX6_cut_0 : decode cX6_cut 0 = .ok (.iload_n 1, 1) := by decide +kernel
theorem dX6_cut_1 : decode cX6_cut 1 = .ok (.iconst 1, 1) := by decide +kernel
theorem dX6_cut_2 : decode cX6_cut 2 = .ok (.if_icmp .lt 10, 3) := by decide +kernel
theorem dX6_cut_5 : decode cX6_cut 5 = .ok (.iload_n 1, 1) := by decide +kernel
theorem dX6_cut_6 : decode cX6_cut 6 = .ok (.sipush 240, 3) := by decide +kernel
theorem dX6_cut_9 : decode cX6_cut 9 = .ok (.if_icmp .le 6, 3) := by decide +kernel
theorem dX6_cut_12 : decode cX6_cut 12 = .ok (.bipush (-2), 2) := by decide +kernel
theorem dX6_cut_14 : decode cX6_cut 14 = .ok (.ireturn, 1) := by decide +kernel
theorem dX6_cut_15 : decode cX6_cut 15 = .ok (.iload_n 1, 1) := by decide +kernel
theorem dX6_cut_16 : decode cX6_cut 16 = .ok (.aload_n 0, 1) := by decide +kernel
theorem dX6_cut_17 : decode cX6_cut 17 = .ok (.getfield 12, 3) := by decide +kernel
theorem dX6_cut_20 : decode cX6_cut 20 = .ok (.getfield 82, 3) := by decide +kernel
theorem dX6_cut_23 : decode cX6_cut 23 = .ok (.if_icmp .le 6, 3) := by decide +kernel
theorem dX6_cut_26 : decode cX6_cut 26 = .ok (.bipush (-5), 2) := by decide +kernel
theorem dX6_cut_28 : decode cX6_cut 28 = .ok (.ireturn, 1) := by decide +kernel
theorem dX6_cut_29 : decode cX6_cut 29 = .ok (.aload_n 0, 1) := by decide +kernel
theorem dX6_cut_30 : decode cX6_cut 30 = .ok (.getfield 19, 3) := by decide +kernel
theorem dX6_cut_33 : decode cX6_cut 33 = .ok (.aload_n 0, 1) := by decide +kernel
theorem dX6_cut_34 : decode cX6_cut 34 = .ok (.getfield 12, 3) := by decide +kernel
theorem dX6_cut_37 : decode cX6_cut 37 = .ok (.invokevirtual 72, 3) := by decide +kernel
theorem dX6_cut_40 : decode cX6_cut 40 = .ok (.aload_n 0, 1) := by decide +kernel
theorem dX6_cut_41 : decode cX6_cut 41 = .ok (.getfield 12, 3) := by decide +kernel
theorem dX6_cut_44 : decode cX6_cut 44 = .ok (.dup, 1) := by decide +kernel
theorem dX6_cut_45 : decode cX6_cut 45 = .ok (.getfield 82, 3) := by decide +kernel
theorem dX6_cut_48 : decode cX6_cut 48 = .ok (.iload_n 1, 1) := by decide +kernel
theorem dX6_cut_49 : decode cX6_cut 49 = .ok (.isub, 1) := by decide +kernel
theorem dX6_cut_50 : decode cX6_cut 50 = .ok (.putfield 82, 3) := by decide +kernel
theorem dX6_cut_53 : decode cX6_cut 53 = .ok (.aload_n 0, 1) := by decide +kernel
theorem dX6_cut_54 : decode cX6_cut 54 = .ok (.getfield 12, 3) := by decide +kernel
theorem dX6_cut_57 : decode cX6_cut 57 = .ok (.invokevirtual 79, 3) := by decide +kernel
theorem dX6_cut_60 : decode cX6_cut 60 = .ok (.aload_n 0, 1) := by decide +kernel
theorem dX6_cut_61 : decode cX6_cut 61 = .ok (.invokevirtual 65, 3) := by decide +kernel
theorem dX6_cut_64 : decode cX6_cut 64 = .ok (.aload_n 0, 1) := by decide +kernel
theorem dX6_cut_65 : decode cX6_cut 65 = .ok (.getfield 12, 3) := by decide +kernel
theorem dX6_cut_68 : decode cX6_cut 68 = .ok (.getfield 82, 3) := by decide +kernel
theorem dX6_cut_71 : decode cX6_cut 71 = .ok (.ireturn, 1) := by decide +kernel
theorem dX6_spoil_0 : decode cX6_spoil 0 = .ok (.aload_n 0, 1) := by decide +kernel
theorem dX6_spoil_1 : decode cX6_spoil 1 = .ok (.iload_n 1, 1) := by decide +kernel
theorem dX6_spoil_2 : decode cX6_spoil 2 = .ok (.invokevirtual 95, 3) := by decide +kernel
theorem dX6_spoil_5 : decode cX6_spoil 5 = .ok (.ifCond .ne 5, 3) := by decide +kernel
theorem dX6_spoil_8 : decode cX6_spoil 8 = .ok (.iconst (-1), 1) := by decide +kernel
theorem dX6_spoil_9 : decode cX6_spoil 9 = .ok (.ireturn, 1) := by decide +kernel
theorem dX6_spoil_10 : decode cX6_spoil 10 = .ok (.iload_n 2, 1) := by decide +kernel
theorem dX6_spoil_11 : decode cX6_spoil 11 = .ok (.iconst 1, 1) := by decide +kernel
theorem dX6_spoil_12 : decode cX6_spoil 12 = .ok (.if_icmp .lt 10, 3) := by decide +kernel
theorem dX6_spoil_15 : decode cX6_spoil 15 = .ok (.iload_n 2, 1) := by decide +kernel
theorem dX6_spoil_16 : decode cX6_spoil 16 = .ok (.sipush 511, 3) := by decide +kernel
theorem dX6_spoil_19 : decode cX6_spoil 19 = .ok (.if_icmp .le 6, 3) := by decide +kernel
theorem dX6_spoil_22 : decode cX6_spoil 22 = .ok (.bipush (-2), 2) := by decide +kernel
theorem dX6_spoil_24 : decode cX6_spoil 24 = .ok (.ireturn, 1) := by decide +kernel
theorem dX6_spoil_25 : decode cX6_spoil 25 = .ok (.aload_n 0, 1) := by decide +kernel
theorem dX6_spoil_26 : decode cX6_spoil 26 = .ok (.getfield 19, 3) := by decide +kernel
theorem dX6_spoil_29 : decode cX6_spoil 29 = .ok (.aload_n 0, 1) := by decide +kernel
theorem dX6_spoil_30 : decode cX6_spoil 30 = .ok (.getfield 12, 3) := by decide +kernel
theorem dX6_spoil_33 : decode cX6_spoil 33 = .ok (.invokevirtual 72, 3) := by decide +kernel
theorem dX6_spoil_36 : decode cX6_spoil 36 = .ok (.aload_n 0, 1) := by decide +kernel
theorem dX6_spoil_37 : decode cX6_spoil 37 = .ok (.getfield 12, 3) := by decide +kernel
theorem dX6_spoil_40 : decode cX6_spoil 40 = .ok (.getfield 99, 3) := by decide +kernel
theorem dX6_spoil_43 : decode cX6_spoil 43 = .ok (.iload_n 1, 1) := by decide +kernel
theorem dX6_spoil_44 : decode cX6_spoil 44 = .ok (.dup2, 1) := by decide +kernel
theorem dX6_spoil_45 : decode cX6_spoil 45 = .ok (.iaload, 1) := by decide +kernel
theorem dX6_spoil_46 : decode cX6_spoil 46 = .ok (.iload_n 2, 1) := by decide +kernel
theorem dX6_spoil_47 : decode cX6_spoil 47 = .ok (.ixor, 1) := by decide +kernel
theorem dX6_spoil_48 : decode cX6_spoil 48 = .ok (.iastore, 1) := by decide +kernel
theorem dX6_spoil_49 : decode cX6_spoil 49 = .ok (.aload_n 0, 1) := by decide +kernel
theorem dX6_spoil_50 : decode cX6_spoil 50 = .ok (.invokevirtual 65, 3) := by decide +kernel
theorem dX6_spoil_53 : decode cX6_spoil 53 = .ok (.aload_n 0, 1) := by decide +kernel
theorem dX6_spoil_54 : decode cX6_spoil 54 = .ok (.getfield 52, 3) := by decide +kernel
theorem dX6_spoil_57 : decode cX6_spoil 57 = .ok (.iload_n 1, 1) := by decide +kernel
theorem dX6_spoil_58 : decode cX6_spoil 58 = .ok (.iaload, 1) := by decide +kernel
theorem dX6_spoil_59 : decode cX6_spoil 59 = .ok (.ireturn, 1) := by decide +kernel
theorem dX6_put_0 : decode cX6_put 0 = .ok (.lload_n 1, 1) := by decide +kernel
theorem dX6_put_1 : decode cX6_put 1 = .ok (.invokestatic 102, 3) := by decide +kernel
theorem dX6_put_4 : decode cX6_put 4 = .ok (.istore_n 3, 1) := by decide +kernel
theorem dX6_put_5 : decode cX6_put 5 = .ok (.iload_n 3, 1) := by decide +kernel
theorem dX6_put_6 : decode cX6_put 6 = .ok (.ifCond .ne 6, 3) := by decide +kernel
theorem dX6_put_9 : decode cX6_put 9 = .ok (.bipush (-2), 2) := by decide +kernel
theorem dX6_put_11 : decode cX6_put 11 = .ok (.ireturn, 1) := by decide +kernel
theorem dX6_put_12 : decode cX6_put 12 = .ok (.aload_n 0, 1) := by decide +kernel
theorem dX6_put_13 : decode cX6_put 13 = .ok (.getfield 34, 3) := by decide +kernel
theorem dX6_put_16 : decode cX6_put 16 = .ok (.getfield 106, 3) := by decide +kernel
theorem dX6_put_19 : decode cX6_put 19 = .ok (.iload_n 3, 1) := by decide +kernel
theorem dX6_put_20 : decode cX6_put 20 = .ok (.iadd, 1) := by decide +kernel
theorem dX6_put_21 : decode cX6_put 21 = .ok (.bipush 80, 2) := by decide +kernel
theorem dX6_put_23 : decode cX6_put 23 = .ok (.if_icmp .le 6, 3) := by decide +kernel
theorem dX6_put_26 : decode cX6_put 26 = .ok (.bipush (-4), 2) := by decide +kernel
theorem dX6_put_28 : decode cX6_put 28 = .ok (.ireturn, 1) := by decide +kernel
theorem dX6_put_29 : decode cX6_put 29 = .ok (.aload_n 0, 1) := by decide +kernel
theorem dX6_put_30 : decode cX6_put 30 = .ok (.getfield 34, 3) := by decide +kernel
theorem dX6_put_33 : decode cX6_put 33 = .ok (.lload_n 1, 1) := by decide +kernel
theorem dX6_put_34 : decode cX6_put 34 = .ok (.iload_n 3, 1) := by decide +kernel
theorem dX6_put_35 : decode cX6_put 35 = .ok (.invokevirtual 107, 3) := by decide +kernel
theorem dX6_put_38 : decode cX6_put 38 = .ok (.aload_n 0, 1) := by decide +kernel
theorem dX6_put_39 : decode cX6_put 39 = .ok (.getfield 34, 3) := by decide +kernel
theorem dX6_put_42 : decode cX6_put 42 = .ok (.getfield 106, 3) := by decide +kernel
theorem dX6_put_45 : decode cX6_put 45 = .ok (.ireturn, 1) := by decide +kernel
theorem dX6_wipe_0 : decode cX6_wipe 0 = .ok (.aload_n 0, 1) := by decide +kernel
theorem dX6_wipe_1 : decode cX6_wipe 1 = .ok (.getfield 34, 3) := by decide +kernel
theorem dX6_wipe_4 : decode cX6_wipe 4 = .ok (.getfield 106, 3) := by decide +kernel
theorem dX6_wipe_7 : decode cX6_wipe 7 = .ok (.istore_n 1, 1) := by decide +kernel
theorem dX6_wipe_8 : decode cX6_wipe 8 = .ok (.aload_n 0, 1) := by decide +kernel
theorem dX6_wipe_9 : decode cX6_wipe 9 = .ok (.getfield 34, 3) := by decide +kernel
theorem dX6_wipe_12 : decode cX6_wipe 12 = .ok (.iconst 0, 1) := by decide +kernel
theorem dX6_wipe_13 : decode cX6_wipe 13 = .ok (.putfield 106, 3) := by decide +kernel
theorem dX6_wipe_16 : decode cX6_wipe 16 = .ok (.iload_n 1, 1) := by decide +kernel
theorem dX6_wipe_17 : decode cX6_wipe 17 = .ok (.ireturn, 1) := by decide +kernel
theorem dX6_fault_0 : decode cX6_fault 0 = .ok (.aload_n 0, 1) := by decide +kernel
theorem dX6_fault_1 : decode cX6_fault 1 = .ok (.getfield 34, 3) := by decide +kernel
theorem dX6_fault_4 : decode cX6_fault 4 = .ok (.invokevirtual 111, 3) := by decide +kernel
theorem dX6_fault_7 : decode cX6_fault 7 = .ok (.ireturn, 1) := by decide +kernel
theorem dX6_load_0 : decode cX6_load 0 = .ok (.aload_n 0, 1) := by decide +kernel
theorem dX6_load_1 : decode cX6_load 1 = .ok (.getfield 34, 3) := by decide +kernel
theorem dX6_load_4 : decode cX6_load 4 = .ok (.invokevirtual 111, 3) := by decide +kernel
theorem dX6_load_7 : decode cX6_load 7 = .ok (.bipush (-6), 2) := by decide +kernel
theorem dX6_load_9 : decode cX6_load 9 = .ok (.if_icmp .eq 6, 3) := by decide +kernel
theorem dX6_load_12 : decode cX6_load 12 = .ok (.bipush (-3), 2) := by decide +kernel
theorem dX6_load_14 : decode cX6_load 14 = .ok (.ireturn, 1) := by decide +kernel
theorem dX6_load_15 : decode cX6_load 15 = .ok (.aload_n 0, 1) := by decide +kernel
theorem dX6_load_16 : decode cX6_load 16 = .ok (.getfield 34, 3) := by decide +kernel
theorem dX6_load_19 : decode cX6_load 19 = .ok (.invokevirtual 115, 3) := by decide +kernel
theorem dX6_load_22 : decode cX6_load 22 = .ok (.istore_n 1, 1) := by decide +kernel
theorem dX6_load_23 : decode cX6_load 23 = .ok (.aload_n 0, 1) := by decide +kernel
theorem dX6_load_24 : decode cX6_load 24 = .ok (.getfield 12, 3) := by decide +kernel
theorem dX6_load_27 : decode cX6_load 27 = .ok (.getfield 82, 3) := by decide +kernel
theorem dX6_load_30 : decode cX6_load 30 = .ok (.iload_n 1, 1) := by decide +kernel
theorem dX6_load_31 : decode cX6_load 31 = .ok (.iadd, 1) := by decide +kernel
theorem dX6_load_32 : decode cX6_load 32 = .ok (.sipush 240, 3) := by decide +kernel
theorem dX6_load_35 : decode cX6_load 35 = .ok (.if_icmp .le 6, 3) := by decide +kernel
theorem dX6_load_38 : decode cX6_load 38 = .ok (.bipush (-4), 2) := by decide +kernel
theorem dX6_load_40 : decode cX6_load 40 = .ok (.ireturn, 1) := by decide +kernel
theorem dX6_load_41 : decode cX6_load 41 = .ok (.aload_n 0, 1) := by decide +kernel
theorem dX6_load_42 : decode cX6_load 42 = .ok (.getfield 19, 3) := by decide +kernel
theorem dX6_load_45 : decode cX6_load 45 = .ok (.aload_n 0, 1) := by decide +kernel
theorem dX6_load_46 : decode cX6_load 46 = .ok (.getfield 12, 3) := by decide +kernel
theorem dX6_load_49 : decode cX6_load 49 = .ok (.invokevirtual 72, 3) := by decide +kernel
theorem dX6_load_52 : decode cX6_load 52 = .ok (.aload_n 0, 1) := by decide +kernel
theorem dX6_load_53 : decode cX6_load 53 = .ok (.getfield 34, 3) := by decide +kernel
theorem dX6_load_56 : decode cX6_load 56 = .ok (.getfield 118, 3) := by decide +kernel
theorem dX6_load_59 : decode cX6_load 59 = .ok (.iconst 0, 1) := by decide +kernel
theorem dX6_load_60 : decode cX6_load 60 = .ok (.aload_n 0, 1) := by decide +kernel
theorem dX6_load_61 : decode cX6_load 61 = .ok (.getfield 12, 3) := by decide +kernel
theorem dX6_load_64 : decode cX6_load 64 = .ok (.getfield 86, 3) := by decide +kernel
theorem dX6_load_67 : decode cX6_load 67 = .ok (.aload_n 0, 1) := by decide +kernel
theorem dX6_load_68 : decode cX6_load 68 = .ok (.getfield 12, 3) := by decide +kernel
theorem dX6_load_71 : decode cX6_load 71 = .ok (.getfield 82, 3) := by decide +kernel
theorem dX6_load_74 : decode cX6_load 74 = .ok (.iload_n 1, 1) := by decide +kernel
theorem dX6_load_75 : decode cX6_load 75 = .ok (.invokestatic 121, 3) := by decide +kernel
theorem dX6_load_78 : decode cX6_load 78 = .ok (.aload_n 0, 1) := by decide +kernel
theorem dX6_load_79 : decode cX6_load 79 = .ok (.getfield 12, 3) := by decide +kernel
theorem dX6_load_82 : decode cX6_load 82 = .ok (.dup, 1) := by decide +kernel
theorem dX6_load_83 : decode cX6_load 83 = .ok (.getfield 82, 3) := by decide +kernel
theorem dX6_load_86 : decode cX6_load 86 = .ok (.iload_n 1, 1) := by decide +kernel
theorem dX6_load_87 : decode cX6_load 87 = .ok (.iadd, 1) := by decide +kernel
theorem dX6_load_88 : decode cX6_load 88 = .ok (.putfield 82, 3) := by decide +kernel
theorem dX6_load_91 : decode cX6_load 91 = .ok (.aload_n 0, 1) := by decide +kernel
theorem dX6_load_92 : decode cX6_load 92 = .ok (.getfield 34, 3) := by decide +kernel
theorem dX6_load_95 : decode cX6_load 95 = .ok (.iconst 0, 1) := by decide +kernel
theorem dX6_load_96 : decode cX6_load 96 = .ok (.putfield 106, 3) := by decide +kernel
theorem dX6_load_99 : decode cX6_load 99 = .ok (.aload_n 0, 1) := by decide +kernel
theorem dX6_load_100 : decode cX6_load 100 = .ok (.getfield 12, 3) := by decide +kernel
theorem dX6_load_103 : decode cX6_load 103 = .ok (.invokevirtual 79, 3) := by decide +kernel
theorem dX6_load_106 : decode cX6_load 106 = .ok (.aload_n 0, 1) := by decide +kernel
theorem dX6_load_107 : decode cX6_load 107 = .ok (.invokevirtual 65, 3) := by decide +kernel
theorem dX6_load_110 : decode cX6_load 110 = .ok (.aload_n 0, 1) := by decide +kernel
theorem dX6_load_111 : decode cX6_load 111 = .ok (.getfield 12, 3) := by decide +kernel
theorem dX6_load_114 : decode cX6_load 114 = .ok (.getfield 82, 3) := by decide +kernel
theorem dX6_load_117 : decode cX6_load 117 = .ok (.ireturn, 1) := by decide +kernel
theorem dX6_sign_0 : decode cX6_sign 0 = .ok (.iload_n 1, 1) := by decide +kernel
theorem dX6_sign_1 : decode cX6_sign 1 = .ok (.ifCond .lt 14, 3) := by decide +kernel
theorem dX6_sign_4 : decode cX6_sign 4 = .ok (.iload_n 1, 1) := by decide +kernel
theorem dX6_sign_5 : decode cX6_sign 5 = .ok (.aload_n 0, 1) := by decide +kernel
theorem dX6_sign_6 : decode cX6_sign 6 = .ok (.getfield 12, 3) := by decide +kernel
theorem dX6_sign_9 : decode cX6_sign 9 = .ok (.getfield 82, 3) := by decide +kernel
theorem dX6_sign_12 : decode cX6_sign 12 = .ok (.if_icmp .lt 7, 3) := by decide +kernel
theorem dX6_sign_15 : decode cX6_sign 15 = .ok (.iconst (-1), 1) := by decide +kernel
theorem dX6_sign_16 : decode cX6_sign 16 = .ok (.goto 12, 3) := by decide +kernel
theorem dX6_sign_19 : decode cX6_sign 19 = .ok (.aload_n 0, 1) := by decide +kernel
theorem dX6_sign_20 : decode cX6_sign 20 = .ok (.getfield 12, 3) := by decide +kernel
theorem dX6_sign_23 : decode cX6_sign 23 = .ok (.getfield 86, 3) := by decide +kernel
theorem dX6_sign_26 : decode cX6_sign 26 = .ok (.iload_n 1, 1) := by decide +kernel
theorem dX6_sign_27 : decode cX6_sign 27 = .ok (.iaload, 1) := by decide +kernel
theorem dX6_sign_28 : decode cX6_sign 28 = .ok (.ireturn, 1) := by decide +kernel
theorem dX6_ofCode_0 : decode cX6_ofCode 0 = .ok (.aload_n 0, 1) := by decide +kernel
theorem dX6_ofCode_1 : decode cX6_ofCode 1 = .ok (.iload_n 1, 1) := by decide +kernel
theorem dX6_ofCode_2 : decode cX6_ofCode 2 = .ok (.invokevirtual 95, 3) := by decide +kernel
theorem dX6_ofCode_5 : decode cX6_ofCode 5 = .ok (.ifCond .ne 5, 3) := by decide +kernel
theorem dX6_ofCode_8 : decode cX6_ofCode 8 = .ok (.iconst (-1), 1) := by decide +kernel
theorem dX6_ofCode_9 : decode cX6_ofCode 9 = .ok (.ireturn, 1) := by decide +kernel
theorem dX6_ofCode_10 : decode cX6_ofCode 10 = .ok (.iload_n 2, 1) := by decide +kernel
theorem dX6_ofCode_11 : decode cX6_ofCode 11 = .ok (.tableswitch 94 0 5 #[37, 47, 54, 64, 74, 84], 37) := by decide +kernel
theorem dX6_ofCode_48 : decode cX6_ofCode 48 = .ok (.aload_n 0, 1) := by decide +kernel
theorem dX6_ofCode_49 : decode cX6_ofCode 49 = .ok (.getfield 41, 3) := by decide +kernel
theorem dX6_ofCode_52 : decode cX6_ofCode 52 = .ok (.getfield 127, 3) := by decide +kernel
theorem dX6_ofCode_55 : decode cX6_ofCode 55 = .ok (.iload_n 1, 1) := by decide +kernel
theorem dX6_ofCode_56 : decode cX6_ofCode 56 = .ok (.iaload, 1) := by decide +kernel
theorem dX6_ofCode_57 : decode cX6_ofCode 57 = .ok (.ireturn, 1) := by decide +kernel
theorem dX6_ofCode_58 : decode cX6_ofCode 58 = .ok (.aload_n 0, 1) := by decide +kernel
theorem dX6_ofCode_59 : decode cX6_ofCode 59 = .ok (.getfield 52, 3) := by decide +kernel
theorem dX6_ofCode_62 : decode cX6_ofCode 62 = .ok (.iload_n 1, 1) := by decide +kernel
theorem dX6_ofCode_63 : decode cX6_ofCode 63 = .ok (.iaload, 1) := by decide +kernel
theorem dX6_ofCode_64 : decode cX6_ofCode 64 = .ok (.ireturn, 1) := by decide +kernel
theorem dX6_ofCode_65 : decode cX6_ofCode 65 = .ok (.aload_n 0, 1) := by decide +kernel
theorem dX6_ofCode_66 : decode cX6_ofCode 66 = .ok (.getfield 41, 3) := by decide +kernel
theorem dX6_ofCode_69 : decode cX6_ofCode 69 = .ok (.getfield 130, 3) := by decide +kernel
theorem dX6_ofCode_72 : decode cX6_ofCode 72 = .ok (.iload_n 1, 1) := by decide +kernel
theorem dX6_ofCode_73 : decode cX6_ofCode 73 = .ok (.iaload, 1) := by decide +kernel
theorem dX6_ofCode_74 : decode cX6_ofCode 74 = .ok (.ireturn, 1) := by decide +kernel
theorem dX6_ofCode_75 : decode cX6_ofCode 75 = .ok (.aload_n 0, 1) := by decide +kernel
theorem dX6_ofCode_76 : decode cX6_ofCode 76 = .ok (.getfield 41, 3) := by decide +kernel
theorem dX6_ofCode_79 : decode cX6_ofCode 79 = .ok (.getfield 133, 3) := by decide +kernel
theorem dX6_ofCode_82 : decode cX6_ofCode 82 = .ok (.iload_n 1, 1) := by decide +kernel
theorem dX6_ofCode_83 : decode cX6_ofCode 83 = .ok (.iaload, 1) := by decide +kernel
theorem dX6_ofCode_84 : decode cX6_ofCode 84 = .ok (.ireturn, 1) := by decide +kernel
theorem dX6_ofCode_85 : decode cX6_ofCode 85 = .ok (.aload_n 0, 1) := by decide +kernel
theorem dX6_ofCode_86 : decode cX6_ofCode 86 = .ok (.getfield 41, 3) := by decide +kernel
theorem dX6_ofCode_89 : decode cX6_ofCode 89 = .ok (.getfield 136, 3) := by decide +kernel
theorem dX6_ofCode_92 : decode cX6_ofCode 92 = .ok (.iload_n 1, 1) := by decide +kernel
theorem dX6_ofCode_93 : decode cX6_ofCode 93 = .ok (.iaload, 1) := by decide +kernel
theorem dX6_ofCode_94 : decode cX6_ofCode 94 = .ok (.ireturn, 1) := by decide +kernel
theorem dX6_ofCode_95 : decode cX6_ofCode 95 = .ok (.aload_n 0, 1) := by decide +kernel
theorem dX6_ofCode_96 : decode cX6_ofCode 96 = .ok (.getfield 41, 3) := by decide +kernel
theorem dX6_ofCode_99 : decode cX6_ofCode 99 = .ok (.getfield 139, 3) := by decide +kernel
theorem dX6_ofCode_102 : decode cX6_ofCode 102 = .ok (.iload_n 1, 1) := by decide +kernel
theorem dX6_ofCode_103 : decode cX6_ofCode 103 = .ok (.iaload, 1) := by decide +kernel
theorem dX6_ofCode_104 : decode cX6_ofCode 104 = .ok (.ireturn, 1) := by decide +kernel
theorem dX6_ofCode_105 : decode cX6_ofCode 105 = .ok (.bipush (-2), 2) := by decide +kernel
theorem dX6_ofCode_107 : decode cX6_ofCode 107 = .ok (.ireturn, 1) := by decide +kernel
theorem dX6_count_0 : decode cX6_count 0 = .ok (.iload_n 1, 1) := by decide +kernel
theorem dX6_count_1 : decode cX6_count 1 = .ok (.tableswitch 168 0 11 #[63, 71, 79, 87, 95, 106, 114, 122, 130, 138, 148, 158], 63) := by decide +kernel
theorem dX6_count_64 : decode cX6_count 64 = .ok (.aload_n 0, 1) := by decide +kernel
theorem dX6_count_65 : decode cX6_count 65 = .ok (.getfield 12, 3) := by decide +kernel
theorem dX6_count_68 : decode cX6_count 68 = .ok (.getfield 82, 3) := by decide +kernel
theorem dX6_count_71 : decode cX6_count 71 = .ok (.ireturn, 1) := by decide +kernel
theorem dX6_count_72 : decode cX6_count 72 = .ok (.aload_n 0, 1) := by decide +kernel
theorem dX6_count_73 : decode cX6_count 73 = .ok (.getfield 41, 3) := by decide +kernel
theorem dX6_count_76 : decode cX6_count 76 = .ok (.getfield 142, 3) := by decide +kernel
theorem dX6_count_79 : decode cX6_count 79 = .ok (.ireturn, 1) := by decide +kernel
theorem dX6_count_80 : decode cX6_count 80 = .ok (.aload_n 0, 1) := by decide +kernel
theorem dX6_count_81 : decode cX6_count 81 = .ok (.getfield 41, 3) := by decide +kernel
theorem dX6_count_84 : decode cX6_count 84 = .ok (.getfield 145, 3) := by decide +kernel
theorem dX6_count_87 : decode cX6_count 87 = .ok (.ireturn, 1) := by decide +kernel
theorem dX6_count_88 : decode cX6_count 88 = .ok (.aload_n 0, 1) := by decide +kernel
theorem dX6_count_89 : decode cX6_count 89 = .ok (.getfield 41, 3) := by decide +kernel
theorem dX6_count_92 : decode cX6_count 92 = .ok (.getfield 148, 3) := by decide +kernel
theorem dX6_count_95 : decode cX6_count 95 = .ok (.ireturn, 1) := by decide +kernel
theorem dX6_count_96 : decode cX6_count 96 = .ok (.aload_n 0, 1) := by decide +kernel
theorem dX6_count_97 : decode cX6_count 97 = .ok (.getfield 41, 3) := by decide +kernel
theorem dX6_count_100 : decode cX6_count 100 = .ok (.getfield 151, 3) := by decide +kernel
theorem dX6_count_103 : decode cX6_count 103 = .ok (.getfield 155, 3) := by decide +kernel
theorem dX6_count_106 : decode cX6_count 106 = .ok (.ireturn, 1) := by decide +kernel
theorem dX6_count_107 : decode cX6_count 107 = .ok (.aload_n 0, 1) := by decide +kernel
theorem dX6_count_108 : decode cX6_count 108 = .ok (.getfield 41, 3) := by decide +kernel
theorem dX6_count_111 : decode cX6_count 111 = .ok (.getfield 160, 3) := by decide +kernel
theorem dX6_count_114 : decode cX6_count 114 = .ok (.ireturn, 1) := by decide +kernel
theorem dX6_count_115 : decode cX6_count 115 = .ok (.aload_n 0, 1) := by decide +kernel
theorem dX6_count_116 : decode cX6_count 116 = .ok (.getfield 12, 3) := by decide +kernel
theorem dX6_count_119 : decode cX6_count 119 = .ok (.invokevirtual 163, 3) := by decide +kernel
theorem dX6_count_122 : decode cX6_count 122 = .ok (.ireturn, 1) := by decide +kernel
theorem dX6_count_123 : decode cX6_count 123 = .ok (.aload_n 0, 1) := by decide +kernel
theorem dX6_count_124 : decode cX6_count 124 = .ok (.getfield 34, 3) := by decide +kernel
theorem dX6_count_127 : decode cX6_count 127 = .ok (.getfield 106, 3) := by decide +kernel
theorem dX6_count_130 : decode cX6_count 130 = .ok (.ireturn, 1) := by decide +kernel
theorem dX6_count_131 : decode cX6_count 131 = .ok (.aload_n 0, 1) := by decide +kernel
theorem dX6_count_132 : decode cX6_count 132 = .ok (.getfield 19, 3) := by decide +kernel
theorem dX6_count_135 : decode cX6_count 135 = .ok (.getfield 166, 3) := by decide +kernel
theorem dX6_count_138 : decode cX6_count 138 = .ok (.ireturn, 1) := by decide +kernel
theorem dX6_count_139 : decode cX6_count 139 = .ok (.aload_n 0, 1) := by decide +kernel
theorem dX6_count_140 : decode cX6_count 140 = .ok (.getfield 12, 3) := by decide +kernel
theorem dX6_count_143 : decode cX6_count 143 = .ok (.getfield 76, 3) := by decide +kernel
theorem dX6_count_146 : decode cX6_count 146 = .ok (.iconst 0, 1) := by decide +kernel
theorem dX6_count_147 : decode cX6_count 147 = .ok (.iaload, 1) := by decide +kernel
theorem dX6_count_148 : decode cX6_count 148 = .ok (.ireturn, 1) := by decide +kernel
theorem dX6_count_149 : decode cX6_count 149 = .ok (.aload_n 0, 1) := by decide +kernel
theorem dX6_count_150 : decode cX6_count 150 = .ok (.getfield 12, 3) := by decide +kernel
theorem dX6_count_153 : decode cX6_count 153 = .ok (.getfield 76, 3) := by decide +kernel
theorem dX6_count_156 : decode cX6_count 156 = .ok (.iconst 1, 1) := by decide +kernel
theorem dX6_count_157 : decode cX6_count 157 = .ok (.iaload, 1) := by decide +kernel
theorem dX6_count_158 : decode cX6_count 158 = .ok (.ireturn, 1) := by decide +kernel
theorem dX6_count_159 : decode cX6_count 159 = .ok (.aload_n 0, 1) := by decide +kernel
theorem dX6_count_160 : decode cX6_count 160 = .ok (.getfield 12, 3) := by decide +kernel
theorem dX6_count_163 : decode cX6_count 163 = .ok (.getfield 76, 3) := by decide +kernel
theorem dX6_count_166 : decode cX6_count 166 = .ok (.iconst 2, 1) := by decide +kernel
theorem dX6_count_167 : decode cX6_count 167 = .ok (.iaload, 1) := by decide +kernel
theorem dX6_count_168 : decode cX6_count 168 = .ok (.ireturn, 1) := by decide +kernel
theorem dX6_count_169 : decode cX6_count 169 = .ok (.bipush (-2), 2) := by decide +kernel
theorem dX6_count_171 : decode cX6_count 171 = .ok (.ireturn, 1) := by decide +kernel
theorem dX6_entry_0 : decode cX6_entry 0 = .ok (.iload_n 1, 1) := by decide +kernel
theorem dX6_entry_1 : decode cX6_entry 1 = .ok (.ifCond .lt 24, 3) := by decide +kernel
theorem dX6_entry_4 : decode cX6_entry 4 = .ok (.iload_n 1, 1) := by decide +kernel
theorem dX6_entry_5 : decode cX6_entry 5 = .ok (.aload_n 0, 1) := by decide +kernel
theorem dX6_entry_6 : decode cX6_entry 6 = .ok (.getfield 41, 3) := by decide +kernel
theorem dX6_entry_9 : decode cX6_entry 9 = .ok (.getfield 151, 3) := by decide +kernel
theorem dX6_entry_12 : decode cX6_entry 12 = .ok (.getfield 155, 3) := by decide +kernel
theorem dX6_entry_15 : decode cX6_entry 15 = .ok (.if_icmp .ge 10, 3) := by decide +kernel
theorem dX6_entry_18 : decode cX6_entry 18 = .ok (.iload_n 1, 1) := by decide +kernel
theorem dX6_entry_19 : decode cX6_entry 19 = .ok (.sipush 512, 3) := by decide +kernel
theorem dX6_entry_22 : decode cX6_entry 22 = .ok (.if_icmp .lt 5, 3) := by decide +kernel
theorem dX6_entry_25 : decode cX6_entry 25 = .ok (.iconst (-1), 1) := by decide +kernel
theorem dX6_entry_26 : decode cX6_entry 26 = .ok (.ireturn, 1) := by decide +kernel
theorem dX6_entry_27 : decode cX6_entry 27 = .ok (.iload_n 2, 1) := by decide +kernel
theorem dX6_entry_28 : decode cX6_entry 28 = .ok (.tableswitch 67 0 2 #[28, 41, 54], 28) := by decide +kernel
theorem dX6_entry_56 : decode cX6_entry 56 = .ok (.aload_n 0, 1) := by decide +kernel
theorem dX6_entry_57 : decode cX6_entry 57 = .ok (.getfield 41, 3) := by decide +kernel
theorem dX6_entry_60 : decode cX6_entry 60 = .ok (.getfield 151, 3) := by decide +kernel
theorem dX6_entry_63 : decode cX6_entry 63 = .ok (.getfield 169, 3) := by decide +kernel
theorem dX6_entry_66 : decode cX6_entry 66 = .ok (.iload_n 1, 1) := by decide +kernel
theorem dX6_entry_67 : decode cX6_entry 67 = .ok (.iaload, 1) := by decide +kernel
theorem dX6_entry_68 : decode cX6_entry 68 = .ok (.ireturn, 1) := by decide +kernel
theorem dX6_entry_69 : decode cX6_entry 69 = .ok (.aload_n 0, 1) := by decide +kernel
theorem dX6_entry_70 : decode cX6_entry 70 = .ok (.getfield 41, 3) := by decide +kernel
theorem dX6_entry_73 : decode cX6_entry 73 = .ok (.getfield 151, 3) := by decide +kernel
theorem dX6_entry_76 : decode cX6_entry 76 = .ok (.getfield 170, 3) := by decide +kernel
theorem dX6_entry_79 : decode cX6_entry 79 = .ok (.iload_n 1, 1) := by decide +kernel
theorem dX6_entry_80 : decode cX6_entry 80 = .ok (.iaload, 1) := by decide +kernel
theorem dX6_entry_81 : decode cX6_entry 81 = .ok (.ireturn, 1) := by decide +kernel
theorem dX6_entry_82 : decode cX6_entry 82 = .ok (.aload_n 0, 1) := by decide +kernel
theorem dX6_entry_83 : decode cX6_entry 83 = .ok (.getfield 41, 3) := by decide +kernel
theorem dX6_entry_86 : decode cX6_entry 86 = .ok (.getfield 151, 3) := by decide +kernel
theorem dX6_entry_89 : decode cX6_entry 89 = .ok (.getfield 173, 3) := by decide +kernel
theorem dX6_entry_92 : decode cX6_entry 92 = .ok (.iload_n 1, 1) := by decide +kernel
theorem dX6_entry_93 : decode cX6_entry 93 = .ok (.iaload, 1) := by decide +kernel
theorem dX6_entry_94 : decode cX6_entry 94 = .ok (.ireturn, 1) := by decide +kernel
theorem dX6_entry_95 : decode cX6_entry 95 = .ok (.bipush (-2), 2) := by decide +kernel
theorem dX6_entry_97 : decode cX6_entry 97 = .ok (.ireturn, 1) := by decide +kernel
theorem dX6_reading_0 : decode cX6_reading 0 = .ok (.iload_n 1, 1) := by decide +kernel
theorem dX6_reading_1 : decode cX6_reading 1 = .ok (.tableswitch 101 0 5 #[39, 47, 55, 63, 71, 79], 39) := by decide +kernel
theorem dX6_reading_40 : decode cX6_reading 40 = .ok (.aload_n 0, 1) := by decide +kernel
theorem dX6_reading_41 : decode cX6_reading 41 = .ok (.getfield 48, 3) := by decide +kernel
theorem dX6_reading_44 : decode cX6_reading 44 = .ok (.getfield 176, 3) := by decide +kernel
theorem dX6_reading_47 : decode cX6_reading 47 = .ok (.ireturn, 1) := by decide +kernel
theorem dX6_reading_48 : decode cX6_reading 48 = .ok (.aload_n 0, 1) := by decide +kernel
theorem dX6_reading_49 : decode cX6_reading 49 = .ok (.getfield 48, 3) := by decide +kernel
theorem dX6_reading_52 : decode cX6_reading 52 = .ok (.getfield 179, 3) := by decide +kernel
theorem dX6_reading_55 : decode cX6_reading 55 = .ok (.ireturn, 1) := by decide +kernel
theorem dX6_reading_56 : decode cX6_reading 56 = .ok (.aload_n 0, 1) := by decide +kernel
theorem dX6_reading_57 : decode cX6_reading 57 = .ok (.getfield 48, 3) := by decide +kernel
theorem dX6_reading_60 : decode cX6_reading 60 = .ok (.getfield 182, 3) := by decide +kernel
theorem dX6_reading_63 : decode cX6_reading 63 = .ok (.ireturn, 1) := by decide +kernel
theorem dX6_reading_64 : decode cX6_reading 64 = .ok (.aload_n 0, 1) := by decide +kernel
theorem dX6_reading_65 : decode cX6_reading 65 = .ok (.getfield 48, 3) := by decide +kernel
theorem dX6_reading_68 : decode cX6_reading 68 = .ok (.getfield 185, 3) := by decide +kernel
theorem dX6_reading_71 : decode cX6_reading 71 = .ok (.ireturn, 1) := by decide +kernel
theorem dX6_reading_72 : decode cX6_reading 72 = .ok (.aload_n 0, 1) := by decide +kernel
theorem dX6_reading_73 : decode cX6_reading 73 = .ok (.getfield 48, 3) := by decide +kernel
theorem dX6_reading_76 : decode cX6_reading 76 = .ok (.getfield 186, 3) := by decide +kernel
theorem dX6_reading_79 : decode cX6_reading 79 = .ok (.ireturn, 1) := by decide +kernel
theorem dX6_reading_80 : decode cX6_reading 80 = .ok (.aload_n 0, 1) := by decide +kernel
theorem dX6_reading_81 : decode cX6_reading 81 = .ok (.getfield 48, 3) := by decide +kernel
theorem dX6_reading_84 : decode cX6_reading 84 = .ok (.aload_n 0, 1) := by decide +kernel
theorem dX6_reading_85 : decode cX6_reading 85 = .ok (.getfield 12, 3) := by decide +kernel
theorem dX6_reading_88 : decode cX6_reading 88 = .ok (.getfield 86, 3) := by decide +kernel
theorem dX6_reading_91 : decode cX6_reading 91 = .ok (.aload_n 0, 1) := by decide +kernel
theorem dX6_reading_92 : decode cX6_reading 92 = .ok (.getfield 12, 3) := by decide +kernel
theorem dX6_reading_95 : decode cX6_reading 95 = .ok (.getfield 82, 3) := by decide +kernel
theorem dX6_reading_98 : decode cX6_reading 98 = .ok (.invokevirtual 189, 3) := by decide +kernel
theorem dX6_reading_101 : decode cX6_reading 101 = .ok (.ireturn, 1) := by decide +kernel
theorem dX6_reading_102 : decode cX6_reading 102 = .ok (.bipush (-2), 2) := by decide +kernel
theorem dX6_reading_104 : decode cX6_reading 104 = .ok (.ireturn, 1) := by decide +kernel
theorem dX6_read_0 : decode cX6_read 0 = .ok (.iload_n 1, 1) := by decide +kernel
theorem dX6_read_1 : decode cX6_read 1 = .ok (.ifCond .lt 20, 3) := by decide +kernel
theorem dX6_read_4 : decode cX6_read 4 = .ok (.iload_n 1, 1) := by decide +kernel
theorem dX6_read_5 : decode cX6_read 5 = .ok (.aload_n 0, 1) := by decide +kernel
theorem dX6_read_6 : decode cX6_read 6 = .ok (.getfield 48, 3) := by decide +kernel
theorem dX6_read_9 : decode cX6_read 9 = .ok (.getfield 176, 3) := by decide +kernel
theorem dX6_read_12 : decode cX6_read 12 = .ok (.if_icmp .ge 9, 3) := by decide +kernel
theorem dX6_read_15 : decode cX6_read 15 = .ok (.iload_n 1, 1) := by decide +kernel
theorem dX6_read_16 : decode cX6_read 16 = .ok (.ldc 193, 2) := by decide +kernel
theorem dX6_read_18 : decode cX6_read 18 = .ok (.if_icmp .lt 7, 3) := by decide +kernel
theorem dX6_read_21 : decode cX6_read 21 = .ok (.iconst (-1), 1) := by decide +kernel
theorem dX6_read_22 : decode cX6_read 22 = .ok (.goto 12, 3) := by decide +kernel
theorem dX6_read_25 : decode cX6_read 25 = .ok (.aload_n 0, 1) := by decide +kernel
theorem dX6_read_26 : decode cX6_read 26 = .ok (.getfield 48, 3) := by decide +kernel
theorem dX6_read_29 : decode cX6_read 29 = .ok (.getfield 194, 3) := by decide +kernel
theorem dX6_read_32 : decode cX6_read 32 = .ok (.iload_n 1, 1) := by decide +kernel
theorem dX6_read_33 : decode cX6_read 33 = .ok (.iaload, 1) := by decide +kernel
theorem dX6_read_34 : decode cX6_read 34 = .ok (.ireturn, 1) := by decide +kernel
theorem dX6_bitsWith_0 : decode cX6_bitsWith 0 = .ok (.iconst 0, 1) := by decide +kernel
theorem dX6_bitsWith_1 : decode cX6_bitsWith 1 = .ok (.iload_n 1, 1) := by decide +kernel
theorem dX6_bitsWith_2 : decode cX6_bitsWith 2 = .ok (.invokestatic 68, 3) := by decide +kernel
theorem dX6_bitsWith_5 : decode cX6_bitsWith 5 = .ok (.ifCond .eq 11, 3) := by decide +kernel
theorem dX6_bitsWith_8 : decode cX6_bitsWith 8 = .ok (.iconst 1, 1) := by decide +kernel
theorem dX6_bitsWith_9 : decode cX6_bitsWith 9 = .ok (.iload_n 2, 1) := by decide +kernel
theorem dX6_bitsWith_10 : decode cX6_bitsWith 10 = .ok (.invokestatic 68, 3) := by decide +kernel
theorem dX6_bitsWith_13 : decode cX6_bitsWith 13 = .ok (.ifCond .ne 6, 3) := by decide +kernel
theorem dX6_bitsWith_16 : decode cX6_bitsWith 16 = .ok (.bipush (-2), 2) := by decide +kernel
theorem dX6_bitsWith_18 : decode cX6_bitsWith 18 = .ok (.ireturn, 1) := by decide +kernel
theorem dX6_bitsWith_19 : decode cX6_bitsWith 19 = .ok (.aload_n 0, 1) := by decide +kernel
theorem dX6_bitsWith_20 : decode cX6_bitsWith 20 = .ok (.aload_n 0, 1) := by decide +kernel
theorem dX6_bitsWith_21 : decode cX6_bitsWith 21 = .ok (.getfield 12, 3) := by decide +kernel
theorem dX6_bitsWith_24 : decode cX6_bitsWith 24 = .ok (.getfield 82, 3) := by decide +kernel
theorem dX6_bitsWith_27 : decode cX6_bitsWith 27 = .ok (.iload_n 1, 1) := by decide +kernel
theorem dX6_bitsWith_28 : decode cX6_bitsWith 28 = .ok (.iload_n 2, 1) := by decide +kernel
theorem dX6_bitsWith_29 : decode cX6_bitsWith 29 = .ok (.invokevirtual 195, 3) := by decide +kernel
theorem dX6_bitsWith_32 : decode cX6_bitsWith 32 = .ok (.ireturn, 1) := by decide +kernel
theorem dX6_best_0 : decode cX6_best 0 = .ok (.iload_n 1, 1) := by decide +kernel
theorem dX6_best_1 : decode cX6_best 1 = .ok (.ifCond .lt 8, 3) := by decide +kernel
theorem dX6_best_4 : decode cX6_best 4 = .ok (.iload_n 1, 1) := by decide +kernel
theorem dX6_best_5 : decode cX6_best 5 = .ok (.iconst 2, 1) := by decide +kernel
theorem dX6_best_6 : decode cX6_best 6 = .ok (.if_icmp .le 6, 3) := by decide +kernel
theorem dX6_best_9 : decode cX6_best 9 = .ok (.bipush (-2), 2) := by decide +kernel
theorem dX6_best_11 : decode cX6_best 11 = .ok (.ireturn, 1) := by decide +kernel
theorem dX6_best_12 : decode cX6_best 12 = .ok (.bipush (-6), 2) := by decide +kernel
theorem dX6_best_14 : decode cX6_best 14 = .ok (.istore_n 2, 1) := by decide +kernel
theorem dX6_best_15 : decode cX6_best 15 = .ok (.bipush (-6), 2) := by decide +kernel
theorem dX6_best_17 : decode cX6_best 17 = .ok (.istore_n 3, 1) := by decide +kernel
theorem dX6_best_18 : decode cX6_best 18 = .ok (.ldc 199, 2) := by decide +kernel
theorem dX6_best_20 : decode cX6_best 20 = .ok (.istore 4, 2) := by decide +kernel
theorem dX6_best_22 : decode cX6_best 22 = .ok (.getstatic 200, 3) := by decide +kernel
theorem dX6_best_25 : decode cX6_best 25 = .ok (.iconst 0, 1) := by decide +kernel
theorem dX6_best_26 : decode cX6_best 26 = .ok (.iaload, 1) := by decide +kernel
theorem dX6_best_27 : decode cX6_best 27 = .ok (.istore 5, 2) := by decide +kernel
theorem dX6_best_29 : decode cX6_best 29 = .ok (.iload 5, 2) := by decide +kernel
theorem dX6_best_31 : decode cX6_best 31 = .ok (.getstatic 203, 3) := by decide +kernel
theorem dX6_best_34 : decode cX6_best 34 = .ok (.iconst 0, 1) := by decide +kernel
theorem dX6_best_35 : decode cX6_best 35 = .ok (.iaload, 1) := by decide +kernel
theorem dX6_best_36 : decode cX6_best 36 = .ok (.if_icmp .gt 66, 3) := by decide +kernel
theorem dX6_best_39 : decode cX6_best 39 = .ok (.getstatic 200, 3) := by decide +kernel
theorem dX6_best_42 : decode cX6_best 42 = .ok (.iconst 1, 1) := by decide +kernel
theorem dX6_best_43 : decode cX6_best 43 = .ok (.iaload, 1) := by decide +kernel
theorem dX6_best_44 : decode cX6_best 44 = .ok (.istore 6, 2) := by decide +kernel
theorem dX6_best_46 : decode cX6_best 46 = .ok (.iload 6, 2) := by decide +kernel
theorem dX6_best_48 : decode cX6_best 48 = .ok (.getstatic 203, 3) := by decide +kernel
theorem dX6_best_51 : decode cX6_best 51 = .ok (.iconst 1, 1) := by decide +kernel
theorem dX6_best_52 : decode cX6_best 52 = .ok (.iaload, 1) := by decide +kernel
theorem dX6_best_53 : decode cX6_best 53 = .ok (.if_icmp .gt 43, 3) := by decide +kernel
theorem dX6_best_56 : decode cX6_best 56 = .ok (.aload_n 0, 1) := by decide +kernel
theorem dX6_best_57 : decode cX6_best 57 = .ok (.aload_n 0, 1) := by decide +kernel
theorem dX6_best_58 : decode cX6_best 58 = .ok (.getfield 12, 3) := by decide +kernel
theorem dX6_best_61 : decode cX6_best 61 = .ok (.getfield 82, 3) := by decide +kernel
theorem dX6_best_64 : decode cX6_best 64 = .ok (.iload 5, 2) := by decide +kernel
theorem dX6_best_66 : decode cX6_best 66 = .ok (.iload 6, 2) := by decide +kernel
theorem dX6_best_68 : decode cX6_best 68 = .ok (.invokevirtual 195, 3) := by decide +kernel
theorem dX6_best_71 : decode cX6_best 71 = .ok (.istore 7, 2) := by decide +kernel
theorem dX6_best_73 : decode cX6_best 73 = .ok (.iload 7, 2) := by decide +kernel
theorem dX6_best_75 : decode cX6_best 75 = .ok (.iload 4, 2) := by decide +kernel
theorem dX6_best_77 : decode cX6_best 77 = .ok (.if_icmp .ge 13, 3) := by decide +kernel
theorem dX6_best_80 : decode cX6_best 80 = .ok (.iload 5, 2) := by decide +kernel
theorem dX6_best_82 : decode cX6_best 82 = .ok (.istore_n 2, 1) := by decide +kernel
theorem dX6_best_83 : decode cX6_best 83 = .ok (.iload 6, 2) := by decide +kernel
theorem dX6_best_85 : decode cX6_best 85 = .ok (.istore_n 3, 1) := by decide +kernel
theorem dX6_best_86 : decode cX6_best 86 = .ok (.iload 7, 2) := by decide +kernel
theorem dX6_best_88 : decode cX6_best 88 = .ok (.istore 4, 2) := by decide +kernel
theorem dX6_best_90 : decode cX6_best 90 = .ok (.iinc 6 1, 3) := by decide +kernel
theorem dX6_best_93 : decode cX6_best 93 = .ok (.goto (-47), 3) := by decide +kernel
theorem dX6_best_96 : decode cX6_best 96 = .ok (.iinc 5 1, 3) := by decide +kernel
theorem dX6_best_99 : decode cX6_best 99 = .ok (.goto (-70), 3) := by decide +kernel
theorem dX6_best_102 : decode cX6_best 102 = .ok (.iload_n 1, 1) := by decide +kernel
theorem dX6_best_103 : decode cX6_best 103 = .ok (.ifCond .ne 7, 3) := by decide +kernel
theorem dX6_best_106 : decode cX6_best 106 = .ok (.iload_n 2, 1) := by decide +kernel
theorem dX6_best_107 : decode cX6_best 107 = .ok (.goto 14, 3) := by decide +kernel
theorem dX6_best_110 : decode cX6_best 110 = .ok (.iload_n 1, 1) := by decide +kernel
theorem dX6_best_111 : decode cX6_best 111 = .ok (.iconst 1, 1) := by decide +kernel
theorem dX6_best_112 : decode cX6_best 112 = .ok (.if_icmp .ne 7, 3) := by decide +kernel
theorem dX6_best_115 : decode cX6_best 115 = .ok (.iload_n 3, 1) := by decide +kernel
theorem dX6_best_116 : decode cX6_best 116 = .ok (.goto 5, 3) := by decide +kernel
theorem dX6_best_119 : decode cX6_best 119 = .ok (.iload 4, 2) := by decide +kernel
theorem dX6_best_121 : decode cX6_best 121 = .ok (.ireturn, 1) := by decide +kernel
theorem dX6_tenderest_0 : decode cX6_tenderest 0 = .ok (.iload_n 1, 1) := by decide +kernel
theorem dX6_tenderest_1 : decode cX6_tenderest 1 = .ok (.ifCond .eq 11, 3) := by decide +kernel
theorem dX6_tenderest_4 : decode cX6_tenderest 4 = .ok (.iload_n 1, 1) := by decide +kernel
theorem dX6_tenderest_5 : decode cX6_tenderest 5 = .ok (.iconst 1, 1) := by decide +kernel
theorem dX6_tenderest_6 : decode cX6_tenderest 6 = .ok (.if_icmp .eq 6, 3) := by decide +kernel
theorem dX6_tenderest_9 : decode cX6_tenderest 9 = .ok (.bipush (-2), 2) := by decide +kernel
theorem dX6_tenderest_11 : decode cX6_tenderest 11 = .ok (.ireturn, 1) := by decide +kernel
theorem dX6_tenderest_12 : decode cX6_tenderest 12 = .ok (.iconst 0, 1) := by decide +kernel
theorem dX6_tenderest_13 : decode cX6_tenderest 13 = .ok (.istore_n 2, 1) := by decide +kernel
theorem dX6_tenderest_14 : decode cX6_tenderest 14 = .ok (.ldc 199, 2) := by decide +kernel
theorem dX6_tenderest_16 : decode cX6_tenderest 16 = .ok (.istore_n 3, 1) := by decide +kernel
theorem dX6_tenderest_17 : decode cX6_tenderest 17 = .ok (.iconst 0, 1) := by decide +kernel
theorem dX6_tenderest_18 : decode cX6_tenderest 18 = .ok (.istore 4, 2) := by decide +kernel
theorem dX6_tenderest_20 : decode cX6_tenderest 20 = .ok (.iload 4, 2) := by decide +kernel
theorem dX6_tenderest_22 : decode cX6_tenderest 22 = .ok (.aload_n 0, 1) := by decide +kernel
theorem dX6_tenderest_23 : decode cX6_tenderest 23 = .ok (.getfield 41, 3) := by decide +kernel
theorem dX6_tenderest_26 : decode cX6_tenderest 26 = .ok (.getfield 142, 3) := by decide +kernel
theorem dX6_tenderest_29 : decode cX6_tenderest 29 = .ok (.if_icmp .ge 33, 3) := by decide +kernel
theorem dX6_tenderest_32 : decode cX6_tenderest 32 = .ok (.iload_n 3, 1) := by decide +kernel
theorem dX6_tenderest_33 : decode cX6_tenderest 33 = .ok (.ifCond .le 29, 3) := by decide +kernel
theorem dX6_tenderest_36 : decode cX6_tenderest 36 = .ok (.aload_n 0, 1) := by decide +kernel
theorem dX6_tenderest_37 : decode cX6_tenderest 37 = .ok (.iload 4, 2) := by decide +kernel
theorem dX6_tenderest_39 : decode cX6_tenderest 39 = .ok (.invokevirtual 206, 3) := by decide +kernel
theorem dX6_tenderest_42 : decode cX6_tenderest 42 = .ok (.istore 5, 2) := by decide +kernel
theorem dX6_tenderest_44 : decode cX6_tenderest 44 = .ok (.iload 5, 2) := by decide +kernel
theorem dX6_tenderest_46 : decode cX6_tenderest 46 = .ok (.iload_n 3, 1) := by decide +kernel
theorem dX6_tenderest_47 : decode cX6_tenderest 47 = .ok (.if_icmp .ge 9, 3) := by decide +kernel
theorem dX6_tenderest_50 : decode cX6_tenderest 50 = .ok (.iload 4, 2) := by decide +kernel
theorem dX6_tenderest_52 : decode cX6_tenderest 52 = .ok (.istore_n 2, 1) := by decide +kernel
theorem dX6_tenderest_53 : decode cX6_tenderest 53 = .ok (.iload 5, 2) := by decide +kernel
theorem dX6_tenderest_55 : decode cX6_tenderest 55 = .ok (.istore_n 3, 1) := by decide +kernel
theorem dX6_tenderest_56 : decode cX6_tenderest 56 = .ok (.iinc 4 1, 3) := by decide +kernel
theorem dX6_tenderest_59 : decode cX6_tenderest 59 = .ok (.goto (-39), 3) := by decide +kernel
theorem dX6_tenderest_62 : decode cX6_tenderest 62 = .ok (.iload_n 1, 1) := by decide +kernel
theorem dX6_tenderest_63 : decode cX6_tenderest 63 = .ok (.ifCond .ne 7, 3) := by decide +kernel
theorem dX6_tenderest_66 : decode cX6_tenderest 66 = .ok (.iload_n 2, 1) := by decide +kernel
theorem dX6_tenderest_67 : decode cX6_tenderest 67 = .ok (.goto 4, 3) := by decide +kernel
theorem dX6_tenderest_70 : decode cX6_tenderest 70 = .ok (.iload_n 3, 1) := by decide +kernel
theorem dX6_tenderest_71 : decode cX6_tenderest 71 = .ok (.ireturn, 1) := by decide +kernel
theorem dX6_cheapest_0 : decode cX6_cheapest 0 = .ok (.iload_n 1, 1) := by decide +kernel
theorem dX6_cheapest_1 : decode cX6_cheapest 1 = .ok (.ifCond .eq 11, 3) := by decide +kernel
theorem dX6_cheapest_4 : decode cX6_cheapest 4 = .ok (.iload_n 1, 1) := by decide +kernel
theorem dX6_cheapest_5 : decode cX6_cheapest 5 = .ok (.iconst 1, 1) := by decide +kernel
theorem dX6_cheapest_6 : decode cX6_cheapest 6 = .ok (.if_icmp .eq 6, 3) := by decide +kernel
theorem dX6_cheapest_9 : decode cX6_cheapest 9 = .ok (.bipush (-2), 2) := by decide +kernel
theorem dX6_cheapest_11 : decode cX6_cheapest 11 = .ok (.ireturn, 1) := by decide +kernel
theorem dX6_cheapest_12 : decode cX6_cheapest 12 = .ok (.aload_n 0, 1) := by decide +kernel
theorem dX6_cheapest_13 : decode cX6_cheapest 13 = .ok (.getfield 12, 3) := by decide +kernel
theorem dX6_cheapest_16 : decode cX6_cheapest 16 = .ok (.getfield 82, 3) := by decide +kernel
theorem dX6_cheapest_19 : decode cX6_cheapest 19 = .ok (.sipush 240, 3) := by decide +kernel
theorem dX6_cheapest_22 : decode cX6_cheapest 22 = .ok (.if_icmp .lt 6, 3) := by decide +kernel
theorem dX6_cheapest_25 : decode cX6_cheapest 25 = .ok (.bipush (-5), 2) := by decide +kernel
theorem dX6_cheapest_27 : decode cX6_cheapest 27 = .ok (.ireturn, 1) := by decide +kernel
theorem dX6_cheapest_28 : decode cX6_cheapest 28 = .ok (.iconst 0, 1) := by decide +kernel
theorem dX6_cheapest_29 : decode cX6_cheapest 29 = .ok (.istore_n 2, 1) := by decide +kernel
theorem dX6_cheapest_30 : decode cX6_cheapest 30 = .ok (.ldc 199, 2) := by decide +kernel
theorem dX6_cheapest_32 : decode cX6_cheapest 32 = .ok (.istore_n 3, 1) := by decide +kernel
theorem dX6_cheapest_33 : decode cX6_cheapest 33 = .ok (.iconst 0, 1) := by decide +kernel
theorem dX6_cheapest_34 : decode cX6_cheapest 34 = .ok (.istore 4, 2) := by decide +kernel
theorem dX6_cheapest_36 : decode cX6_cheapest 36 = .ok (.iload 4, 2) := by decide +kernel
theorem dX6_cheapest_38 : decode cX6_cheapest 38 = .ok (.bipush 8, 2) := by decide +kernel
theorem dX6_cheapest_40 : decode cX6_cheapest 40 = .ok (.if_icmp .ge 71, 3) := by decide +kernel
theorem dX6_cheapest_43 : decode cX6_cheapest 43 = .ok (.aload_n 0, 1) := by decide +kernel
theorem dX6_cheapest_44 : decode cX6_cheapest 44 = .ok (.getfield 12, 3) := by decide +kernel
theorem dX6_cheapest_47 : decode cX6_cheapest 47 = .ok (.getfield 86, 3) := by decide +kernel
theorem dX6_cheapest_50 : decode cX6_cheapest 50 = .ok (.aload_n 0, 1) := by decide +kernel
theorem dX6_cheapest_51 : decode cX6_cheapest 51 = .ok (.getfield 12, 3) := by decide +kernel
theorem dX6_cheapest_54 : decode cX6_cheapest 54 = .ok (.getfield 82, 3) := by decide +kernel
theorem dX6_cheapest_57 : decode cX6_cheapest 57 = .ok (.iload 4, 2) := by decide +kernel
theorem dX6_cheapest_59 : decode cX6_cheapest 59 = .ok (.iastore, 1) := by decide +kernel
theorem dX6_cheapest_60 : decode cX6_cheapest 60 = .ok (.aload_n 0, 1) := by decide +kernel
theorem dX6_cheapest_61 : decode cX6_cheapest 61 = .ok (.aload_n 0, 1) := by decide +kernel
theorem dX6_cheapest_62 : decode cX6_cheapest 62 = .ok (.getfield 12, 3) := by decide +kernel
theorem dX6_cheapest_65 : decode cX6_cheapest 65 = .ok (.getfield 82, 3) := by decide +kernel
theorem dX6_cheapest_68 : decode cX6_cheapest 68 = .ok (.iconst 1, 1) := by decide +kernel
theorem dX6_cheapest_69 : decode cX6_cheapest 69 = .ok (.iadd, 1) := by decide +kernel
theorem dX6_cheapest_70 : decode cX6_cheapest 70 = .ok (.aload_n 0, 1) := by decide +kernel
theorem dX6_cheapest_71 : decode cX6_cheapest 71 = .ok (.getfield 12, 3) := by decide +kernel
theorem dX6_cheapest_74 : decode cX6_cheapest 74 = .ok (.getfield 76, 3) := by decide +kernel
theorem dX6_cheapest_77 : decode cX6_cheapest 77 = .ok (.iconst 0, 1) := by decide +kernel
theorem dX6_cheapest_78 : decode cX6_cheapest 78 = .ok (.iaload, 1) := by decide +kernel
theorem dX6_cheapest_79 : decode cX6_cheapest 79 = .ok (.aload_n 0, 1) := by decide +kernel
theorem dX6_cheapest_80 : decode cX6_cheapest 80 = .ok (.getfield 12, 3) := by decide +kernel
theorem dX6_cheapest_83 : decode cX6_cheapest 83 = .ok (.getfield 76, 3) := by decide +kernel
theorem dX6_cheapest_86 : decode cX6_cheapest 86 = .ok (.iconst 1, 1) := by decide +kernel
theorem dX6_cheapest_87 : decode cX6_cheapest 87 = .ok (.iaload, 1) := by decide +kernel
theorem dX6_cheapest_88 : decode cX6_cheapest 88 = .ok (.invokevirtual 195, 3) := by decide +kernel
theorem dX6_cheapest_91 : decode cX6_cheapest 91 = .ok (.istore 5, 2) := by decide +kernel
theorem dX6_cheapest_93 : decode cX6_cheapest 93 = .ok (.iload 5, 2) := by decide +kernel
theorem dX6_cheapest_95 : decode cX6_cheapest 95 = .ok (.iload_n 3, 1) := by decide +kernel
theorem dX6_cheapest_96 : decode cX6_cheapest 96 = .ok (.if_icmp .ge 9, 3) := by decide +kernel
theorem dX6_cheapest_99 : decode cX6_cheapest 99 = .ok (.iload 4, 2) := by decide +kernel
theorem dX6_cheapest_101 : decode cX6_cheapest 101 = .ok (.istore_n 2, 1) := by decide +kernel
theorem dX6_cheapest_102 : decode cX6_cheapest 102 = .ok (.iload 5, 2) := by decide +kernel
theorem dX6_cheapest_104 : decode cX6_cheapest 104 = .ok (.istore_n 3, 1) := by decide +kernel
theorem dX6_cheapest_105 : decode cX6_cheapest 105 = .ok (.iinc 4 1, 3) := by decide +kernel
theorem dX6_cheapest_108 : decode cX6_cheapest 108 = .ok (.goto (-72), 3) := by decide +kernel
theorem dX6_cheapest_111 : decode cX6_cheapest 111 = .ok (.iload_n 1, 1) := by decide +kernel
theorem dX6_cheapest_112 : decode cX6_cheapest 112 = .ok (.ifCond .ne 7, 3) := by decide +kernel
theorem dX6_cheapest_115 : decode cX6_cheapest 115 = .ok (.iload_n 2, 1) := by decide +kernel
theorem dX6_cheapest_116 : decode cX6_cheapest 116 = .ok (.goto 4, 3) := by decide +kernel
theorem dX6_cheapest_119 : decode cX6_cheapest 119 = .ok (.iload_n 3, 1) := by decide +kernel
theorem dX6_cheapest_120 : decode cX6_cheapest 120 = .ok (.ireturn, 1) := by decide +kernel
theorem dX6_undo_0 : decode cX6_undo 0 = .ok (.aload_n 0, 1) := by decide +kernel
theorem dX6_undo_1 : decode cX6_undo 1 = .ok (.getfield 19, 3) := by decide +kernel
theorem dX6_undo_4 : decode cX6_undo 4 = .ok (.getfield 166, 3) := by decide +kernel
theorem dX6_undo_7 : decode cX6_undo 7 = .ok (.ifCond .ne 6, 3) := by decide +kernel
theorem dX6_undo_10 : decode cX6_undo 10 = .ok (.bipush (-5), 2) := by decide +kernel
theorem dX6_undo_12 : decode cX6_undo 12 = .ok (.ireturn, 1) := by decide +kernel
theorem dX6_undo_13 : decode cX6_undo 13 = .ok (.aload_n 0, 1) := by decide +kernel
theorem dX6_undo_14 : decode cX6_undo 14 = .ok (.getfield 19, 3) := by decide +kernel
theorem dX6_undo_17 : decode cX6_undo 17 = .ok (.aload_n 0, 1) := by decide +kernel
theorem dX6_undo_18 : decode cX6_undo 18 = .ok (.getfield 12, 3) := by decide +kernel
theorem dX6_undo_21 : decode cX6_undo 21 = .ok (.invokevirtual 210, 3) := by decide +kernel
theorem dX6_undo_24 : decode cX6_undo 24 = .ok (.aload_n 0, 1) := by decide +kernel
theorem dX6_undo_25 : decode cX6_undo 25 = .ok (.invokevirtual 65, 3) := by decide +kernel
theorem dX6_undo_28 : decode cX6_undo 28 = .ok (.aload_n 0, 1) := by decide +kernel
theorem dX6_undo_29 : decode cX6_undo 29 = .ok (.getfield 19, 3) := by decide +kernel
theorem dX6_undo_32 : decode cX6_undo 32 = .ok (.getfield 166, 3) := by decide +kernel
theorem dX6_undo_35 : decode cX6_undo 35 = .ok (.ireturn, 1) := by decide +kernel
theorem dX6_save_0 : decode cX6_save 0 = .ok (.iload_n 1, 1) := by decide +kernel
theorem dX6_save_1 : decode cX6_save 1 = .ok (.ifCond .lt 8, 3) := by decide +kernel
theorem dX6_save_4 : decode cX6_save 4 = .ok (.iload_n 1, 1) := by decide +kernel
theorem dX6_save_5 : decode cX6_save 5 = .ok (.iconst 2, 1) := by decide +kernel
theorem dX6_save_6 : decode cX6_save 6 = .ok (.if_icmp .lt 6, 3) := by decide +kernel
theorem dX6_save_9 : decode cX6_save 9 = .ok (.bipush (-2), 2) := by decide +kernel
theorem dX6_save_11 : decode cX6_save 11 = .ok (.ireturn, 1) := by decide +kernel
theorem dX6_save_12 : decode cX6_save 12 = .ok (.aload_n 0, 1) := by decide +kernel
theorem dX6_save_13 : decode cX6_save 13 = .ok (.getfield 12, 3) := by decide +kernel
theorem dX6_save_16 : decode cX6_save 16 = .ok (.aload_n 0, 1) := by decide +kernel
theorem dX6_save_17 : decode cX6_save 17 = .ok (.getfield 23, 3) := by decide +kernel
theorem dX6_save_20 : decode cX6_save 20 = .ok (.iload_n 1, 1) := by decide +kernel
theorem dX6_save_21 : decode cX6_save 21 = .ok (.aaload, 1) := by decide +kernel
theorem dX6_save_22 : decode cX6_save 22 = .ok (.invokestatic 213, 3) := by decide +kernel
theorem dX6_save_25 : decode cX6_save 25 = .ok (.aload_n 0, 1) := by decide +kernel
theorem dX6_save_26 : decode cX6_save 26 = .ok (.getfield 27, 3) := by decide +kernel
theorem dX6_save_29 : decode cX6_save 29 = .ok (.iload_n 1, 1) := by decide +kernel
theorem dX6_save_30 : decode cX6_save 30 = .ok (.iconst 1, 1) := by decide +kernel
theorem dX6_save_31 : decode cX6_save 31 = .ok (.bastore, 1) := by decide +kernel
theorem dX6_save_32 : decode cX6_save 32 = .ok (.aload_n 0, 1) := by decide +kernel
theorem dX6_save_33 : decode cX6_save 33 = .ok (.getfield 12, 3) := by decide +kernel
theorem dX6_save_36 : decode cX6_save 36 = .ok (.getfield 82, 3) := by decide +kernel
theorem dX6_save_39 : decode cX6_save 39 = .ok (.ireturn, 1) := by decide +kernel
theorem dX6_restore_0 : decode cX6_restore 0 = .ok (.iload_n 1, 1) := by decide +kernel
theorem dX6_restore_1 : decode cX6_restore 1 = .ok (.ifCond .lt 8, 3) := by decide +kernel
theorem dX6_restore_4 : decode cX6_restore 4 = .ok (.iload_n 1, 1) := by decide +kernel
theorem dX6_restore_5 : decode cX6_restore 5 = .ok (.iconst 2, 1) := by decide +kernel
theorem dX6_restore_6 : decode cX6_restore 6 = .ok (.if_icmp .lt 6, 3) := by decide +kernel
theorem dX6_restore_9 : decode cX6_restore 9 = .ok (.bipush (-2), 2) := by decide +kernel
theorem dX6_restore_11 : decode cX6_restore 11 = .ok (.ireturn, 1) := by decide +kernel
theorem dX6_restore_12 : decode cX6_restore 12 = .ok (.aload_n 0, 1) := by decide +kernel
theorem dX6_restore_13 : decode cX6_restore 13 = .ok (.getfield 27, 3) := by decide +kernel
theorem dX6_restore_16 : decode cX6_restore 16 = .ok (.iload_n 1, 1) := by decide +kernel
theorem dX6_restore_17 : decode cX6_restore 17 = .ok (.baload, 1) := by decide +kernel
theorem dX6_restore_18 : decode cX6_restore 18 = .ok (.ifCond .ne 6, 3) := by decide +kernel
theorem dX6_restore_21 : decode cX6_restore 21 = .ok (.bipush (-5), 2) := by decide +kernel
theorem dX6_restore_23 : decode cX6_restore 23 = .ok (.ireturn, 1) := by decide +kernel
theorem dX6_restore_24 : decode cX6_restore 24 = .ok (.aload_n 0, 1) := by decide +kernel
theorem dX6_restore_25 : decode cX6_restore 25 = .ok (.getfield 19, 3) := by decide +kernel
theorem dX6_restore_28 : decode cX6_restore 28 = .ok (.aload_n 0, 1) := by decide +kernel
theorem dX6_restore_29 : decode cX6_restore 29 = .ok (.getfield 12, 3) := by decide +kernel
theorem dX6_restore_32 : decode cX6_restore 32 = .ok (.invokevirtual 72, 3) := by decide +kernel
theorem dX6_restore_35 : decode cX6_restore 35 = .ok (.aload_n 0, 1) := by decide +kernel
theorem dX6_restore_36 : decode cX6_restore 36 = .ok (.getfield 23, 3) := by decide +kernel
theorem dX6_restore_39 : decode cX6_restore 39 = .ok (.iload_n 1, 1) := by decide +kernel
theorem dX6_restore_40 : decode cX6_restore 40 = .ok (.aaload, 1) := by decide +kernel
theorem dX6_restore_41 : decode cX6_restore 41 = .ok (.aload_n 0, 1) := by decide +kernel
theorem dX6_restore_42 : decode cX6_restore 42 = .ok (.getfield 12, 3) := by decide +kernel
theorem dX6_restore_45 : decode cX6_restore 45 = .ok (.invokestatic 213, 3) := by decide +kernel
theorem dX6_restore_48 : decode cX6_restore 48 = .ok (.aload_n 0, 1) := by decide +kernel
theorem dX6_restore_49 : decode cX6_restore 49 = .ok (.invokevirtual 65, 3) := by decide +kernel
theorem dX6_restore_52 : decode cX6_restore 52 = .ok (.aload_n 0, 1) := by decide +kernel
theorem dX6_restore_53 : decode cX6_restore 53 = .ok (.getfield 12, 3) := by decide +kernel
theorem dX6_restore_56 : decode cX6_restore 56 = .ok (.getfield 82, 3) := by decide +kernel
theorem dX6_restore_59 : decode cX6_restore 59 = .ok (.ireturn, 1) := by decide +kernel
theorem dX6_isSetting_0 : decode cX6_isSetting 0 = .ok (.iload_n 0, 1) := by decide +kernel
theorem dX6_isSetting_1 : decode cX6_isSetting 1 = .ok (.ifCond .lt 30, 3) := by decide +kernel
theorem dX6_isSetting_4 : decode cX6_isSetting 4 = .ok (.iload_n 0, 1) := by decide +kernel
theorem dX6_isSetting_5 : decode cX6_isSetting 5 = .ok (.iconst 2, 1) := by decide +kernel
theorem dX6_isSetting_6 : decode cX6_isSetting 6 = .ok (.if_icmp .gt 25, 3) := by decide +kernel
theorem dX6_isSetting_9 : decode cX6_isSetting 9 = .ok (.iload_n 1, 1) := by decide +kernel
theorem dX6_isSetting_10 : decode cX6_isSetting 10 = .ok (.getstatic 200, 3) := by decide +kernel
theorem dX6_isSetting_13 : decode cX6_isSetting 13 = .ok (.iload_n 0, 1) := by decide +kernel
theorem dX6_isSetting_14 : decode cX6_isSetting 14 = .ok (.iaload, 1) := by decide +kernel
theorem dX6_isSetting_15 : decode cX6_isSetting 15 = .ok (.if_icmp .lt 16, 3) := by decide +kernel
theorem dX6_isSetting_18 : decode cX6_isSetting 18 = .ok (.iload_n 1, 1) := by decide +kernel
theorem dX6_isSetting_19 : decode cX6_isSetting 19 = .ok (.getstatic 203, 3) := by decide +kernel
theorem dX6_isSetting_22 : decode cX6_isSetting 22 = .ok (.iload_n 0, 1) := by decide +kernel
theorem dX6_isSetting_23 : decode cX6_isSetting 23 = .ok (.iaload, 1) := by decide +kernel
theorem dX6_isSetting_24 : decode cX6_isSetting 24 = .ok (.if_icmp .gt 7, 3) := by decide +kernel
theorem dX6_isSetting_27 : decode cX6_isSetting 27 = .ok (.iconst 1, 1) := by decide +kernel
theorem dX6_isSetting_28 : decode cX6_isSetting 28 = .ok (.goto 4, 3) := by decide +kernel
theorem dX6_isSetting_31 : decode cX6_isSetting 31 = .ok (.iconst 0, 1) := by decide +kernel
theorem dX6_isSetting_32 : decode cX6_isSetting 32 = .ok (.ireturn, 1) := by decide +kernel
theorem dX6_isCode_0 : decode cX6_isCode 0 = .ok (.iload_n 1, 1) := by decide +kernel
theorem dX6_isCode_1 : decode cX6_isCode 1 = .ok (.ifCond .lt 25, 3) := by decide +kernel
theorem dX6_isCode_4 : decode cX6_isCode 4 = .ok (.iload_n 1, 1) := by decide +kernel
theorem dX6_isCode_5 : decode cX6_isCode 5 = .ok (.aload_n 0, 1) := by decide +kernel
theorem dX6_isCode_6 : decode cX6_isCode 6 = .ok (.getfield 41, 3) := by decide +kernel
theorem dX6_isCode_9 : decode cX6_isCode 9 = .ok (.getfield 142, 3) := by decide +kernel
theorem dX6_isCode_12 : decode cX6_isCode 12 = .ok (.if_icmp .ge 14, 3) := by decide +kernel
theorem dX6_isCode_15 : decode cX6_isCode 15 = .ok (.iload_n 1, 1) := by decide +kernel
theorem dX6_isCode_16 : decode cX6_isCode 16 = .ok (.sipush 281, 3) := by decide +kernel
theorem dX6_isCode_19 : decode cX6_isCode 19 = .ok (.if_icmp .ge 7, 3) := by decide +kernel
theorem dX6_isCode_22 : decode cX6_isCode 22 = .ok (.iconst 1, 1) := by decide +kernel
theorem dX6_isCode_23 : decode cX6_isCode 23 = .ok (.goto 4, 3) := by decide +kernel
theorem dX6_isCode_26 : decode cX6_isCode 26 = .ok (.iconst 0, 1) := by decide +kernel
theorem dX6_isCode_27 : decode cX6_isCode 27 = .ok (.ireturn, 1) := by decide +kernel
theorem dX6_refresh_0 : decode cX6_refresh 0 = .ok (.aload_n 0, 1) := by decide +kernel
theorem dX6_refresh_1 : decode cX6_refresh 1 = .ok (.getfield 41, 3) := by decide +kernel
theorem dX6_refresh_4 : decode cX6_refresh 4 = .ok (.aload_n 0, 1) := by decide +kernel
theorem dX6_refresh_5 : decode cX6_refresh 5 = .ok (.getfield 12, 3) := by decide +kernel
theorem dX6_refresh_8 : decode cX6_refresh 8 = .ok (.getfield 86, 3) := by decide +kernel
theorem dX6_refresh_11 : decode cX6_refresh 11 = .ok (.aload_n 0, 1) := by decide +kernel
theorem dX6_refresh_12 : decode cX6_refresh 12 = .ok (.getfield 12, 3) := by decide +kernel
theorem dX6_refresh_15 : decode cX6_refresh 15 = .ok (.getfield 82, 3) := by decide +kernel
theorem dX6_refresh_18 : decode cX6_refresh 18 = .ok (.aload_n 0, 1) := by decide +kernel
theorem dX6_refresh_19 : decode cX6_refresh 19 = .ok (.getfield 12, 3) := by decide +kernel
theorem dX6_refresh_22 : decode cX6_refresh 22 = .ok (.getfield 76, 3) := by decide +kernel
theorem dX6_refresh_25 : decode cX6_refresh 25 = .ok (.iconst 0, 1) := by decide +kernel
theorem dX6_refresh_26 : decode cX6_refresh 26 = .ok (.iaload, 1) := by decide +kernel
theorem dX6_refresh_27 : decode cX6_refresh 27 = .ok (.aload_n 0, 1) := by decide +kernel
theorem dX6_refresh_28 : decode cX6_refresh 28 = .ok (.getfield 12, 3) := by decide +kernel
theorem dX6_refresh_31 : decode cX6_refresh 31 = .ok (.getfield 76, 3) := by decide +kernel
theorem dX6_refresh_34 : decode cX6_refresh 34 = .ok (.iconst 1, 1) := by decide +kernel
theorem dX6_refresh_35 : decode cX6_refresh 35 = .ok (.iaload, 1) := by decide +kernel
theorem dX6_refresh_36 : decode cX6_refresh 36 = .ok (.aload_n 0, 1) := by decide +kernel
theorem dX6_refresh_37 : decode cX6_refresh 37 = .ok (.getfield 12, 3) := by decide +kernel
theorem dX6_refresh_40 : decode cX6_refresh 40 = .ok (.getfield 76, 3) := by decide +kernel
theorem dX6_refresh_43 : decode cX6_refresh 43 = .ok (.iconst 2, 1) := by decide +kernel
theorem dX6_refresh_44 : decode cX6_refresh 44 = .ok (.iaload, 1) := by decide +kernel
theorem dX6_refresh_45 : decode cX6_refresh 45 = .ok (.invokevirtual 217, 3) := by decide +kernel
theorem dX6_refresh_48 : decode cX6_refresh 48 = .ok (.iconst 0, 1) := by decide +kernel
theorem dX6_refresh_49 : decode cX6_refresh 49 = .ok (.istore_n 1, 1) := by decide +kernel
theorem dX6_refresh_50 : decode cX6_refresh 50 = .ok (.iload_n 1, 1) := by decide +kernel
theorem dX6_refresh_51 : decode cX6_refresh 51 = .ok (.aload_n 0, 1) := by decide +kernel
theorem dX6_refresh_52 : decode cX6_refresh 52 = .ok (.getfield 41, 3) := by decide +kernel
theorem dX6_refresh_55 : decode cX6_refresh 55 = .ok (.getfield 142, 3) := by decide +kernel
theorem dX6_refresh_58 : decode cX6_refresh 58 = .ok (.if_icmp .ge 34, 3) := by decide +kernel
theorem dX6_refresh_61 : decode cX6_refresh 61 = .ok (.aload_n 0, 1) := by decide +kernel
theorem dX6_refresh_62 : decode cX6_refresh 62 = .ok (.getfield 52, 3) := by decide +kernel
theorem dX6_refresh_65 : decode cX6_refresh 65 = .ok (.iload_n 1, 1) := by decide +kernel
theorem dX6_refresh_66 : decode cX6_refresh 66 = .ok (.aload_n 0, 1) := by decide +kernel
theorem dX6_refresh_67 : decode cX6_refresh 67 = .ok (.getfield 41, 3) := by decide +kernel
theorem dX6_refresh_70 : decode cX6_refresh 70 = .ok (.getfield 127, 3) := by decide +kernel
theorem dX6_refresh_73 : decode cX6_refresh 73 = .ok (.iload_n 1, 1) := by decide +kernel
theorem dX6_refresh_74 : decode cX6_refresh 74 = .ok (.iaload, 1) := by decide +kernel
theorem dX6_refresh_75 : decode cX6_refresh 75 = .ok (.aload_n 0, 1) := by decide +kernel
theorem dX6_refresh_76 : decode cX6_refresh 76 = .ok (.getfield 12, 3) := by decide +kernel
theorem dX6_refresh_79 : decode cX6_refresh 79 = .ok (.getfield 99, 3) := by decide +kernel
theorem dX6_refresh_82 : decode cX6_refresh 82 = .ok (.iload_n 1, 1) := by decide +kernel
theorem dX6_refresh_83 : decode cX6_refresh 83 = .ok (.iaload, 1) := by decide +kernel
theorem dX6_refresh_84 : decode cX6_refresh 84 = .ok (.ixor, 1) := by decide +kernel
theorem dX6_refresh_85 : decode cX6_refresh 85 = .ok (.iastore, 1) := by decide +kernel
theorem dX6_refresh_86 : decode cX6_refresh 86 = .ok (.iinc 1 1, 3) := by decide +kernel
theorem dX6_refresh_89 : decode cX6_refresh 89 = .ok (.goto (-39), 3) := by decide +kernel
theorem dX6_refresh_92 : decode cX6_refresh 92 = .ok (.aload_n 0, 1) := by decide +kernel
theorem dX6_refresh_93 : decode cX6_refresh 93 = .ok (.getfield 48, 3) := by decide +kernel
theorem dX6_refresh_96 : decode cX6_refresh 96 = .ok (.aload_n 0, 1) := by decide +kernel
theorem dX6_refresh_97 : decode cX6_refresh 97 = .ok (.getfield 52, 3) := by decide +kernel
theorem dX6_refresh_100 : decode cX6_refresh 100 = .ok (.aload_n 0, 1) := by decide +kernel
theorem dX6_refresh_101 : decode cX6_refresh 101 = .ok (.getfield 41, 3) := by decide +kernel
theorem dX6_refresh_104 : decode cX6_refresh 104 = .ok (.getfield 142, 3) := by decide +kernel
theorem dX6_refresh_107 : decode cX6_refresh 107 = .ok (.aload_n 0, 1) := by decide +kernel
theorem dX6_refresh_108 : decode cX6_refresh 108 = .ok (.getfield 12, 3) := by decide +kernel
theorem dX6_refresh_111 : decode cX6_refresh 111 = .ok (.getfield 76, 3) := by decide +kernel
theorem dX6_refresh_114 : decode cX6_refresh 114 = .ok (.iconst 0, 1) := by decide +kernel
theorem dX6_refresh_115 : decode cX6_refresh 115 = .ok (.iaload, 1) := by decide +kernel
theorem dX6_refresh_116 : decode cX6_refresh 116 = .ok (.invokevirtual 221, 3) := by decide +kernel
theorem dX6_refresh_119 : decode cX6_refresh 119 = .ok (.return_, 1) := by decide +kernel
theorem dX6_trialBits_0 : decode cX6_trialBits 0 = .ok (.aload_n 0, 1) := by decide +kernel
theorem dX6_trialBits_1 : decode cX6_trialBits 1 = .ok (.getfield 56, 3) := by decide +kernel
theorem dX6_trialBits_4 : decode cX6_trialBits 4 = .ok (.aload_n 0, 1) := by decide +kernel
theorem dX6_trialBits_5 : decode cX6_trialBits 5 = .ok (.getfield 12, 3) := by decide +kernel
theorem dX6_trialBits_8 : decode cX6_trialBits 8 = .ok (.getfield 86, 3) := by decide +kernel
theorem dX6_trialBits_11 : decode cX6_trialBits 11 = .ok (.iload_n 1, 1) := by decide +kernel
theorem dX6_trialBits_12 : decode cX6_trialBits 12 = .ok (.iload_n 2, 1) := by decide +kernel
theorem dX6_trialBits_13 : decode cX6_trialBits 13 = .ok (.iload_n 3, 1) := by decide +kernel
theorem dX6_trialBits_14 : decode cX6_trialBits 14 = .ok (.aload_n 0, 1) := by decide +kernel
theorem dX6_trialBits_15 : decode cX6_trialBits 15 = .ok (.getfield 12, 3) := by decide +kernel
theorem dX6_trialBits_18 : decode cX6_trialBits 18 = .ok (.getfield 76, 3) := by decide +kernel
theorem dX6_trialBits_21 : decode cX6_trialBits 21 = .ok (.iconst 2, 1) := by decide +kernel
theorem dX6_trialBits_22 : decode cX6_trialBits 22 = .ok (.iaload, 1) := by decide +kernel
theorem dX6_trialBits_23 : decode cX6_trialBits 23 = .ok (.invokevirtual 217, 3) := by decide +kernel
theorem dX6_trialBits_26 : decode cX6_trialBits 26 = .ok (.aload_n 0, 1) := by decide +kernel
theorem dX6_trialBits_27 : decode cX6_trialBits 27 = .ok (.getfield 56, 3) := by decide +kernel
theorem dX6_trialBits_30 : decode cX6_trialBits 30 = .ok (.getfield 145, 3) := by decide +kernel
theorem dX6_trialBits_33 : decode cX6_trialBits 33 = .ok (.ireturn, 1) := by decide +kernel
theorem dX6_signsLeft_0 : decode cX6_signsLeft 0 = .ok (.aload_n 0, 1) := by decide +kernel
theorem dX6_signsLeft_1 : decode cX6_signsLeft 1 = .ok (.getfield 41, 3) := by decide +kernel
theorem dX6_signsLeft_4 : decode cX6_signsLeft 4 = .ok (.getfield 127, 3) := by decide +kernel
theorem dX6_signsLeft_7 : decode cX6_signsLeft 7 = .ok (.iconst 0, 1) := by decide +kernel
theorem dX6_signsLeft_8 : decode cX6_signsLeft 8 = .ok (.aload_n 0, 1) := by decide +kernel
theorem dX6_signsLeft_9 : decode cX6_signsLeft 9 = .ok (.getfield 62, 3) := by decide +kernel
theorem dX6_signsLeft_12 : decode cX6_signsLeft 12 = .ok (.iconst 0, 1) := by decide +kernel
theorem dX6_signsLeft_13 : decode cX6_signsLeft 13 = .ok (.aload_n 0, 1) := by decide +kernel
theorem dX6_signsLeft_14 : decode cX6_signsLeft 14 = .ok (.getfield 41, 3) := by decide +kernel
theorem dX6_signsLeft_17 : decode cX6_signsLeft 17 = .ok (.getfield 142, 3) := by decide +kernel
theorem dX6_signsLeft_20 : decode cX6_signsLeft 20 = .ok (.invokestatic 121, 3) := by decide +kernel
theorem dX6_signsLeft_23 : decode cX6_signsLeft 23 = .ok (.aload_n 0, 1) := by decide +kernel
theorem dX6_signsLeft_24 : decode cX6_signsLeft 24 = .ok (.getfield 62, 3) := by decide +kernel
theorem dX6_signsLeft_27 : decode cX6_signsLeft 27 = .ok (.iload_n 1, 1) := by decide +kernel
theorem dX6_signsLeft_28 : decode cX6_signsLeft 28 = .ok (.dup2, 1) := by decide +kernel
theorem dX6_signsLeft_29 : decode cX6_signsLeft 29 = .ok (.iaload, 1) := by decide +kernel
theorem dX6_signsLeft_30 : decode cX6_signsLeft 30 = .ok (.iconst 1, 1) := by decide +kernel
theorem dX6_signsLeft_31 : decode cX6_signsLeft 31 = .ok (.ixor, 1) := by decide +kernel
theorem dX6_signsLeft_32 : decode cX6_signsLeft 32 = .ok (.iastore, 1) := by decide +kernel
theorem dX6_signsLeft_33 : decode cX6_signsLeft 33 = .ok (.aload_n 0, 1) := by decide +kernel
theorem dX6_signsLeft_34 : decode cX6_signsLeft 34 = .ok (.getfield 59, 3) := by decide +kernel
theorem dX6_signsLeft_37 : decode cX6_signsLeft 37 = .ok (.aload_n 0, 1) := by decide +kernel
theorem dX6_signsLeft_38 : decode cX6_signsLeft 38 = .ok (.getfield 62, 3) := by decide +kernel
theorem dX6_signsLeft_41 : decode cX6_signsLeft 41 = .ok (.aload_n 0, 1) := by decide +kernel
theorem dX6_signsLeft_42 : decode cX6_signsLeft 42 = .ok (.getfield 41, 3) := by decide +kernel
theorem dX6_signsLeft_45 : decode cX6_signsLeft 45 = .ok (.getfield 142, 3) := by decide +kernel
theorem dX6_signsLeft_48 : decode cX6_signsLeft 48 = .ok (.aload_n 0, 1) := by decide +kernel
theorem dX6_signsLeft_49 : decode cX6_signsLeft 49 = .ok (.getfield 12, 3) := by decide +kernel
theorem dX6_signsLeft_52 : decode cX6_signsLeft 52 = .ok (.getfield 76, 3) := by decide +kernel
theorem dX6_signsLeft_55 : decode cX6_signsLeft 55 = .ok (.iconst 0, 1) := by decide +kernel
theorem dX6_signsLeft_56 : decode cX6_signsLeft 56 = .ok (.iaload, 1) := by decide +kernel
theorem dX6_signsLeft_57 : decode cX6_signsLeft 57 = .ok (.invokevirtual 221, 3) := by decide +kernel
theorem dX6_signsLeft_60 : decode cX6_signsLeft 60 = .ok (.aload_n 0, 1) := by decide +kernel
theorem dX6_signsLeft_61 : decode cX6_signsLeft 61 = .ok (.getfield 59, 3) := by decide +kernel
theorem dX6_signsLeft_64 : decode cX6_signsLeft 64 = .ok (.aload_n 0, 1) := by decide +kernel
theorem dX6_signsLeft_65 : decode cX6_signsLeft 65 = .ok (.getfield 12, 3) := by decide +kernel
theorem dX6_signsLeft_68 : decode cX6_signsLeft 68 = .ok (.getfield 86, 3) := by decide +kernel
theorem dX6_signsLeft_71 : decode cX6_signsLeft 71 = .ok (.aload_n 0, 1) := by decide +kernel
theorem dX6_signsLeft_72 : decode cX6_signsLeft 72 = .ok (.getfield 12, 3) := by decide +kernel
theorem dX6_signsLeft_75 : decode cX6_signsLeft 75 = .ok (.getfield 82, 3) := by decide +kernel
theorem dX6_signsLeft_78 : decode cX6_signsLeft 78 = .ok (.invokevirtual 189, 3) := by decide +kernel
theorem dX6_signsLeft_81 : decode cX6_signsLeft 81 = .ok (.istore_n 2, 1) := by decide +kernel
theorem dX6_signsLeft_82 : decode cX6_signsLeft 82 = .ok (.iload_n 2, 1) := by decide +kernel
theorem dX6_signsLeft_83 : decode cX6_signsLeft 83 = .ok (.bipush (-6), 2) := by decide +kernel
theorem dX6_signsLeft_85 : decode cX6_signsLeft 85 = .ok (.if_icmp .ne 13, 3) := by decide +kernel
theorem dX6_signsLeft_88 : decode cX6_signsLeft 88 = .ok (.aload_n 0, 1) := by decide +kernel
theorem dX6_signsLeft_89 : decode cX6_signsLeft 89 = .ok (.getfield 12, 3) := by decide +kernel
theorem dX6_signsLeft_92 : decode cX6_signsLeft 92 = .ok (.getfield 82, 3) := by decide +kernel
theorem dX6_signsLeft_95 : decode cX6_signsLeft 95 = .ok (.goto 4, 3) := by decide +kernel
theorem dX6_signsLeft_98 : decode cX6_signsLeft 98 = .ok (.iload_n 2, 1) := by decide +kernel
theorem dX6_signsLeft_99 : decode cX6_signsLeft 99 = .ok (.ireturn, 1) := by decide +kernel
theorem dX6_copyState_0 : decode cX6_copyState 0 = .ok (.aload_n 0, 1) := by decide +kernel
theorem dX6_copyState_1 : decode cX6_copyState 1 = .ok (.ifnull 7, 3) := by decide +kernel
theorem dX6_copyState_4 : decode cX6_copyState 4 = .ok (.aload_n 1, 1) := by decide +kernel
theorem dX6_copyState_5 : decode cX6_copyState 5 = .ok (.ifnonnull 4, 3) := by decide +kernel
theorem dX6_copyState_8 : decode cX6_copyState 8 = .ok (.return_, 1) := by decide +kernel
theorem dX6_copyState_9 : decode cX6_copyState 9 = .ok (.aload_n 0, 1) := by decide +kernel
theorem dX6_copyState_10 : decode cX6_copyState 10 = .ok (.getfield 76, 3) := by decide +kernel
theorem dX6_copyState_13 : decode cX6_copyState 13 = .ok (.iconst 0, 1) := by decide +kernel
theorem dX6_copyState_14 : decode cX6_copyState 14 = .ok (.aload_n 1, 1) := by decide +kernel
theorem dX6_copyState_15 : decode cX6_copyState 15 = .ok (.getfield 76, 3) := by decide +kernel
theorem dX6_copyState_18 : decode cX6_copyState 18 = .ok (.iconst 0, 1) := by decide +kernel
theorem dX6_copyState_19 : decode cX6_copyState 19 = .ok (.aload_n 0, 1) := by decide +kernel
theorem dX6_copyState_20 : decode cX6_copyState 20 = .ok (.getfield 76, 3) := by decide +kernel
theorem dX6_copyState_23 : decode cX6_copyState 23 = .ok (.arraylength, 1) := by decide +kernel
theorem dX6_copyState_24 : decode cX6_copyState 24 = .ok (.invokestatic 121, 3) := by decide +kernel
theorem dX6_copyState_27 : decode cX6_copyState 27 = .ok (.aload_n 0, 1) := by decide +kernel
theorem dX6_copyState_28 : decode cX6_copyState 28 = .ok (.getfield 86, 3) := by decide +kernel
theorem dX6_copyState_31 : decode cX6_copyState 31 = .ok (.iconst 0, 1) := by decide +kernel
theorem dX6_copyState_32 : decode cX6_copyState 32 = .ok (.aload_n 1, 1) := by decide +kernel
theorem dX6_copyState_33 : decode cX6_copyState 33 = .ok (.getfield 86, 3) := by decide +kernel
theorem dX6_copyState_36 : decode cX6_copyState 36 = .ok (.iconst 0, 1) := by decide +kernel
theorem dX6_copyState_37 : decode cX6_copyState 37 = .ok (.sipush 240, 3) := by decide +kernel
theorem dX6_copyState_40 : decode cX6_copyState 40 = .ok (.invokestatic 121, 3) := by decide +kernel
theorem dX6_copyState_43 : decode cX6_copyState 43 = .ok (.aload_n 0, 1) := by decide +kernel
theorem dX6_copyState_44 : decode cX6_copyState 44 = .ok (.getfield 99, 3) := by decide +kernel
theorem dX6_copyState_47 : decode cX6_copyState 47 = .ok (.iconst 0, 1) := by decide +kernel
theorem dX6_copyState_48 : decode cX6_copyState 48 = .ok (.aload_n 1, 1) := by decide +kernel
theorem dX6_copyState_49 : decode cX6_copyState 49 = .ok (.getfield 99, 3) := by decide +kernel
theorem dX6_copyState_52 : decode cX6_copyState 52 = .ok (.iconst 0, 1) := by decide +kernel
theorem dX6_copyState_53 : decode cX6_copyState 53 = .ok (.sipush 281, 3) := by decide +kernel
theorem dX6_copyState_56 : decode cX6_copyState 56 = .ok (.invokestatic 121, 3) := by decide +kernel
theorem dX6_copyState_59 : decode cX6_copyState 59 = .ok (.aload_n 1, 1) := by decide +kernel
theorem dX6_copyState_60 : decode cX6_copyState 60 = .ok (.aload_n 0, 1) := by decide +kernel
theorem dX6_copyState_61 : decode cX6_copyState 61 = .ok (.getfield 82, 3) := by decide +kernel
theorem dX6_copyState_64 : decode cX6_copyState 64 = .ok (.putfield 82, 3) := by decide +kernel
theorem dX6_copyState_67 : decode cX6_copyState 67 = .ok (.return_, 1) := by decide +kernel
theorem dX7_init_0 : decode cX7_init 0 = .ok (.aload_n 0, 1) := by decide +kernel
theorem dX7_init_1 : decode cX7_init 1 = .ok (.invokespecial 1, 3) := by decide +kernel
theorem dX7_init_4 : decode cX7_init 4 = .ok (.aload_n 0, 1) := by decide +kernel
theorem dX7_init_5 : decode cX7_init 5 = .ok (.sipush 560, 3) := by decide +kernel
theorem dX7_init_8 : decode cX7_init 8 = .ok (.newarray .int, 2) := by decide +kernel
theorem dX7_init_10 : decode cX7_init 10 = .ok (.putfield 7, 3) := by decide +kernel
theorem dX7_init_13 : decode cX7_init 13 = .ok (.aload_n 0, 1) := by decide +kernel
theorem dX7_init_14 : decode cX7_init 14 = .ok (.sipush 3360, 3) := by decide +kernel
theorem dX7_init_17 : decode cX7_init 17 = .ok (.newarray .int, 2) := by decide +kernel
theorem dX7_init_19 : decode cX7_init 19 = .ok (.putfield 13, 3) := by decide +kernel
theorem dX7_init_22 : decode cX7_init 22 = .ok (.aload_n 0, 1) := by decide +kernel
theorem dX7_init_23 : decode cX7_init 23 = .ok (.sipush 1120, 3) := by decide +kernel
theorem dX7_init_26 : decode cX7_init 26 = .ok (.newarray .int, 2) := by decide +kernel
theorem dX7_init_28 : decode cX7_init 28 = .ok (.putfield 16, 3) := by decide +kernel
theorem dX7_init_31 : decode cX7_init 31 = .ok (.aload_n 0, 1) := by decide +kernel
theorem dX7_init_32 : decode cX7_init 32 = .ok (.iconst 2, 1) := by decide +kernel
theorem dX7_init_33 : decode cX7_init 33 = .ok (.newarray .boolean, 2) := by decide +kernel
theorem dX7_init_35 : decode cX7_init 35 = .ok (.putfield 19, 3) := by decide +kernel
theorem dX7_init_38 : decode cX7_init 38 = .ok (.aload_n 0, 1) := by decide +kernel
theorem dX7_init_39 : decode cX7_init 39 = .ok (.bipush 80, 2) := by decide +kernel
theorem dX7_init_41 : decode cX7_init 41 = .ok (.newarray .int, 2) := by decide +kernel
theorem dX7_init_43 : decode cX7_init 43 = .ok (.putfield 23, 3) := by decide +kernel
theorem dX7_init_46 : decode cX7_init 46 = .ok (.aload_n 0, 1) := by decide +kernel
theorem dX7_init_47 : decode cX7_init 47 = .ok (.sipush 512, 3) := by decide +kernel
theorem dX7_init_50 : decode cX7_init 50 = .ok (.newarray .int, 2) := by decide +kernel
theorem dX7_init_52 : decode cX7_init 52 = .ok (.putfield 26, 3) := by decide +kernel
theorem dX7_init_55 : decode cX7_init 55 = .ok (.aload_n 0, 1) := by decide +kernel
theorem dX7_init_56 : decode cX7_init 56 = .ok (.sipush 512, 3) := by decide +kernel
theorem dX7_init_59 : decode cX7_init 59 = .ok (.newarray .int, 2) := by decide +kernel
theorem dX7_init_61 : decode cX7_init 61 = .ok (.putfield 29, 3) := by decide +kernel
theorem dX7_init_64 : decode cX7_init 64 = .ok (.aload_n 0, 1) := by decide +kernel
theorem dX7_init_65 : decode cX7_init 65 = .ok (.sipush 512, 3) := by decide +kernel
theorem dX7_init_68 : decode cX7_init 68 = .ok (.newarray .int, 2) := by decide +kernel
theorem dX7_init_70 : decode cX7_init 70 = .ok (.putfield 32, 3) := by decide +kernel
theorem dX7_init_73 : decode cX7_init 73 = .ok (.aload_n 0, 1) := by decide +kernel
theorem dX7_init_74 : decode cX7_init 74 = .ok (.sipush 512, 3) := by decide +kernel
theorem dX7_init_77 : decode cX7_init 77 = .ok (.newarray .int, 2) := by decide +kernel
theorem dX7_init_79 : decode cX7_init 79 = .ok (.putfield 35, 3) := by decide +kernel
theorem dX7_init_82 : decode cX7_init 82 = .ok (.aload_n 0, 1) := by decide +kernel
theorem dX7_init_83 : decode cX7_init 83 = .ok (.sipush 300, 3) := by decide +kernel
theorem dX7_init_86 : decode cX7_init 86 = .ok (.newarray .int, 2) := by decide +kernel
theorem dX7_init_88 : decode cX7_init 88 = .ok (.putfield 38, 3) := by decide +kernel
theorem dX7_init_91 : decode cX7_init 91 = .ok (.aload_n 0, 1) := by decide +kernel
theorem dX7_init_92 : decode cX7_init 92 = .ok (.sipush 300, 3) := by decide +kernel
theorem dX7_init_95 : decode cX7_init 95 = .ok (.newarray .int, 2) := by decide +kernel
theorem dX7_init_97 : decode cX7_init 97 = .ok (.putfield 41, 3) := by decide +kernel
theorem dX7_init_100 : decode cX7_init 100 = .ok (.aload_n 0, 1) := by decide +kernel
theorem dX7_init_101 : decode cX7_init 101 = .ok (.sipush 300, 3) := by decide +kernel
theorem dX7_init_104 : decode cX7_init 104 = .ok (.newarray .int, 2) := by decide +kernel
theorem dX7_init_106 : decode cX7_init 106 = .ok (.putfield 44, 3) := by decide +kernel
theorem dX7_init_109 : decode cX7_init 109 = .ok (.aload_n 0, 1) := by decide +kernel
theorem dX7_init_110 : decode cX7_init 110 = .ok (.sipush 300, 3) := by decide +kernel
theorem dX7_init_113 : decode cX7_init 113 = .ok (.newarray .int, 2) := by decide +kernel
theorem dX7_init_115 : decode cX7_init 115 = .ok (.putfield 47, 3) := by decide +kernel
theorem dX7_init_118 : decode cX7_init 118 = .ok (.aload_n 0, 1) := by decide +kernel
theorem dX7_init_119 : decode cX7_init 119 = .ok (.sipush 300, 3) := by decide +kernel
theorem dX7_init_122 : decode cX7_init 122 = .ok (.newarray .int, 2) := by decide +kernel
theorem dX7_init_124 : decode cX7_init 124 = .ok (.putfield 50, 3) := by decide +kernel
theorem dX7_init_127 : decode cX7_init 127 = .ok (.aload_n 0, 1) := by decide +kernel
theorem dX7_init_128 : decode cX7_init 128 = .ok (.sipush 300, 3) := by decide +kernel
theorem dX7_init_131 : decode cX7_init 131 = .ok (.newarray .int, 2) := by decide +kernel
theorem dX7_init_133 : decode cX7_init 133 = .ok (.putfield 53, 3) := by decide +kernel
theorem dX7_init_136 : decode cX7_init 136 = .ok (.aload_n 0, 1) := by decide +kernel
theorem dX7_init_137 : decode cX7_init 137 = .ok (.iconst 3, 1) := by decide +kernel
theorem dX7_init_138 : decode cX7_init 138 = .ok (.newarray .int, 2) := by decide +kernel
theorem dX7_init_140 : decode cX7_init 140 = .ok (.putfield 56, 3) := by decide +kernel
theorem dX7_init_143 : decode cX7_init 143 = .ok (.aload_n 0, 1) := by decide +kernel
theorem dX7_init_144 : decode cX7_init 144 = .ok (.iconst 3, 1) := by decide +kernel
theorem dX7_init_145 : decode cX7_init 145 = .ok (.newarray .int, 2) := by decide +kernel
theorem dX7_init_147 : decode cX7_init 147 = .ok (.putfield 59, 3) := by decide +kernel
theorem dX7_init_150 : decode cX7_init 150 = .ok (.aload_n 0, 1) := by decide +kernel
theorem dX7_init_151 : decode cX7_init 151 = .ok (.ldc 62, 2) := by decide +kernel
theorem dX7_init_153 : decode cX7_init 153 = .ok (.newarray .byte, 2) := by decide +kernel
theorem dX7_init_155 : decode cX7_init 155 = .ok (.putfield 63, 3) := by decide +kernel
theorem dX7_init_158 : decode cX7_init 158 = .ok (.aload_n 0, 1) := by decide +kernel
theorem dX7_init_159 : decode cX7_init 159 = .ok (.getfield 7, 3) := by decide +kernel
theorem dX7_init_162 : decode cX7_init 162 = .ok (.iconst 0, 1) := by decide +kernel
theorem dX7_init_163 : decode cX7_init 163 = .ok (.bipush 6, 2) := by decide +kernel
theorem dX7_init_165 : decode cX7_init 165 = .ok (.iastore, 1) := by decide +kernel
theorem dX7_init_166 : decode cX7_init 166 = .ok (.aload_n 0, 1) := by decide +kernel
theorem dX7_init_167 : decode cX7_init 167 = .ok (.getfield 7, 3) := by decide +kernel
theorem dX7_init_170 : decode cX7_init 170 = .ok (.iconst 1, 1) := by decide +kernel
theorem dX7_init_171 : decode cX7_init 171 = .ok (.iconst 1, 1) := by decide +kernel
theorem dX7_init_172 : decode cX7_init 172 = .ok (.iastore, 1) := by decide +kernel
theorem dX7_init_173 : decode cX7_init 173 = .ok (.aload_n 0, 1) := by decide +kernel
theorem dX7_init_174 : decode cX7_init 174 = .ok (.getfield 7, 3) := by decide +kernel
theorem dX7_init_177 : decode cX7_init 177 = .ok (.iconst 2, 1) := by decide +kernel
theorem dX7_init_178 : decode cX7_init 178 = .ok (.bipush 8, 2) := by decide +kernel
theorem dX7_init_180 : decode cX7_init 180 = .ok (.iastore, 1) := by decide +kernel
theorem dX7_init_181 : decode cX7_init 181 = .ok (.return_, 1) := by decide +kernel
theorem dX7_in_0 : decode cX7_in 0 = .ok (.iload_n 0, 1) := by decide +kernel
theorem dX7_in_1 : decode cX7_in 1 = .ok (.iload_n 1, 1) := by decide +kernel
theorem dX7_in_2 : decode cX7_in 2 = .ok (.if_icmp .lt 12, 3) := by decide +kernel
theorem dX7_in_5 : decode cX7_in 5 = .ok (.iload_n 0, 1) := by decide +kernel
theorem dX7_in_6 : decode cX7_in 6 = .ok (.iload_n 2, 1) := by decide +kernel
theorem dX7_in_7 : decode cX7_in 7 = .ok (.if_icmp .gt 7, 3) := by decide +kernel
theorem dX7_in_10 : decode cX7_in 10 = .ok (.iconst 1, 1) := by decide +kernel
theorem dX7_in_11 : decode cX7_in 11 = .ok (.goto 4, 3) := by decide +kernel
theorem dX7_in_14 : decode cX7_in 14 = .ok (.iconst 0, 1) := by decide +kernel
theorem dX7_in_15 : decode cX7_in 15 = .ok (.ireturn, 1) := by decide +kernel
theorem dX7_record_0 : decode cX7_record 0 = .ok (.aload_n 0, 1) := by decide +kernel
theorem dX7_record_1 : decode cX7_record 1 = .ok (.getfield 67, 3) := by decide +kernel
theorem dX7_record_4 : decode cX7_record 4 = .ok (.bipush 6, 2) := by decide +kernel
theorem dX7_record_6 : decode cX7_record 6 = .ok (.if_icmp .ne 39, 3) := by decide +kernel
theorem dX7_record_9 : decode cX7_record 9 = .ok (.iconst 0, 1) := by decide +kernel
theorem dX7_record_10 : decode cX7_record 10 = .ok (.istore_n 1, 1) := by decide +kernel
theorem dX7_record_11 : decode cX7_record 11 = .ok (.iload_n 1, 1) := by decide +kernel
theorem dX7_record_12 : decode cX7_record 12 = .ok (.sipush 2800, 3) := by decide +kernel
theorem dX7_record_15 : decode cX7_record 15 = .ok (.if_icmp .ge 25, 3) := by decide +kernel
theorem dX7_record_18 : decode cX7_record 18 = .ok (.aload_n 0, 1) := by decide +kernel
theorem dX7_record_19 : decode cX7_record 19 = .ok (.getfield 13, 3) := by decide +kernel
theorem dX7_record_22 : decode cX7_record 22 = .ok (.iload_n 1, 1) := by decide +kernel
theorem dX7_record_23 : decode cX7_record 23 = .ok (.aload_n 0, 1) := by decide +kernel
theorem dX7_record_24 : decode cX7_record 24 = .ok (.getfield 13, 3) := by decide +kernel
theorem dX7_record_27 : decode cX7_record 27 = .ok (.iload_n 1, 1) := by decide +kernel
theorem dX7_record_28 : decode cX7_record 28 = .ok (.sipush 560, 3) := by decide +kernel
theorem dX7_record_31 : decode cX7_record 31 = .ok (.iadd, 1) := by decide +kernel
theorem dX7_record_32 : decode cX7_record 32 = .ok (.iaload, 1) := by decide +kernel
theorem dX7_record_33 : decode cX7_record 33 = .ok (.iastore, 1) := by decide +kernel
theorem dX7_record_34 : decode cX7_record 34 = .ok (.iinc 1 1, 3) := by decide +kernel
theorem dX7_record_37 : decode cX7_record 37 = .ok (.goto (-26), 3) := by decide +kernel
theorem dX7_record_40 : decode cX7_record 40 = .ok (.aload_n 0, 1) := by decide +kernel
theorem dX7_record_41 : decode cX7_record 41 = .ok (.iconst 5, 1) := by decide +kernel
theorem dX7_record_42 : decode cX7_record 42 = .ok (.putfield 67, 3) := by decide +kernel
theorem dX7_record_45 : decode cX7_record 45 = .ok (.iconst 0, 1) := by decide +kernel
theorem dX7_record_46 : decode cX7_record 46 = .ok (.istore_n 1, 1) := by decide +kernel
theorem dX7_record_47 : decode cX7_record 47 = .ok (.iload_n 1, 1) := by decide +kernel
theorem dX7_record_48 : decode cX7_record 48 = .ok (.sipush 560, 3) := by decide +kernel
theorem dX7_record_51 : decode cX7_record 51 = .ok (.if_icmp .ge 30, 3) := by decide +kernel
theorem dX7_record_54 : decode cX7_record 54 = .ok (.aload_n 0, 1) := by decide +kernel
theorem dX7_record_55 : decode cX7_record 55 = .ok (.getfield 13, 3) := by decide +kernel
theorem dX7_record_58 : decode cX7_record 58 = .ok (.aload_n 0, 1) := by decide +kernel
theorem dX7_record_59 : decode cX7_record 59 = .ok (.getfield 67, 3) := by decide +kernel
theorem dX7_record_62 : decode cX7_record 62 = .ok (.sipush 560, 3) := by decide +kernel
theorem dX7_record_65 : decode cX7_record 65 = .ok (.imul, 1) := by decide +kernel
theorem dX7_record_66 : decode cX7_record 66 = .ok (.iload_n 1, 1) := by decide +kernel
theorem dX7_record_67 : decode cX7_record 67 = .ok (.iadd, 1) := by decide +kernel
theorem dX7_record_68 : decode cX7_record 68 = .ok (.aload_n 0, 1) := by decide +kernel
theorem dX7_record_69 : decode cX7_record 69 = .ok (.getfield 7, 3) := by decide +kernel
theorem dX7_record_72 : decode cX7_record 72 = .ok (.iload_n 1, 1) := by decide +kernel
theorem dX7_record_73 : decode cX7_record 73 = .ok (.iaload, 1) := by decide +kernel
theorem dX7_record_74 : decode cX7_record 74 = .ok (.iastore, 1) := by decide +kernel
theorem dX7_record_75 : decode cX7_record 75 = .ok (.iinc 1 1, 3) := by decide +kernel
theorem dX7_record_78 : decode cX7_record 78 = .ok (.goto (-31), 3) := by decide +kernel
theorem dX7_record_81 : decode cX7_record 81 = .ok (.aload_n 0, 1) := by decide +kernel
theorem dX7_record_82 : decode cX7_record 82 = .ok (.dup, 1) := by decide +kernel
theorem dX7_record_83 : decode cX7_record 83 = .ok (.getfield 67, 3) := by decide +kernel
theorem dX7_record_86 : decode cX7_record 86 = .ok (.iconst 1, 1) := by decide +kernel
theorem dX7_record_87 : decode cX7_record 87 = .ok (.iadd, 1) := by decide +kernel
theorem dX7_record_88 : decode cX7_record 88 = .ok (.putfield 67, 3) := by decide +kernel
theorem dX7_record_91 : decode cX7_record 91 = .ok (.return_, 1) := by decide +kernel
theorem dX7_mend_0 : decode cX7_mend 0 = .ok (.sipush 250, 3) := by decide +kernel
theorem dX7_mend_3 : decode cX7_mend 3 = .ok (.istore_n 1, 1) := by decide +kernel
theorem dX7_mend_4 : decode cX7_mend 4 = .ok (.iload_n 1, 1) := by decide +kernel
theorem dX7_mend_5 : decode cX7_mend 5 = .ok (.sipush 560, 3) := by decide +kernel
theorem dX7_mend_8 : decode cX7_mend 8 = .ok (.if_icmp .ge 16, 3) := by decide +kernel
theorem dX7_mend_11 : decode cX7_mend 11 = .ok (.aload_n 0, 1) := by decide +kernel
theorem dX7_mend_12 : decode cX7_mend 12 = .ok (.getfield 7, 3) := by decide +kernel
theorem dX7_mend_15 : decode cX7_mend 15 = .ok (.iload_n 1, 1) := by decide +kernel
theorem dX7_mend_16 : decode cX7_mend 16 = .ok (.iconst 0, 1) := by decide +kernel
theorem dX7_mend_17 : decode cX7_mend 17 = .ok (.iastore, 1) := by decide +kernel
theorem dX7_mend_18 : decode cX7_mend 18 = .ok (.iinc 1 1, 3) := by decide +kernel
theorem dX7_mend_21 : decode cX7_mend 21 = .ok (.goto (-17), 3) := by decide +kernel
theorem dX7_mend_24 : decode cX7_mend 24 = .ok (.return_, 1) := by decide +kernel
theorem dX7_isSetting_0 : decode cX7_isSetting 0 = .ok (.iload_n 0, 1) := by decide +kernel
theorem dX7_isSetting_1 : decode cX7_isSetting 1 = .ok (.ifCond .ne 13, 3) := by decide +kernel
theorem dX7_isSetting_4 : decode cX7_isSetting 4 = .ok (.iload_n 1, 1) := by decide +kernel
theorem dX7_isSetting_5 : decode cX7_isSetting 5 = .ok (.iconst 4, 1) := by decide +kernel
theorem dX7_isSetting_6 : decode cX7_isSetting 6 = .ok (.bipush 9, 2) := by decide +kernel
theorem dX7_isSetting_8 : decode cX7_isSetting 8 = .ok (.invokestatic 71, 3) := by decide +kernel
theorem dX7_isSetting_11 : decode cX7_isSetting 11 = .ok (.goto 37, 3) := by decide +kernel
theorem dX7_isSetting_14 : decode cX7_isSetting 14 = .ok (.iload_n 0, 1) := by decide +kernel
theorem dX7_isSetting_15 : decode cX7_isSetting 15 = .ok (.iconst 1, 1) := by decide +kernel
theorem dX7_isSetting_16 : decode cX7_isSetting 16 = .ok (.if_icmp .ne 12, 3) := by decide +kernel
theorem dX7_isSetting_19 : decode cX7_isSetting 19 = .ok (.iload_n 1, 1) := by decide +kernel
theorem dX7_isSetting_20 : decode cX7_isSetting 20 = .ok (.iconst 0, 1) := by decide +kernel
theorem dX7_isSetting_21 : decode cX7_isSetting 21 = .ok (.iconst 2, 1) := by decide +kernel
theorem dX7_isSetting_22 : decode cX7_isSetting 22 = .ok (.invokestatic 71, 3) := by decide +kernel
theorem dX7_isSetting_25 : decode cX7_isSetting 25 = .ok (.goto 23, 3) := by decide +kernel
theorem dX7_isSetting_28 : decode cX7_isSetting 28 = .ok (.iload_n 0, 1) := by decide +kernel
theorem dX7_isSetting_29 : decode cX7_isSetting 29 = .ok (.iconst 2, 1) := by decide +kernel
theorem dX7_isSetting_30 : decode cX7_isSetting 30 = .ok (.if_icmp .ne 17, 3) := by decide +kernel
theorem dX7_isSetting_33 : decode cX7_isSetting 33 = .ok (.iload_n 1, 1) := by decide +kernel
theorem dX7_isSetting_34 : decode cX7_isSetting 34 = .ok (.iconst 4, 1) := by decide +kernel
theorem dX7_isSetting_35 : decode cX7_isSetting 35 = .ok (.bipush 32, 2) := by decide +kernel
theorem dX7_isSetting_37 : decode cX7_isSetting 37 = .ok (.invokestatic 71, 3) := by decide +kernel
theorem dX7_isSetting_40 : decode cX7_isSetting 40 = .ok (.ifCond .eq 7, 3) := by decide +kernel
theorem dX7_isSetting_43 : decode cX7_isSetting 43 = .ok (.iconst 1, 1) := by decide +kernel
theorem dX7_isSetting_44 : decode cX7_isSetting 44 = .ok (.goto 4, 3) := by decide +kernel
theorem dX7_isSetting_47 : decode cX7_isSetting 47 = .ok (.iconst 0, 1) := by decide +kernel
theorem dX7_isSetting_48 : decode cX7_isSetting 48 = .ok (.ireturn, 1) := by decide +kernel
theorem dX7_set_0 : decode cX7_set 0 = .ok (.iload_n 1, 1) := by decide +kernel
theorem dX7_set_1 : decode cX7_set 1 = .ok (.iload_n 2, 1) := by decide +kernel
theorem dX7_set_2 : decode cX7_set 2 = .ok (.invokestatic 75, 3) := by decide +kernel
theorem dX7_set_5 : decode cX7_set 5 = .ok (.ifCond .ne 6, 3) := by decide +kernel
theorem dX7_set_8 : decode cX7_set 8 = .ok (.bipush (-2), 2) := by decide +kernel
theorem dX7_set_10 : decode cX7_set 10 = .ok (.ireturn, 1) := by decide +kernel
theorem dX7_set_11 : decode cX7_set 11 = .ok (.aload_n 0, 1) := by decide +kernel
theorem dX7_set_12 : decode cX7_set 12 = .ok (.invokevirtual 79, 3) := by decide +kernel
theorem dX7_set_15 : decode cX7_set 15 = .ok (.aload_n 0, 1) := by decide +kernel
theorem dX7_set_16 : decode cX7_set 16 = .ok (.getfield 7, 3) := by decide +kernel
theorem dX7_set_19 : decode cX7_set 19 = .ok (.iload_n 1, 1) := by decide +kernel
theorem dX7_set_20 : decode cX7_set 20 = .ok (.iaload, 1) := by decide +kernel
theorem dX7_set_21 : decode cX7_set 21 = .ok (.istore_n 3, 1) := by decide +kernel
theorem dX7_set_22 : decode cX7_set 22 = .ok (.aload_n 0, 1) := by decide +kernel
theorem dX7_set_23 : decode cX7_set 23 = .ok (.getfield 7, 3) := by decide +kernel
theorem dX7_set_26 : decode cX7_set 26 = .ok (.iload_n 1, 1) := by decide +kernel
theorem dX7_set_27 : decode cX7_set 27 = .ok (.iload_n 2, 1) := by decide +kernel
theorem dX7_set_28 : decode cX7_set 28 = .ok (.iastore, 1) := by decide +kernel
theorem dX7_set_29 : decode cX7_set 29 = .ok (.aload_n 0, 1) := by decide +kernel
theorem dX7_set_30 : decode cX7_set 30 = .ok (.invokevirtual 82, 3) := by decide +kernel
theorem dX7_set_33 : decode cX7_set 33 = .ok (.iload_n 3, 1) := by decide +kernel
theorem dX7_set_34 : decode cX7_set 34 = .ok (.ireturn, 1) := by decide +kernel
theorem dX7_add_0 : decode cX7_add 0 = .ok (.iload_n 1, 1) := by decide +kernel
theorem dX7_add_1 : decode cX7_add 1 = .ok (.iconst 0, 1) := by decide +kernel
theorem dX7_add_2 : decode cX7_add 2 = .ok (.bipush 7, 2) := by decide +kernel
theorem dX7_add_4 : decode cX7_add 4 = .ok (.invokestatic 71, 3) := by decide +kernel
theorem dX7_add_7 : decode cX7_add 7 = .ok (.ifCond .eq 14, 3) := by decide +kernel
theorem dX7_add_10 : decode cX7_add 10 = .ok (.iload_n 2, 1) := by decide +kernel
theorem dX7_add_11 : decode cX7_add 11 = .ok (.iconst 1, 1) := by decide +kernel
theorem dX7_add_12 : decode cX7_add 12 = .ok (.sipush 240, 3) := by decide +kernel
theorem dX7_add_15 : decode cX7_add 15 = .ok (.invokestatic 71, 3) := by decide +kernel
theorem dX7_add_18 : decode cX7_add 18 = .ok (.ifCond .ne 6, 3) := by decide +kernel
theorem dX7_add_21 : decode cX7_add 21 = .ok (.bipush (-2), 2) := by decide +kernel
theorem dX7_add_23 : decode cX7_add 23 = .ok (.ireturn, 1) := by decide +kernel
theorem dX7_add_24 : decode cX7_add 24 = .ok (.aload_n 0, 1) := by decide +kernel
theorem dX7_add_25 : decode cX7_add 25 = .ok (.getfield 7, 3) := by decide +kernel
theorem dX7_add_28 : decode cX7_add 28 = .ok (.iconst 3, 1) := by decide +kernel
theorem dX7_add_29 : decode cX7_add 29 = .ok (.iaload, 1) := by decide +kernel
theorem dX7_add_30 : decode cX7_add 30 = .ok (.iload_n 2, 1) := by decide +kernel
theorem dX7_add_31 : decode cX7_add 31 = .ok (.iadd, 1) := by decide +kernel
theorem dX7_add_32 : decode cX7_add 32 = .ok (.sipush 240, 3) := by decide +kernel
theorem dX7_add_35 : decode cX7_add 35 = .ok (.if_icmp .le 6, 3) := by decide +kernel
theorem dX7_add_38 : decode cX7_add 38 = .ok (.bipush (-4), 2) := by decide +kernel
theorem dX7_add_40 : decode cX7_add 40 = .ok (.ireturn, 1) := by decide +kernel
theorem dX7_add_41 : decode cX7_add 41 = .ok (.aload_n 0, 1) := by decide +kernel
theorem dX7_add_42 : decode cX7_add 42 = .ok (.invokevirtual 79, 3) := by decide +kernel
theorem dX7_add_45 : decode cX7_add 45 = .ok (.iconst 0, 1) := by decide +kernel
theorem dX7_add_46 : decode cX7_add 46 = .ok (.istore_n 3, 1) := by decide +kernel
theorem dX7_add_47 : decode cX7_add 47 = .ok (.iload_n 3, 1) := by decide +kernel
theorem dX7_add_48 : decode cX7_add 48 = .ok (.iload_n 2, 1) := by decide +kernel
theorem dX7_add_49 : decode cX7_add 49 = .ok (.if_icmp .ge 26, 3) := by decide +kernel
theorem dX7_add_52 : decode cX7_add 52 = .ok (.aload_n 0, 1) := by decide +kernel
theorem dX7_add_53 : decode cX7_add 53 = .ok (.getfield 7, 3) := by decide +kernel
theorem dX7_add_56 : decode cX7_add 56 = .ok (.bipush 10, 2) := by decide +kernel
theorem dX7_add_58 : decode cX7_add 58 = .ok (.aload_n 0, 1) := by decide +kernel
theorem dX7_add_59 : decode cX7_add 59 = .ok (.getfield 7, 3) := by decide +kernel
theorem dX7_add_62 : decode cX7_add 62 = .ok (.iconst 3, 1) := by decide +kernel
theorem dX7_add_63 : decode cX7_add 63 = .ok (.iaload, 1) := by decide +kernel
theorem dX7_add_64 : decode cX7_add 64 = .ok (.iadd, 1) := by decide +kernel
theorem dX7_add_65 : decode cX7_add 65 = .ok (.iload_n 3, 1) := by decide +kernel
theorem dX7_add_66 : decode cX7_add 66 = .ok (.iadd, 1) := by decide +kernel
theorem dX7_add_67 : decode cX7_add 67 = .ok (.iload_n 1, 1) := by decide +kernel
theorem dX7_add_68 : decode cX7_add 68 = .ok (.iastore, 1) := by decide +kernel
theorem dX7_add_69 : decode cX7_add 69 = .ok (.iinc 3 1, 3) := by decide +kernel
theorem dX7_add_72 : decode cX7_add 72 = .ok (.goto (-25), 3) := by decide +kernel
theorem dX7_add_75 : decode cX7_add 75 = .ok (.aload_n 0, 1) := by decide +kernel
theorem dX7_add_76 : decode cX7_add 76 = .ok (.getfield 7, 3) := by decide +kernel
theorem dX7_add_79 : decode cX7_add 79 = .ok (.iconst 3, 1) := by decide +kernel
theorem dX7_add_80 : decode cX7_add 80 = .ok (.dup2, 1) := by decide +kernel
theorem dX7_add_81 : decode cX7_add 81 = .ok (.iaload, 1) := by decide +kernel
theorem dX7_add_82 : decode cX7_add 82 = .ok (.iload_n 2, 1) := by decide +kernel
theorem dX7_add_83 : decode cX7_add 83 = .ok (.iadd, 1) := by decide +kernel
theorem dX7_add_84 : decode cX7_add 84 = .ok (.iastore, 1) := by decide +kernel
theorem dX7_add_85 : decode cX7_add 85 = .ok (.aload_n 0, 1) := by decide +kernel
theorem dX7_add_86 : decode cX7_add 86 = .ok (.invokevirtual 82, 3) := by decide +kernel
theorem dX7_add_89 : decode cX7_add 89 = .ok (.aload_n 0, 1) := by decide +kernel
theorem dX7_add_90 : decode cX7_add 90 = .ok (.getfield 7, 3) := by decide +kernel
theorem dX7_add_93 : decode cX7_add 93 = .ok (.iconst 3, 1) := by decide +kernel
theorem dX7_add_94 : decode cX7_add 94 = .ok (.iaload, 1) := by decide +kernel
theorem dX7_add_95 : decode cX7_add 95 = .ok (.ireturn, 1) := by decide +kernel
theorem dX7_cut_0 : decode cX7_cut 0 = .ok (.iload_n 1, 1) := by decide +kernel
theorem dX7_cut_1 : decode cX7_cut 1 = .ok (.iconst 1, 1) := by decide +kernel
theorem dX7_cut_2 : decode cX7_cut 2 = .ok (.sipush 240, 3) := by decide +kernel
theorem dX7_cut_5 : decode cX7_cut 5 = .ok (.invokestatic 71, 3) := by decide +kernel
theorem dX7_cut_8 : decode cX7_cut 8 = .ok (.ifCond .ne 6, 3) := by decide +kernel
theorem dX7_cut_11 : decode cX7_cut 11 = .ok (.bipush (-2), 2) := by decide +kernel
theorem dX7_cut_13 : decode cX7_cut 13 = .ok (.ireturn, 1) := by decide +kernel
theorem dX7_cut_14 : decode cX7_cut 14 = .ok (.iload_n 1, 1) := by decide +kernel
theorem dX7_cut_15 : decode cX7_cut 15 = .ok (.aload_n 0, 1) := by decide +kernel
theorem dX7_cut_16 : decode cX7_cut 16 = .ok (.getfield 7, 3) := by decide +kernel
theorem dX7_cut_19 : decode cX7_cut 19 = .ok (.iconst 3, 1) := by decide +kernel
theorem dX7_cut_20 : decode cX7_cut 20 = .ok (.iaload, 1) := by decide +kernel
theorem dX7_cut_21 : decode cX7_cut 21 = .ok (.if_icmp .le 6, 3) := by decide +kernel
theorem dX7_cut_24 : decode cX7_cut 24 = .ok (.bipush (-5), 2) := by decide +kernel
theorem dX7_cut_26 : decode cX7_cut 26 = .ok (.ireturn, 1) := by decide +kernel
theorem dX7_cut_27 : decode cX7_cut 27 = .ok (.aload_n 0, 1) := by decide +kernel
theorem dX7_cut_28 : decode cX7_cut 28 = .ok (.invokevirtual 79, 3) := by decide +kernel
theorem dX7_cut_31 : decode cX7_cut 31 = .ok (.aload_n 0, 1) := by decide +kernel
theorem dX7_cut_32 : decode cX7_cut 32 = .ok (.getfield 7, 3) := by decide +kernel
theorem dX7_cut_35 : decode cX7_cut 35 = .ok (.iconst 3, 1) := by decide +kernel
theorem dX7_cut_36 : decode cX7_cut 36 = .ok (.dup2, 1) := by decide +kernel
theorem dX7_cut_37 : decode cX7_cut 37 = .ok (.iaload, 1) := by decide +kernel
theorem dX7_cut_38 : decode cX7_cut 38 = .ok (.iload_n 1, 1) := by decide +kernel
theorem dX7_cut_39 : decode cX7_cut 39 = .ok (.isub, 1) := by decide +kernel
theorem dX7_cut_40 : decode cX7_cut 40 = .ok (.iastore, 1) := by decide +kernel
theorem dX7_cut_41 : decode cX7_cut 41 = .ok (.aload_n 0, 1) := by decide +kernel
theorem dX7_cut_42 : decode cX7_cut 42 = .ok (.invokevirtual 82, 3) := by decide +kernel
theorem dX7_cut_45 : decode cX7_cut 45 = .ok (.aload_n 0, 1) := by decide +kernel
theorem dX7_cut_46 : decode cX7_cut 46 = .ok (.getfield 7, 3) := by decide +kernel
theorem dX7_cut_49 : decode cX7_cut 49 = .ok (.iconst 3, 1) := by decide +kernel
theorem dX7_cut_50 : decode cX7_cut 50 = .ok (.iaload, 1) := by decide +kernel
theorem dX7_cut_51 : decode cX7_cut 51 = .ok (.ireturn, 1) := by decide +kernel
theorem dX7_beginBook_0 : decode cX7_beginBook 0 = .ok (.aload_n 0, 1) := by decide +kernel
theorem dX7_beginBook_1 : decode cX7_beginBook 1 = .ok (.bipush 10, 2) := by decide +kernel
theorem dX7_beginBook_3 : decode cX7_beginBook 3 = .ok (.putfield 85, 3) := by decide +kernel
theorem dX7_beginBook_6 : decode cX7_beginBook 6 = .ok (.iconst 0, 1) := by decide +kernel
theorem dX7_beginBook_7 : decode cX7_beginBook 7 = .ok (.istore_n 1, 1) := by decide +kernel
theorem dX7_beginBook_8 : decode cX7_beginBook 8 = .ok (.iload_n 1, 1) := by decide +kernel
theorem dX7_beginBook_9 : decode cX7_beginBook 9 = .ok (.bipush 10, 2) := by decide +kernel
theorem dX7_beginBook_11 : decode cX7_beginBook 11 = .ok (.if_icmp .ge 64, 3) := by decide +kernel
theorem dX7_beginBook_14 : decode cX7_beginBook 14 = .ok (.aload_n 0, 1) := by decide +kernel
theorem dX7_beginBook_15 : decode cX7_beginBook 15 = .ok (.getfield 26, 3) := by decide +kernel
theorem dX7_beginBook_18 : decode cX7_beginBook 18 = .ok (.iload_n 1, 1) := by decide +kernel
theorem dX7_beginBook_19 : decode cX7_beginBook 19 = .ok (.bipush (-6), 2) := by decide +kernel
theorem dX7_beginBook_21 : decode cX7_beginBook 21 = .ok (.iastore, 1) := by decide +kernel
theorem dX7_beginBook_22 : decode cX7_beginBook 22 = .ok (.aload_n 0, 1) := by decide +kernel
theorem dX7_beginBook_23 : decode cX7_beginBook 23 = .ok (.getfield 29, 3) := by decide +kernel
theorem dX7_beginBook_26 : decode cX7_beginBook 26 = .ok (.iload_n 1, 1) := by decide +kernel
theorem dX7_beginBook_27 : decode cX7_beginBook 27 = .ok (.iload_n 1, 1) := by decide +kernel
theorem dX7_beginBook_28 : decode cX7_beginBook 28 = .ok (.bipush 8, 2) := by decide +kernel
theorem dX7_beginBook_30 : decode cX7_beginBook 30 = .ok (.if_icmp .ge 7, 3) := by decide +kernel
theorem dX7_beginBook_33 : decode cX7_beginBook 33 = .ok (.iload_n 1, 1) := by decide +kernel
theorem dX7_beginBook_34 : decode cX7_beginBook 34 = .ok (.goto 5, 3) := by decide +kernel
theorem dX7_beginBook_37 : decode cX7_beginBook 37 = .ok (.bipush (-6), 2) := by decide +kernel
theorem dX7_beginBook_39 : decode cX7_beginBook 39 = .ok (.iastore, 1) := by decide +kernel
theorem dX7_beginBook_40 : decode cX7_beginBook 40 = .ok (.aload_n 0, 1) := by decide +kernel
theorem dX7_beginBook_41 : decode cX7_beginBook 41 = .ok (.getfield 32, 3) := by decide +kernel
theorem dX7_beginBook_44 : decode cX7_beginBook 44 = .ok (.iload_n 1, 1) := by decide +kernel
theorem dX7_beginBook_45 : decode cX7_beginBook 45 = .ok (.aload_n 0, 1) := by decide +kernel
theorem dX7_beginBook_46 : decode cX7_beginBook 46 = .ok (.getfield 29, 3) := by decide +kernel
theorem dX7_beginBook_49 : decode cX7_beginBook 49 = .ok (.iload_n 1, 1) := by decide +kernel
theorem dX7_beginBook_50 : decode cX7_beginBook 50 = .ok (.iaload, 1) := by decide +kernel
theorem dX7_beginBook_51 : decode cX7_beginBook 51 = .ok (.iastore, 1) := by decide +kernel
theorem dX7_beginBook_52 : decode cX7_beginBook 52 = .ok (.aload_n 0, 1) := by decide +kernel
theorem dX7_beginBook_53 : decode cX7_beginBook 53 = .ok (.getfield 35, 3) := by decide +kernel
theorem dX7_beginBook_56 : decode cX7_beginBook 56 = .ok (.iload_n 1, 1) := by decide +kernel
theorem dX7_beginBook_57 : decode cX7_beginBook 57 = .ok (.iload_n 1, 1) := by decide +kernel
theorem dX7_beginBook_58 : decode cX7_beginBook 58 = .ok (.bipush 8, 2) := by decide +kernel
theorem dX7_beginBook_60 : decode cX7_beginBook 60 = .ok (.if_icmp .ge 7, 3) := by decide +kernel
theorem dX7_beginBook_63 : decode cX7_beginBook 63 = .ok (.iconst 1, 1) := by decide +kernel
theorem dX7_beginBook_64 : decode cX7_beginBook 64 = .ok (.goto 4, 3) := by decide +kernel
theorem dX7_beginBook_67 : decode cX7_beginBook 67 = .ok (.iconst 0, 1) := by decide +kernel
theorem dX7_beginBook_68 : decode cX7_beginBook 68 = .ok (.iastore, 1) := by decide +kernel
theorem dX7_beginBook_69 : decode cX7_beginBook 69 = .ok (.iinc 1 1, 3) := by decide +kernel
theorem dX7_beginBook_72 : decode cX7_beginBook 72 = .ok (.goto (-64), 3) := by decide +kernel
theorem dX7_beginBook_75 : decode cX7_beginBook 75 = .ok (.return_, 1) := by decide +kernel
theorem dX7_enterPhrase_0 : decode cX7_enterPhrase 0 = .ok (.aload_n 0, 1) := by decide +kernel
theorem dX7_enterPhrase_1 : decode cX7_enterPhrase 1 = .ok (.getfield 26, 3) := by decide +kernel
theorem dX7_enterPhrase_4 : decode cX7_enterPhrase 4 = .ok (.aload_n 0, 1) := by decide +kernel
theorem dX7_enterPhrase_5 : decode cX7_enterPhrase 5 = .ok (.getfield 85, 3) := by decide +kernel
theorem dX7_enterPhrase_8 : decode cX7_enterPhrase 8 = .ok (.iload_n 1, 1) := by decide +kernel
theorem dX7_enterPhrase_9 : decode cX7_enterPhrase 9 = .ok (.iastore, 1) := by decide +kernel
theorem dX7_enterPhrase_10 : decode cX7_enterPhrase 10 = .ok (.aload_n 0, 1) := by decide +kernel
theorem dX7_enterPhrase_11 : decode cX7_enterPhrase 11 = .ok (.getfield 29, 3) := by decide +kernel
theorem dX7_enterPhrase_14 : decode cX7_enterPhrase 14 = .ok (.aload_n 0, 1) := by decide +kernel
theorem dX7_enterPhrase_15 : decode cX7_enterPhrase 15 = .ok (.getfield 85, 3) := by decide +kernel
theorem dX7_enterPhrase_18 : decode cX7_enterPhrase 18 = .ok (.iload_n 2, 1) := by decide +kernel
theorem dX7_enterPhrase_19 : decode cX7_enterPhrase 19 = .ok (.iastore, 1) := by decide +kernel
theorem dX7_enterPhrase_20 : decode cX7_enterPhrase 20 = .ok (.aload_n 0, 1) := by decide +kernel
theorem dX7_enterPhrase_21 : decode cX7_enterPhrase 21 = .ok (.getfield 32, 3) := by decide +kernel
theorem dX7_enterPhrase_24 : decode cX7_enterPhrase 24 = .ok (.aload_n 0, 1) := by decide +kernel
theorem dX7_enterPhrase_25 : decode cX7_enterPhrase 25 = .ok (.getfield 85, 3) := by decide +kernel
theorem dX7_enterPhrase_28 : decode cX7_enterPhrase 28 = .ok (.aload_n 0, 1) := by decide +kernel
theorem dX7_enterPhrase_29 : decode cX7_enterPhrase 29 = .ok (.getfield 32, 3) := by decide +kernel
theorem dX7_enterPhrase_32 : decode cX7_enterPhrase 32 = .ok (.iload_n 1, 1) := by decide +kernel
theorem dX7_enterPhrase_33 : decode cX7_enterPhrase 33 = .ok (.iaload, 1) := by decide +kernel
theorem dX7_enterPhrase_34 : decode cX7_enterPhrase 34 = .ok (.iastore, 1) := by decide +kernel
theorem dX7_enterPhrase_35 : decode cX7_enterPhrase 35 = .ok (.aload_n 0, 1) := by decide +kernel
theorem dX7_enterPhrase_36 : decode cX7_enterPhrase 36 = .ok (.getfield 35, 3) := by decide +kernel
theorem dX7_enterPhrase_39 : decode cX7_enterPhrase 39 = .ok (.aload_n 0, 1) := by decide +kernel
theorem dX7_enterPhrase_40 : decode cX7_enterPhrase 40 = .ok (.getfield 85, 3) := by decide +kernel
theorem dX7_enterPhrase_43 : decode cX7_enterPhrase 43 = .ok (.aload_n 0, 1) := by decide +kernel
theorem dX7_enterPhrase_44 : decode cX7_enterPhrase 44 = .ok (.getfield 35, 3) := by decide +kernel
theorem dX7_enterPhrase_47 : decode cX7_enterPhrase 47 = .ok (.iload_n 1, 1) := by decide +kernel
theorem dX7_enterPhrase_48 : decode cX7_enterPhrase 48 = .ok (.iaload, 1) := by decide +kernel
theorem dX7_enterPhrase_49 : decode cX7_enterPhrase 49 = .ok (.iconst 1, 1) := by decide +kernel
theorem dX7_enterPhrase_50 : decode cX7_enterPhrase 50 = .ok (.iadd, 1) := by decide +kernel
theorem dX7_enterPhrase_51 : decode cX7_enterPhrase 51 = .ok (.iastore, 1) := by decide +kernel
theorem dX7_enterPhrase_52 : decode cX7_enterPhrase 52 = .ok (.aload_n 0, 1) := by decide +kernel
theorem dX7_enterPhrase_53 : decode cX7_enterPhrase 53 = .ok (.dup, 1) := by decide +kernel
theorem dX7_enterPhrase_54 : decode cX7_enterPhrase 54 = .ok (.getfield 85, 3) := by decide +kernel
theorem dX7_enterPhrase_57 : decode cX7_enterPhrase 57 = .ok (.iconst 1, 1) := by decide +kernel
theorem dX7_enterPhrase_58 : decode cX7_enterPhrase 58 = .ok (.iadd, 1) := by decide +kernel
theorem dX7_enterPhrase_59 : decode cX7_enterPhrase 59 = .ok (.putfield 85, 3) := by decide +kernel
theorem dX7_enterPhrase_62 : decode cX7_enterPhrase 62 = .ok (.return_, 1) := by decide +kernel
theorem dX7_longer_0 : decode cX7_longer 0 = .ok (.bipush 10, 2) := by decide +kernel
theorem dX7_longer_2 : decode cX7_longer 2 = .ok (.istore_n 3, 1) := by decide +kernel
theorem dX7_longer_3 : decode cX7_longer 3 = .ok (.iload_n 3, 1) := by decide +kernel
theorem dX7_longer_4 : decode cX7_longer 4 = .ok (.aload_n 0, 1) := by decide +kernel
theorem dX7_longer_5 : decode cX7_longer 5 = .ok (.getfield 85, 3) := by decide +kernel
theorem dX7_longer_8 : decode cX7_longer 8 = .ok (.if_icmp .ge 31, 3) := by decide +kernel
theorem dX7_longer_11 : decode cX7_longer 11 = .ok (.aload_n 0, 1) := by decide +kernel
theorem dX7_longer_12 : decode cX7_longer 12 = .ok (.getfield 26, 3) := by decide +kernel
theorem dX7_longer_15 : decode cX7_longer 15 = .ok (.iload_n 3, 1) := by decide +kernel
theorem dX7_longer_16 : decode cX7_longer 16 = .ok (.iaload, 1) := by decide +kernel
theorem dX7_longer_17 : decode cX7_longer 17 = .ok (.iload_n 1, 1) := by decide +kernel
theorem dX7_longer_18 : decode cX7_longer 18 = .ok (.if_icmp .ne 15, 3) := by decide +kernel
theorem dX7_longer_21 : decode cX7_longer 21 = .ok (.aload_n 0, 1) := by decide +kernel
theorem dX7_longer_22 : decode cX7_longer 22 = .ok (.getfield 29, 3) := by decide +kernel
theorem dX7_longer_25 : decode cX7_longer 25 = .ok (.iload_n 3, 1) := by decide +kernel
theorem dX7_longer_26 : decode cX7_longer 26 = .ok (.iaload, 1) := by decide +kernel
theorem dX7_longer_27 : decode cX7_longer 27 = .ok (.iload_n 2, 1) := by decide +kernel
theorem dX7_longer_28 : decode cX7_longer 28 = .ok (.if_icmp .ne 5, 3) := by decide +kernel
theorem dX7_longer_31 : decode cX7_longer 31 = .ok (.iload_n 3, 1) := by decide +kernel
theorem dX7_longer_32 : decode cX7_longer 32 = .ok (.ireturn, 1) := by decide +kernel
theorem dX7_longer_33 : decode cX7_longer 33 = .ok (.iinc 3 1, 3) := by decide +kernel
theorem dX7_longer_36 : decode cX7_longer 36 = .ok (.goto (-33), 3) := by decide +kernel
theorem dX7_longer_39 : decode cX7_longer 39 = .ok (.bipush (-6), 2) := by decide +kernel
theorem dX7_longer_41 : decode cX7_longer 41 = .ok (.ireturn, 1) := by decide +kernel
theorem dX7_writeCode_0 : decode cX7_writeCode 0 = .ok (.iconst 4, 1) := by decide +kernel
theorem dX7_writeCode_1 : decode cX7_writeCode 1 = .ok (.istore 4, 2) := by decide +kernel
theorem dX7_writeCode_3 : decode cX7_writeCode 3 = .ok (.aload_n 0, 1) := by decide +kernel
theorem dX7_writeCode_4 : decode cX7_writeCode 4 = .ok (.getfield 85, 3) := by decide +kernel
theorem dX7_writeCode_7 : decode cX7_writeCode 7 = .ok (.iconst 1, 1) := by decide +kernel
theorem dX7_writeCode_8 : decode cX7_writeCode 8 = .ok (.isub, 1) := by decide +kernel
theorem dX7_writeCode_9 : decode cX7_writeCode 9 = .ok (.iload 4, 2) := by decide +kernel
theorem dX7_writeCode_11 : decode cX7_writeCode 11 = .ok (.ishr, 1) := by decide +kernel
theorem dX7_writeCode_12 : decode cX7_writeCode 12 = .ok (.ifCond .le 9, 3) := by decide +kernel
theorem dX7_writeCode_15 : decode cX7_writeCode 15 = .ok (.iinc 4 1, 3) := by decide +kernel
theorem dX7_writeCode_18 : decode cX7_writeCode 18 = .ok (.goto (-15), 3) := by decide +kernel
theorem dX7_writeCode_21 : decode cX7_writeCode 21 = .ok (.aload_n 0, 1) := by decide +kernel
theorem dX7_writeCode_22 : decode cX7_writeCode 22 = .ok (.getfield 38, 3) := by decide +kernel
theorem dX7_writeCode_25 : decode cX7_writeCode 25 = .ok (.aload_n 0, 1) := by decide +kernel
theorem dX7_writeCode_26 : decode cX7_writeCode 26 = .ok (.getfield 88, 3) := by decide +kernel
theorem dX7_writeCode_29 : decode cX7_writeCode 29 = .ok (.iload_n 1, 1) := by decide +kernel
theorem dX7_writeCode_30 : decode cX7_writeCode 30 = .ok (.iastore, 1) := by decide +kernel
theorem dX7_writeCode_31 : decode cX7_writeCode 31 = .ok (.aload_n 0, 1) := by decide +kernel
theorem dX7_writeCode_32 : decode cX7_writeCode 32 = .ok (.getfield 41, 3) := by decide +kernel
theorem dX7_writeCode_35 : decode cX7_writeCode 35 = .ok (.aload_n 0, 1) := by decide +kernel
theorem dX7_writeCode_36 : decode cX7_writeCode 36 = .ok (.getfield 88, 3) := by decide +kernel
theorem dX7_writeCode_39 : decode cX7_writeCode 39 = .ok (.iload 4, 2) := by decide +kernel
theorem dX7_writeCode_41 : decode cX7_writeCode 41 = .ok (.iastore, 1) := by decide +kernel
theorem dX7_writeCode_42 : decode cX7_writeCode 42 = .ok (.aload_n 0, 1) := by decide +kernel
theorem dX7_writeCode_43 : decode cX7_writeCode 43 = .ok (.getfield 44, 3) := by decide +kernel
theorem dX7_writeCode_46 : decode cX7_writeCode 46 = .ok (.aload_n 0, 1) := by decide +kernel
theorem dX7_writeCode_47 : decode cX7_writeCode 47 = .ok (.getfield 88, 3) := by decide +kernel
theorem dX7_writeCode_50 : decode cX7_writeCode 50 = .ok (.iload_n 2, 1) := by decide +kernel
theorem dX7_writeCode_51 : decode cX7_writeCode 51 = .ok (.iastore, 1) := by decide +kernel
theorem dX7_writeCode_52 : decode cX7_writeCode 52 = .ok (.aload_n 0, 1) := by decide +kernel
theorem dX7_writeCode_53 : decode cX7_writeCode 53 = .ok (.getfield 47, 3) := by decide +kernel
theorem dX7_writeCode_56 : decode cX7_writeCode 56 = .ok (.aload_n 0, 1) := by decide +kernel
theorem dX7_writeCode_57 : decode cX7_writeCode 57 = .ok (.getfield 88, 3) := by decide +kernel
theorem dX7_writeCode_60 : decode cX7_writeCode 60 = .ok (.iload_n 3, 1) := by decide +kernel
theorem dX7_writeCode_61 : decode cX7_writeCode 61 = .ok (.iastore, 1) := by decide +kernel
theorem dX7_writeCode_62 : decode cX7_writeCode 62 = .ok (.aload_n 0, 1) := by decide +kernel
theorem dX7_writeCode_63 : decode cX7_writeCode 63 = .ok (.getfield 50, 3) := by decide +kernel
theorem dX7_writeCode_66 : decode cX7_writeCode 66 = .ok (.aload_n 0, 1) := by decide +kernel
theorem dX7_writeCode_67 : decode cX7_writeCode 67 = .ok (.getfield 88, 3) := by decide +kernel
theorem dX7_writeCode_70 : decode cX7_writeCode 70 = .ok (.aload_n 0, 1) := by decide +kernel
theorem dX7_writeCode_71 : decode cX7_writeCode 71 = .ok (.getfield 85, 3) := by decide +kernel
theorem dX7_writeCode_74 : decode cX7_writeCode 74 = .ok (.iastore, 1) := by decide +kernel
theorem dX7_writeCode_75 : decode cX7_writeCode 75 = .ok (.aload_n 0, 1) := by decide +kernel
theorem dX7_writeCode_76 : decode cX7_writeCode 76 = .ok (.dup, 1) := by decide +kernel
theorem dX7_writeCode_77 : decode cX7_writeCode 77 = .ok (.getfield 88, 3) := by decide +kernel
theorem dX7_writeCode_80 : decode cX7_writeCode 80 = .ok (.iconst 1, 1) := by decide +kernel
theorem dX7_writeCode_81 : decode cX7_writeCode 81 = .ok (.iadd, 1) := by decide +kernel
theorem dX7_writeCode_82 : decode cX7_writeCode 82 = .ok (.putfield 88, 3) := by decide +kernel
theorem dX7_writeCode_85 : decode cX7_writeCode 85 = .ok (.return_, 1) := by decide +kernel
theorem dX7_sumUpTo_0 : decode cX7_sumUpTo 0 = .ok (.iconst 0, 1) := by decide +kernel
theorem dX7_sumUpTo_1 : decode cX7_sumUpTo 1 = .ok (.istore_n 2, 1) := by decide +kernel
theorem dX7_sumUpTo_2 : decode cX7_sumUpTo 2 = .ok (.iload_n 1, 1) := by decide +kernel
theorem dX7_sumUpTo_3 : decode cX7_sumUpTo 3 = .ok (.aload_n 0, 1) := by decide +kernel
theorem dX7_sumUpTo_4 : decode cX7_sumUpTo 4 = .ok (.getfield 7, 3) := by decide +kernel
theorem dX7_sumUpTo_7 : decode cX7_sumUpTo 7 = .ok (.iconst 2, 1) := by decide +kernel
theorem dX7_sumUpTo_8 : decode cX7_sumUpTo 8 = .ok (.iaload, 1) := by decide +kernel
theorem dX7_sumUpTo_9 : decode cX7_sumUpTo 9 = .ok (.isub, 1) := by decide +kernel
theorem dX7_sumUpTo_10 : decode cX7_sumUpTo 10 = .ok (.istore_n 3, 1) := by decide +kernel
theorem dX7_sumUpTo_11 : decode cX7_sumUpTo 11 = .ok (.iload_n 3, 1) := by decide +kernel
theorem dX7_sumUpTo_12 : decode cX7_sumUpTo 12 = .ok (.iload_n 1, 1) := by decide +kernel
theorem dX7_sumUpTo_13 : decode cX7_sumUpTo 13 = .ok (.if_icmp .ge 18, 3) := by decide +kernel
theorem dX7_sumUpTo_16 : decode cX7_sumUpTo 16 = .ok (.iload_n 2, 1) := by decide +kernel
theorem dX7_sumUpTo_17 : decode cX7_sumUpTo 17 = .ok (.aload_n 0, 1) := by decide +kernel
theorem dX7_sumUpTo_18 : decode cX7_sumUpTo 18 = .ok (.getfield 47, 3) := by decide +kernel
theorem dX7_sumUpTo_21 : decode cX7_sumUpTo 21 = .ok (.iload_n 3, 1) := by decide +kernel
theorem dX7_sumUpTo_22 : decode cX7_sumUpTo 22 = .ok (.iaload, 1) := by decide +kernel
theorem dX7_sumUpTo_23 : decode cX7_sumUpTo 23 = .ok (.iadd, 1) := by decide +kernel
theorem dX7_sumUpTo_24 : decode cX7_sumUpTo 24 = .ok (.istore_n 2, 1) := by decide +kernel
theorem dX7_sumUpTo_25 : decode cX7_sumUpTo 25 = .ok (.iinc 3 1, 3) := by decide +kernel
theorem dX7_sumUpTo_28 : decode cX7_sumUpTo 28 = .ok (.goto (-17), 3) := by decide +kernel
theorem dX7_sumUpTo_31 : decode cX7_sumUpTo 31 = .ok (.iload_n 2, 1) := by decide +kernel
theorem dX7_sumUpTo_32 : decode cX7_sumUpTo 32 = .ok (.ireturn, 1) := by decide +kernel
theorem dX7_write_0 : decode cX7_write 0 = .ok (.iconst 1, 1) := by decide +kernel
theorem dX7_write_1 : decode cX7_write 1 = .ok (.iload_n 1, 1) := by decide +kernel
theorem dX7_write_2 : decode cX7_write 2 = .ok (.ishl, 1) := by decide +kernel
theorem dX7_write_3 : decode cX7_write 3 = .ok (.istore_n 3, 1) := by decide +kernel
theorem dX7_write_4 : decode cX7_write 4 = .ok (.iconst 0, 1) := by decide +kernel
theorem dX7_write_5 : decode cX7_write 5 = .ok (.istore 4, 2) := by decide +kernel
theorem dX7_write_7 : decode cX7_write 7 = .ok (.iconst 0, 1) := by decide +kernel
theorem dX7_write_8 : decode cX7_write 8 = .ok (.istore 5, 2) := by decide +kernel
theorem dX7_write_10 : decode cX7_write 10 = .ok (.aload_n 0, 1) := by decide +kernel
theorem dX7_write_11 : decode cX7_write 11 = .ok (.iconst 0, 1) := by decide +kernel
theorem dX7_write_12 : decode cX7_write 12 = .ok (.putfield 88, 3) := by decide +kernel
theorem dX7_write_15 : decode cX7_write 15 = .ok (.aload_n 0, 1) := by decide +kernel
theorem dX7_write_16 : decode cX7_write 16 = .ok (.iconst 0, 1) := by decide +kernel
theorem dX7_write_17 : decode cX7_write 17 = .ok (.putfield 91, 3) := by decide +kernel
theorem dX7_write_20 : decode cX7_write 20 = .ok (.aload_n 0, 1) := by decide +kernel
theorem dX7_write_21 : decode cX7_write 21 = .ok (.invokevirtual 94, 3) := by decide +kernel
theorem dX7_write_24 : decode cX7_write 24 = .ok (.iload 4, 2) := by decide +kernel
theorem dX7_write_26 : decode cX7_write 26 = .ok (.aload_n 0, 1) := by decide +kernel
theorem dX7_write_27 : decode cX7_write 27 = .ok (.getfield 7, 3) := by decide +kernel
theorem dX7_write_30 : decode cX7_write 30 = .ok (.iconst 3, 1) := by decide +kernel
theorem dX7_write_31 : decode cX7_write 31 = .ok (.iaload, 1) := by decide +kernel
theorem dX7_write_32 : decode cX7_write 32 = .ok (.if_icmp .ge 308, 3) := by decide +kernel
theorem dX7_write_35 : decode cX7_write 35 = .ok (.aload_n 0, 1) := by decide +kernel
theorem dX7_write_36 : decode cX7_write 36 = .ok (.getfield 7, 3) := by decide +kernel
theorem dX7_write_39 : decode cX7_write 39 = .ok (.bipush 10, 2) := by decide +kernel
theorem dX7_write_41 : decode cX7_write 41 = .ok (.iload 4, 2) := by decide +kernel
theorem dX7_write_43 : decode cX7_write 43 = .ok (.iadd, 1) := by decide +kernel
theorem dX7_write_44 : decode cX7_write 44 = .ok (.iaload, 1) := by decide +kernel
theorem dX7_write_45 : decode cX7_write 45 = .ok (.istore 6, 2) := by decide +kernel
theorem dX7_write_47 : decode cX7_write 47 = .ok (.iconst 1, 1) := by decide +kernel
theorem dX7_write_48 : decode cX7_write 48 = .ok (.istore 7, 2) := by decide +kernel
theorem dX7_write_50 : decode cX7_write 50 = .ok (.iconst 1, 1) := by decide +kernel
theorem dX7_write_51 : decode cX7_write 51 = .ok (.istore 8, 2) := by decide +kernel
theorem dX7_write_53 : decode cX7_write 53 = .ok (.iload 8, 2) := by decide +kernel
theorem dX7_write_55 : decode cX7_write 55 = .ok (.ifCond .eq 82, 3) := by decide +kernel
theorem dX7_write_58 : decode cX7_write 58 = .ok (.iload 4, 2) := by decide +kernel
theorem dX7_write_60 : decode cX7_write 60 = .ok (.iload 7, 2) := by decide +kernel
theorem dX7_write_62 : decode cX7_write 62 = .ok (.iadd, 1) := by decide +kernel
theorem dX7_write_63 : decode cX7_write 63 = .ok (.aload_n 0, 1) := by decide +kernel
theorem dX7_write_64 : decode cX7_write 64 = .ok (.getfield 7, 3) := by decide +kernel
theorem dX7_write_67 : decode cX7_write 67 = .ok (.iconst 3, 1) := by decide +kernel
theorem dX7_write_68 : decode cX7_write 68 = .ok (.iaload, 1) := by decide +kernel
theorem dX7_write_69 : decode cX7_write 69 = .ok (.if_icmp .ge 68, 3) := by decide +kernel
theorem dX7_write_72 : decode cX7_write 72 = .ok (.aload_n 0, 1) := by decide +kernel
theorem dX7_write_73 : decode cX7_write 73 = .ok (.iload 6, 2) := by decide +kernel
theorem dX7_write_75 : decode cX7_write 75 = .ok (.aload_n 0, 1) := by decide +kernel
theorem dX7_write_76 : decode cX7_write 76 = .ok (.getfield 7, 3) := by decide +kernel
theorem dX7_write_79 : decode cX7_write 79 = .ok (.bipush 10, 2) := by decide +kernel
theorem dX7_write_81 : decode cX7_write 81 = .ok (.iload 4, 2) := by decide +kernel
theorem dX7_write_83 : decode cX7_write 83 = .ok (.iadd, 1) := by decide +kernel
theorem dX7_write_84 : decode cX7_write 84 = .ok (.iload 7, 2) := by decide +kernel
theorem dX7_write_86 : decode cX7_write 86 = .ok (.iadd, 1) := by decide +kernel
theorem dX7_write_87 : decode cX7_write 87 = .ok (.iaload, 1) := by decide +kernel
theorem dX7_write_88 : decode cX7_write 88 = .ok (.invokevirtual 97, 3) := by decide +kernel
theorem dX7_write_91 : decode cX7_write 91 = .ok (.istore 9, 2) := by decide +kernel
theorem dX7_write_93 : decode cX7_write 93 = .ok (.iload 9, 2) := by decide +kernel
theorem dX7_write_95 : decode cX7_write 95 = .ok (.ifCond .lt 7, 3) := by decide +kernel
theorem dX7_write_98 : decode cX7_write 98 = .ok (.iconst 1, 1) := by decide +kernel
theorem dX7_write_99 : decode cX7_write 99 = .ok (.goto 4, 3) := by decide +kernel
theorem dX7_write_102 : decode cX7_write 102 = .ok (.iconst 0, 1) := by decide +kernel
theorem dX7_write_103 : decode cX7_write 103 = .ok (.istore 8, 2) := by decide +kernel
theorem dX7_write_105 : decode cX7_write 105 = .ok (.iload 8, 2) := by decide +kernel
theorem dX7_write_107 : decode cX7_write 107 = .ok (.ifCond .eq 8, 3) := by decide +kernel
theorem dX7_write_110 : decode cX7_write 110 = .ok (.iload 9, 2) := by decide +kernel
theorem dX7_write_112 : decode cX7_write 112 = .ok (.goto 5, 3) := by decide +kernel
theorem dX7_write_115 : decode cX7_write 115 = .ok (.iload 6, 2) := by decide +kernel
theorem dX7_write_117 : decode cX7_write 117 = .ok (.istore 6, 2) := by decide +kernel
theorem dX7_write_119 : decode cX7_write 119 = .ok (.iload 7, 2) := by decide +kernel
theorem dX7_write_121 : decode cX7_write 121 = .ok (.iload 8, 2) := by decide +kernel
theorem dX7_write_123 : decode cX7_write 123 = .ok (.ifCond .eq 7, 3) := by decide +kernel
theorem dX7_write_126 : decode cX7_write 126 = .ok (.iconst 1, 1) := by decide +kernel
theorem dX7_write_127 : decode cX7_write 127 = .ok (.goto 4, 3) := by decide +kernel
theorem dX7_write_130 : decode cX7_write 130 = .ok (.iconst 0, 1) := by decide +kernel
theorem dX7_write_131 : decode cX7_write 131 = .ok (.iadd, 1) := by decide +kernel
theorem dX7_write_132 : decode cX7_write 132 = .ok (.istore 7, 2) := by decide +kernel
theorem dX7_write_134 : decode cX7_write 134 = .ok (.goto (-81), 3) := by decide +kernel
theorem dX7_write_137 : decode cX7_write 137 = .ok (.aload_n 0, 1) := by decide +kernel
theorem dX7_write_138 : decode cX7_write 138 = .ok (.iload 6, 2) := by decide +kernel
theorem dX7_write_140 : decode cX7_write 140 = .ok (.iload 4, 2) := by decide +kernel
theorem dX7_write_142 : decode cX7_write 142 = .ok (.iload 7, 2) := by decide +kernel
theorem dX7_write_144 : decode cX7_write 144 = .ok (.invokevirtual 101, 3) := by decide +kernel
theorem dX7_write_147 : decode cX7_write 147 = .ok (.iload 4, 2) := by decide +kernel
theorem dX7_write_149 : decode cX7_write 149 = .ok (.iload 7, 2) := by decide +kernel
theorem dX7_write_151 : decode cX7_write 151 = .ok (.iadd, 1) := by decide +kernel
theorem dX7_write_152 : decode cX7_write 152 = .ok (.istore 4, 2) := by decide +kernel
theorem dX7_write_154 : decode cX7_write 154 = .ok (.iload 4, 2) := by decide +kernel
theorem dX7_write_156 : decode cX7_write 156 = .ok (.aload_n 0, 1) := by decide +kernel
theorem dX7_write_157 : decode cX7_write 157 = .ok (.getfield 7, 3) := by decide +kernel
theorem dX7_write_160 : decode cX7_write 160 = .ok (.iconst 3, 1) := by decide +kernel
theorem dX7_write_161 : decode cX7_write 161 = .ok (.iaload, 1) := by decide +kernel
theorem dX7_write_162 : decode cX7_write 162 = .ok (.if_icmp .ge 175, 3) := by decide +kernel
theorem dX7_write_165 : decode cX7_write 165 = .ok (.aload_n 0, 1) := by decide +kernel
theorem dX7_write_166 : decode cX7_write 166 = .ok (.getfield 85, 3) := by decide +kernel
theorem dX7_write_169 : decode cX7_write 169 = .ok (.iload_n 3, 1) := by decide +kernel
theorem dX7_write_170 : decode cX7_write 170 = .ok (.if_icmp .ge 65, 3) := by decide +kernel
theorem dX7_write_173 : decode cX7_write 173 = .ok (.aload_n 0, 1) := by decide +kernel
theorem dX7_write_174 : decode cX7_write 174 = .ok (.iload 6, 2) := by decide +kernel
theorem dX7_write_176 : decode cX7_write 176 = .ok (.aload_n 0, 1) := by decide +kernel
theorem dX7_write_177 : decode cX7_write 177 = .ok (.getfield 7, 3) := by decide +kernel
theorem dX7_write_180 : decode cX7_write 180 = .ok (.bipush 10, 2) := by decide +kernel
theorem dX7_write_182 : decode cX7_write 182 = .ok (.iload 4, 2) := by decide +kernel
theorem dX7_write_184 : decode cX7_write 184 = .ok (.iadd, 1) := by decide +kernel
theorem dX7_write_185 : decode cX7_write 185 = .ok (.iaload, 1) := by decide +kernel
theorem dX7_write_186 : decode cX7_write 186 = .ok (.invokevirtual 105, 3) := by decide +kernel
theorem dX7_write_189 : decode cX7_write 189 = .ok (.aload_n 0, 1) := by decide +kernel
theorem dX7_write_190 : decode cX7_write 190 = .ok (.aload_n 0, 1) := by decide +kernel
theorem dX7_write_191 : decode cX7_write 191 = .ok (.getfield 35, 3) := by decide +kernel
theorem dX7_write_194 : decode cX7_write 194 = .ok (.aload_n 0, 1) := by decide +kernel
theorem dX7_write_195 : decode cX7_write 195 = .ok (.getfield 85, 3) := by decide +kernel
theorem dX7_write_198 : decode cX7_write 198 = .ok (.iconst 1, 1) := by decide +kernel
theorem dX7_write_199 : decode cX7_write 199 = .ok (.isub, 1) := by decide +kernel
theorem dX7_write_200 : decode cX7_write 200 = .ok (.iaload, 1) := by decide +kernel
theorem dX7_write_201 : decode cX7_write 201 = .ok (.aload_n 0, 1) := by decide +kernel
theorem dX7_write_202 : decode cX7_write 202 = .ok (.getfield 91, 3) := by decide +kernel
theorem dX7_write_205 : decode cX7_write 205 = .ok (.if_icmp .le 17, 3) := by decide +kernel
theorem dX7_write_208 : decode cX7_write 208 = .ok (.aload_n 0, 1) := by decide +kernel
theorem dX7_write_209 : decode cX7_write 209 = .ok (.getfield 35, 3) := by decide +kernel
theorem dX7_write_212 : decode cX7_write 212 = .ok (.aload_n 0, 1) := by decide +kernel
theorem dX7_write_213 : decode cX7_write 213 = .ok (.getfield 85, 3) := by decide +kernel
theorem dX7_write_216 : decode cX7_write 216 = .ok (.iconst 1, 1) := by decide +kernel
theorem dX7_write_217 : decode cX7_write 217 = .ok (.isub, 1) := by decide +kernel
theorem dX7_write_218 : decode cX7_write 218 = .ok (.iaload, 1) := by decide +kernel
theorem dX7_write_219 : decode cX7_write 219 = .ok (.goto 7, 3) := by decide +kernel
theorem dX7_write_222 : decode cX7_write 222 = .ok (.aload_n 0, 1) := by decide +kernel
theorem dX7_write_223 : decode cX7_write 223 = .ok (.getfield 91, 3) := by decide +kernel
theorem dX7_write_226 : decode cX7_write 226 = .ok (.putfield 91, 3) := by decide +kernel
theorem dX7_write_229 : decode cX7_write 229 = .ok (.aload_n 0, 1) := by decide +kernel
theorem dX7_write_230 : decode cX7_write 230 = .ok (.getfield 88, 3) := by decide +kernel
theorem dX7_write_233 : decode cX7_write 233 = .ok (.istore 5, 2) := by decide +kernel
theorem dX7_write_235 : decode cX7_write 235 = .ok (.aload_n 0, 1) := by decide +kernel
theorem dX7_write_236 : decode cX7_write 236 = .ok (.getfield 85, 3) := by decide +kernel
theorem dX7_write_239 : decode cX7_write 239 = .ok (.iload_n 3, 1) := by decide +kernel
theorem dX7_write_240 : decode cX7_write 240 = .ok (.if_icmp .ne 12, 3) := by decide +kernel
theorem dX7_write_243 : decode cX7_write 243 = .ok (.iload_n 2, 1) := by decide +kernel
theorem dX7_write_244 : decode cX7_write 244 = .ok (.iconst 1, 1) := by decide +kernel
theorem dX7_write_245 : decode cX7_write 245 = .ok (.if_icmp .ne 7, 3) := by decide +kernel
theorem dX7_write_248 : decode cX7_write 248 = .ok (.iconst 1, 1) := by decide +kernel
theorem dX7_write_249 : decode cX7_write 249 = .ok (.goto 4, 3) := by decide +kernel
theorem dX7_write_252 : decode cX7_write 252 = .ok (.iconst 0, 1) := by decide +kernel
theorem dX7_write_253 : decode cX7_write 253 = .ok (.istore 9, 2) := by decide +kernel
theorem dX7_write_255 : decode cX7_write 255 = .ok (.aload_n 0, 1) := by decide +kernel
theorem dX7_write_256 : decode cX7_write 256 = .ok (.getfield 85, 3) := by decide +kernel
theorem dX7_write_259 : decode cX7_write 259 = .ok (.iload_n 3, 1) := by decide +kernel
theorem dX7_write_260 : decode cX7_write 260 = .ok (.if_icmp .ne 59, 3) := by decide +kernel
theorem dX7_write_263 : decode cX7_write 263 = .ok (.iload_n 2, 1) := by decide +kernel
theorem dX7_write_264 : decode cX7_write 264 = .ok (.iconst 2, 1) := by decide +kernel
theorem dX7_write_265 : decode cX7_write 265 = .ok (.if_icmp .ne 54, 3) := by decide +kernel
theorem dX7_write_268 : decode cX7_write 268 = .ok (.aload_n 0, 1) := by decide +kernel
theorem dX7_write_269 : decode cX7_write 269 = .ok (.getfield 88, 3) := by decide +kernel
theorem dX7_write_272 : decode cX7_write 272 = .ok (.iload 5, 2) := by decide +kernel
theorem dX7_write_274 : decode cX7_write 274 = .ok (.isub, 1) := by decide +kernel
theorem dX7_write_275 : decode cX7_write 275 = .ok (.iconst 2, 1) := by decide +kernel
theorem dX7_write_276 : decode cX7_write 276 = .ok (.aload_n 0, 1) := by decide +kernel
theorem dX7_write_277 : decode cX7_write 277 = .ok (.getfield 7, 3) := by decide +kernel
theorem dX7_write_280 : decode cX7_write 280 = .ok (.iconst 2, 1) := by decide +kernel
theorem dX7_write_281 : decode cX7_write 281 = .ok (.iaload, 1) := by decide +kernel
theorem dX7_write_282 : decode cX7_write 282 = .ok (.imul, 1) := by decide +kernel
theorem dX7_write_283 : decode cX7_write 283 = .ok (.if_icmp .lt 36, 3) := by decide +kernel
theorem dX7_write_286 : decode cX7_write 286 = .ok (.aload_n 0, 1) := by decide +kernel
theorem dX7_write_287 : decode cX7_write 287 = .ok (.aload_n 0, 1) := by decide +kernel
theorem dX7_write_288 : decode cX7_write 288 = .ok (.getfield 88, 3) := by decide +kernel
theorem dX7_write_291 : decode cX7_write 291 = .ok (.invokevirtual 109, 3) := by decide +kernel
theorem dX7_write_294 : decode cX7_write 294 = .ok (.aload_n 0, 1) := by decide +kernel
theorem dX7_write_295 : decode cX7_write 295 = .ok (.aload_n 0, 1) := by decide +kernel
theorem dX7_write_296 : decode cX7_write 296 = .ok (.getfield 88, 3) := by decide +kernel
theorem dX7_write_299 : decode cX7_write 299 = .ok (.aload_n 0, 1) := by decide +kernel
theorem dX7_write_300 : decode cX7_write 300 = .ok (.getfield 7, 3) := by decide +kernel
theorem dX7_write_303 : decode cX7_write 303 = .ok (.iconst 2, 1) := by decide +kernel
theorem dX7_write_304 : decode cX7_write 304 = .ok (.iaload, 1) := by decide +kernel
theorem dX7_write_305 : decode cX7_write 305 = .ok (.isub, 1) := by decide +kernel
theorem dX7_write_306 : decode cX7_write 306 = .ok (.invokevirtual 109, 3) := by decide +kernel
theorem dX7_write_309 : decode cX7_write 309 = .ok (.if_icmp .ge 7, 3) := by decide +kernel
theorem dX7_write_312 : decode cX7_write 312 = .ok (.iconst 1, 1) := by decide +kernel
theorem dX7_write_313 : decode cX7_write 313 = .ok (.goto 4, 3) := by decide +kernel
theorem dX7_write_316 : decode cX7_write 316 = .ok (.iconst 0, 1) := by decide +kernel
theorem dX7_write_317 : decode cX7_write 317 = .ok (.istore 9, 2) := by decide +kernel
theorem dX7_write_319 : decode cX7_write 319 = .ok (.iload 9, 2) := by decide +kernel
theorem dX7_write_321 : decode cX7_write 321 = .ok (.ifCond .eq 16, 3) := by decide +kernel
theorem dX7_write_324 : decode cX7_write 324 = .ok (.aload_n 0, 1) := by decide +kernel
theorem dX7_write_325 : decode cX7_write 325 = .ok (.bipush 8, 2) := by decide +kernel
theorem dX7_write_327 : decode cX7_write 327 = .ok (.bipush (-6), 2) := by decide +kernel
theorem dX7_write_329 : decode cX7_write 329 = .ok (.iconst 0, 1) := by decide +kernel
theorem dX7_write_330 : decode cX7_write 330 = .ok (.invokevirtual 101, 3) := by decide +kernel
theorem dX7_write_333 : decode cX7_write 333 = .ok (.aload_n 0, 1) := by decide +kernel
theorem dX7_write_334 : decode cX7_write 334 = .ok (.invokevirtual 94, 3) := by decide +kernel
theorem dX7_write_337 : decode cX7_write 337 = .ok (.goto (-313), 3) := by decide +kernel
theorem dX7_write_340 : decode cX7_write 340 = .ok (.aload_n 0, 1) := by decide +kernel
theorem dX7_write_341 : decode cX7_write 341 = .ok (.bipush 9, 2) := by decide +kernel
theorem dX7_write_343 : decode cX7_write 343 = .ok (.bipush (-6), 2) := by decide +kernel
theorem dX7_write_345 : decode cX7_write 345 = .ok (.iconst 0, 1) := by decide +kernel
theorem dX7_write_346 : decode cX7_write 346 = .ok (.invokevirtual 101, 3) := by decide +kernel
theorem dX7_write_349 : decode cX7_write 349 = .ok (.return_, 1) := by decide +kernel
theorem dX7_writeNow_0 : decode cX7_writeNow 0 = .ok (.aload_n 0, 1) := by decide +kernel
theorem dX7_writeNow_1 : decode cX7_writeNow 1 = .ok (.aload_n 0, 1) := by decide +kernel
theorem dX7_writeNow_2 : decode cX7_writeNow 2 = .ok (.getfield 7, 3) := by decide +kernel
theorem dX7_writeNow_5 : decode cX7_writeNow 5 = .ok (.iconst 0, 1) := by decide +kernel
theorem dX7_writeNow_6 : decode cX7_writeNow 6 = .ok (.iaload, 1) := by decide +kernel
theorem dX7_writeNow_7 : decode cX7_writeNow 7 = .ok (.aload_n 0, 1) := by decide +kernel
theorem dX7_writeNow_8 : decode cX7_writeNow 8 = .ok (.getfield 7, 3) := by decide +kernel
theorem dX7_writeNow_11 : decode cX7_writeNow 11 = .ok (.iconst 1, 1) := by decide +kernel
theorem dX7_writeNow_12 : decode cX7_writeNow 12 = .ok (.iaload, 1) := by decide +kernel
theorem dX7_writeNow_13 : decode cX7_writeNow 13 = .ok (.invokevirtual 113, 3) := by decide +kernel
theorem dX7_writeNow_16 : decode cX7_writeNow 16 = .ok (.return_, 1) := by decide +kernel
theorem dX7_bits_0 : decode cX7_bits 0 = .ok (.iconst 0, 1) := by decide +kernel
theorem dX7_bits_1 : decode cX7_bits 1 = .ok (.istore_n 1, 1) := by decide +kernel
theorem dX7_bits_2 : decode cX7_bits 2 = .ok (.iconst 0, 1) := by decide +kernel
theorem dX7_bits_3 : decode cX7_bits 3 = .ok (.istore_n 2, 1) := by decide +kernel
theorem dX7_bits_4 : decode cX7_bits 4 = .ok (.iload_n 2, 1) := by decide +kernel
theorem dX7_bits_5 : decode cX7_bits 5 = .ok (.aload_n 0, 1) := by decide +kernel
theorem dX7_bits_6 : decode cX7_bits 6 = .ok (.getfield 88, 3) := by decide +kernel
theorem dX7_bits_9 : decode cX7_bits 9 = .ok (.if_icmp .ge 18, 3) := by decide +kernel
theorem dX7_bits_12 : decode cX7_bits 12 = .ok (.iload_n 1, 1) := by decide +kernel
theorem dX7_bits_13 : decode cX7_bits 13 = .ok (.aload_n 0, 1) := by decide +kernel
theorem dX7_bits_14 : decode cX7_bits 14 = .ok (.getfield 41, 3) := by decide +kernel
theorem dX7_bits_17 : decode cX7_bits 17 = .ok (.iload_n 2, 1) := by decide +kernel
theorem dX7_bits_18 : decode cX7_bits 18 = .ok (.iaload, 1) := by decide +kernel
theorem dX7_bits_19 : decode cX7_bits 19 = .ok (.iadd, 1) := by decide +kernel
theorem dX7_bits_20 : decode cX7_bits 20 = .ok (.istore_n 1, 1) := by decide +kernel
theorem dX7_bits_21 : decode cX7_bits 21 = .ok (.iinc 2 1, 3) := by decide +kernel
theorem dX7_bits_24 : decode cX7_bits 24 = .ok (.goto (-20), 3) := by decide +kernel
theorem dX7_bits_27 : decode cX7_bits 27 = .ok (.iload_n 1, 1) := by decide +kernel
theorem dX7_bits_28 : decode cX7_bits 28 = .ok (.ireturn, 1) := by decide +kernel
theorem dX7_spoil_0 : decode cX7_spoil 0 = .ok (.aload_n 0, 1) := by decide +kernel
theorem dX7_spoil_1 : decode cX7_spoil 1 = .ok (.invokevirtual 116, 3) := by decide +kernel
theorem dX7_spoil_4 : decode cX7_spoil 4 = .ok (.iload_n 1, 1) := by decide +kernel
theorem dX7_spoil_5 : decode cX7_spoil 5 = .ok (.iconst 0, 1) := by decide +kernel
theorem dX7_spoil_6 : decode cX7_spoil 6 = .ok (.aload_n 0, 1) := by decide +kernel
theorem dX7_spoil_7 : decode cX7_spoil 7 = .ok (.getfield 88, 3) := by decide +kernel
theorem dX7_spoil_10 : decode cX7_spoil 10 = .ok (.iconst 1, 1) := by decide +kernel
theorem dX7_spoil_11 : decode cX7_spoil 11 = .ok (.isub, 1) := by decide +kernel
theorem dX7_spoil_12 : decode cX7_spoil 12 = .ok (.invokestatic 71, 3) := by decide +kernel
theorem dX7_spoil_15 : decode cX7_spoil 15 = .ok (.ifCond .ne 5, 3) := by decide +kernel
theorem dX7_spoil_18 : decode cX7_spoil 18 = .ok (.iconst (-1), 1) := by decide +kernel
theorem dX7_spoil_19 : decode cX7_spoil 19 = .ok (.ireturn, 1) := by decide +kernel
theorem dX7_spoil_20 : decode cX7_spoil 20 = .ok (.iload_n 2, 1) := by decide +kernel
theorem dX7_spoil_21 : decode cX7_spoil 21 = .ok (.iconst 1, 1) := by decide +kernel
theorem dX7_spoil_22 : decode cX7_spoil 22 = .ok (.sipush 511, 3) := by decide +kernel
theorem dX7_spoil_25 : decode cX7_spoil 25 = .ok (.invokestatic 71, 3) := by decide +kernel
theorem dX7_spoil_28 : decode cX7_spoil 28 = .ok (.ifCond .ne 6, 3) := by decide +kernel
theorem dX7_spoil_31 : decode cX7_spoil 31 = .ok (.bipush (-2), 2) := by decide +kernel
theorem dX7_spoil_33 : decode cX7_spoil 33 = .ok (.ireturn, 1) := by decide +kernel
theorem dX7_spoil_34 : decode cX7_spoil 34 = .ok (.aload_n 0, 1) := by decide +kernel
theorem dX7_spoil_35 : decode cX7_spoil 35 = .ok (.invokevirtual 79, 3) := by decide +kernel
theorem dX7_spoil_38 : decode cX7_spoil 38 = .ok (.aload_n 0, 1) := by decide +kernel
theorem dX7_spoil_39 : decode cX7_spoil 39 = .ok (.getfield 7, 3) := by decide +kernel
theorem dX7_spoil_42 : decode cX7_spoil 42 = .ok (.sipush 250, 3) := by decide +kernel
theorem dX7_spoil_45 : decode cX7_spoil 45 = .ok (.iload_n 1, 1) := by decide +kernel
theorem dX7_spoil_46 : decode cX7_spoil 46 = .ok (.iadd, 1) := by decide +kernel
theorem dX7_spoil_47 : decode cX7_spoil 47 = .ok (.dup2, 1) := by decide +kernel
theorem dX7_spoil_48 : decode cX7_spoil 48 = .ok (.iaload, 1) := by decide +kernel
theorem dX7_spoil_49 : decode cX7_spoil 49 = .ok (.iload_n 2, 1) := by decide +kernel
theorem dX7_spoil_50 : decode cX7_spoil 50 = .ok (.ixor, 1) := by decide +kernel
theorem dX7_spoil_51 : decode cX7_spoil 51 = .ok (.iastore, 1) := by decide +kernel
theorem dX7_spoil_52 : decode cX7_spoil 52 = .ok (.aload_n 0, 1) := by decide +kernel
theorem dX7_spoil_53 : decode cX7_spoil 53 = .ok (.getfield 38, 3) := by decide +kernel
theorem dX7_spoil_56 : decode cX7_spoil 56 = .ok (.iload_n 1, 1) := by decide +kernel
theorem dX7_spoil_57 : decode cX7_spoil 57 = .ok (.iaload, 1) := by decide +kernel
theorem dX7_spoil_58 : decode cX7_spoil 58 = .ok (.aload_n 0, 1) := by decide +kernel
theorem dX7_spoil_59 : decode cX7_spoil 59 = .ok (.getfield 7, 3) := by decide +kernel
theorem dX7_spoil_62 : decode cX7_spoil 62 = .ok (.sipush 250, 3) := by decide +kernel
theorem dX7_spoil_65 : decode cX7_spoil 65 = .ok (.iload_n 1, 1) := by decide +kernel
theorem dX7_spoil_66 : decode cX7_spoil 66 = .ok (.iadd, 1) := by decide +kernel
theorem dX7_spoil_67 : decode cX7_spoil 67 = .ok (.iaload, 1) := by decide +kernel
theorem dX7_spoil_68 : decode cX7_spoil 68 = .ok (.ixor, 1) := by decide +kernel
theorem dX7_spoil_69 : decode cX7_spoil 69 = .ok (.ireturn, 1) := by decide +kernel
theorem dX7_repeat_0 : decode cX7_repeat 0 = .ok (.aload_n 0, 1) := by decide +kernel
theorem dX7_repeat_1 : decode cX7_repeat 1 = .ok (.getfield 119, 3) := by decide +kernel
theorem dX7_repeat_4 : decode cX7_repeat 4 = .ok (.iload_n 1, 1) := by decide +kernel
theorem dX7_repeat_5 : decode cX7_repeat 5 = .ok (.isub, 1) := by decide +kernel
theorem dX7_repeat_6 : decode cX7_repeat 6 = .ok (.istore_n 3, 1) := by decide +kernel
theorem dX7_repeat_7 : decode cX7_repeat 7 = .ok (.iconst 1, 1) := by decide +kernel
theorem dX7_repeat_8 : decode cX7_repeat 8 = .ok (.istore 4, 2) := by decide +kernel
theorem dX7_repeat_10 : decode cX7_repeat 10 = .ok (.iload 4, 2) := by decide +kernel
theorem dX7_repeat_12 : decode cX7_repeat 12 = .ok (.iload_n 2, 1) := by decide +kernel
theorem dX7_repeat_13 : decode cX7_repeat 13 = .ok (.if_icmp .ge 74, 3) := by decide +kernel
theorem dX7_repeat_16 : decode cX7_repeat 16 = .ok (.aload_n 0, 1) := by decide +kernel
theorem dX7_repeat_17 : decode cX7_repeat 17 = .ok (.getfield 119, 3) := by decide +kernel
theorem dX7_repeat_20 : decode cX7_repeat 20 = .ok (.sipush 240, 3) := by decide +kernel
theorem dX7_repeat_23 : decode cX7_repeat 23 = .ok (.if_icmp .gt 64, 3) := by decide +kernel
theorem dX7_repeat_26 : decode cX7_repeat 26 = .ok (.iconst 0, 1) := by decide +kernel
theorem dX7_repeat_27 : decode cX7_repeat 27 = .ok (.istore 5, 2) := by decide +kernel
theorem dX7_repeat_29 : decode cX7_repeat 29 = .ok (.iload 5, 2) := by decide +kernel
theorem dX7_repeat_31 : decode cX7_repeat 31 = .ok (.iload_n 3, 1) := by decide +kernel
theorem dX7_repeat_32 : decode cX7_repeat 32 = .ok (.if_icmp .ge 49, 3) := by decide +kernel
theorem dX7_repeat_35 : decode cX7_repeat 35 = .ok (.aload_n 0, 1) := by decide +kernel
theorem dX7_repeat_36 : decode cX7_repeat 36 = .ok (.getfield 119, 3) := by decide +kernel
theorem dX7_repeat_39 : decode cX7_repeat 39 = .ok (.sipush 240, 3) := by decide +kernel
theorem dX7_repeat_42 : decode cX7_repeat 42 = .ok (.if_icmp .gt 39, 3) := by decide +kernel
theorem dX7_repeat_45 : decode cX7_repeat 45 = .ok (.aload_n 0, 1) := by decide +kernel
theorem dX7_repeat_46 : decode cX7_repeat 46 = .ok (.getfield 53, 3) := by decide +kernel
theorem dX7_repeat_49 : decode cX7_repeat 49 = .ok (.aload_n 0, 1) := by decide +kernel
theorem dX7_repeat_50 : decode cX7_repeat 50 = .ok (.getfield 119, 3) := by decide +kernel
theorem dX7_repeat_53 : decode cX7_repeat 53 = .ok (.aload_n 0, 1) := by decide +kernel
theorem dX7_repeat_54 : decode cX7_repeat 54 = .ok (.getfield 53, 3) := by decide +kernel
theorem dX7_repeat_57 : decode cX7_repeat 57 = .ok (.aload_n 0, 1) := by decide +kernel
theorem dX7_repeat_58 : decode cX7_repeat 58 = .ok (.getfield 119, 3) := by decide +kernel
theorem dX7_repeat_61 : decode cX7_repeat 61 = .ok (.iload_n 3, 1) := by decide +kernel
theorem dX7_repeat_62 : decode cX7_repeat 62 = .ok (.isub, 1) := by decide +kernel
theorem dX7_repeat_63 : decode cX7_repeat 63 = .ok (.iaload, 1) := by decide +kernel
theorem dX7_repeat_64 : decode cX7_repeat 64 = .ok (.iastore, 1) := by decide +kernel
theorem dX7_repeat_65 : decode cX7_repeat 65 = .ok (.aload_n 0, 1) := by decide +kernel
theorem dX7_repeat_66 : decode cX7_repeat 66 = .ok (.dup, 1) := by decide +kernel
theorem dX7_repeat_67 : decode cX7_repeat 67 = .ok (.getfield 119, 3) := by decide +kernel
theorem dX7_repeat_70 : decode cX7_repeat 70 = .ok (.iconst 1, 1) := by decide +kernel
theorem dX7_repeat_71 : decode cX7_repeat 71 = .ok (.iadd, 1) := by decide +kernel
theorem dX7_repeat_72 : decode cX7_repeat 72 = .ok (.putfield 119, 3) := by decide +kernel
theorem dX7_repeat_75 : decode cX7_repeat 75 = .ok (.iinc 5 1, 3) := by decide +kernel
theorem dX7_repeat_78 : decode cX7_repeat 78 = .ok (.goto (-49), 3) := by decide +kernel
theorem dX7_repeat_81 : decode cX7_repeat 81 = .ok (.iinc 4 1, 3) := by decide +kernel
theorem dX7_repeat_84 : decode cX7_repeat 84 = .ok (.goto (-74), 3) := by decide +kernel
theorem dX7_repeat_87 : decode cX7_repeat 87 = .ok (.return_, 1) := by decide +kernel
theorem dX7_readPad_0 : decode cX7_readPad 0 = .ok (.aload_n 0, 1) := by decide +kernel
theorem dX7_readPad_1 : decode cX7_readPad 1 = .ok (.iconst 0, 1) := by decide +kernel
theorem dX7_readPad_2 : decode cX7_readPad 2 = .ok (.putfield 119, 3) := by decide +kernel
theorem dX7_readPad_5 : decode cX7_readPad 5 = .ok (.iconst 0, 1) := by decide +kernel
theorem dX7_readPad_6 : decode cX7_readPad 6 = .ok (.istore_n 1, 1) := by decide +kernel
theorem dX7_readPad_7 : decode cX7_readPad 7 = .ok (.iconst 0, 1) := by decide +kernel
theorem dX7_readPad_8 : decode cX7_readPad 8 = .ok (.istore_n 2, 1) := by decide +kernel
theorem dX7_readPad_9 : decode cX7_readPad 9 = .ok (.iconst 1, 1) := by decide +kernel
theorem dX7_readPad_10 : decode cX7_readPad 10 = .ok (.istore_n 3, 1) := by decide +kernel
theorem dX7_readPad_11 : decode cX7_readPad 11 = .ok (.iconst 0, 1) := by decide +kernel
theorem dX7_readPad_12 : decode cX7_readPad 12 = .ok (.istore 4, 2) := by decide +kernel
theorem dX7_readPad_14 : decode cX7_readPad 14 = .ok (.iload 4, 2) := by decide +kernel
theorem dX7_readPad_16 : decode cX7_readPad 16 = .ok (.aload_n 0, 1) := by decide +kernel
theorem dX7_readPad_17 : decode cX7_readPad 17 = .ok (.getfield 122, 3) := by decide +kernel
theorem dX7_readPad_20 : decode cX7_readPad 20 = .ok (.if_icmp .ge 246, 3) := by decide +kernel
theorem dX7_readPad_23 : decode cX7_readPad 23 = .ok (.aload_n 0, 1) := by decide +kernel
theorem dX7_readPad_24 : decode cX7_readPad 24 = .ok (.getfield 23, 3) := by decide +kernel
theorem dX7_readPad_27 : decode cX7_readPad 27 = .ok (.iload 4, 2) := by decide +kernel
theorem dX7_readPad_29 : decode cX7_readPad 29 = .ok (.iaload, 1) := by decide +kernel
theorem dX7_readPad_30 : decode cX7_readPad 30 = .ok (.istore 5, 2) := by decide +kernel
theorem dX7_readPad_32 : decode cX7_readPad 32 = .ok (.iload_n 2, 1) := by decide +kernel
theorem dX7_readPad_33 : decode cX7_readPad 33 = .ok (.iconst 1, 1) := by decide +kernel
theorem dX7_readPad_34 : decode cX7_readPad 34 = .ok (.if_icmp .eq 7, 3) := by decide +kernel
theorem dX7_readPad_37 : decode cX7_readPad 37 = .ok (.iconst 1, 1) := by decide +kernel
theorem dX7_readPad_38 : decode cX7_readPad 38 = .ok (.goto 4, 3) := by decide +kernel
theorem dX7_readPad_41 : decode cX7_readPad 41 = .ok (.iconst 0, 1) := by decide +kernel
theorem dX7_readPad_42 : decode cX7_readPad 42 = .ok (.istore 6, 2) := by decide +kernel
theorem dX7_readPad_44 : decode cX7_readPad 44 = .ok (.iload_n 2, 1) := by decide +kernel
theorem dX7_readPad_45 : decode cX7_readPad 45 = .ok (.iconst 1, 1) := by decide +kernel
theorem dX7_readPad_46 : decode cX7_readPad 46 = .ok (.if_icmp .le 7, 3) := by decide +kernel
theorem dX7_readPad_49 : decode cX7_readPad 49 = .ok (.iload_n 2, 1) := by decide +kernel
theorem dX7_readPad_50 : decode cX7_readPad 50 = .ok (.goto 4, 3) := by decide +kernel
theorem dX7_readPad_53 : decode cX7_readPad 53 = .ok (.iconst 1, 1) := by decide +kernel
theorem dX7_readPad_54 : decode cX7_readPad 54 = .ok (.istore 7, 2) := by decide +kernel
theorem dX7_readPad_56 : decode cX7_readPad 56 = .ok (.iload 5, 2) := by decide +kernel
theorem dX7_readPad_58 : decode cX7_readPad 58 = .ok (.bipush 48, 2) := by decide +kernel
theorem dX7_readPad_60 : decode cX7_readPad 60 = .ok (.bipush 57, 2) := by decide +kernel
theorem dX7_readPad_62 : decode cX7_readPad 62 = .ok (.invokestatic 71, 3) := by decide +kernel
theorem dX7_readPad_65 : decode cX7_readPad 65 = .ok (.ifCond .eq 38, 3) := by decide +kernel
theorem dX7_readPad_68 : decode cX7_readPad 68 = .ok (.bipush 10, 2) := by decide +kernel
theorem dX7_readPad_70 : decode cX7_readPad 70 = .ok (.iload_n 2, 1) := by decide +kernel
theorem dX7_readPad_71 : decode cX7_readPad 71 = .ok (.imul, 1) := by decide +kernel
theorem dX7_readPad_72 : decode cX7_readPad 72 = .ok (.iload 5, 2) := by decide +kernel
theorem dX7_readPad_74 : decode cX7_readPad 74 = .ok (.iadd, 1) := by decide +kernel
theorem dX7_readPad_75 : decode cX7_readPad 75 = .ok (.bipush 48, 2) := by decide +kernel
theorem dX7_readPad_77 : decode cX7_readPad 77 = .ok (.isub, 1) := by decide +kernel
theorem dX7_readPad_78 : decode cX7_readPad 78 = .ok (.istore 8, 2) := by decide +kernel
theorem dX7_readPad_80 : decode cX7_readPad 80 = .ok (.iload 8, 2) := by decide +kernel
theorem dX7_readPad_82 : decode cX7_readPad 82 = .ok (.ifCond .eq 10, 3) := by decide +kernel
theorem dX7_readPad_85 : decode cX7_readPad 85 = .ok (.iload 8, 2) := by decide +kernel
theorem dX7_readPad_87 : decode cX7_readPad 87 = .ok (.bipush 60, 2) := by decide +kernel
theorem dX7_readPad_89 : decode cX7_readPad 89 = .ok (.if_icmp .le 6, 3) := by decide +kernel
theorem dX7_readPad_92 : decode cX7_readPad 92 = .ok (.iload 4, 2) := by decide +kernel
theorem dX7_readPad_94 : decode cX7_readPad 94 = .ok (.ireturn, 1) := by decide +kernel
theorem dX7_readPad_95 : decode cX7_readPad 95 = .ok (.iload 8, 2) := by decide +kernel
theorem dX7_readPad_97 : decode cX7_readPad 97 = .ok (.istore_n 2, 1) := by decide +kernel
theorem dX7_readPad_98 : decode cX7_readPad 98 = .ok (.iconst 1, 1) := by decide +kernel
theorem dX7_readPad_99 : decode cX7_readPad 99 = .ok (.istore_n 3, 1) := by decide +kernel
theorem dX7_readPad_100 : decode cX7_readPad 100 = .ok (.goto 160, 3) := by decide +kernel
theorem dX7_readPad_103 : decode cX7_readPad 103 = .ok (.iload 5, 2) := by decide +kernel
theorem dX7_readPad_105 : decode cX7_readPad 105 = .ok (.bipush 97, 2) := by decide +kernel
theorem dX7_readPad_107 : decode cX7_readPad 107 = .ok (.bipush 104, 2) := by decide +kernel
theorem dX7_readPad_109 : decode cX7_readPad 109 = .ok (.invokestatic 71, 3) := by decide +kernel
theorem dX7_readPad_112 : decode cX7_readPad 112 = .ok (.ifCond .eq 63, 3) := by decide +kernel
theorem dX7_readPad_115 : decode cX7_readPad 115 = .ok (.iload 6, 2) := by decide +kernel
theorem dX7_readPad_117 : decode cX7_readPad 117 = .ok (.ifCond .eq 58, 3) := by decide +kernel
theorem dX7_readPad_120 : decode cX7_readPad 120 = .ok (.aload_n 0, 1) := by decide +kernel
theorem dX7_readPad_121 : decode cX7_readPad 121 = .ok (.getfield 119, 3) := by decide +kernel
theorem dX7_readPad_124 : decode cX7_readPad 124 = .ok (.istore 8, 2) := by decide +kernel
theorem dX7_readPad_126 : decode cX7_readPad 126 = .ok (.aload_n 0, 1) := by decide +kernel
theorem dX7_readPad_127 : decode cX7_readPad 127 = .ok (.getfield 119, 3) := by decide +kernel
theorem dX7_readPad_130 : decode cX7_readPad 130 = .ok (.sipush 240, 3) := by decide +kernel
theorem dX7_readPad_133 : decode cX7_readPad 133 = .ok (.if_icmp .gt 27, 3) := by decide +kernel
theorem dX7_readPad_136 : decode cX7_readPad 136 = .ok (.aload_n 0, 1) := by decide +kernel
theorem dX7_readPad_137 : decode cX7_readPad 137 = .ok (.getfield 53, 3) := by decide +kernel
theorem dX7_readPad_140 : decode cX7_readPad 140 = .ok (.aload_n 0, 1) := by decide +kernel
theorem dX7_readPad_141 : decode cX7_readPad 141 = .ok (.getfield 119, 3) := by decide +kernel
theorem dX7_readPad_144 : decode cX7_readPad 144 = .ok (.iload 5, 2) := by decide +kernel
theorem dX7_readPad_146 : decode cX7_readPad 146 = .ok (.bipush 97, 2) := by decide +kernel
theorem dX7_readPad_148 : decode cX7_readPad 148 = .ok (.isub, 1) := by decide +kernel
theorem dX7_readPad_149 : decode cX7_readPad 149 = .ok (.iastore, 1) := by decide +kernel
theorem dX7_readPad_150 : decode cX7_readPad 150 = .ok (.aload_n 0, 1) := by decide +kernel
theorem dX7_readPad_151 : decode cX7_readPad 151 = .ok (.dup, 1) := by decide +kernel
theorem dX7_readPad_152 : decode cX7_readPad 152 = .ok (.getfield 119, 3) := by decide +kernel
theorem dX7_readPad_155 : decode cX7_readPad 155 = .ok (.iconst 1, 1) := by decide +kernel
theorem dX7_readPad_156 : decode cX7_readPad 156 = .ok (.iadd, 1) := by decide +kernel
theorem dX7_readPad_157 : decode cX7_readPad 157 = .ok (.putfield 119, 3) := by decide +kernel
theorem dX7_readPad_160 : decode cX7_readPad 160 = .ok (.aload_n 0, 1) := by decide +kernel
theorem dX7_readPad_161 : decode cX7_readPad 161 = .ok (.iload 8, 2) := by decide +kernel
theorem dX7_readPad_163 : decode cX7_readPad 163 = .ok (.iload 7, 2) := by decide +kernel
theorem dX7_readPad_165 : decode cX7_readPad 165 = .ok (.invokevirtual 125, 3) := by decide +kernel
theorem dX7_readPad_168 : decode cX7_readPad 168 = .ok (.iconst 0, 1) := by decide +kernel
theorem dX7_readPad_169 : decode cX7_readPad 169 = .ok (.istore_n 2, 1) := by decide +kernel
theorem dX7_readPad_170 : decode cX7_readPad 170 = .ok (.iconst 0, 1) := by decide +kernel
theorem dX7_readPad_171 : decode cX7_readPad 171 = .ok (.istore_n 3, 1) := by decide +kernel
theorem dX7_readPad_172 : decode cX7_readPad 172 = .ok (.goto 88, 3) := by decide +kernel
theorem dX7_readPad_175 : decode cX7_readPad 175 = .ok (.iload 5, 2) := by decide +kernel
theorem dX7_readPad_177 : decode cX7_readPad 177 = .ok (.bipush 40, 2) := by decide +kernel
theorem dX7_readPad_179 : decode cX7_readPad 179 = .ok (.if_icmp .ne 41, 3) := by decide +kernel
theorem dX7_readPad_182 : decode cX7_readPad 182 = .ok (.iload 6, 2) := by decide +kernel
theorem dX7_readPad_184 : decode cX7_readPad 184 = .ok (.ifCond .eq 36, 3) := by decide +kernel
theorem dX7_readPad_187 : decode cX7_readPad 187 = .ok (.iload_n 1, 1) := by decide +kernel
theorem dX7_readPad_188 : decode cX7_readPad 188 = .ok (.iconst 3, 1) := by decide +kernel
theorem dX7_readPad_189 : decode cX7_readPad 189 = .ok (.if_icmp .ge 31, 3) := by decide +kernel
theorem dX7_readPad_192 : decode cX7_readPad 192 = .ok (.aload_n 0, 1) := by decide +kernel
theorem dX7_readPad_193 : decode cX7_readPad 193 = .ok (.getfield 56, 3) := by decide +kernel
theorem dX7_readPad_196 : decode cX7_readPad 196 = .ok (.iload_n 1, 1) := by decide +kernel
theorem dX7_readPad_197 : decode cX7_readPad 197 = .ok (.aload_n 0, 1) := by decide +kernel
theorem dX7_readPad_198 : decode cX7_readPad 198 = .ok (.getfield 119, 3) := by decide +kernel
theorem dX7_readPad_201 : decode cX7_readPad 201 = .ok (.iastore, 1) := by decide +kernel
theorem dX7_readPad_202 : decode cX7_readPad 202 = .ok (.aload_n 0, 1) := by decide +kernel
theorem dX7_readPad_203 : decode cX7_readPad 203 = .ok (.getfield 59, 3) := by decide +kernel
theorem dX7_readPad_206 : decode cX7_readPad 206 = .ok (.iload_n 1, 1) := by decide +kernel
theorem dX7_readPad_207 : decode cX7_readPad 207 = .ok (.iload 7, 2) := by decide +kernel
theorem dX7_readPad_209 : decode cX7_readPad 209 = .ok (.iastore, 1) := by decide +kernel
theorem dX7_readPad_210 : decode cX7_readPad 210 = .ok (.iinc 1 1, 3) := by decide +kernel
theorem dX7_readPad_213 : decode cX7_readPad 213 = .ok (.iconst 0, 1) := by decide +kernel
theorem dX7_readPad_214 : decode cX7_readPad 214 = .ok (.istore_n 2, 1) := by decide +kernel
theorem dX7_readPad_215 : decode cX7_readPad 215 = .ok (.iconst 1, 1) := by decide +kernel
theorem dX7_readPad_216 : decode cX7_readPad 216 = .ok (.istore_n 3, 1) := by decide +kernel
theorem dX7_readPad_217 : decode cX7_readPad 217 = .ok (.goto 43, 3) := by decide +kernel
theorem dX7_readPad_220 : decode cX7_readPad 220 = .ok (.iload 5, 2) := by decide +kernel
theorem dX7_readPad_222 : decode cX7_readPad 222 = .ok (.bipush 41, 2) := by decide +kernel
theorem dX7_readPad_224 : decode cX7_readPad 224 = .ok (.if_icmp .ne 33, 3) := by decide +kernel
theorem dX7_readPad_227 : decode cX7_readPad 227 = .ok (.iload_n 1, 1) := by decide +kernel
theorem dX7_readPad_228 : decode cX7_readPad 228 = .ok (.ifCond .le 29, 3) := by decide +kernel
theorem dX7_readPad_231 : decode cX7_readPad 231 = .ok (.iload_n 3, 1) := by decide +kernel
theorem dX7_readPad_232 : decode cX7_readPad 232 = .ok (.ifCond .ne 25, 3) := by decide +kernel
theorem dX7_readPad_235 : decode cX7_readPad 235 = .ok (.iinc 1 (-1), 3) := by decide +kernel
theorem dX7_readPad_238 : decode cX7_readPad 238 = .ok (.aload_n 0, 1) := by decide +kernel
theorem dX7_readPad_239 : decode cX7_readPad 239 = .ok (.aload_n 0, 1) := by decide +kernel
theorem dX7_readPad_240 : decode cX7_readPad 240 = .ok (.getfield 56, 3) := by decide +kernel
theorem dX7_readPad_243 : decode cX7_readPad 243 = .ok (.iload_n 1, 1) := by decide +kernel
theorem dX7_readPad_244 : decode cX7_readPad 244 = .ok (.iaload, 1) := by decide +kernel
theorem dX7_readPad_245 : decode cX7_readPad 245 = .ok (.aload_n 0, 1) := by decide +kernel
theorem dX7_readPad_246 : decode cX7_readPad 246 = .ok (.getfield 59, 3) := by decide +kernel
theorem dX7_readPad_249 : decode cX7_readPad 249 = .ok (.iload_n 1, 1) := by decide +kernel
theorem dX7_readPad_250 : decode cX7_readPad 250 = .ok (.iaload, 1) := by decide +kernel
theorem dX7_readPad_251 : decode cX7_readPad 251 = .ok (.invokevirtual 125, 3) := by decide +kernel
theorem dX7_readPad_254 : decode cX7_readPad 254 = .ok (.goto 6, 3) := by decide +kernel
theorem dX7_readPad_257 : decode cX7_readPad 257 = .ok (.iload 4, 2) := by decide +kernel
theorem dX7_readPad_259 : decode cX7_readPad 259 = .ok (.ireturn, 1) := by decide +kernel
theorem dX7_readPad_260 : decode cX7_readPad 260 = .ok (.iinc 4 1, 3) := by decide +kernel
theorem dX7_readPad_263 : decode cX7_readPad 263 = .ok (.goto (-249), 3) := by decide +kernel
theorem dX7_readPad_266 : decode cX7_readPad 266 = .ok (.iload_n 3, 1) := by decide +kernel
theorem dX7_readPad_267 : decode cX7_readPad 267 = .ok (.ifCond .ne 7, 3) := by decide +kernel
theorem dX7_readPad_270 : decode cX7_readPad 270 = .ok (.iload_n 1, 1) := by decide +kernel
theorem dX7_readPad_271 : decode cX7_readPad 271 = .ok (.ifCond .le 10, 3) := by decide +kernel
theorem dX7_readPad_274 : decode cX7_readPad 274 = .ok (.aload_n 0, 1) := by decide +kernel
theorem dX7_readPad_275 : decode cX7_readPad 275 = .ok (.getfield 122, 3) := by decide +kernel
theorem dX7_readPad_278 : decode cX7_readPad 278 = .ok (.goto 5, 3) := by decide +kernel
theorem dX7_readPad_281 : decode cX7_readPad 281 = .ok (.bipush (-6), 2) := by decide +kernel
theorem dX7_readPad_283 : decode cX7_readPad 283 = .ok (.ireturn, 1) := by decide +kernel
theorem dX7_put_0 : decode cX7_put 0 = .ok (.iconst 0, 1) := by decide +kernel
theorem dX7_put_1 : decode cX7_put 1 = .ok (.istore_n 3, 1) := by decide +kernel
theorem dX7_put_2 : decode cX7_put 2 = .ok (.lload_n 1, 1) := by decide +kernel
theorem dX7_put_3 : decode cX7_put 3 = .ok (.lstore 4, 2) := by decide +kernel
theorem dX7_put_5 : decode cX7_put 5 = .ok (.lload 4, 2) := by decide +kernel
theorem dX7_put_7 : decode cX7_put 7 = .ok (.ldc2_w 128, 3) := by decide +kernel
theorem dX7_put_10 : decode cX7_put 10 = .ok (.land, 1) := by decide +kernel
theorem dX7_put_11 : decode cX7_put 11 = .ok (.lconst 0, 1) := by decide +kernel
theorem dX7_put_12 : decode cX7_put 12 = .ok (.lcmp, 1) := by decide +kernel
theorem dX7_put_13 : decode cX7_put 13 = .ok (.ifCond .eq 36, 3) := by decide +kernel
theorem dX7_put_16 : decode cX7_put 16 = .ok (.lload 4, 2) := by decide +kernel
theorem dX7_put_18 : decode cX7_put 18 = .ok (.ldc2_w 128, 3) := by decide +kernel
theorem dX7_put_21 : decode cX7_put 21 = .ok (.land, 1) := by decide +kernel
theorem dX7_put_22 : decode cX7_put 22 = .ok (.l2i, 1) := by decide +kernel
theorem dX7_put_23 : decode cX7_put 23 = .ok (.bipush 33, 2) := by decide +kernel
theorem dX7_put_25 : decode cX7_put 25 = .ok (.bipush 126, 2) := by decide +kernel
theorem dX7_put_27 : decode cX7_put 27 = .ok (.invokestatic 71, 3) := by decide +kernel
theorem dX7_put_30 : decode cX7_put 30 = .ok (.ifCond .ne 6, 3) := by decide +kernel
theorem dX7_put_33 : decode cX7_put 33 = .ok (.bipush (-2), 2) := by decide +kernel
theorem dX7_put_35 : decode cX7_put 35 = .ok (.ireturn, 1) := by decide +kernel
theorem dX7_put_36 : decode cX7_put 36 = .ok (.iinc 3 1, 3) := by decide +kernel
theorem dX7_put_39 : decode cX7_put 39 = .ok (.lload 4, 2) := by decide +kernel
theorem dX7_put_41 : decode cX7_put 41 = .ok (.bipush 8, 2) := by decide +kernel
theorem dX7_put_43 : decode cX7_put 43 = .ok (.lushr, 1) := by decide +kernel
theorem dX7_put_44 : decode cX7_put 44 = .ok (.lstore 4, 2) := by decide +kernel
theorem dX7_put_46 : decode cX7_put 46 = .ok (.goto (-41), 3) := by decide +kernel
theorem dX7_put_49 : decode cX7_put 49 = .ok (.lload 4, 2) := by decide +kernel
theorem dX7_put_51 : decode cX7_put 51 = .ok (.lconst 0, 1) := by decide +kernel
theorem dX7_put_52 : decode cX7_put 52 = .ok (.lcmp, 1) := by decide +kernel
theorem dX7_put_53 : decode cX7_put 53 = .ok (.ifCond .ne 7, 3) := by decide +kernel
theorem dX7_put_56 : decode cX7_put 56 = .ok (.iload_n 3, 1) := by decide +kernel
theorem dX7_put_57 : decode cX7_put 57 = .ok (.ifCond .ne 6, 3) := by decide +kernel
theorem dX7_put_60 : decode cX7_put 60 = .ok (.bipush (-2), 2) := by decide +kernel
theorem dX7_put_62 : decode cX7_put 62 = .ok (.ireturn, 1) := by decide +kernel
theorem dX7_put_63 : decode cX7_put 63 = .ok (.aload_n 0, 1) := by decide +kernel
theorem dX7_put_64 : decode cX7_put 64 = .ok (.getfield 122, 3) := by decide +kernel
theorem dX7_put_67 : decode cX7_put 67 = .ok (.iload_n 3, 1) := by decide +kernel
theorem dX7_put_68 : decode cX7_put 68 = .ok (.iadd, 1) := by decide +kernel
theorem dX7_put_69 : decode cX7_put 69 = .ok (.bipush 80, 2) := by decide +kernel
theorem dX7_put_71 : decode cX7_put 71 = .ok (.if_icmp .le 6, 3) := by decide +kernel
theorem dX7_put_74 : decode cX7_put 74 = .ok (.bipush (-4), 2) := by decide +kernel
theorem dX7_put_76 : decode cX7_put 76 = .ok (.ireturn, 1) := by decide +kernel
theorem dX7_put_77 : decode cX7_put 77 = .ok (.lload_n 1, 1) := by decide +kernel
theorem dX7_put_78 : decode cX7_put 78 = .ok (.lstore 4, 2) := by decide +kernel
theorem dX7_put_80 : decode cX7_put 80 = .ok (.iload_n 3, 1) := by decide +kernel
theorem dX7_put_81 : decode cX7_put 81 = .ok (.iconst 1, 1) := by decide +kernel
theorem dX7_put_82 : decode cX7_put 82 = .ok (.isub, 1) := by decide +kernel
theorem dX7_put_83 : decode cX7_put 83 = .ok (.istore 6, 2) := by decide +kernel
theorem dX7_put_85 : decode cX7_put 85 = .ok (.iload 6, 2) := by decide +kernel
theorem dX7_put_87 : decode cX7_put 87 = .ok (.ifCond .lt 35, 3) := by decide +kernel
theorem dX7_put_90 : decode cX7_put 90 = .ok (.aload_n 0, 1) := by decide +kernel
theorem dX7_put_91 : decode cX7_put 91 = .ok (.getfield 23, 3) := by decide +kernel
theorem dX7_put_94 : decode cX7_put 94 = .ok (.aload_n 0, 1) := by decide +kernel
theorem dX7_put_95 : decode cX7_put 95 = .ok (.getfield 122, 3) := by decide +kernel
theorem dX7_put_98 : decode cX7_put 98 = .ok (.iload 6, 2) := by decide +kernel
theorem dX7_put_100 : decode cX7_put 100 = .ok (.iadd, 1) := by decide +kernel
theorem dX7_put_101 : decode cX7_put 101 = .ok (.lload 4, 2) := by decide +kernel
theorem dX7_put_103 : decode cX7_put 103 = .ok (.ldc2_w 128, 3) := by decide +kernel
theorem dX7_put_106 : decode cX7_put 106 = .ok (.land, 1) := by decide +kernel
theorem dX7_put_107 : decode cX7_put 107 = .ok (.l2i, 1) := by decide +kernel
theorem dX7_put_108 : decode cX7_put 108 = .ok (.iastore, 1) := by decide +kernel
theorem dX7_put_109 : decode cX7_put 109 = .ok (.lload 4, 2) := by decide +kernel
theorem dX7_put_111 : decode cX7_put 111 = .ok (.bipush 8, 2) := by decide +kernel
theorem dX7_put_113 : decode cX7_put 113 = .ok (.lushr, 1) := by decide +kernel
theorem dX7_put_114 : decode cX7_put 114 = .ok (.lstore 4, 2) := by decide +kernel
theorem dX7_put_116 : decode cX7_put 116 = .ok (.iinc 6 (-1), 3) := by decide +kernel
theorem dX7_put_119 : decode cX7_put 119 = .ok (.goto (-34), 3) := by decide +kernel
theorem dX7_put_122 : decode cX7_put 122 = .ok (.aload_n 0, 1) := by decide +kernel
theorem dX7_put_123 : decode cX7_put 123 = .ok (.dup, 1) := by decide +kernel
theorem dX7_put_124 : decode cX7_put 124 = .ok (.getfield 122, 3) := by decide +kernel
theorem dX7_put_127 : decode cX7_put 127 = .ok (.iload_n 3, 1) := by decide +kernel
theorem dX7_put_128 : decode cX7_put 128 = .ok (.iadd, 1) := by decide +kernel
theorem dX7_put_129 : decode cX7_put 129 = .ok (.putfield 122, 3) := by decide +kernel
theorem dX7_put_132 : decode cX7_put 132 = .ok (.aload_n 0, 1) := by decide +kernel
theorem dX7_put_133 : decode cX7_put 133 = .ok (.getfield 122, 3) := by decide +kernel
theorem dX7_put_136 : decode cX7_put 136 = .ok (.ireturn, 1) := by decide +kernel
theorem dX7_wipe_0 : decode cX7_wipe 0 = .ok (.aload_n 0, 1) := by decide +kernel
theorem dX7_wipe_1 : decode cX7_wipe 1 = .ok (.getfield 122, 3) := by decide +kernel
theorem dX7_wipe_4 : decode cX7_wipe 4 = .ok (.istore_n 1, 1) := by decide +kernel
theorem dX7_wipe_5 : decode cX7_wipe 5 = .ok (.aload_n 0, 1) := by decide +kernel
theorem dX7_wipe_6 : decode cX7_wipe 6 = .ok (.iconst 0, 1) := by decide +kernel
theorem dX7_wipe_7 : decode cX7_wipe 7 = .ok (.putfield 122, 3) := by decide +kernel
theorem dX7_wipe_10 : decode cX7_wipe 10 = .ok (.iload_n 1, 1) := by decide +kernel
theorem dX7_wipe_11 : decode cX7_wipe 11 = .ok (.ireturn, 1) := by decide +kernel
theorem dX7_fault_0 : decode cX7_fault 0 = .ok (.aload_n 0, 1) := by decide +kernel
theorem dX7_fault_1 : decode cX7_fault 1 = .ok (.invokevirtual 130, 3) := by decide +kernel
theorem dX7_fault_4 : decode cX7_fault 4 = .ok (.ireturn, 1) := by decide +kernel
theorem dX7_load_0 : decode cX7_load 0 = .ok (.aload_n 0, 1) := by decide +kernel
theorem dX7_load_1 : decode cX7_load 1 = .ok (.invokevirtual 130, 3) := by decide +kernel
theorem dX7_load_4 : decode cX7_load 4 = .ok (.bipush (-6), 2) := by decide +kernel
theorem dX7_load_6 : decode cX7_load 6 = .ok (.if_icmp .eq 6, 3) := by decide +kernel
theorem dX7_load_9 : decode cX7_load 9 = .ok (.bipush (-3), 2) := by decide +kernel
theorem dX7_load_11 : decode cX7_load 11 = .ok (.ireturn, 1) := by decide +kernel
theorem dX7_load_12 : decode cX7_load 12 = .ok (.aload_n 0, 1) := by decide +kernel
theorem dX7_load_13 : decode cX7_load 13 = .ok (.getfield 7, 3) := by decide +kernel
theorem dX7_load_16 : decode cX7_load 16 = .ok (.iconst 3, 1) := by decide +kernel
theorem dX7_load_17 : decode cX7_load 17 = .ok (.iaload, 1) := by decide +kernel
theorem dX7_load_18 : decode cX7_load 18 = .ok (.aload_n 0, 1) := by decide +kernel
theorem dX7_load_19 : decode cX7_load 19 = .ok (.getfield 119, 3) := by decide +kernel
theorem dX7_load_22 : decode cX7_load 22 = .ok (.iadd, 1) := by decide +kernel
theorem dX7_load_23 : decode cX7_load 23 = .ok (.sipush 240, 3) := by decide +kernel
theorem dX7_load_26 : decode cX7_load 26 = .ok (.if_icmp .le 6, 3) := by decide +kernel
theorem dX7_load_29 : decode cX7_load 29 = .ok (.bipush (-4), 2) := by decide +kernel
theorem dX7_load_31 : decode cX7_load 31 = .ok (.ireturn, 1) := by decide +kernel
theorem dX7_load_32 : decode cX7_load 32 = .ok (.aload_n 0, 1) := by decide +kernel
theorem dX7_load_33 : decode cX7_load 33 = .ok (.invokevirtual 79, 3) := by decide +kernel
theorem dX7_load_36 : decode cX7_load 36 = .ok (.iconst 0, 1) := by decide +kernel
theorem dX7_load_37 : decode cX7_load 37 = .ok (.istore_n 1, 1) := by decide +kernel
theorem dX7_load_38 : decode cX7_load 38 = .ok (.iload_n 1, 1) := by decide +kernel
theorem dX7_load_39 : decode cX7_load 39 = .ok (.aload_n 0, 1) := by decide +kernel
theorem dX7_load_40 : decode cX7_load 40 = .ok (.getfield 119, 3) := by decide +kernel
theorem dX7_load_43 : decode cX7_load 43 = .ok (.if_icmp .ge 31, 3) := by decide +kernel
theorem dX7_load_46 : decode cX7_load 46 = .ok (.aload_n 0, 1) := by decide +kernel
theorem dX7_load_47 : decode cX7_load 47 = .ok (.getfield 7, 3) := by decide +kernel
theorem dX7_load_50 : decode cX7_load 50 = .ok (.bipush 10, 2) := by decide +kernel
theorem dX7_load_52 : decode cX7_load 52 = .ok (.aload_n 0, 1) := by decide +kernel
theorem dX7_load_53 : decode cX7_load 53 = .ok (.getfield 7, 3) := by decide +kernel
theorem dX7_load_56 : decode cX7_load 56 = .ok (.iconst 3, 1) := by decide +kernel
theorem dX7_load_57 : decode cX7_load 57 = .ok (.iaload, 1) := by decide +kernel
theorem dX7_load_58 : decode cX7_load 58 = .ok (.iadd, 1) := by decide +kernel
theorem dX7_load_59 : decode cX7_load 59 = .ok (.iload_n 1, 1) := by decide +kernel
theorem dX7_load_60 : decode cX7_load 60 = .ok (.iadd, 1) := by decide +kernel
theorem dX7_load_61 : decode cX7_load 61 = .ok (.aload_n 0, 1) := by decide +kernel
theorem dX7_load_62 : decode cX7_load 62 = .ok (.getfield 53, 3) := by decide +kernel
theorem dX7_load_65 : decode cX7_load 65 = .ok (.iload_n 1, 1) := by decide +kernel
theorem dX7_load_66 : decode cX7_load 66 = .ok (.iaload, 1) := by decide +kernel
theorem dX7_load_67 : decode cX7_load 67 = .ok (.iastore, 1) := by decide +kernel
theorem dX7_load_68 : decode cX7_load 68 = .ok (.iinc 1 1, 3) := by decide +kernel
theorem dX7_load_71 : decode cX7_load 71 = .ok (.goto (-33), 3) := by decide +kernel
theorem dX7_load_74 : decode cX7_load 74 = .ok (.aload_n 0, 1) := by decide +kernel
theorem dX7_load_75 : decode cX7_load 75 = .ok (.getfield 7, 3) := by decide +kernel
theorem dX7_load_78 : decode cX7_load 78 = .ok (.iconst 3, 1) := by decide +kernel
theorem dX7_load_79 : decode cX7_load 79 = .ok (.dup2, 1) := by decide +kernel
theorem dX7_load_80 : decode cX7_load 80 = .ok (.iaload, 1) := by decide +kernel
theorem dX7_load_81 : decode cX7_load 81 = .ok (.aload_n 0, 1) := by decide +kernel
theorem dX7_load_82 : decode cX7_load 82 = .ok (.getfield 119, 3) := by decide +kernel
theorem dX7_load_85 : decode cX7_load 85 = .ok (.iadd, 1) := by decide +kernel
theorem dX7_load_86 : decode cX7_load 86 = .ok (.iastore, 1) := by decide +kernel
theorem dX7_load_87 : decode cX7_load 87 = .ok (.aload_n 0, 1) := by decide +kernel
theorem dX7_load_88 : decode cX7_load 88 = .ok (.invokevirtual 82, 3) := by decide +kernel
theorem dX7_load_91 : decode cX7_load 91 = .ok (.aload_n 0, 1) := by decide +kernel
theorem dX7_load_92 : decode cX7_load 92 = .ok (.iconst 0, 1) := by decide +kernel
theorem dX7_load_93 : decode cX7_load 93 = .ok (.putfield 122, 3) := by decide +kernel
theorem dX7_load_96 : decode cX7_load 96 = .ok (.aload_n 0, 1) := by decide +kernel
theorem dX7_load_97 : decode cX7_load 97 = .ok (.getfield 7, 3) := by decide +kernel
theorem dX7_load_100 : decode cX7_load 100 = .ok (.iconst 3, 1) := by decide +kernel
theorem dX7_load_101 : decode cX7_load 101 = .ok (.iaload, 1) := by decide +kernel
theorem dX7_load_102 : decode cX7_load 102 = .ok (.ireturn, 1) := by decide +kernel
theorem dX7_sign_0 : decode cX7_sign 0 = .ok (.iload_n 1, 1) := by decide +kernel
theorem dX7_sign_1 : decode cX7_sign 1 = .ok (.iconst 0, 1) := by decide +kernel
theorem dX7_sign_2 : decode cX7_sign 2 = .ok (.aload_n 0, 1) := by decide +kernel
theorem dX7_sign_3 : decode cX7_sign 3 = .ok (.getfield 7, 3) := by decide +kernel
theorem dX7_sign_6 : decode cX7_sign 6 = .ok (.iconst 3, 1) := by decide +kernel
theorem dX7_sign_7 : decode cX7_sign 7 = .ok (.iaload, 1) := by decide +kernel
theorem dX7_sign_8 : decode cX7_sign 8 = .ok (.iconst 1, 1) := by decide +kernel
theorem dX7_sign_9 : decode cX7_sign 9 = .ok (.isub, 1) := by decide +kernel
theorem dX7_sign_10 : decode cX7_sign 10 = .ok (.invokestatic 71, 3) := by decide +kernel
theorem dX7_sign_13 : decode cX7_sign 13 = .ok (.ifCond .eq 15, 3) := by decide +kernel
theorem dX7_sign_16 : decode cX7_sign 16 = .ok (.aload_n 0, 1) := by decide +kernel
theorem dX7_sign_17 : decode cX7_sign 17 = .ok (.getfield 7, 3) := by decide +kernel
theorem dX7_sign_20 : decode cX7_sign 20 = .ok (.bipush 10, 2) := by decide +kernel
theorem dX7_sign_22 : decode cX7_sign 22 = .ok (.iload_n 1, 1) := by decide +kernel
theorem dX7_sign_23 : decode cX7_sign 23 = .ok (.iadd, 1) := by decide +kernel
theorem dX7_sign_24 : decode cX7_sign 24 = .ok (.iaload, 1) := by decide +kernel
theorem dX7_sign_25 : decode cX7_sign 25 = .ok (.goto 4, 3) := by decide +kernel
theorem dX7_sign_28 : decode cX7_sign 28 = .ok (.iconst (-1), 1) := by decide +kernel
theorem dX7_sign_29 : decode cX7_sign 29 = .ok (.ireturn, 1) := by decide +kernel
theorem dX7_ofCode_0 : decode cX7_ofCode 0 = .ok (.aload_n 0, 1) := by decide +kernel
theorem dX7_ofCode_1 : decode cX7_ofCode 1 = .ok (.invokevirtual 116, 3) := by decide +kernel
theorem dX7_ofCode_4 : decode cX7_ofCode 4 = .ok (.iload_n 1, 1) := by decide +kernel
theorem dX7_ofCode_5 : decode cX7_ofCode 5 = .ok (.iconst 0, 1) := by decide +kernel
theorem dX7_ofCode_6 : decode cX7_ofCode 6 = .ok (.aload_n 0, 1) := by decide +kernel
theorem dX7_ofCode_7 : decode cX7_ofCode 7 = .ok (.getfield 88, 3) := by decide +kernel
theorem dX7_ofCode_10 : decode cX7_ofCode 10 = .ok (.iconst 1, 1) := by decide +kernel
theorem dX7_ofCode_11 : decode cX7_ofCode 11 = .ok (.isub, 1) := by decide +kernel
theorem dX7_ofCode_12 : decode cX7_ofCode 12 = .ok (.invokestatic 71, 3) := by decide +kernel
theorem dX7_ofCode_15 : decode cX7_ofCode 15 = .ok (.ifCond .ne 5, 3) := by decide +kernel
theorem dX7_ofCode_18 : decode cX7_ofCode 18 = .ok (.iconst (-1), 1) := by decide +kernel
theorem dX7_ofCode_19 : decode cX7_ofCode 19 = .ok (.ireturn, 1) := by decide +kernel
theorem dX7_ofCode_20 : decode cX7_ofCode 20 = .ok (.iload_n 2, 1) := by decide +kernel
theorem dX7_ofCode_21 : decode cX7_ofCode 21 = .ok (.tableswitch 81 0 4 #[35, 42, 60, 67, 74], 35) := by decide +kernel
theorem dX7_ofCode_56 : decode cX7_ofCode 56 = .ok (.aload_n 0, 1) := by decide +kernel
theorem dX7_ofCode_57 : decode cX7_ofCode 57 = .ok (.getfield 38, 3) := by decide +kernel
theorem dX7_ofCode_60 : decode cX7_ofCode 60 = .ok (.iload_n 1, 1) := by decide +kernel
theorem dX7_ofCode_61 : decode cX7_ofCode 61 = .ok (.iaload, 1) := by decide +kernel
theorem dX7_ofCode_62 : decode cX7_ofCode 62 = .ok (.ireturn, 1) := by decide +kernel
theorem dX7_ofCode_63 : decode cX7_ofCode 63 = .ok (.aload_n 0, 1) := by decide +kernel
theorem dX7_ofCode_64 : decode cX7_ofCode 64 = .ok (.getfield 38, 3) := by decide +kernel
theorem dX7_ofCode_67 : decode cX7_ofCode 67 = .ok (.iload_n 1, 1) := by decide +kernel
theorem dX7_ofCode_68 : decode cX7_ofCode 68 = .ok (.iaload, 1) := by decide +kernel
theorem dX7_ofCode_69 : decode cX7_ofCode 69 = .ok (.aload_n 0, 1) := by decide +kernel
theorem dX7_ofCode_70 : decode cX7_ofCode 70 = .ok (.getfield 7, 3) := by decide +kernel
theorem dX7_ofCode_73 : decode cX7_ofCode 73 = .ok (.sipush 250, 3) := by decide +kernel
theorem dX7_ofCode_76 : decode cX7_ofCode 76 = .ok (.iload_n 1, 1) := by decide +kernel
theorem dX7_ofCode_77 : decode cX7_ofCode 77 = .ok (.iadd, 1) := by decide +kernel
theorem dX7_ofCode_78 : decode cX7_ofCode 78 = .ok (.iaload, 1) := by decide +kernel
theorem dX7_ofCode_79 : decode cX7_ofCode 79 = .ok (.ixor, 1) := by decide +kernel
theorem dX7_ofCode_80 : decode cX7_ofCode 80 = .ok (.ireturn, 1) := by decide +kernel
theorem dX7_ofCode_81 : decode cX7_ofCode 81 = .ok (.aload_n 0, 1) := by decide +kernel
theorem dX7_ofCode_82 : decode cX7_ofCode 82 = .ok (.getfield 41, 3) := by decide +kernel
theorem dX7_ofCode_85 : decode cX7_ofCode 85 = .ok (.iload_n 1, 1) := by decide +kernel
theorem dX7_ofCode_86 : decode cX7_ofCode 86 = .ok (.iaload, 1) := by decide +kernel
theorem dX7_ofCode_87 : decode cX7_ofCode 87 = .ok (.ireturn, 1) := by decide +kernel
theorem dX7_ofCode_88 : decode cX7_ofCode 88 = .ok (.aload_n 0, 1) := by decide +kernel
theorem dX7_ofCode_89 : decode cX7_ofCode 89 = .ok (.getfield 44, 3) := by decide +kernel
theorem dX7_ofCode_92 : decode cX7_ofCode 92 = .ok (.iload_n 1, 1) := by decide +kernel
theorem dX7_ofCode_93 : decode cX7_ofCode 93 = .ok (.iaload, 1) := by decide +kernel
theorem dX7_ofCode_94 : decode cX7_ofCode 94 = .ok (.ireturn, 1) := by decide +kernel
theorem dX7_ofCode_95 : decode cX7_ofCode 95 = .ok (.aload_n 0, 1) := by decide +kernel
theorem dX7_ofCode_96 : decode cX7_ofCode 96 = .ok (.getfield 47, 3) := by decide +kernel
theorem dX7_ofCode_99 : decode cX7_ofCode 99 = .ok (.iload_n 1, 1) := by decide +kernel
theorem dX7_ofCode_100 : decode cX7_ofCode 100 = .ok (.iaload, 1) := by decide +kernel
theorem dX7_ofCode_101 : decode cX7_ofCode 101 = .ok (.ireturn, 1) := by decide +kernel
theorem dX7_ofCode_102 : decode cX7_ofCode 102 = .ok (.iload_n 2, 1) := by decide +kernel
theorem dX7_ofCode_103 : decode cX7_ofCode 103 = .ok (.iconst 5, 1) := by decide +kernel
theorem dX7_ofCode_104 : decode cX7_ofCode 104 = .ok (.if_icmp .ne 12, 3) := by decide +kernel
theorem dX7_ofCode_107 : decode cX7_ofCode 107 = .ok (.aload_n 0, 1) := by decide +kernel
theorem dX7_ofCode_108 : decode cX7_ofCode 108 = .ok (.getfield 50, 3) := by decide +kernel
theorem dX7_ofCode_111 : decode cX7_ofCode 111 = .ok (.iload_n 1, 1) := by decide +kernel
theorem dX7_ofCode_112 : decode cX7_ofCode 112 = .ok (.iaload, 1) := by decide +kernel
theorem dX7_ofCode_113 : decode cX7_ofCode 113 = .ok (.goto 5, 3) := by decide +kernel
theorem dX7_ofCode_116 : decode cX7_ofCode 116 = .ok (.bipush (-2), 2) := by decide +kernel
theorem dX7_ofCode_118 : decode cX7_ofCode 118 = .ok (.ireturn, 1) := by decide +kernel
theorem dX7_clears_0 : decode cX7_clears 0 = .ok (.iconst 0, 1) := by decide +kernel
theorem dX7_clears_1 : decode cX7_clears 1 = .ok (.istore_n 1, 1) := by decide +kernel
theorem dX7_clears_2 : decode cX7_clears 2 = .ok (.iconst 0, 1) := by decide +kernel
theorem dX7_clears_3 : decode cX7_clears 3 = .ok (.istore_n 2, 1) := by decide +kernel
theorem dX7_clears_4 : decode cX7_clears 4 = .ok (.iload_n 2, 1) := by decide +kernel
theorem dX7_clears_5 : decode cX7_clears 5 = .ok (.aload_n 0, 1) := by decide +kernel
theorem dX7_clears_6 : decode cX7_clears 6 = .ok (.getfield 88, 3) := by decide +kernel
theorem dX7_clears_9 : decode cX7_clears 9 = .ok (.if_icmp .ge 28, 3) := by decide +kernel
theorem dX7_clears_12 : decode cX7_clears 12 = .ok (.iload_n 1, 1) := by decide +kernel
theorem dX7_clears_13 : decode cX7_clears 13 = .ok (.aload_n 0, 1) := by decide +kernel
theorem dX7_clears_14 : decode cX7_clears 14 = .ok (.getfield 38, 3) := by decide +kernel
theorem dX7_clears_17 : decode cX7_clears 17 = .ok (.iload_n 2, 1) := by decide +kernel
theorem dX7_clears_18 : decode cX7_clears 18 = .ok (.iaload, 1) := by decide +kernel
theorem dX7_clears_19 : decode cX7_clears 19 = .ok (.bipush 8, 2) := by decide +kernel
theorem dX7_clears_21 : decode cX7_clears 21 = .ok (.if_icmp .ne 7, 3) := by decide +kernel
theorem dX7_clears_24 : decode cX7_clears 24 = .ok (.iconst 1, 1) := by decide +kernel
theorem dX7_clears_25 : decode cX7_clears 25 = .ok (.goto 4, 3) := by decide +kernel
theorem dX7_clears_28 : decode cX7_clears 28 = .ok (.iconst 0, 1) := by decide +kernel
theorem dX7_clears_29 : decode cX7_clears 29 = .ok (.iadd, 1) := by decide +kernel
theorem dX7_clears_30 : decode cX7_clears 30 = .ok (.istore_n 1, 1) := by decide +kernel
theorem dX7_clears_31 : decode cX7_clears 31 = .ok (.iinc 2 1, 3) := by decide +kernel
theorem dX7_clears_34 : decode cX7_clears 34 = .ok (.goto (-30), 3) := by decide +kernel
theorem dX7_clears_37 : decode cX7_clears 37 = .ok (.iload_n 1, 1) := by decide +kernel
theorem dX7_clears_38 : decode cX7_clears 38 = .ok (.ireturn, 1) := by decide +kernel
theorem dX7_spoiled_0 : decode cX7_spoiled 0 = .ok (.iconst 0, 1) := by decide +kernel
theorem dX7_spoiled_1 : decode cX7_spoiled 1 = .ok (.istore_n 1, 1) := by decide +kernel
theorem dX7_spoiled_2 : decode cX7_spoiled 2 = .ok (.sipush 250, 3) := by decide +kernel
theorem dX7_spoiled_5 : decode cX7_spoiled 5 = .ok (.istore_n 2, 1) := by decide +kernel
theorem dX7_spoiled_6 : decode cX7_spoiled 6 = .ok (.iload_n 2, 1) := by decide +kernel
theorem dX7_spoiled_7 : decode cX7_spoiled 7 = .ok (.sipush 560, 3) := by decide +kernel
theorem dX7_spoiled_10 : decode cX7_spoiled 10 = .ok (.if_icmp .ge 26, 3) := by decide +kernel
theorem dX7_spoiled_13 : decode cX7_spoiled 13 = .ok (.iload_n 1, 1) := by decide +kernel
theorem dX7_spoiled_14 : decode cX7_spoiled 14 = .ok (.aload_n 0, 1) := by decide +kernel
theorem dX7_spoiled_15 : decode cX7_spoiled 15 = .ok (.getfield 7, 3) := by decide +kernel
theorem dX7_spoiled_18 : decode cX7_spoiled 18 = .ok (.iload_n 2, 1) := by decide +kernel
theorem dX7_spoiled_19 : decode cX7_spoiled 19 = .ok (.iaload, 1) := by decide +kernel
theorem dX7_spoiled_20 : decode cX7_spoiled 20 = .ok (.ifCond .eq 7, 3) := by decide +kernel
theorem dX7_spoiled_23 : decode cX7_spoiled 23 = .ok (.iconst 1, 1) := by decide +kernel
theorem dX7_spoiled_24 : decode cX7_spoiled 24 = .ok (.goto 4, 3) := by decide +kernel
theorem dX7_spoiled_27 : decode cX7_spoiled 27 = .ok (.iconst 0, 1) := by decide +kernel
theorem dX7_spoiled_28 : decode cX7_spoiled 28 = .ok (.iadd, 1) := by decide +kernel
theorem dX7_spoiled_29 : decode cX7_spoiled 29 = .ok (.istore_n 1, 1) := by decide +kernel
theorem dX7_spoiled_30 : decode cX7_spoiled 30 = .ok (.iinc 2 1, 3) := by decide +kernel
theorem dX7_spoiled_33 : decode cX7_spoiled 33 = .ok (.goto (-27), 3) := by decide +kernel
theorem dX7_spoiled_36 : decode cX7_spoiled 36 = .ok (.iload_n 1, 1) := by decide +kernel
theorem dX7_spoiled_37 : decode cX7_spoiled 37 = .ok (.ireturn, 1) := by decide +kernel
theorem dX7_count_0 : decode cX7_count 0 = .ok (.iload_n 1, 1) := by decide +kernel
theorem dX7_count_1 : decode cX7_count 1 = .ok (.bipush 9, 2) := by decide +kernel
theorem dX7_count_3 : decode cX7_count 3 = .ok (.bipush 11, 2) := by decide +kernel
theorem dX7_count_5 : decode cX7_count 5 = .ok (.invokestatic 71, 3) := by decide +kernel
theorem dX7_count_8 : decode cX7_count 8 = .ok (.ifCond .eq 13, 3) := by decide +kernel
theorem dX7_count_11 : decode cX7_count 11 = .ok (.aload_n 0, 1) := by decide +kernel
theorem dX7_count_12 : decode cX7_count 12 = .ok (.getfield 7, 3) := by decide +kernel
theorem dX7_count_15 : decode cX7_count 15 = .ok (.iload_n 1, 1) := by decide +kernel
theorem dX7_count_16 : decode cX7_count 16 = .ok (.bipush 9, 2) := by decide +kernel
theorem dX7_count_18 : decode cX7_count 18 = .ok (.isub, 1) := by decide +kernel
theorem dX7_count_19 : decode cX7_count 19 = .ok (.iaload, 1) := by decide +kernel
theorem dX7_count_20 : decode cX7_count 20 = .ok (.ireturn, 1) := by decide +kernel
theorem dX7_count_21 : decode cX7_count 21 = .ok (.aload_n 0, 1) := by decide +kernel
theorem dX7_count_22 : decode cX7_count 22 = .ok (.invokevirtual 116, 3) := by decide +kernel
theorem dX7_count_25 : decode cX7_count 25 = .ok (.iload_n 1, 1) := by decide +kernel
theorem dX7_count_26 : decode cX7_count 26 = .ok (.tableswitch 88 0 7 #[46, 53, 58, 63, 68, 73, 78, 83], 46) := by decide +kernel
theorem dX7_count_72 : decode cX7_count 72 = .ok (.aload_n 0, 1) := by decide +kernel
theorem dX7_count_73 : decode cX7_count 73 = .ok (.getfield 7, 3) := by decide +kernel
theorem dX7_count_76 : decode cX7_count 76 = .ok (.iconst 3, 1) := by decide +kernel
theorem dX7_count_77 : decode cX7_count 77 = .ok (.iaload, 1) := by decide +kernel
theorem dX7_count_78 : decode cX7_count 78 = .ok (.ireturn, 1) := by decide +kernel
theorem dX7_count_79 : decode cX7_count 79 = .ok (.aload_n 0, 1) := by decide +kernel
theorem dX7_count_80 : decode cX7_count 80 = .ok (.getfield 88, 3) := by decide +kernel
theorem dX7_count_83 : decode cX7_count 83 = .ok (.ireturn, 1) := by decide +kernel
theorem dX7_count_84 : decode cX7_count 84 = .ok (.aload_n 0, 1) := by decide +kernel
theorem dX7_count_85 : decode cX7_count 85 = .ok (.invokevirtual 134, 3) := by decide +kernel
theorem dX7_count_88 : decode cX7_count 88 = .ok (.ireturn, 1) := by decide +kernel
theorem dX7_count_89 : decode cX7_count 89 = .ok (.aload_n 0, 1) := by decide +kernel
theorem dX7_count_90 : decode cX7_count 90 = .ok (.invokevirtual 137, 3) := by decide +kernel
theorem dX7_count_93 : decode cX7_count 93 = .ok (.ireturn, 1) := by decide +kernel
theorem dX7_count_94 : decode cX7_count 94 = .ok (.aload_n 0, 1) := by decide +kernel
theorem dX7_count_95 : decode cX7_count 95 = .ok (.getfield 85, 3) := by decide +kernel
theorem dX7_count_98 : decode cX7_count 98 = .ok (.ireturn, 1) := by decide +kernel
theorem dX7_count_99 : decode cX7_count 99 = .ok (.aload_n 0, 1) := by decide +kernel
theorem dX7_count_100 : decode cX7_count 100 = .ok (.getfield 91, 3) := by decide +kernel
theorem dX7_count_103 : decode cX7_count 103 = .ok (.ireturn, 1) := by decide +kernel
theorem dX7_count_104 : decode cX7_count 104 = .ok (.aload_n 0, 1) := by decide +kernel
theorem dX7_count_105 : decode cX7_count 105 = .ok (.invokevirtual 140, 3) := by decide +kernel
theorem dX7_count_108 : decode cX7_count 108 = .ok (.ireturn, 1) := by decide +kernel
theorem dX7_count_109 : decode cX7_count 109 = .ok (.aload_n 0, 1) := by decide +kernel
theorem dX7_count_110 : decode cX7_count 110 = .ok (.getfield 122, 3) := by decide +kernel
theorem dX7_count_113 : decode cX7_count 113 = .ok (.ireturn, 1) := by decide +kernel
theorem dX7_count_114 : decode cX7_count 114 = .ok (.iload_n 1, 1) := by decide +kernel
theorem dX7_count_115 : decode cX7_count 115 = .ok (.bipush 8, 2) := by decide +kernel
theorem dX7_count_117 : decode cX7_count 117 = .ok (.if_icmp .ne 10, 3) := by decide +kernel
theorem dX7_count_120 : decode cX7_count 120 = .ok (.aload_n 0, 1) := by decide +kernel
theorem dX7_count_121 : decode cX7_count 121 = .ok (.getfield 67, 3) := by decide +kernel
theorem dX7_count_124 : decode cX7_count 124 = .ok (.goto 5, 3) := by decide +kernel
theorem dX7_count_127 : decode cX7_count 127 = .ok (.bipush (-2), 2) := by decide +kernel
theorem dX7_count_129 : decode cX7_count 129 = .ok (.ireturn, 1) := by decide +kernel
theorem dX7_entry_0 : decode cX7_entry 0 = .ok (.aload_n 0, 1) := by decide +kernel
theorem dX7_entry_1 : decode cX7_entry 1 = .ok (.invokevirtual 116, 3) := by decide +kernel
theorem dX7_entry_4 : decode cX7_entry 4 = .ok (.iload_n 1, 1) := by decide +kernel
theorem dX7_entry_5 : decode cX7_entry 5 = .ok (.iconst 0, 1) := by decide +kernel
theorem dX7_entry_6 : decode cX7_entry 6 = .ok (.aload_n 0, 1) := by decide +kernel
theorem dX7_entry_7 : decode cX7_entry 7 = .ok (.getfield 85, 3) := by decide +kernel
theorem dX7_entry_10 : decode cX7_entry 10 = .ok (.iconst 1, 1) := by decide +kernel
theorem dX7_entry_11 : decode cX7_entry 11 = .ok (.isub, 1) := by decide +kernel
theorem dX7_entry_12 : decode cX7_entry 12 = .ok (.invokestatic 71, 3) := by decide +kernel
theorem dX7_entry_15 : decode cX7_entry 15 = .ok (.ifCond .ne 5, 3) := by decide +kernel
theorem dX7_entry_18 : decode cX7_entry 18 = .ok (.iconst (-1), 1) := by decide +kernel
theorem dX7_entry_19 : decode cX7_entry 19 = .ok (.ireturn, 1) := by decide +kernel
theorem dX7_entry_20 : decode cX7_entry 20 = .ok (.iload_n 2, 1) := by decide +kernel
theorem dX7_entry_21 : decode cX7_entry 21 = .ok (.ifCond .ne 12, 3) := by decide +kernel
theorem dX7_entry_24 : decode cX7_entry 24 = .ok (.aload_n 0, 1) := by decide +kernel
theorem dX7_entry_25 : decode cX7_entry 25 = .ok (.getfield 35, 3) := by decide +kernel
theorem dX7_entry_28 : decode cX7_entry 28 = .ok (.iload_n 1, 1) := by decide +kernel
theorem dX7_entry_29 : decode cX7_entry 29 = .ok (.iaload, 1) := by decide +kernel
theorem dX7_entry_30 : decode cX7_entry 30 = .ok (.goto 33, 3) := by decide +kernel
theorem dX7_entry_33 : decode cX7_entry 33 = .ok (.iload_n 2, 1) := by decide +kernel
theorem dX7_entry_34 : decode cX7_entry 34 = .ok (.iconst 1, 1) := by decide +kernel
theorem dX7_entry_35 : decode cX7_entry 35 = .ok (.if_icmp .ne 12, 3) := by decide +kernel
theorem dX7_entry_38 : decode cX7_entry 38 = .ok (.aload_n 0, 1) := by decide +kernel
theorem dX7_entry_39 : decode cX7_entry 39 = .ok (.getfield 29, 3) := by decide +kernel
theorem dX7_entry_42 : decode cX7_entry 42 = .ok (.iload_n 1, 1) := by decide +kernel
theorem dX7_entry_43 : decode cX7_entry 43 = .ok (.iaload, 1) := by decide +kernel
theorem dX7_entry_44 : decode cX7_entry 44 = .ok (.goto 19, 3) := by decide +kernel
theorem dX7_entry_47 : decode cX7_entry 47 = .ok (.iload_n 2, 1) := by decide +kernel
theorem dX7_entry_48 : decode cX7_entry 48 = .ok (.iconst 2, 1) := by decide +kernel
theorem dX7_entry_49 : decode cX7_entry 49 = .ok (.if_icmp .ne 12, 3) := by decide +kernel
theorem dX7_entry_52 : decode cX7_entry 52 = .ok (.aload_n 0, 1) := by decide +kernel
theorem dX7_entry_53 : decode cX7_entry 53 = .ok (.getfield 26, 3) := by decide +kernel
theorem dX7_entry_56 : decode cX7_entry 56 = .ok (.iload_n 1, 1) := by decide +kernel
theorem dX7_entry_57 : decode cX7_entry 57 = .ok (.iaload, 1) := by decide +kernel
theorem dX7_entry_58 : decode cX7_entry 58 = .ok (.goto 5, 3) := by decide +kernel
theorem dX7_entry_61 : decode cX7_entry 61 = .ok (.bipush (-2), 2) := by decide +kernel
theorem dX7_entry_63 : decode cX7_entry 63 = .ok (.ireturn, 1) := by decide +kernel
theorem dX7_say_0 : decode cX7_say 0 = .ok (.iload_n 1, 1) := by decide +kernel
theorem dX7_say_1 : decode cX7_say 1 = .ok (.istore_n 2, 1) := by decide +kernel
theorem dX7_say_2 : decode cX7_say 2 = .ok (.aload_n 0, 1) := by decide +kernel
theorem dX7_say_3 : decode cX7_say 3 = .ok (.getfield 143, 3) := by decide +kernel
theorem dX7_say_6 : decode cX7_say 6 = .ok (.aload_n 0, 1) := by decide +kernel
theorem dX7_say_7 : decode cX7_say 7 = .ok (.getfield 35, 3) := by decide +kernel
theorem dX7_say_10 : decode cX7_say 10 = .ok (.iload_n 1, 1) := by decide +kernel
theorem dX7_say_11 : decode cX7_say 11 = .ok (.iaload, 1) := by decide +kernel
theorem dX7_say_12 : decode cX7_say 12 = .ok (.iadd, 1) := by decide +kernel
theorem dX7_say_13 : decode cX7_say 13 = .ok (.iconst 1, 1) := by decide +kernel
theorem dX7_say_14 : decode cX7_say 14 = .ok (.isub, 1) := by decide +kernel
theorem dX7_say_15 : decode cX7_say 15 = .ok (.istore_n 3, 1) := by decide +kernel
theorem dX7_say_16 : decode cX7_say 16 = .ok (.iload_n 3, 1) := by decide +kernel
theorem dX7_say_17 : decode cX7_say 17 = .ok (.aload_n 0, 1) := by decide +kernel
theorem dX7_say_18 : decode cX7_say 18 = .ok (.getfield 143, 3) := by decide +kernel
theorem dX7_say_21 : decode cX7_say 21 = .ok (.if_icmp .lt 29, 3) := by decide +kernel
theorem dX7_say_24 : decode cX7_say 24 = .ok (.aload_n 0, 1) := by decide +kernel
theorem dX7_say_25 : decode cX7_say 25 = .ok (.getfield 63, 3) := by decide +kernel
theorem dX7_say_28 : decode cX7_say 28 = .ok (.iload_n 3, 1) := by decide +kernel
theorem dX7_say_29 : decode cX7_say 29 = .ok (.aload_n 0, 1) := by decide +kernel
theorem dX7_say_30 : decode cX7_say 30 = .ok (.getfield 29, 3) := by decide +kernel
theorem dX7_say_33 : decode cX7_say 33 = .ok (.iload_n 2, 1) := by decide +kernel
theorem dX7_say_34 : decode cX7_say 34 = .ok (.iaload, 1) := by decide +kernel
theorem dX7_say_35 : decode cX7_say 35 = .ok (.i2b, 1) := by decide +kernel
theorem dX7_say_36 : decode cX7_say 36 = .ok (.bastore, 1) := by decide +kernel
theorem dX7_say_37 : decode cX7_say 37 = .ok (.aload_n 0, 1) := by decide +kernel
theorem dX7_say_38 : decode cX7_say 38 = .ok (.getfield 26, 3) := by decide +kernel
theorem dX7_say_41 : decode cX7_say 41 = .ok (.iload_n 2, 1) := by decide +kernel
theorem dX7_say_42 : decode cX7_say 42 = .ok (.iaload, 1) := by decide +kernel
theorem dX7_say_43 : decode cX7_say 43 = .ok (.istore_n 2, 1) := by decide +kernel
theorem dX7_say_44 : decode cX7_say 44 = .ok (.iinc 3 (-1), 3) := by decide +kernel
theorem dX7_say_47 : decode cX7_say 47 = .ok (.goto (-31), 3) := by decide +kernel
theorem dX7_say_50 : decode cX7_say 50 = .ok (.aload_n 0, 1) := by decide +kernel
theorem dX7_say_51 : decode cX7_say 51 = .ok (.dup, 1) := by decide +kernel
theorem dX7_say_52 : decode cX7_say 52 = .ok (.getfield 143, 3) := by decide +kernel
theorem dX7_say_55 : decode cX7_say 55 = .ok (.aload_n 0, 1) := by decide +kernel
theorem dX7_say_56 : decode cX7_say 56 = .ok (.getfield 35, 3) := by decide +kernel
theorem dX7_say_59 : decode cX7_say 59 = .ok (.iload_n 1, 1) := by decide +kernel
theorem dX7_say_60 : decode cX7_say 60 = .ok (.iaload, 1) := by decide +kernel
theorem dX7_say_61 : decode cX7_say 61 = .ok (.iadd, 1) := by decide +kernel
theorem dX7_say_62 : decode cX7_say 62 = .ok (.putfield 143, 3) := by decide +kernel
theorem dX7_say_65 : decode cX7_say 65 = .ok (.return_, 1) := by decide +kernel
theorem dX7_readCodes_0 : decode cX7_readCodes 0 = .ok (.iconst 1, 1) := by decide +kernel
theorem dX7_readCodes_1 : decode cX7_readCodes 1 = .ok (.aload_n 0, 1) := by decide +kernel
theorem dX7_readCodes_2 : decode cX7_readCodes 2 = .ok (.getfield 7, 3) := by decide +kernel
theorem dX7_readCodes_5 : decode cX7_readCodes 5 = .ok (.iconst 0, 1) := by decide +kernel
theorem dX7_readCodes_6 : decode cX7_readCodes 6 = .ok (.iaload, 1) := by decide +kernel
theorem dX7_readCodes_7 : decode cX7_readCodes 7 = .ok (.ishl, 1) := by decide +kernel
theorem dX7_readCodes_8 : decode cX7_readCodes 8 = .ok (.istore_n 2, 1) := by decide +kernel
theorem dX7_readCodes_9 : decode cX7_readCodes 9 = .ok (.bipush (-6), 2) := by decide +kernel
theorem dX7_readCodes_11 : decode cX7_readCodes 11 = .ok (.istore_n 3, 1) := by decide +kernel
theorem dX7_readCodes_12 : decode cX7_readCodes 12 = .ok (.iconst 0, 1) := by decide +kernel
theorem dX7_readCodes_13 : decode cX7_readCodes 13 = .ok (.istore 4, 2) := by decide +kernel
theorem dX7_readCodes_15 : decode cX7_readCodes 15 = .ok (.aload_n 0, 1) := by decide +kernel
theorem dX7_readCodes_16 : decode cX7_readCodes 16 = .ok (.iconst 0, 1) := by decide +kernel
theorem dX7_readCodes_17 : decode cX7_readCodes 17 = .ok (.putfield 143, 3) := by decide +kernel
theorem dX7_readCodes_20 : decode cX7_readCodes 20 = .ok (.aload_n 0, 1) := by decide +kernel
theorem dX7_readCodes_21 : decode cX7_readCodes 21 = .ok (.bipush (-6), 2) := by decide +kernel
theorem dX7_readCodes_23 : decode cX7_readCodes 23 = .ok (.putfield 146, 3) := by decide +kernel
theorem dX7_readCodes_26 : decode cX7_readCodes 26 = .ok (.aload_n 0, 1) := by decide +kernel
theorem dX7_readCodes_27 : decode cX7_readCodes 27 = .ok (.iconst 0, 1) := by decide +kernel
theorem dX7_readCodes_28 : decode cX7_readCodes 28 = .ok (.putfield 149, 3) := by decide +kernel
theorem dX7_readCodes_31 : decode cX7_readCodes 31 = .ok (.aload_n 0, 1) := by decide +kernel
theorem dX7_readCodes_32 : decode cX7_readCodes 32 = .ok (.iconst 0, 1) := by decide +kernel
theorem dX7_readCodes_33 : decode cX7_readCodes 33 = .ok (.putfield 152, 3) := by decide +kernel
theorem dX7_readCodes_36 : decode cX7_readCodes 36 = .ok (.aload_n 0, 1) := by decide +kernel
theorem dX7_readCodes_37 : decode cX7_readCodes 37 = .ok (.invokevirtual 94, 3) := by decide +kernel
theorem dX7_readCodes_40 : decode cX7_readCodes 40 = .ok (.iconst 0, 1) := by decide +kernel
theorem dX7_readCodes_41 : decode cX7_readCodes 41 = .ok (.istore 5, 2) := by decide +kernel
theorem dX7_readCodes_43 : decode cX7_readCodes 43 = .ok (.iload 5, 2) := by decide +kernel
theorem dX7_readCodes_45 : decode cX7_readCodes 45 = .ok (.aload_n 0, 1) := by decide +kernel
theorem dX7_readCodes_46 : decode cX7_readCodes 46 = .ok (.getfield 88, 3) := by decide +kernel
theorem dX7_readCodes_49 : decode cX7_readCodes 49 = .ok (.if_icmp .ge 270, 3) := by decide +kernel
theorem dX7_readCodes_52 : decode cX7_readCodes 52 = .ok (.aload_n 0, 1) := by decide +kernel
theorem dX7_readCodes_53 : decode cX7_readCodes 53 = .ok (.getfield 149, 3) := by decide +kernel
theorem dX7_readCodes_56 : decode cX7_readCodes 56 = .ok (.ifCond .ne 263, 3) := by decide +kernel
theorem dX7_readCodes_59 : decode cX7_readCodes 59 = .ok (.iload_n 1, 1) := by decide +kernel
theorem dX7_readCodes_60 : decode cX7_readCodes 60 = .ok (.ifCond .ge 25, 3) := by decide +kernel
theorem dX7_readCodes_63 : decode cX7_readCodes 63 = .ok (.aload_n 0, 1) := by decide +kernel
theorem dX7_readCodes_64 : decode cX7_readCodes 64 = .ok (.getfield 38, 3) := by decide +kernel
theorem dX7_readCodes_67 : decode cX7_readCodes 67 = .ok (.iload 5, 2) := by decide +kernel
theorem dX7_readCodes_69 : decode cX7_readCodes 69 = .ok (.iaload, 1) := by decide +kernel
theorem dX7_readCodes_70 : decode cX7_readCodes 70 = .ok (.aload_n 0, 1) := by decide +kernel
theorem dX7_readCodes_71 : decode cX7_readCodes 71 = .ok (.getfield 7, 3) := by decide +kernel
theorem dX7_readCodes_74 : decode cX7_readCodes 74 = .ok (.sipush 250, 3) := by decide +kernel
theorem dX7_readCodes_77 : decode cX7_readCodes 77 = .ok (.iload 5, 2) := by decide +kernel
theorem dX7_readCodes_79 : decode cX7_readCodes 79 = .ok (.iadd, 1) := by decide +kernel
theorem dX7_readCodes_80 : decode cX7_readCodes 80 = .ok (.iaload, 1) := by decide +kernel
theorem dX7_readCodes_81 : decode cX7_readCodes 81 = .ok (.ixor, 1) := by decide +kernel
theorem dX7_readCodes_82 : decode cX7_readCodes 82 = .ok (.goto 28, 3) := by decide +kernel
theorem dX7_readCodes_85 : decode cX7_readCodes 85 = .ok (.iload 5, 2) := by decide +kernel
theorem dX7_readCodes_87 : decode cX7_readCodes 87 = .ok (.iload_n 1, 1) := by decide +kernel
theorem dX7_readCodes_88 : decode cX7_readCodes 88 = .ok (.if_icmp .ne 15, 3) := by decide +kernel
theorem dX7_readCodes_91 : decode cX7_readCodes 91 = .ok (.aload_n 0, 1) := by decide +kernel
theorem dX7_readCodes_92 : decode cX7_readCodes 92 = .ok (.getfield 38, 3) := by decide +kernel
theorem dX7_readCodes_95 : decode cX7_readCodes 95 = .ok (.iload 5, 2) := by decide +kernel
theorem dX7_readCodes_97 : decode cX7_readCodes 97 = .ok (.iaload, 1) := by decide +kernel
theorem dX7_readCodes_98 : decode cX7_readCodes 98 = .ok (.iconst 1, 1) := by decide +kernel
theorem dX7_readCodes_99 : decode cX7_readCodes 99 = .ok (.ixor, 1) := by decide +kernel
theorem dX7_readCodes_100 : decode cX7_readCodes 100 = .ok (.goto 10, 3) := by decide +kernel
theorem dX7_readCodes_103 : decode cX7_readCodes 103 = .ok (.aload_n 0, 1) := by decide +kernel
theorem dX7_readCodes_104 : decode cX7_readCodes 104 = .ok (.getfield 38, 3) := by decide +kernel
theorem dX7_readCodes_107 : decode cX7_readCodes 107 = .ok (.iload 5, 2) := by decide +kernel
theorem dX7_readCodes_109 : decode cX7_readCodes 109 = .ok (.iaload, 1) := by decide +kernel
theorem dX7_readCodes_110 : decode cX7_readCodes 110 = .ok (.istore 6, 2) := by decide +kernel
theorem dX7_readCodes_112 : decode cX7_readCodes 112 = .ok (.iload 6, 2) := by decide +kernel
theorem dX7_readCodes_114 : decode cX7_readCodes 114 = .ok (.iconst 0, 1) := by decide +kernel
theorem dX7_readCodes_115 : decode cX7_readCodes 115 = .ok (.bipush 7, 2) := by decide +kernel
theorem dX7_readCodes_117 : decode cX7_readCodes 117 = .ok (.invokestatic 71, 3) := by decide +kernel
theorem dX7_readCodes_120 : decode cX7_readCodes 120 = .ok (.ifCond .ne 19, 3) := by decide +kernel
theorem dX7_readCodes_123 : decode cX7_readCodes 123 = .ok (.iload 6, 2) := by decide +kernel
theorem dX7_readCodes_125 : decode cX7_readCodes 125 = .ok (.bipush 10, 2) := by decide +kernel
theorem dX7_readCodes_127 : decode cX7_readCodes 127 = .ok (.aload_n 0, 1) := by decide +kernel
theorem dX7_readCodes_128 : decode cX7_readCodes 128 = .ok (.getfield 85, 3) := by decide +kernel
theorem dX7_readCodes_131 : decode cX7_readCodes 131 = .ok (.iconst 1, 1) := by decide +kernel
theorem dX7_readCodes_132 : decode cX7_readCodes 132 = .ok (.isub, 1) := by decide +kernel
theorem dX7_readCodes_133 : decode cX7_readCodes 133 = .ok (.invokestatic 71, 3) := by decide +kernel
theorem dX7_readCodes_136 : decode cX7_readCodes 136 = .ok (.ifCond .eq 7, 3) := by decide +kernel
theorem dX7_readCodes_139 : decode cX7_readCodes 139 = .ok (.iconst 1, 1) := by decide +kernel
theorem dX7_readCodes_140 : decode cX7_readCodes 140 = .ok (.goto 4, 3) := by decide +kernel
theorem dX7_readCodes_143 : decode cX7_readCodes 143 = .ok (.iconst 0, 1) := by decide +kernel
theorem dX7_readCodes_144 : decode cX7_readCodes 144 = .ok (.istore 7, 2) := by decide +kernel
theorem dX7_readCodes_146 : decode cX7_readCodes 146 = .ok (.iload 6, 2) := by decide +kernel
theorem dX7_readCodes_148 : decode cX7_readCodes 148 = .ok (.aload_n 0, 1) := by decide +kernel
theorem dX7_readCodes_149 : decode cX7_readCodes 149 = .ok (.getfield 85, 3) := by decide +kernel
theorem dX7_readCodes_152 : decode cX7_readCodes 152 = .ok (.if_icmp .ne 19, 3) := by decide +kernel
theorem dX7_readCodes_155 : decode cX7_readCodes 155 = .ok (.iload_n 3, 1) := by decide +kernel
theorem dX7_readCodes_156 : decode cX7_readCodes 156 = .ok (.ifCond .lt 15, 3) := by decide +kernel
theorem dX7_readCodes_159 : decode cX7_readCodes 159 = .ok (.aload_n 0, 1) := by decide +kernel
theorem dX7_readCodes_160 : decode cX7_readCodes 160 = .ok (.getfield 85, 3) := by decide +kernel
theorem dX7_readCodes_163 : decode cX7_readCodes 163 = .ok (.iload_n 2, 1) := by decide +kernel
theorem dX7_readCodes_164 : decode cX7_readCodes 164 = .ok (.if_icmp .ge 7, 3) := by decide +kernel
theorem dX7_readCodes_167 : decode cX7_readCodes 167 = .ok (.iconst 1, 1) := by decide +kernel
theorem dX7_readCodes_168 : decode cX7_readCodes 168 = .ok (.goto 4, 3) := by decide +kernel
theorem dX7_readCodes_171 : decode cX7_readCodes 171 = .ok (.iconst 0, 1) := by decide +kernel
theorem dX7_readCodes_172 : decode cX7_readCodes 172 = .ok (.istore 8, 2) := by decide +kernel
theorem dX7_readCodes_174 : decode cX7_readCodes 174 = .ok (.iload 4, 2) := by decide +kernel
theorem dX7_readCodes_176 : decode cX7_readCodes 176 = .ok (.ifCond .eq 17, 3) := by decide +kernel
theorem dX7_readCodes_179 : decode cX7_readCodes 179 = .ok (.aload_n 0, 1) := by decide +kernel
theorem dX7_readCodes_180 : decode cX7_readCodes 180 = .ok (.iload 5, 2) := by decide +kernel
theorem dX7_readCodes_182 : decode cX7_readCodes 182 = .ok (.putfield 146, 3) := by decide +kernel
theorem dX7_readCodes_185 : decode cX7_readCodes 185 = .ok (.aload_n 0, 1) := by decide +kernel
theorem dX7_readCodes_186 : decode cX7_readCodes 186 = .ok (.iconst 3, 1) := by decide +kernel
theorem dX7_readCodes_187 : decode cX7_readCodes 187 = .ok (.putfield 149, 3) := by decide +kernel
theorem dX7_readCodes_190 : decode cX7_readCodes 190 = .ok (.goto 123, 3) := by decide +kernel
theorem dX7_readCodes_193 : decode cX7_readCodes 193 = .ok (.iload 6, 2) := by decide +kernel
theorem dX7_readCodes_195 : decode cX7_readCodes 195 = .ok (.bipush 9, 2) := by decide +kernel
theorem dX7_readCodes_197 : decode cX7_readCodes 197 = .ok (.if_icmp .ne 9, 3) := by decide +kernel
theorem dX7_readCodes_200 : decode cX7_readCodes 200 = .ok (.iconst 1, 1) := by decide +kernel
theorem dX7_readCodes_201 : decode cX7_readCodes 201 = .ok (.istore 4, 2) := by decide +kernel
theorem dX7_readCodes_203 : decode cX7_readCodes 203 = .ok (.goto 110, 3) := by decide +kernel
theorem dX7_readCodes_206 : decode cX7_readCodes 206 = .ok (.iload 6, 2) := by decide +kernel
theorem dX7_readCodes_208 : decode cX7_readCodes 208 = .ok (.bipush 8, 2) := by decide +kernel
theorem dX7_readCodes_210 : decode cX7_readCodes 210 = .ok (.if_icmp .ne 13, 3) := by decide +kernel
theorem dX7_readCodes_213 : decode cX7_readCodes 213 = .ok (.aload_n 0, 1) := by decide +kernel
theorem dX7_readCodes_214 : decode cX7_readCodes 214 = .ok (.invokevirtual 94, 3) := by decide +kernel
theorem dX7_readCodes_217 : decode cX7_readCodes 217 = .ok (.bipush (-6), 2) := by decide +kernel
theorem dX7_readCodes_219 : decode cX7_readCodes 219 = .ok (.istore_n 3, 1) := by decide +kernel
theorem dX7_readCodes_220 : decode cX7_readCodes 220 = .ok (.goto 93, 3) := by decide +kernel
theorem dX7_readCodes_223 : decode cX7_readCodes 223 = .ok (.iload 7, 2) := by decide +kernel
theorem dX7_readCodes_225 : decode cX7_readCodes 225 = .ok (.ifCond .ne 8, 3) := by decide +kernel
theorem dX7_readCodes_228 : decode cX7_readCodes 228 = .ok (.iload 8, 2) := by decide +kernel
theorem dX7_readCodes_230 : decode cX7_readCodes 230 = .ok (.ifCond .eq 72, 3) := by decide +kernel
theorem dX7_readCodes_233 : decode cX7_readCodes 233 = .ok (.iload_n 3, 1) := by decide +kernel
theorem dX7_readCodes_234 : decode cX7_readCodes 234 = .ok (.ifCond .lt 37, 3) := by decide +kernel
theorem dX7_readCodes_237 : decode cX7_readCodes 237 = .ok (.aload_n 0, 1) := by decide +kernel
theorem dX7_readCodes_238 : decode cX7_readCodes 238 = .ok (.getfield 85, 3) := by decide +kernel
theorem dX7_readCodes_241 : decode cX7_readCodes 241 = .ok (.iload_n 2, 1) := by decide +kernel
theorem dX7_readCodes_242 : decode cX7_readCodes 242 = .ok (.if_icmp .ge 29, 3) := by decide +kernel
theorem dX7_readCodes_245 : decode cX7_readCodes 245 = .ok (.aload_n 0, 1) := by decide +kernel
theorem dX7_readCodes_246 : decode cX7_readCodes 246 = .ok (.iload_n 3, 1) := by decide +kernel
theorem dX7_readCodes_247 : decode cX7_readCodes 247 = .ok (.iload 8, 2) := by decide +kernel
theorem dX7_readCodes_249 : decode cX7_readCodes 249 = .ok (.ifCond .eq 12, 3) := by decide +kernel
theorem dX7_readCodes_252 : decode cX7_readCodes 252 = .ok (.aload_n 0, 1) := by decide +kernel
theorem dX7_readCodes_253 : decode cX7_readCodes 253 = .ok (.getfield 32, 3) := by decide +kernel
theorem dX7_readCodes_256 : decode cX7_readCodes 256 = .ok (.iload_n 3, 1) := by decide +kernel
theorem dX7_readCodes_257 : decode cX7_readCodes 257 = .ok (.iaload, 1) := by decide +kernel
theorem dX7_readCodes_258 : decode cX7_readCodes 258 = .ok (.goto 10, 3) := by decide +kernel
theorem dX7_readCodes_261 : decode cX7_readCodes 261 = .ok (.aload_n 0, 1) := by decide +kernel
theorem dX7_readCodes_262 : decode cX7_readCodes 262 = .ok (.getfield 32, 3) := by decide +kernel
theorem dX7_readCodes_265 : decode cX7_readCodes 265 = .ok (.iload 6, 2) := by decide +kernel
theorem dX7_readCodes_267 : decode cX7_readCodes 267 = .ok (.iaload, 1) := by decide +kernel
theorem dX7_readCodes_268 : decode cX7_readCodes 268 = .ok (.invokevirtual 105, 3) := by decide +kernel
theorem dX7_readCodes_271 : decode cX7_readCodes 271 = .ok (.aload_n 0, 1) := by decide +kernel
theorem dX7_readCodes_272 : decode cX7_readCodes 272 = .ok (.dup, 1) := by decide +kernel
theorem dX7_readCodes_273 : decode cX7_readCodes 273 = .ok (.getfield 152, 3) := by decide +kernel
theorem dX7_readCodes_276 : decode cX7_readCodes 276 = .ok (.iload 8, 2) := by decide +kernel
theorem dX7_readCodes_278 : decode cX7_readCodes 278 = .ok (.ifCond .eq 7, 3) := by decide +kernel
theorem dX7_readCodes_281 : decode cX7_readCodes 281 = .ok (.iconst 1, 1) := by decide +kernel
theorem dX7_readCodes_282 : decode cX7_readCodes 282 = .ok (.goto 4, 3) := by decide +kernel
theorem dX7_readCodes_285 : decode cX7_readCodes 285 = .ok (.iconst 0, 1) := by decide +kernel
theorem dX7_readCodes_286 : decode cX7_readCodes 286 = .ok (.iadd, 1) := by decide +kernel
theorem dX7_readCodes_287 : decode cX7_readCodes 287 = .ok (.putfield 152, 3) := by decide +kernel
theorem dX7_readCodes_290 : decode cX7_readCodes 290 = .ok (.aload_n 0, 1) := by decide +kernel
theorem dX7_readCodes_291 : decode cX7_readCodes 291 = .ok (.iload 6, 2) := by decide +kernel
theorem dX7_readCodes_293 : decode cX7_readCodes 293 = .ok (.invokevirtual 155, 3) := by decide +kernel
theorem dX7_readCodes_296 : decode cX7_readCodes 296 = .ok (.iload 6, 2) := by decide +kernel
theorem dX7_readCodes_298 : decode cX7_readCodes 298 = .ok (.istore_n 3, 1) := by decide +kernel
theorem dX7_readCodes_299 : decode cX7_readCodes 299 = .ok (.goto 14, 3) := by decide +kernel
theorem dX7_readCodes_302 : decode cX7_readCodes 302 = .ok (.aload_n 0, 1) := by decide +kernel
theorem dX7_readCodes_303 : decode cX7_readCodes 303 = .ok (.iload 5, 2) := by decide +kernel
theorem dX7_readCodes_305 : decode cX7_readCodes 305 = .ok (.putfield 146, 3) := by decide +kernel
theorem dX7_readCodes_308 : decode cX7_readCodes 308 = .ok (.aload_n 0, 1) := by decide +kernel
theorem dX7_readCodes_309 : decode cX7_readCodes 309 = .ok (.iconst 1, 1) := by decide +kernel
theorem dX7_readCodes_310 : decode cX7_readCodes 310 = .ok (.putfield 149, 3) := by decide +kernel
theorem dX7_readCodes_313 : decode cX7_readCodes 313 = .ok (.iinc 5 1, 3) := by decide +kernel
theorem dX7_readCodes_316 : decode cX7_readCodes 316 = .ok (.goto (-273), 3) := by decide +kernel
theorem dX7_readCodes_319 : decode cX7_readCodes 319 = .ok (.aload_n 0, 1) := by decide +kernel
theorem dX7_readCodes_320 : decode cX7_readCodes 320 = .ok (.getfield 149, 3) := by decide +kernel
theorem dX7_readCodes_323 : decode cX7_readCodes 323 = .ok (.ifCond .ne 21, 3) := by decide +kernel
theorem dX7_readCodes_326 : decode cX7_readCodes 326 = .ok (.iload 4, 2) := by decide +kernel
theorem dX7_readCodes_328 : decode cX7_readCodes 328 = .ok (.ifCond .ne 16, 3) := by decide +kernel
theorem dX7_readCodes_331 : decode cX7_readCodes 331 = .ok (.aload_n 0, 1) := by decide +kernel
theorem dX7_readCodes_332 : decode cX7_readCodes 332 = .ok (.aload_n 0, 1) := by decide +kernel
theorem dX7_readCodes_333 : decode cX7_readCodes 333 = .ok (.getfield 88, 3) := by decide +kernel
theorem dX7_readCodes_336 : decode cX7_readCodes 336 = .ok (.putfield 146, 3) := by decide +kernel
theorem dX7_readCodes_339 : decode cX7_readCodes 339 = .ok (.aload_n 0, 1) := by decide +kernel
theorem dX7_readCodes_340 : decode cX7_readCodes 340 = .ok (.iconst 2, 1) := by decide +kernel
theorem dX7_readCodes_341 : decode cX7_readCodes 341 = .ok (.putfield 149, 3) := by decide +kernel
theorem dX7_readCodes_344 : decode cX7_readCodes 344 = .ok (.return_, 1) := by decide +kernel
theorem dX7_alike_0 : decode cX7_alike 0 = .ok (.iconst 0, 1) := by decide +kernel
theorem dX7_alike_1 : decode cX7_alike 1 = .ok (.istore_n 1, 1) := by decide +kernel
theorem dX7_alike_2 : decode cX7_alike 2 = .ok (.iload_n 1, 1) := by decide +kernel
theorem dX7_alike_3 : decode cX7_alike 3 = .ok (.aload_n 0, 1) := by decide +kernel
theorem dX7_alike_4 : decode cX7_alike 4 = .ok (.getfield 143, 3) := by decide +kernel
theorem dX7_alike_7 : decode cX7_alike 7 = .ok (.if_icmp .ge 37, 3) := by decide +kernel
theorem dX7_alike_10 : decode cX7_alike 10 = .ok (.iload_n 1, 1) := by decide +kernel
theorem dX7_alike_11 : decode cX7_alike 11 = .ok (.aload_n 0, 1) := by decide +kernel
theorem dX7_alike_12 : decode cX7_alike 12 = .ok (.getfield 7, 3) := by decide +kernel
theorem dX7_alike_15 : decode cX7_alike 15 = .ok (.iconst 3, 1) := by decide +kernel
theorem dX7_alike_16 : decode cX7_alike 16 = .ok (.iaload, 1) := by decide +kernel
theorem dX7_alike_17 : decode cX7_alike 17 = .ok (.if_icmp .ge 27, 3) := by decide +kernel
theorem dX7_alike_20 : decode cX7_alike 20 = .ok (.aload_n 0, 1) := by decide +kernel
theorem dX7_alike_21 : decode cX7_alike 21 = .ok (.getfield 63, 3) := by decide +kernel
theorem dX7_alike_24 : decode cX7_alike 24 = .ok (.iload_n 1, 1) := by decide +kernel
theorem dX7_alike_25 : decode cX7_alike 25 = .ok (.baload, 1) := by decide +kernel
theorem dX7_alike_26 : decode cX7_alike 26 = .ok (.aload_n 0, 1) := by decide +kernel
theorem dX7_alike_27 : decode cX7_alike 27 = .ok (.getfield 7, 3) := by decide +kernel
theorem dX7_alike_30 : decode cX7_alike 30 = .ok (.bipush 10, 2) := by decide +kernel
theorem dX7_alike_32 : decode cX7_alike 32 = .ok (.iload_n 1, 1) := by decide +kernel
theorem dX7_alike_33 : decode cX7_alike 33 = .ok (.iadd, 1) := by decide +kernel
theorem dX7_alike_34 : decode cX7_alike 34 = .ok (.iaload, 1) := by decide +kernel
theorem dX7_alike_35 : decode cX7_alike 35 = .ok (.if_icmp .ne 9, 3) := by decide +kernel
theorem dX7_alike_38 : decode cX7_alike 38 = .ok (.iinc 1 1, 3) := by decide +kernel
theorem dX7_alike_41 : decode cX7_alike 41 = .ok (.goto (-39), 3) := by decide +kernel
theorem dX7_alike_44 : decode cX7_alike 44 = .ok (.iload_n 1, 1) := by decide +kernel
theorem dX7_alike_45 : decode cX7_alike 45 = .ok (.ireturn, 1) := by decide +kernel
theorem dX7_reading_0 : decode cX7_reading 0 = .ok (.iload_n 1, 1) := by decide +kernel
theorem dX7_reading_1 : decode cX7_reading 1 = .ok (.iconst 0, 1) := by decide +kernel
theorem dX7_reading_2 : decode cX7_reading 2 = .ok (.iconst 5, 1) := by decide +kernel
theorem dX7_reading_3 : decode cX7_reading 3 = .ok (.invokestatic 71, 3) := by decide +kernel
theorem dX7_reading_6 : decode cX7_reading 6 = .ok (.ifCond .ne 6, 3) := by decide +kernel
theorem dX7_reading_9 : decode cX7_reading 9 = .ok (.bipush (-2), 2) := by decide +kernel
theorem dX7_reading_11 : decode cX7_reading 11 = .ok (.ireturn, 1) := by decide +kernel
theorem dX7_reading_12 : decode cX7_reading 12 = .ok (.aload_n 0, 1) := by decide +kernel
theorem dX7_reading_13 : decode cX7_reading 13 = .ok (.invokevirtual 116, 3) := by decide +kernel
theorem dX7_reading_16 : decode cX7_reading 16 = .ok (.aload_n 0, 1) := by decide +kernel
theorem dX7_reading_17 : decode cX7_reading 17 = .ok (.bipush (-6), 2) := by decide +kernel
theorem dX7_reading_19 : decode cX7_reading 19 = .ok (.invokevirtual 159, 3) := by decide +kernel
theorem dX7_reading_22 : decode cX7_reading 22 = .ok (.iload_n 1, 1) := by decide +kernel
theorem dX7_reading_23 : decode cX7_reading 23 = .ok (.tableswitch 58 0 4 #[33, 38, 43, 48, 53], 33) := by decide +kernel
theorem dX7_reading_56 : decode cX7_reading 56 = .ok (.aload_n 0, 1) := by decide +kernel
theorem dX7_reading_57 : decode cX7_reading 57 = .ok (.getfield 143, 3) := by decide +kernel
theorem dX7_reading_60 : decode cX7_reading 60 = .ok (.ireturn, 1) := by decide +kernel
theorem dX7_reading_61 : decode cX7_reading 61 = .ok (.aload_n 0, 1) := by decide +kernel
theorem dX7_reading_62 : decode cX7_reading 62 = .ok (.getfield 146, 3) := by decide +kernel
theorem dX7_reading_65 : decode cX7_reading 65 = .ok (.ireturn, 1) := by decide +kernel
theorem dX7_reading_66 : decode cX7_reading 66 = .ok (.aload_n 0, 1) := by decide +kernel
theorem dX7_reading_67 : decode cX7_reading 67 = .ok (.getfield 149, 3) := by decide +kernel
theorem dX7_reading_70 : decode cX7_reading 70 = .ok (.ireturn, 1) := by decide +kernel
theorem dX7_reading_71 : decode cX7_reading 71 = .ok (.aload_n 0, 1) := by decide +kernel
theorem dX7_reading_72 : decode cX7_reading 72 = .ok (.getfield 85, 3) := by decide +kernel
theorem dX7_reading_75 : decode cX7_reading 75 = .ok (.ireturn, 1) := by decide +kernel
theorem dX7_reading_76 : decode cX7_reading 76 = .ok (.aload_n 0, 1) := by decide +kernel
theorem dX7_reading_77 : decode cX7_reading 77 = .ok (.getfield 152, 3) := by decide +kernel
theorem dX7_reading_80 : decode cX7_reading 80 = .ok (.ireturn, 1) := by decide +kernel
theorem dX7_reading_81 : decode cX7_reading 81 = .ok (.aload_n 0, 1) := by decide +kernel
theorem dX7_reading_82 : decode cX7_reading 82 = .ok (.invokevirtual 162, 3) := by decide +kernel
theorem dX7_reading_85 : decode cX7_reading 85 = .ok (.aload_n 0, 1) := by decide +kernel
theorem dX7_reading_86 : decode cX7_reading 86 = .ok (.getfield 143, 3) := by decide +kernel
theorem dX7_reading_89 : decode cX7_reading 89 = .ok (.if_icmp .ne 21, 3) := by decide +kernel
theorem dX7_reading_92 : decode cX7_reading 92 = .ok (.aload_n 0, 1) := by decide +kernel
theorem dX7_reading_93 : decode cX7_reading 93 = .ok (.getfield 143, 3) := by decide +kernel
theorem dX7_reading_96 : decode cX7_reading 96 = .ok (.aload_n 0, 1) := by decide +kernel
theorem dX7_reading_97 : decode cX7_reading 97 = .ok (.getfield 7, 3) := by decide +kernel
theorem dX7_reading_100 : decode cX7_reading 100 = .ok (.iconst 3, 1) := by decide +kernel
theorem dX7_reading_101 : decode cX7_reading 101 = .ok (.iaload, 1) := by decide +kernel
theorem dX7_reading_102 : decode cX7_reading 102 = .ok (.if_icmp .ne 8, 3) := by decide +kernel
theorem dX7_reading_105 : decode cX7_reading 105 = .ok (.bipush (-6), 2) := by decide +kernel
theorem dX7_reading_107 : decode cX7_reading 107 = .ok (.goto 7, 3) := by decide +kernel
theorem dX7_reading_110 : decode cX7_reading 110 = .ok (.aload_n 0, 1) := by decide +kernel
theorem dX7_reading_111 : decode cX7_reading 111 = .ok (.invokevirtual 162, 3) := by decide +kernel
theorem dX7_reading_114 : decode cX7_reading 114 = .ok (.ireturn, 1) := by decide +kernel
theorem dX7_read_0 : decode cX7_read 0 = .ok (.aload_n 0, 1) := by decide +kernel
theorem dX7_read_1 : decode cX7_read 1 = .ok (.invokevirtual 116, 3) := by decide +kernel
theorem dX7_read_4 : decode cX7_read 4 = .ok (.aload_n 0, 1) := by decide +kernel
theorem dX7_read_5 : decode cX7_read 5 = .ok (.bipush (-6), 2) := by decide +kernel
theorem dX7_read_7 : decode cX7_read 7 = .ok (.invokevirtual 159, 3) := by decide +kernel
theorem dX7_read_10 : decode cX7_read 10 = .ok (.iload_n 1, 1) := by decide +kernel
theorem dX7_read_11 : decode cX7_read 11 = .ok (.iconst 0, 1) := by decide +kernel
theorem dX7_read_12 : decode cX7_read 12 = .ok (.aload_n 0, 1) := by decide +kernel
theorem dX7_read_13 : decode cX7_read 13 = .ok (.getfield 143, 3) := by decide +kernel
theorem dX7_read_16 : decode cX7_read 16 = .ok (.iconst 1, 1) := by decide +kernel
theorem dX7_read_17 : decode cX7_read 17 = .ok (.isub, 1) := by decide +kernel
theorem dX7_read_18 : decode cX7_read 18 = .ok (.invokestatic 71, 3) := by decide +kernel
theorem dX7_read_21 : decode cX7_read 21 = .ok (.ifCond .eq 12, 3) := by decide +kernel
theorem dX7_read_24 : decode cX7_read 24 = .ok (.aload_n 0, 1) := by decide +kernel
theorem dX7_read_25 : decode cX7_read 25 = .ok (.getfield 63, 3) := by decide +kernel
theorem dX7_read_28 : decode cX7_read 28 = .ok (.iload_n 1, 1) := by decide +kernel
theorem dX7_read_29 : decode cX7_read 29 = .ok (.baload, 1) := by decide +kernel
theorem dX7_read_30 : decode cX7_read 30 = .ok (.goto 4, 3) := by decide +kernel
theorem dX7_read_33 : decode cX7_read 33 = .ok (.iconst (-1), 1) := by decide +kernel
theorem dX7_read_34 : decode cX7_read 34 = .ok (.ireturn, 1) := by decide +kernel
theorem dX7_bitsWith_0 : decode cX7_bitsWith 0 = .ok (.iload_n 1, 1) := by decide +kernel
theorem dX7_bitsWith_1 : decode cX7_bitsWith 1 = .ok (.iconst 4, 1) := by decide +kernel
theorem dX7_bitsWith_2 : decode cX7_bitsWith 2 = .ok (.bipush 9, 2) := by decide +kernel
theorem dX7_bitsWith_4 : decode cX7_bitsWith 4 = .ok (.invokestatic 71, 3) := by decide +kernel
theorem dX7_bitsWith_7 : decode cX7_bitsWith 7 = .ok (.ifCond .eq 12, 3) := by decide +kernel
theorem dX7_bitsWith_10 : decode cX7_bitsWith 10 = .ok (.iload_n 2, 1) := by decide +kernel
theorem dX7_bitsWith_11 : decode cX7_bitsWith 11 = .ok (.iconst 0, 1) := by decide +kernel
theorem dX7_bitsWith_12 : decode cX7_bitsWith 12 = .ok (.iconst 2, 1) := by decide +kernel
theorem dX7_bitsWith_13 : decode cX7_bitsWith 13 = .ok (.invokestatic 71, 3) := by decide +kernel
theorem dX7_bitsWith_16 : decode cX7_bitsWith 16 = .ok (.ifCond .ne 6, 3) := by decide +kernel
theorem dX7_bitsWith_19 : decode cX7_bitsWith 19 = .ok (.bipush (-2), 2) := by decide +kernel
theorem dX7_bitsWith_21 : decode cX7_bitsWith 21 = .ok (.ireturn, 1) := by decide +kernel
theorem dX7_bitsWith_22 : decode cX7_bitsWith 22 = .ok (.aload_n 0, 1) := by decide +kernel
theorem dX7_bitsWith_23 : decode cX7_bitsWith 23 = .ok (.iload_n 1, 1) := by decide +kernel
theorem dX7_bitsWith_24 : decode cX7_bitsWith 24 = .ok (.iload_n 2, 1) := by decide +kernel
theorem dX7_bitsWith_25 : decode cX7_bitsWith 25 = .ok (.invokevirtual 113, 3) := by decide +kernel
theorem dX7_bitsWith_28 : decode cX7_bitsWith 28 = .ok (.aload_n 0, 1) := by decide +kernel
theorem dX7_bitsWith_29 : decode cX7_bitsWith 29 = .ok (.invokevirtual 134, 3) := by decide +kernel
theorem dX7_bitsWith_32 : decode cX7_bitsWith 32 = .ok (.ireturn, 1) := by decide +kernel
theorem dX7_best_0 : decode cX7_best 0 = .ok (.iload_n 1, 1) := by decide +kernel
theorem dX7_best_1 : decode cX7_best 1 = .ok (.iconst 0, 1) := by decide +kernel
theorem dX7_best_2 : decode cX7_best 2 = .ok (.iconst 2, 1) := by decide +kernel
theorem dX7_best_3 : decode cX7_best 3 = .ok (.invokestatic 71, 3) := by decide +kernel
theorem dX7_best_6 : decode cX7_best 6 = .ok (.ifCond .ne 6, 3) := by decide +kernel
theorem dX7_best_9 : decode cX7_best 9 = .ok (.bipush (-2), 2) := by decide +kernel
theorem dX7_best_11 : decode cX7_best 11 = .ok (.ireturn, 1) := by decide +kernel
theorem dX7_best_12 : decode cX7_best 12 = .ok (.bipush (-6), 2) := by decide +kernel
theorem dX7_best_14 : decode cX7_best 14 = .ok (.istore_n 2, 1) := by decide +kernel
theorem dX7_best_15 : decode cX7_best 15 = .ok (.iconst 0, 1) := by decide +kernel
theorem dX7_best_16 : decode cX7_best 16 = .ok (.istore_n 3, 1) := by decide +kernel
theorem dX7_best_17 : decode cX7_best 17 = .ok (.iconst 4, 1) := by decide +kernel
theorem dX7_best_18 : decode cX7_best 18 = .ok (.istore 4, 2) := by decide +kernel
theorem dX7_best_20 : decode cX7_best 20 = .ok (.iload 4, 2) := by decide +kernel
theorem dX7_best_22 : decode cX7_best 22 = .ok (.bipush 10, 2) := by decide +kernel
theorem dX7_best_24 : decode cX7_best 24 = .ok (.if_icmp .ge 58, 3) := by decide +kernel
theorem dX7_best_27 : decode cX7_best 27 = .ok (.iconst 0, 1) := by decide +kernel
theorem dX7_best_28 : decode cX7_best 28 = .ok (.istore 5, 2) := by decide +kernel
theorem dX7_best_30 : decode cX7_best 30 = .ok (.iload 5, 2) := by decide +kernel
theorem dX7_best_32 : decode cX7_best 32 = .ok (.iconst 3, 1) := by decide +kernel
theorem dX7_best_33 : decode cX7_best 33 = .ok (.if_icmp .ge 43, 3) := by decide +kernel
theorem dX7_best_36 : decode cX7_best 36 = .ok (.aload_n 0, 1) := by decide +kernel
theorem dX7_best_37 : decode cX7_best 37 = .ok (.iload 4, 2) := by decide +kernel
theorem dX7_best_39 : decode cX7_best 39 = .ok (.iload 5, 2) := by decide +kernel
theorem dX7_best_41 : decode cX7_best 41 = .ok (.invokevirtual 113, 3) := by decide +kernel
theorem dX7_best_44 : decode cX7_best 44 = .ok (.iload_n 2, 1) := by decide +kernel
theorem dX7_best_45 : decode cX7_best 45 = .ok (.ifCond .lt 11, 3) := by decide +kernel
theorem dX7_best_48 : decode cX7_best 48 = .ok (.aload_n 0, 1) := by decide +kernel
theorem dX7_best_49 : decode cX7_best 49 = .ok (.invokevirtual 134, 3) := by decide +kernel
theorem dX7_best_52 : decode cX7_best 52 = .ok (.iload_n 3, 1) := by decide +kernel
theorem dX7_best_53 : decode cX7_best 53 = .ok (.if_icmp .ge 17, 3) := by decide +kernel
theorem dX7_best_56 : decode cX7_best 56 = .ok (.bipush 10, 2) := by decide +kernel
theorem dX7_best_58 : decode cX7_best 58 = .ok (.iload 4, 2) := by decide +kernel
theorem dX7_best_60 : decode cX7_best 60 = .ok (.imul, 1) := by decide +kernel
theorem dX7_best_61 : decode cX7_best 61 = .ok (.iload 5, 2) := by decide +kernel
theorem dX7_best_63 : decode cX7_best 63 = .ok (.iadd, 1) := by decide +kernel
theorem dX7_best_64 : decode cX7_best 64 = .ok (.istore_n 2, 1) := by decide +kernel
theorem dX7_best_65 : decode cX7_best 65 = .ok (.aload_n 0, 1) := by decide +kernel
theorem dX7_best_66 : decode cX7_best 66 = .ok (.invokevirtual 134, 3) := by decide +kernel
theorem dX7_best_69 : decode cX7_best 69 = .ok (.istore_n 3, 1) := by decide +kernel
theorem dX7_best_70 : decode cX7_best 70 = .ok (.iinc 5 1, 3) := by decide +kernel
theorem dX7_best_73 : decode cX7_best 73 = .ok (.goto (-43), 3) := by decide +kernel
theorem dX7_best_76 : decode cX7_best 76 = .ok (.iinc 4 1, 3) := by decide +kernel
theorem dX7_best_79 : decode cX7_best 79 = .ok (.goto (-59), 3) := by decide +kernel
theorem dX7_best_82 : decode cX7_best 82 = .ok (.iload_n 1, 1) := by decide +kernel
theorem dX7_best_83 : decode cX7_best 83 = .ok (.ifCond .ne 10, 3) := by decide +kernel
theorem dX7_best_86 : decode cX7_best 86 = .ok (.iload_n 2, 1) := by decide +kernel
theorem dX7_best_87 : decode cX7_best 87 = .ok (.bipush 10, 2) := by decide +kernel
theorem dX7_best_89 : decode cX7_best 89 = .ok (.idiv, 1) := by decide +kernel
theorem dX7_best_90 : decode cX7_best 90 = .ok (.goto 16, 3) := by decide +kernel
theorem dX7_best_93 : decode cX7_best 93 = .ok (.iload_n 1, 1) := by decide +kernel
theorem dX7_best_94 : decode cX7_best 94 = .ok (.iconst 1, 1) := by decide +kernel
theorem dX7_best_95 : decode cX7_best 95 = .ok (.if_icmp .ne 10, 3) := by decide +kernel
theorem dX7_best_98 : decode cX7_best 98 = .ok (.iload_n 2, 1) := by decide +kernel
theorem dX7_best_99 : decode cX7_best 99 = .ok (.bipush 10, 2) := by decide +kernel
theorem dX7_best_101 : decode cX7_best 101 = .ok (.irem, 1) := by decide +kernel
theorem dX7_best_102 : decode cX7_best 102 = .ok (.goto 4, 3) := by decide +kernel
theorem dX7_best_105 : decode cX7_best 105 = .ok (.iload_n 3, 1) := by decide +kernel
theorem dX7_best_106 : decode cX7_best 106 = .ok (.ireturn, 1) := by decide +kernel
theorem dX7_tenderest_0 : decode cX7_tenderest 0 = .ok (.iload_n 1, 1) := by decide +kernel
theorem dX7_tenderest_1 : decode cX7_tenderest 1 = .ok (.iconst 0, 1) := by decide +kernel
theorem dX7_tenderest_2 : decode cX7_tenderest 2 = .ok (.iconst 1, 1) := by decide +kernel
theorem dX7_tenderest_3 : decode cX7_tenderest 3 = .ok (.invokestatic 71, 3) := by decide +kernel
theorem dX7_tenderest_6 : decode cX7_tenderest 6 = .ok (.ifCond .ne 6, 3) := by decide +kernel
theorem dX7_tenderest_9 : decode cX7_tenderest 9 = .ok (.bipush (-2), 2) := by decide +kernel
theorem dX7_tenderest_11 : decode cX7_tenderest 11 = .ok (.ireturn, 1) := by decide +kernel
theorem dX7_tenderest_12 : decode cX7_tenderest 12 = .ok (.aload_n 0, 1) := by decide +kernel
theorem dX7_tenderest_13 : decode cX7_tenderest 13 = .ok (.invokevirtual 116, 3) := by decide +kernel
theorem dX7_tenderest_16 : decode cX7_tenderest 16 = .ok (.bipush (-6), 2) := by decide +kernel
theorem dX7_tenderest_18 : decode cX7_tenderest 18 = .ok (.istore_n 2, 1) := by decide +kernel
theorem dX7_tenderest_19 : decode cX7_tenderest 19 = .ok (.iconst 0, 1) := by decide +kernel
theorem dX7_tenderest_20 : decode cX7_tenderest 20 = .ok (.istore_n 3, 1) := by decide +kernel
theorem dX7_tenderest_21 : decode cX7_tenderest 21 = .ok (.iconst 0, 1) := by decide +kernel
theorem dX7_tenderest_22 : decode cX7_tenderest 22 = .ok (.istore 4, 2) := by decide +kernel
theorem dX7_tenderest_24 : decode cX7_tenderest 24 = .ok (.iload 4, 2) := by decide +kernel
theorem dX7_tenderest_26 : decode cX7_tenderest 26 = .ok (.aload_n 0, 1) := by decide +kernel
theorem dX7_tenderest_27 : decode cX7_tenderest 27 = .ok (.getfield 88, 3) := by decide +kernel
theorem dX7_tenderest_30 : decode cX7_tenderest 30 = .ok (.if_icmp .ge 35, 3) := by decide +kernel
theorem dX7_tenderest_33 : decode cX7_tenderest 33 = .ok (.aload_n 0, 1) := by decide +kernel
theorem dX7_tenderest_34 : decode cX7_tenderest 34 = .ok (.iload 4, 2) := by decide +kernel
theorem dX7_tenderest_36 : decode cX7_tenderest 36 = .ok (.invokevirtual 159, 3) := by decide +kernel
theorem dX7_tenderest_39 : decode cX7_tenderest 39 = .ok (.iload_n 2, 1) := by decide +kernel
theorem dX7_tenderest_40 : decode cX7_tenderest 40 = .ok (.ifCond .lt 11, 3) := by decide +kernel
theorem dX7_tenderest_43 : decode cX7_tenderest 43 = .ok (.aload_n 0, 1) := by decide +kernel
theorem dX7_tenderest_44 : decode cX7_tenderest 44 = .ok (.invokevirtual 162, 3) := by decide +kernel
theorem dX7_tenderest_47 : decode cX7_tenderest 47 = .ok (.iload_n 3, 1) := by decide +kernel
theorem dX7_tenderest_48 : decode cX7_tenderest 48 = .ok (.if_icmp .ge 11, 3) := by decide +kernel
theorem dX7_tenderest_51 : decode cX7_tenderest 51 = .ok (.iload 4, 2) := by decide +kernel
theorem dX7_tenderest_53 : decode cX7_tenderest 53 = .ok (.istore_n 2, 1) := by decide +kernel
theorem dX7_tenderest_54 : decode cX7_tenderest 54 = .ok (.aload_n 0, 1) := by decide +kernel
theorem dX7_tenderest_55 : decode cX7_tenderest 55 = .ok (.invokevirtual 162, 3) := by decide +kernel
theorem dX7_tenderest_58 : decode cX7_tenderest 58 = .ok (.istore_n 3, 1) := by decide +kernel
theorem dX7_tenderest_59 : decode cX7_tenderest 59 = .ok (.iinc 4 1, 3) := by decide +kernel
theorem dX7_tenderest_62 : decode cX7_tenderest 62 = .ok (.goto (-38), 3) := by decide +kernel
theorem dX7_tenderest_65 : decode cX7_tenderest 65 = .ok (.iload_n 1, 1) := by decide +kernel
theorem dX7_tenderest_66 : decode cX7_tenderest 66 = .ok (.ifCond .ne 7, 3) := by decide +kernel
theorem dX7_tenderest_69 : decode cX7_tenderest 69 = .ok (.iload_n 2, 1) := by decide +kernel
theorem dX7_tenderest_70 : decode cX7_tenderest 70 = .ok (.goto 4, 3) := by decide +kernel
theorem dX7_tenderest_73 : decode cX7_tenderest 73 = .ok (.iload_n 3, 1) := by decide +kernel
theorem dX7_tenderest_74 : decode cX7_tenderest 74 = .ok (.ireturn, 1) := by decide +kernel
theorem dX7_cheapest_0 : decode cX7_cheapest 0 = .ok (.iload_n 1, 1) := by decide +kernel
theorem dX7_cheapest_1 : decode cX7_cheapest 1 = .ok (.iconst 0, 1) := by decide +kernel
theorem dX7_cheapest_2 : decode cX7_cheapest 2 = .ok (.iconst 1, 1) := by decide +kernel
theorem dX7_cheapest_3 : decode cX7_cheapest 3 = .ok (.invokestatic 71, 3) := by decide +kernel
theorem dX7_cheapest_6 : decode cX7_cheapest 6 = .ok (.ifCond .ne 6, 3) := by decide +kernel
theorem dX7_cheapest_9 : decode cX7_cheapest 9 = .ok (.bipush (-2), 2) := by decide +kernel
theorem dX7_cheapest_11 : decode cX7_cheapest 11 = .ok (.ireturn, 1) := by decide +kernel
theorem dX7_cheapest_12 : decode cX7_cheapest 12 = .ok (.aload_n 0, 1) := by decide +kernel
theorem dX7_cheapest_13 : decode cX7_cheapest 13 = .ok (.getfield 7, 3) := by decide +kernel
theorem dX7_cheapest_16 : decode cX7_cheapest 16 = .ok (.iconst 3, 1) := by decide +kernel
theorem dX7_cheapest_17 : decode cX7_cheapest 17 = .ok (.iaload, 1) := by decide +kernel
theorem dX7_cheapest_18 : decode cX7_cheapest 18 = .ok (.sipush 240, 3) := by decide +kernel
theorem dX7_cheapest_21 : decode cX7_cheapest 21 = .ok (.if_icmp .ne 6, 3) := by decide +kernel
theorem dX7_cheapest_24 : decode cX7_cheapest 24 = .ok (.bipush (-5), 2) := by decide +kernel
theorem dX7_cheapest_26 : decode cX7_cheapest 26 = .ok (.ireturn, 1) := by decide +kernel
theorem dX7_cheapest_27 : decode cX7_cheapest 27 = .ok (.bipush 10, 2) := by decide +kernel
theorem dX7_cheapest_29 : decode cX7_cheapest 29 = .ok (.aload_n 0, 1) := by decide +kernel
theorem dX7_cheapest_30 : decode cX7_cheapest 30 = .ok (.getfield 7, 3) := by decide +kernel
theorem dX7_cheapest_33 : decode cX7_cheapest 33 = .ok (.iconst 3, 1) := by decide +kernel
theorem dX7_cheapest_34 : decode cX7_cheapest 34 = .ok (.iaload, 1) := by decide +kernel
theorem dX7_cheapest_35 : decode cX7_cheapest 35 = .ok (.iadd, 1) := by decide +kernel
theorem dX7_cheapest_36 : decode cX7_cheapest 36 = .ok (.istore_n 2, 1) := by decide +kernel
theorem dX7_cheapest_37 : decode cX7_cheapest 37 = .ok (.aload_n 0, 1) := by decide +kernel
theorem dX7_cheapest_38 : decode cX7_cheapest 38 = .ok (.getfield 7, 3) := by decide +kernel
theorem dX7_cheapest_41 : decode cX7_cheapest 41 = .ok (.iload_n 2, 1) := by decide +kernel
theorem dX7_cheapest_42 : decode cX7_cheapest 42 = .ok (.iaload, 1) := by decide +kernel
theorem dX7_cheapest_43 : decode cX7_cheapest 43 = .ok (.istore_n 3, 1) := by decide +kernel
theorem dX7_cheapest_44 : decode cX7_cheapest 44 = .ok (.bipush (-6), 2) := by decide +kernel
theorem dX7_cheapest_46 : decode cX7_cheapest 46 = .ok (.istore 4, 2) := by decide +kernel
theorem dX7_cheapest_48 : decode cX7_cheapest 48 = .ok (.iconst 0, 1) := by decide +kernel
theorem dX7_cheapest_49 : decode cX7_cheapest 49 = .ok (.istore 5, 2) := by decide +kernel
theorem dX7_cheapest_51 : decode cX7_cheapest 51 = .ok (.aload_n 0, 1) := by decide +kernel
theorem dX7_cheapest_52 : decode cX7_cheapest 52 = .ok (.getfield 7, 3) := by decide +kernel
theorem dX7_cheapest_55 : decode cX7_cheapest 55 = .ok (.iconst 3, 1) := by decide +kernel
theorem dX7_cheapest_56 : decode cX7_cheapest 56 = .ok (.dup2, 1) := by decide +kernel
theorem dX7_cheapest_57 : decode cX7_cheapest 57 = .ok (.iaload, 1) := by decide +kernel
theorem dX7_cheapest_58 : decode cX7_cheapest 58 = .ok (.iconst 1, 1) := by decide +kernel
theorem dX7_cheapest_59 : decode cX7_cheapest 59 = .ok (.iadd, 1) := by decide +kernel
theorem dX7_cheapest_60 : decode cX7_cheapest 60 = .ok (.iastore, 1) := by decide +kernel
theorem dX7_cheapest_61 : decode cX7_cheapest 61 = .ok (.iconst 0, 1) := by decide +kernel
theorem dX7_cheapest_62 : decode cX7_cheapest 62 = .ok (.istore 6, 2) := by decide +kernel
theorem dX7_cheapest_64 : decode cX7_cheapest 64 = .ok (.iload 6, 2) := by decide +kernel
theorem dX7_cheapest_66 : decode cX7_cheapest 66 = .ok (.bipush 8, 2) := by decide +kernel
theorem dX7_cheapest_68 : decode cX7_cheapest 68 = .ok (.if_icmp .ge 45, 3) := by decide +kernel
theorem dX7_cheapest_71 : decode cX7_cheapest 71 = .ok (.aload_n 0, 1) := by decide +kernel
theorem dX7_cheapest_72 : decode cX7_cheapest 72 = .ok (.getfield 7, 3) := by decide +kernel
theorem dX7_cheapest_75 : decode cX7_cheapest 75 = .ok (.iload_n 2, 1) := by decide +kernel
theorem dX7_cheapest_76 : decode cX7_cheapest 76 = .ok (.iload 6, 2) := by decide +kernel
theorem dX7_cheapest_78 : decode cX7_cheapest 78 = .ok (.iastore, 1) := by decide +kernel
theorem dX7_cheapest_79 : decode cX7_cheapest 79 = .ok (.aload_n 0, 1) := by decide +kernel
theorem dX7_cheapest_80 : decode cX7_cheapest 80 = .ok (.invokevirtual 116, 3) := by decide +kernel
theorem dX7_cheapest_83 : decode cX7_cheapest 83 = .ok (.iload 4, 2) := by decide +kernel
theorem dX7_cheapest_85 : decode cX7_cheapest 85 = .ok (.ifCond .lt 12, 3) := by decide +kernel
theorem dX7_cheapest_88 : decode cX7_cheapest 88 = .ok (.aload_n 0, 1) := by decide +kernel
theorem dX7_cheapest_89 : decode cX7_cheapest 89 = .ok (.invokevirtual 134, 3) := by decide +kernel
theorem dX7_cheapest_92 : decode cX7_cheapest 92 = .ok (.iload 5, 2) := by decide +kernel
theorem dX7_cheapest_94 : decode cX7_cheapest 94 = .ok (.if_icmp .ge 13, 3) := by decide +kernel
theorem dX7_cheapest_97 : decode cX7_cheapest 97 = .ok (.iload 6, 2) := by decide +kernel
theorem dX7_cheapest_99 : decode cX7_cheapest 99 = .ok (.istore 4, 2) := by decide +kernel
theorem dX7_cheapest_101 : decode cX7_cheapest 101 = .ok (.aload_n 0, 1) := by decide +kernel
theorem dX7_cheapest_102 : decode cX7_cheapest 102 = .ok (.invokevirtual 134, 3) := by decide +kernel
theorem dX7_cheapest_105 : decode cX7_cheapest 105 = .ok (.istore 5, 2) := by decide +kernel
theorem dX7_cheapest_107 : decode cX7_cheapest 107 = .ok (.iinc 6 1, 3) := by decide +kernel
theorem dX7_cheapest_110 : decode cX7_cheapest 110 = .ok (.goto (-46), 3) := by decide +kernel
theorem dX7_cheapest_113 : decode cX7_cheapest 113 = .ok (.aload_n 0, 1) := by decide +kernel
theorem dX7_cheapest_114 : decode cX7_cheapest 114 = .ok (.getfield 7, 3) := by decide +kernel
theorem dX7_cheapest_117 : decode cX7_cheapest 117 = .ok (.iconst 3, 1) := by decide +kernel
theorem dX7_cheapest_118 : decode cX7_cheapest 118 = .ok (.dup2, 1) := by decide +kernel
theorem dX7_cheapest_119 : decode cX7_cheapest 119 = .ok (.iaload, 1) := by decide +kernel
theorem dX7_cheapest_120 : decode cX7_cheapest 120 = .ok (.iconst 1, 1) := by decide +kernel
theorem dX7_cheapest_121 : decode cX7_cheapest 121 = .ok (.isub, 1) := by decide +kernel
theorem dX7_cheapest_122 : decode cX7_cheapest 122 = .ok (.iastore, 1) := by decide +kernel
theorem dX7_cheapest_123 : decode cX7_cheapest 123 = .ok (.aload_n 0, 1) := by decide +kernel
theorem dX7_cheapest_124 : decode cX7_cheapest 124 = .ok (.getfield 7, 3) := by decide +kernel
theorem dX7_cheapest_127 : decode cX7_cheapest 127 = .ok (.iload_n 2, 1) := by decide +kernel
theorem dX7_cheapest_128 : decode cX7_cheapest 128 = .ok (.iload_n 3, 1) := by decide +kernel
theorem dX7_cheapest_129 : decode cX7_cheapest 129 = .ok (.iastore, 1) := by decide +kernel
theorem dX7_cheapest_130 : decode cX7_cheapest 130 = .ok (.iload_n 1, 1) := by decide +kernel
theorem dX7_cheapest_131 : decode cX7_cheapest 131 = .ok (.ifCond .ne 8, 3) := by decide +kernel
theorem dX7_cheapest_134 : decode cX7_cheapest 134 = .ok (.iload 4, 2) := by decide +kernel
theorem dX7_cheapest_136 : decode cX7_cheapest 136 = .ok (.goto 5, 3) := by decide +kernel
theorem dX7_cheapest_139 : decode cX7_cheapest 139 = .ok (.iload 5, 2) := by decide +kernel
theorem dX7_cheapest_141 : decode cX7_cheapest 141 = .ok (.ireturn, 1) := by decide +kernel
theorem dX7_undo_0 : decode cX7_undo 0 = .ok (.aload_n 0, 1) := by decide +kernel
theorem dX7_undo_1 : decode cX7_undo 1 = .ok (.getfield 67, 3) := by decide +kernel
theorem dX7_undo_4 : decode cX7_undo 4 = .ok (.ifCond .ne 6, 3) := by decide +kernel
theorem dX7_undo_7 : decode cX7_undo 7 = .ok (.bipush (-5), 2) := by decide +kernel
theorem dX7_undo_9 : decode cX7_undo 9 = .ok (.ireturn, 1) := by decide +kernel
theorem dX7_undo_10 : decode cX7_undo 10 = .ok (.aload_n 0, 1) := by decide +kernel
theorem dX7_undo_11 : decode cX7_undo 11 = .ok (.dup, 1) := by decide +kernel
theorem dX7_undo_12 : decode cX7_undo 12 = .ok (.getfield 67, 3) := by decide +kernel
theorem dX7_undo_15 : decode cX7_undo 15 = .ok (.iconst 1, 1) := by decide +kernel
theorem dX7_undo_16 : decode cX7_undo 16 = .ok (.isub, 1) := by decide +kernel
theorem dX7_undo_17 : decode cX7_undo 17 = .ok (.putfield 67, 3) := by decide +kernel
theorem dX7_undo_20 : decode cX7_undo 20 = .ok (.iconst 0, 1) := by decide +kernel
theorem dX7_undo_21 : decode cX7_undo 21 = .ok (.istore_n 1, 1) := by decide +kernel
theorem dX7_undo_22 : decode cX7_undo 22 = .ok (.iload_n 1, 1) := by decide +kernel
theorem dX7_undo_23 : decode cX7_undo 23 = .ok (.sipush 560, 3) := by decide +kernel
theorem dX7_undo_26 : decode cX7_undo 26 = .ok (.if_icmp .ge 30, 3) := by decide +kernel
theorem dX7_undo_29 : decode cX7_undo 29 = .ok (.aload_n 0, 1) := by decide +kernel
theorem dX7_undo_30 : decode cX7_undo 30 = .ok (.getfield 7, 3) := by decide +kernel
theorem dX7_undo_33 : decode cX7_undo 33 = .ok (.iload_n 1, 1) := by decide +kernel
theorem dX7_undo_34 : decode cX7_undo 34 = .ok (.aload_n 0, 1) := by decide +kernel
theorem dX7_undo_35 : decode cX7_undo 35 = .ok (.getfield 13, 3) := by decide +kernel
theorem dX7_undo_38 : decode cX7_undo 38 = .ok (.aload_n 0, 1) := by decide +kernel
theorem dX7_undo_39 : decode cX7_undo 39 = .ok (.getfield 67, 3) := by decide +kernel
theorem dX7_undo_42 : decode cX7_undo 42 = .ok (.sipush 560, 3) := by decide +kernel
theorem dX7_undo_45 : decode cX7_undo 45 = .ok (.imul, 1) := by decide +kernel
theorem dX7_undo_46 : decode cX7_undo 46 = .ok (.iload_n 1, 1) := by decide +kernel
theorem dX7_undo_47 : decode cX7_undo 47 = .ok (.iadd, 1) := by decide +kernel
theorem dX7_undo_48 : decode cX7_undo 48 = .ok (.iaload, 1) := by decide +kernel
theorem dX7_undo_49 : decode cX7_undo 49 = .ok (.iastore, 1) := by decide +kernel
theorem dX7_undo_50 : decode cX7_undo 50 = .ok (.iinc 1 1, 3) := by decide +kernel
theorem dX7_undo_53 : decode cX7_undo 53 = .ok (.goto (-31), 3) := by decide +kernel
theorem dX7_undo_56 : decode cX7_undo 56 = .ok (.aload_n 0, 1) := by decide +kernel
theorem dX7_undo_57 : decode cX7_undo 57 = .ok (.getfield 67, 3) := by decide +kernel
theorem dX7_undo_60 : decode cX7_undo 60 = .ok (.ireturn, 1) := by decide +kernel
theorem dX7_save_0 : decode cX7_save 0 = .ok (.iload_n 1, 1) := by decide +kernel
theorem dX7_save_1 : decode cX7_save 1 = .ok (.iconst 0, 1) := by decide +kernel
theorem dX7_save_2 : decode cX7_save 2 = .ok (.iconst 1, 1) := by decide +kernel
theorem dX7_save_3 : decode cX7_save 3 = .ok (.invokestatic 71, 3) := by decide +kernel
theorem dX7_save_6 : decode cX7_save 6 = .ok (.ifCond .ne 6, 3) := by decide +kernel
theorem dX7_save_9 : decode cX7_save 9 = .ok (.bipush (-2), 2) := by decide +kernel
theorem dX7_save_11 : decode cX7_save 11 = .ok (.ireturn, 1) := by decide +kernel
theorem dX7_save_12 : decode cX7_save 12 = .ok (.iconst 0, 1) := by decide +kernel
theorem dX7_save_13 : decode cX7_save 13 = .ok (.istore_n 2, 1) := by decide +kernel
theorem dX7_save_14 : decode cX7_save 14 = .ok (.iload_n 2, 1) := by decide +kernel
theorem dX7_save_15 : decode cX7_save 15 = .ok (.sipush 560, 3) := by decide +kernel
theorem dX7_save_18 : decode cX7_save 18 = .ok (.if_icmp .ge 27, 3) := by decide +kernel
theorem dX7_save_21 : decode cX7_save 21 = .ok (.aload_n 0, 1) := by decide +kernel
theorem dX7_save_22 : decode cX7_save 22 = .ok (.getfield 16, 3) := by decide +kernel
theorem dX7_save_25 : decode cX7_save 25 = .ok (.iload_n 1, 1) := by decide +kernel
theorem dX7_save_26 : decode cX7_save 26 = .ok (.sipush 560, 3) := by decide +kernel
theorem dX7_save_29 : decode cX7_save 29 = .ok (.imul, 1) := by decide +kernel
theorem dX7_save_30 : decode cX7_save 30 = .ok (.iload_n 2, 1) := by decide +kernel
theorem dX7_save_31 : decode cX7_save 31 = .ok (.iadd, 1) := by decide +kernel
theorem dX7_save_32 : decode cX7_save 32 = .ok (.aload_n 0, 1) := by decide +kernel
theorem dX7_save_33 : decode cX7_save 33 = .ok (.getfield 7, 3) := by decide +kernel
theorem dX7_save_36 : decode cX7_save 36 = .ok (.iload_n 2, 1) := by decide +kernel
theorem dX7_save_37 : decode cX7_save 37 = .ok (.iaload, 1) := by decide +kernel
theorem dX7_save_38 : decode cX7_save 38 = .ok (.iastore, 1) := by decide +kernel
theorem dX7_save_39 : decode cX7_save 39 = .ok (.iinc 2 1, 3) := by decide +kernel
theorem dX7_save_42 : decode cX7_save 42 = .ok (.goto (-28), 3) := by decide +kernel
theorem dX7_save_45 : decode cX7_save 45 = .ok (.aload_n 0, 1) := by decide +kernel
theorem dX7_save_46 : decode cX7_save 46 = .ok (.getfield 19, 3) := by decide +kernel
theorem dX7_save_49 : decode cX7_save 49 = .ok (.iload_n 1, 1) := by decide +kernel
theorem dX7_save_50 : decode cX7_save 50 = .ok (.iconst 1, 1) := by decide +kernel
theorem dX7_save_51 : decode cX7_save 51 = .ok (.bastore, 1) := by decide +kernel
theorem dX7_save_52 : decode cX7_save 52 = .ok (.aload_n 0, 1) := by decide +kernel
theorem dX7_save_53 : decode cX7_save 53 = .ok (.getfield 7, 3) := by decide +kernel
theorem dX7_save_56 : decode cX7_save 56 = .ok (.iconst 3, 1) := by decide +kernel
theorem dX7_save_57 : decode cX7_save 57 = .ok (.iaload, 1) := by decide +kernel
theorem dX7_save_58 : decode cX7_save 58 = .ok (.ireturn, 1) := by decide +kernel
theorem dX7_restore_0 : decode cX7_restore 0 = .ok (.iload_n 1, 1) := by decide +kernel
theorem dX7_restore_1 : decode cX7_restore 1 = .ok (.iconst 0, 1) := by decide +kernel
theorem dX7_restore_2 : decode cX7_restore 2 = .ok (.iconst 1, 1) := by decide +kernel
theorem dX7_restore_3 : decode cX7_restore 3 = .ok (.invokestatic 71, 3) := by decide +kernel
theorem dX7_restore_6 : decode cX7_restore 6 = .ok (.ifCond .ne 6, 3) := by decide +kernel
theorem dX7_restore_9 : decode cX7_restore 9 = .ok (.bipush (-2), 2) := by decide +kernel
theorem dX7_restore_11 : decode cX7_restore 11 = .ok (.ireturn, 1) := by decide +kernel
theorem dX7_restore_12 : decode cX7_restore 12 = .ok (.aload_n 0, 1) := by decide +kernel
theorem dX7_restore_13 : decode cX7_restore 13 = .ok (.getfield 19, 3) := by decide +kernel
theorem dX7_restore_16 : decode cX7_restore 16 = .ok (.iload_n 1, 1) := by decide +kernel
theorem dX7_restore_17 : decode cX7_restore 17 = .ok (.baload, 1) := by decide +kernel
theorem dX7_restore_18 : decode cX7_restore 18 = .ok (.ifCond .ne 6, 3) := by decide +kernel
theorem dX7_restore_21 : decode cX7_restore 21 = .ok (.bipush (-5), 2) := by decide +kernel
theorem dX7_restore_23 : decode cX7_restore 23 = .ok (.ireturn, 1) := by decide +kernel
theorem dX7_restore_24 : decode cX7_restore 24 = .ok (.aload_n 0, 1) := by decide +kernel
theorem dX7_restore_25 : decode cX7_restore 25 = .ok (.invokevirtual 79, 3) := by decide +kernel
theorem dX7_restore_28 : decode cX7_restore 28 = .ok (.iconst 0, 1) := by decide +kernel
theorem dX7_restore_29 : decode cX7_restore 29 = .ok (.istore_n 2, 1) := by decide +kernel
theorem dX7_restore_30 : decode cX7_restore 30 = .ok (.iload_n 2, 1) := by decide +kernel
theorem dX7_restore_31 : decode cX7_restore 31 = .ok (.sipush 560, 3) := by decide +kernel
theorem dX7_restore_34 : decode cX7_restore 34 = .ok (.if_icmp .ge 27, 3) := by decide +kernel
theorem dX7_restore_37 : decode cX7_restore 37 = .ok (.aload_n 0, 1) := by decide +kernel
theorem dX7_restore_38 : decode cX7_restore 38 = .ok (.getfield 7, 3) := by decide +kernel
theorem dX7_restore_41 : decode cX7_restore 41 = .ok (.iload_n 2, 1) := by decide +kernel
theorem dX7_restore_42 : decode cX7_restore 42 = .ok (.aload_n 0, 1) := by decide +kernel
theorem dX7_restore_43 : decode cX7_restore 43 = .ok (.getfield 16, 3) := by decide +kernel
theorem dX7_restore_46 : decode cX7_restore 46 = .ok (.iload_n 1, 1) := by decide +kernel
theorem dX7_restore_47 : decode cX7_restore 47 = .ok (.sipush 560, 3) := by decide +kernel
theorem dX7_restore_50 : decode cX7_restore 50 = .ok (.imul, 1) := by decide +kernel
theorem dX7_restore_51 : decode cX7_restore 51 = .ok (.iload_n 2, 1) := by decide +kernel
theorem dX7_restore_52 : decode cX7_restore 52 = .ok (.iadd, 1) := by decide +kernel
theorem dX7_restore_53 : decode cX7_restore 53 = .ok (.iaload, 1) := by decide +kernel
theorem dX7_restore_54 : decode cX7_restore 54 = .ok (.iastore, 1) := by decide +kernel
theorem dX7_restore_55 : decode cX7_restore 55 = .ok (.iinc 2 1, 3) := by decide +kernel
theorem dX7_restore_58 : decode cX7_restore 58 = .ok (.goto (-28), 3) := by decide +kernel
theorem dX7_restore_61 : decode cX7_restore 61 = .ok (.aload_n 0, 1) := by decide +kernel
theorem dX7_restore_62 : decode cX7_restore 62 = .ok (.getfield 7, 3) := by decide +kernel
theorem dX7_restore_65 : decode cX7_restore 65 = .ok (.iconst 3, 1) := by decide +kernel
theorem dX7_restore_66 : decode cX7_restore 66 = .ok (.iaload, 1) := by decide +kernel
theorem dX7_restore_67 : decode cX7_restore 67 = .ok (.ireturn, 1) := by decide +kernel
theorem dJ9_max_7cf53_0 : decode cJ9_max_7cf53 0 = .ok (.iload_n 0, 1) := by decide +kernel
theorem dJ9_max_7cf53_1 : decode cJ9_max_7cf53 1 = .ok (.iload_n 1, 1) := by decide +kernel
theorem dJ9_max_7cf53_2 : decode cJ9_max_7cf53 2 = .ok (.if_icmp .lt 7, 3) := by decide +kernel
theorem dJ9_max_7cf53_5 : decode cJ9_max_7cf53 5 = .ok (.iload_n 0, 1) := by decide +kernel
theorem dJ9_max_7cf53_6 : decode cJ9_max_7cf53 6 = .ok (.goto 4, 3) := by decide +kernel
theorem dJ9_max_7cf53_9 : decode cJ9_max_7cf53 9 = .ok (.iload_n 1, 1) := by decide +kernel
theorem dJ9_max_7cf53_10 : decode cJ9_max_7cf53 10 = .ok (.ireturn, 1) := by decide +kernel
theorem dJ9_min_7cf53_0 : decode cJ9_min_7cf53 0 = .ok (.iload_n 0, 1) := by decide +kernel
theorem dJ9_min_7cf53_1 : decode cJ9_min_7cf53 1 = .ok (.iload_n 1, 1) := by decide +kernel
theorem dJ9_min_7cf53_2 : decode cJ9_min_7cf53 2 = .ok (.if_icmp .gt 7, 3) := by decide +kernel
theorem dJ9_min_7cf53_5 : decode cJ9_min_7cf53 5 = .ok (.iload_n 0, 1) := by decide +kernel
theorem dJ9_min_7cf53_6 : decode cJ9_min_7cf53 6 = .ok (.goto 4, 3) := by decide +kernel
theorem dJ9_min_7cf53_9 : decode cJ9_min_7cf53 9 = .ok (.iload_n 1, 1) := by decide +kernel
theorem dJ9_min_7cf53_10 : decode cJ9_min_7cf53 10 = .ok (.ireturn, 1) := by decide +kernel
theorem dJ7_rangeCheck_23922_0 : decode cJ7_rangeCheck_23922 0 = .ok (.iload_n 1, 1) := by decide +kernel
theorem dJ7_rangeCheck_23922_1 : decode cJ7_rangeCheck_23922 1 = .ok (.iload_n 2, 1) := by decide +kernel
theorem dJ7_rangeCheck_23922_2 : decode cJ7_rangeCheck_23922 2 = .ok (.if_icmp .le 44, 3) := by decide +kernel
theorem dJ7_rangeCheck_23922_5 : decode cJ7_rangeCheck_23922 5 = .ok (.new 43, 3) := by decide +kernel
theorem dJ7_rangeCheck_23922_8 : decode cJ7_rangeCheck_23922 8 = .ok (.dup, 1) := by decide +kernel
theorem dJ7_rangeCheck_23922_9 : decode cJ7_rangeCheck_23922 9 = .ok (.new 45, 3) := by decide +kernel
theorem dJ7_rangeCheck_23922_12 : decode cJ7_rangeCheck_23922 12 = .ok (.dup, 1) := by decide +kernel
theorem dJ7_rangeCheck_23922_13 : decode cJ7_rangeCheck_23922 13 = .ok (.invokespecial 47, 3) := by decide +kernel
theorem dJ7_rangeCheck_23922_16 : decode cJ7_rangeCheck_23922 16 = .ok (.ldc 48, 2) := by decide +kernel
theorem dJ7_rangeCheck_23922_18 : decode cJ7_rangeCheck_23922 18 = .ok (.invokevirtual 50, 3) := by decide +kernel
theorem dJ7_rangeCheck_23922_21 : decode cJ7_rangeCheck_23922 21 = .ok (.iload_n 1, 1) := by decide +kernel
theorem dJ7_rangeCheck_23922_22 : decode cJ7_rangeCheck_23922 22 = .ok (.invokevirtual 54, 3) := by decide +kernel
theorem dJ7_rangeCheck_23922_25 : decode cJ7_rangeCheck_23922 25 = .ok (.ldc 57, 2) := by decide +kernel
theorem dJ7_rangeCheck_23922_27 : decode cJ7_rangeCheck_23922 27 = .ok (.invokevirtual 50, 3) := by decide +kernel
theorem dJ7_rangeCheck_23922_30 : decode cJ7_rangeCheck_23922 30 = .ok (.iload_n 2, 1) := by decide +kernel
theorem dJ7_rangeCheck_23922_31 : decode cJ7_rangeCheck_23922 31 = .ok (.invokevirtual 54, 3) := by decide +kernel
theorem dJ7_rangeCheck_23922_34 : decode cJ7_rangeCheck_23922 34 = .ok (.ldc 59, 2) := by decide +kernel
theorem dJ7_rangeCheck_23922_36 : decode cJ7_rangeCheck_23922 36 = .ok (.invokevirtual 50, 3) := by decide +kernel
theorem dJ7_rangeCheck_23922_39 : decode cJ7_rangeCheck_23922 39 = .ok (.invokevirtual 61, 3) := by decide +kernel
theorem dJ7_rangeCheck_23922_42 : decode cJ7_rangeCheck_23922 42 = .ok (.invokespecial 65, 3) := by decide +kernel
theorem dJ7_rangeCheck_23922_45 : decode cJ7_rangeCheck_23922 45 = .ok (.athrow, 1) := by decide +kernel
theorem dJ7_rangeCheck_23922_46 : decode cJ7_rangeCheck_23922 46 = .ok (.iload_n 1, 1) := by decide +kernel
theorem dJ7_rangeCheck_23922_47 : decode cJ7_rangeCheck_23922 47 = .ok (.ifCond .ge 12, 3) := by decide +kernel
theorem dJ7_rangeCheck_23922_50 : decode cJ7_rangeCheck_23922 50 = .ok (.new 68, 3) := by decide +kernel
theorem dJ7_rangeCheck_23922_53 : decode cJ7_rangeCheck_23922 53 = .ok (.dup, 1) := by decide +kernel
theorem dJ7_rangeCheck_23922_54 : decode cJ7_rangeCheck_23922 54 = .ok (.iload_n 1, 1) := by decide +kernel
theorem dJ7_rangeCheck_23922_55 : decode cJ7_rangeCheck_23922 55 = .ok (.invokespecial 70, 3) := by decide +kernel
theorem dJ7_rangeCheck_23922_58 : decode cJ7_rangeCheck_23922 58 = .ok (.athrow, 1) := by decide +kernel
theorem dJ7_rangeCheck_23922_59 : decode cJ7_rangeCheck_23922 59 = .ok (.iload_n 2, 1) := by decide +kernel
theorem dJ7_rangeCheck_23922_60 : decode cJ7_rangeCheck_23922 60 = .ok (.iload_n 0, 1) := by decide +kernel
theorem dJ7_rangeCheck_23922_61 : decode cJ7_rangeCheck_23922 61 = .ok (.if_icmp .le 12, 3) := by decide +kernel
theorem dJ7_rangeCheck_23922_64 : decode cJ7_rangeCheck_23922 64 = .ok (.new 68, 3) := by decide +kernel
theorem dJ7_rangeCheck_23922_67 : decode cJ7_rangeCheck_23922 67 = .ok (.dup, 1) := by decide +kernel
theorem dJ7_rangeCheck_23922_68 : decode cJ7_rangeCheck_23922 68 = .ok (.iload_n 2, 1) := by decide +kernel
theorem dJ7_rangeCheck_23922_69 : decode cJ7_rangeCheck_23922 69 = .ok (.invokespecial 70, 3) := by decide +kernel
theorem dJ7_rangeCheck_23922_72 : decode cJ7_rangeCheck_23922 72 = .ok (.athrow, 1) := by decide +kernel
theorem dJ7_rangeCheck_23922_73 : decode cJ7_rangeCheck_23922 73 = .ok (.return_, 1) := by decide +kernel
theorem dJ7_fill_53178_0 : decode cJ7_fill_53178 0 = .ok (.iconst 0, 1) := by decide +kernel
theorem dJ7_fill_53178_1 : decode cJ7_fill_53178 1 = .ok (.istore_n 2, 1) := by decide +kernel
theorem dJ7_fill_53178_2 : decode cJ7_fill_53178 2 = .ok (.aload_n 0, 1) := by decide +kernel
theorem dJ7_fill_53178_3 : decode cJ7_fill_53178 3 = .ok (.arraylength, 1) := by decide +kernel
theorem dJ7_fill_53178_4 : decode cJ7_fill_53178 4 = .ok (.istore_n 3, 1) := by decide +kernel
theorem dJ7_fill_53178_5 : decode cJ7_fill_53178 5 = .ok (.iload_n 2, 1) := by decide +kernel
theorem dJ7_fill_53178_6 : decode cJ7_fill_53178 6 = .ok (.iload_n 3, 1) := by decide +kernel
theorem dJ7_fill_53178_7 : decode cJ7_fill_53178 7 = .ok (.if_icmp .ge 13, 3) := by decide +kernel
theorem dJ7_fill_53178_10 : decode cJ7_fill_53178 10 = .ok (.aload_n 0, 1) := by decide +kernel
theorem dJ7_fill_53178_11 : decode cJ7_fill_53178 11 = .ok (.iload_n 2, 1) := by decide +kernel
theorem dJ7_fill_53178_12 : decode cJ7_fill_53178 12 = .ok (.iload_n 1, 1) := by decide +kernel
theorem dJ7_fill_53178_13 : decode cJ7_fill_53178 13 = .ok (.iastore, 1) := by decide +kernel
theorem dJ7_fill_53178_14 : decode cJ7_fill_53178 14 = .ok (.iinc 2 1, 3) := by decide +kernel
theorem dJ7_fill_53178_17 : decode cJ7_fill_53178 17 = .ok (.goto (-12), 3) := by decide +kernel
theorem dJ7_fill_53178_20 : decode cJ7_fill_53178 20 = .ok (.return_, 1) := by decide +kernel
theorem dJ7_fill_fda19_0 : decode cJ7_fill_fda19 0 = .ok (.aload_n 0, 1) := by decide +kernel
theorem dJ7_fill_fda19_1 : decode cJ7_fill_fda19 1 = .ok (.arraylength, 1) := by decide +kernel
theorem dJ7_fill_fda19_2 : decode cJ7_fill_fda19 2 = .ok (.iload_n 1, 1) := by decide +kernel
theorem dJ7_fill_fda19_3 : decode cJ7_fill_fda19 3 = .ok (.iload_n 2, 1) := by decide +kernel
theorem dJ7_fill_fda19_4 : decode cJ7_fill_fda19 4 = .ok (.invokestatic 13, 3) := by decide +kernel
theorem dJ7_fill_fda19_7 : decode cJ7_fill_fda19 7 = .ok (.iload_n 1, 1) := by decide +kernel
theorem dJ7_fill_fda19_8 : decode cJ7_fill_fda19 8 = .ok (.istore 4, 2) := by decide +kernel
theorem dJ7_fill_fda19_10 : decode cJ7_fill_fda19 10 = .ok (.iload 4, 2) := by decide +kernel
theorem dJ7_fill_fda19_12 : decode cJ7_fill_fda19 12 = .ok (.iload_n 2, 1) := by decide +kernel
theorem dJ7_fill_fda19_13 : decode cJ7_fill_fda19 13 = .ok (.if_icmp .ge 14, 3) := by decide +kernel
theorem dJ7_fill_fda19_16 : decode cJ7_fill_fda19 16 = .ok (.aload_n 0, 1) := by decide +kernel
theorem dJ7_fill_fda19_17 : decode cJ7_fill_fda19 17 = .ok (.iload 4, 2) := by decide +kernel
theorem dJ7_fill_fda19_19 : decode cJ7_fill_fda19 19 = .ok (.iload_n 3, 1) := by decide +kernel
theorem dJ7_fill_fda19_20 : decode cJ7_fill_fda19 20 = .ok (.iastore, 1) := by decide +kernel
theorem dJ7_fill_fda19_21 : decode cJ7_fill_fda19 21 = .ok (.iinc 4 1, 3) := by decide +kernel
theorem dJ7_fill_fda19_24 : decode cJ7_fill_fda19 24 = .ok (.goto (-14), 3) := by decide +kernel
theorem dJ7_fill_fda19_27 : decode cJ7_fill_fda19 27 = .ok (.return_, 1) := by decide +kernel
theorem dL_law_0 : decode cL_law 0 = .ok (.new 7, 3) := by decide +kernel
theorem dL_law_3 : decode cL_law 3 = .ok (.dup, 1) := by decide +kernel
theorem dL_law_4 : decode cL_law 4 = .ok (.invokespecial 9, 3) := by decide +kernel
theorem dL_law_7 : decode cL_law 7 = .ok (.astore_n 1, 1) := by decide +kernel
theorem dL_law_8 : decode cL_law 8 = .ok (.new 10, 3) := by decide +kernel
theorem dL_law_11 : decode cL_law 11 = .ok (.dup, 1) := by decide +kernel
theorem dL_law_12 : decode cL_law 12 = .ok (.invokespecial 12, 3) := by decide +kernel
theorem dL_law_15 : decode cL_law 15 = .ok (.astore_n 2, 1) := by decide +kernel
theorem dL_law_16 : decode cL_law 16 = .ok (.iconst 0, 1) := by decide +kernel
theorem dL_law_17 : decode cL_law 17 = .ok (.istore_n 3, 1) := by decide +kernel
theorem dL_law_18 : decode cL_law 18 = .ok (.iload_n 3, 1) := by decide +kernel
theorem dL_law_19 : decode cL_law 19 = .ok (.aload_n 0, 1) := by decide +kernel
theorem dL_law_20 : decode cL_law 20 = .ok (.arraylength, 1) := by decide +kernel
theorem dL_law_21 : decode cL_law 21 = .ok (.iconst 3, 1) := by decide +kernel
theorem dL_law_22 : decode cL_law 22 = .ok (.isub, 1) := by decide +kernel
theorem dL_law_23 : decode cL_law 23 = .ok (.if_icmp .gt 648, 3) := by decide +kernel
theorem dL_law_26 : decode cL_law 26 = .ok (.aload_n 0, 1) := by decide +kernel
theorem dL_law_27 : decode cL_law 27 = .ok (.iload_n 3, 1) := by decide +kernel
theorem dL_law_28 : decode cL_law 28 = .ok (.iaload, 1) := by decide +kernel
theorem dL_law_29 : decode cL_law 29 = .ok (.bipush 31, 2) := by decide +kernel
theorem dL_law_31 : decode cL_law 31 = .ok (.iand, 1) := by decide +kernel
theorem dL_law_32 : decode cL_law 32 = .ok (.tableswitch 633 0 20 #[100, 133, 166, 189, 222, 275, 288, 301, 314, 337, 370, 393, 426, 449, 472, 505, 528, 551, 574, 587, 610], 100) := by decide +kernel
theorem dL_law_132 : decode cL_law 132 = .ok (.aload_n 1, 1) := by decide +kernel
theorem dL_law_133 : decode cL_law 133 = .ok (.aload_n 0, 1) := by decide +kernel
theorem dL_law_134 : decode cL_law 134 = .ok (.iload_n 3, 1) := by decide +kernel
theorem dL_law_135 : decode cL_law 135 = .ok (.iconst 1, 1) := by decide +kernel
theorem dL_law_136 : decode cL_law 136 = .ok (.iadd, 1) := by decide +kernel
theorem dL_law_137 : decode cL_law 137 = .ok (.iaload, 1) := by decide +kernel
theorem dL_law_138 : decode cL_law 138 = .ok (.aload_n 0, 1) := by decide +kernel
theorem dL_law_139 : decode cL_law 139 = .ok (.iload_n 3, 1) := by decide +kernel
theorem dL_law_140 : decode cL_law 140 = .ok (.iconst 2, 1) := by decide +kernel
theorem dL_law_141 : decode cL_law 141 = .ok (.iadd, 1) := by decide +kernel
theorem dL_law_142 : decode cL_law 142 = .ok (.iaload, 1) := by decide +kernel
theorem dL_law_143 : decode cL_law 143 = .ok (.invokevirtual 13, 3) := by decide +kernel
theorem dL_law_146 : decode cL_law 146 = .ok (.aload_n 2, 1) := by decide +kernel
theorem dL_law_147 : decode cL_law 147 = .ok (.aload_n 0, 1) := by decide +kernel
theorem dL_law_148 : decode cL_law 148 = .ok (.iload_n 3, 1) := by decide +kernel
theorem dL_law_149 : decode cL_law 149 = .ok (.iconst 1, 1) := by decide +kernel
theorem dL_law_150 : decode cL_law 150 = .ok (.iadd, 1) := by decide +kernel
theorem dL_law_151 : decode cL_law 151 = .ok (.iaload, 1) := by decide +kernel
theorem dL_law_152 : decode cL_law 152 = .ok (.aload_n 0, 1) := by decide +kernel
theorem dL_law_153 : decode cL_law 153 = .ok (.iload_n 3, 1) := by decide +kernel
theorem dL_law_154 : decode cL_law 154 = .ok (.iconst 2, 1) := by decide +kernel
theorem dL_law_155 : decode cL_law 155 = .ok (.iadd, 1) := by decide +kernel
theorem dL_law_156 : decode cL_law 156 = .ok (.iaload, 1) := by decide +kernel
theorem dL_law_157 : decode cL_law 157 = .ok (.invokevirtual 17, 3) := by decide +kernel
theorem dL_law_160 : decode cL_law 160 = .ok (.if_icmp .eq 505, 3) := by decide +kernel
theorem dL_law_163 : decode cL_law 163 = .ok (.iconst 0, 1) := by decide +kernel
theorem dL_law_164 : decode cL_law 164 = .ok (.ireturn, 1) := by decide +kernel
theorem dL_law_165 : decode cL_law 165 = .ok (.aload_n 1, 1) := by decide +kernel
theorem dL_law_166 : decode cL_law 166 = .ok (.aload_n 0, 1) := by decide +kernel
theorem dL_law_167 : decode cL_law 167 = .ok (.iload_n 3, 1) := by decide +kernel
theorem dL_law_168 : decode cL_law 168 = .ok (.iconst 1, 1) := by decide +kernel
theorem dL_law_169 : decode cL_law 169 = .ok (.iadd, 1) := by decide +kernel
theorem dL_law_170 : decode cL_law 170 = .ok (.iaload, 1) := by decide +kernel
theorem dL_law_171 : decode cL_law 171 = .ok (.aload_n 0, 1) := by decide +kernel
theorem dL_law_172 : decode cL_law 172 = .ok (.iload_n 3, 1) := by decide +kernel
theorem dL_law_173 : decode cL_law 173 = .ok (.iconst 2, 1) := by decide +kernel
theorem dL_law_174 : decode cL_law 174 = .ok (.iadd, 1) := by decide +kernel
theorem dL_law_175 : decode cL_law 175 = .ok (.iaload, 1) := by decide +kernel
theorem dL_law_176 : decode cL_law 176 = .ok (.invokevirtual 18, 3) := by decide +kernel
theorem dL_law_179 : decode cL_law 179 = .ok (.aload_n 2, 1) := by decide +kernel
theorem dL_law_180 : decode cL_law 180 = .ok (.aload_n 0, 1) := by decide +kernel
theorem dL_law_181 : decode cL_law 181 = .ok (.iload_n 3, 1) := by decide +kernel
theorem dL_law_182 : decode cL_law 182 = .ok (.iconst 1, 1) := by decide +kernel
theorem dL_law_183 : decode cL_law 183 = .ok (.iadd, 1) := by decide +kernel
theorem dL_law_184 : decode cL_law 184 = .ok (.iaload, 1) := by decide +kernel
theorem dL_law_185 : decode cL_law 185 = .ok (.aload_n 0, 1) := by decide +kernel
theorem dL_law_186 : decode cL_law 186 = .ok (.iload_n 3, 1) := by decide +kernel
theorem dL_law_187 : decode cL_law 187 = .ok (.iconst 2, 1) := by decide +kernel
theorem dL_law_188 : decode cL_law 188 = .ok (.iadd, 1) := by decide +kernel
theorem dL_law_189 : decode cL_law 189 = .ok (.iaload, 1) := by decide +kernel
theorem dL_law_190 : decode cL_law 190 = .ok (.invokevirtual 21, 3) := by decide +kernel
theorem dL_law_193 : decode cL_law 193 = .ok (.if_icmp .eq 472, 3) := by decide +kernel
theorem dL_law_196 : decode cL_law 196 = .ok (.iconst 0, 1) := by decide +kernel
theorem dL_law_197 : decode cL_law 197 = .ok (.ireturn, 1) := by decide +kernel
theorem dL_law_198 : decode cL_law 198 = .ok (.aload_n 1, 1) := by decide +kernel
theorem dL_law_199 : decode cL_law 199 = .ok (.aload_n 0, 1) := by decide +kernel
theorem dL_law_200 : decode cL_law 200 = .ok (.iload_n 3, 1) := by decide +kernel
theorem dL_law_201 : decode cL_law 201 = .ok (.iconst 1, 1) := by decide +kernel
theorem dL_law_202 : decode cL_law 202 = .ok (.iadd, 1) := by decide +kernel
theorem dL_law_203 : decode cL_law 203 = .ok (.iaload, 1) := by decide +kernel
theorem dL_law_204 : decode cL_law 204 = .ok (.invokevirtual 22, 3) := by decide +kernel
theorem dL_law_207 : decode cL_law 207 = .ok (.aload_n 2, 1) := by decide +kernel
theorem dL_law_208 : decode cL_law 208 = .ok (.aload_n 0, 1) := by decide +kernel
theorem dL_law_209 : decode cL_law 209 = .ok (.iload_n 3, 1) := by decide +kernel
theorem dL_law_210 : decode cL_law 210 = .ok (.iconst 1, 1) := by decide +kernel
theorem dL_law_211 : decode cL_law 211 = .ok (.iadd, 1) := by decide +kernel
theorem dL_law_212 : decode cL_law 212 = .ok (.iaload, 1) := by decide +kernel
theorem dL_law_213 : decode cL_law 213 = .ok (.invokevirtual 26, 3) := by decide +kernel
theorem dL_law_216 : decode cL_law 216 = .ok (.if_icmp .eq 449, 3) := by decide +kernel
theorem dL_law_219 : decode cL_law 219 = .ok (.iconst 0, 1) := by decide +kernel
theorem dL_law_220 : decode cL_law 220 = .ok (.ireturn, 1) := by decide +kernel
theorem dL_law_221 : decode cL_law 221 = .ok (.aload_n 1, 1) := by decide +kernel
theorem dL_law_222 : decode cL_law 222 = .ok (.aload_n 0, 1) := by decide +kernel
theorem dL_law_223 : decode cL_law 223 = .ok (.iload_n 3, 1) := by decide +kernel
theorem dL_law_224 : decode cL_law 224 = .ok (.iconst 1, 1) := by decide +kernel
theorem dL_law_225 : decode cL_law 225 = .ok (.iadd, 1) := by decide +kernel
theorem dL_law_226 : decode cL_law 226 = .ok (.iaload, 1) := by decide +kernel
theorem dL_law_227 : decode cL_law 227 = .ok (.aload_n 0, 1) := by decide +kernel
theorem dL_law_228 : decode cL_law 228 = .ok (.iload_n 3, 1) := by decide +kernel
theorem dL_law_229 : decode cL_law 229 = .ok (.iconst 2, 1) := by decide +kernel
theorem dL_law_230 : decode cL_law 230 = .ok (.iadd, 1) := by decide +kernel
theorem dL_law_231 : decode cL_law 231 = .ok (.iaload, 1) := by decide +kernel
theorem dL_law_232 : decode cL_law 232 = .ok (.invokevirtual 27, 3) := by decide +kernel
theorem dL_law_235 : decode cL_law 235 = .ok (.aload_n 2, 1) := by decide +kernel
theorem dL_law_236 : decode cL_law 236 = .ok (.aload_n 0, 1) := by decide +kernel
theorem dL_law_237 : decode cL_law 237 = .ok (.iload_n 3, 1) := by decide +kernel
theorem dL_law_238 : decode cL_law 238 = .ok (.iconst 1, 1) := by decide +kernel
theorem dL_law_239 : decode cL_law 239 = .ok (.iadd, 1) := by decide +kernel
theorem dL_law_240 : decode cL_law 240 = .ok (.iaload, 1) := by decide +kernel
theorem dL_law_241 : decode cL_law 241 = .ok (.aload_n 0, 1) := by decide +kernel
theorem dL_law_242 : decode cL_law 242 = .ok (.iload_n 3, 1) := by decide +kernel
theorem dL_law_243 : decode cL_law 243 = .ok (.iconst 2, 1) := by decide +kernel
theorem dL_law_244 : decode cL_law 244 = .ok (.iadd, 1) := by decide +kernel
theorem dL_law_245 : decode cL_law 245 = .ok (.iaload, 1) := by decide +kernel
theorem dL_law_246 : decode cL_law 246 = .ok (.invokevirtual 30, 3) := by decide +kernel
theorem dL_law_249 : decode cL_law 249 = .ok (.if_icmp .eq 416, 3) := by decide +kernel
theorem dL_law_252 : decode cL_law 252 = .ok (.iconst 0, 1) := by decide +kernel
theorem dL_law_253 : decode cL_law 253 = .ok (.ireturn, 1) := by decide +kernel
theorem dL_law_254 : decode cL_law 254 = .ok (.aload_n 1, 1) := by decide +kernel
theorem dL_law_255 : decode cL_law 255 = .ok (.aload_n 0, 1) := by decide +kernel
theorem dL_law_256 : decode cL_law 256 = .ok (.iload_n 3, 1) := by decide +kernel
theorem dL_law_257 : decode cL_law 257 = .ok (.iconst 1, 1) := by decide +kernel
theorem dL_law_258 : decode cL_law 258 = .ok (.iadd, 1) := by decide +kernel
theorem dL_law_259 : decode cL_law 259 = .ok (.iaload, 1) := by decide +kernel
theorem dL_law_260 : decode cL_law 260 = .ok (.i2l, 1) := by decide +kernel
theorem dL_law_261 : decode cL_law 261 = .ok (.bipush 32, 2) := by decide +kernel
theorem dL_law_263 : decode cL_law 263 = .ok (.lshl, 1) := by decide +kernel
theorem dL_law_264 : decode cL_law 264 = .ok (.aload_n 0, 1) := by decide +kernel
theorem dL_law_265 : decode cL_law 265 = .ok (.iload_n 3, 1) := by decide +kernel
theorem dL_law_266 : decode cL_law 266 = .ok (.iconst 2, 1) := by decide +kernel
theorem dL_law_267 : decode cL_law 267 = .ok (.iadd, 1) := by decide +kernel
theorem dL_law_268 : decode cL_law 268 = .ok (.iaload, 1) := by decide +kernel
theorem dL_law_269 : decode cL_law 269 = .ok (.i2l, 1) := by decide +kernel
theorem dL_law_270 : decode cL_law 270 = .ok (.ldc2_w 31, 3) := by decide +kernel
theorem dL_law_273 : decode cL_law 273 = .ok (.land, 1) := by decide +kernel
theorem dL_law_274 : decode cL_law 274 = .ok (.lor, 1) := by decide +kernel
theorem dL_law_275 : decode cL_law 275 = .ok (.invokevirtual 33, 3) := by decide +kernel
theorem dL_law_278 : decode cL_law 278 = .ok (.aload_n 2, 1) := by decide +kernel
theorem dL_law_279 : decode cL_law 279 = .ok (.aload_n 0, 1) := by decide +kernel
theorem dL_law_280 : decode cL_law 280 = .ok (.iload_n 3, 1) := by decide +kernel
theorem dL_law_281 : decode cL_law 281 = .ok (.iconst 1, 1) := by decide +kernel
theorem dL_law_282 : decode cL_law 282 = .ok (.iadd, 1) := by decide +kernel
theorem dL_law_283 : decode cL_law 283 = .ok (.iaload, 1) := by decide +kernel
theorem dL_law_284 : decode cL_law 284 = .ok (.i2l, 1) := by decide +kernel
theorem dL_law_285 : decode cL_law 285 = .ok (.bipush 32, 2) := by decide +kernel
theorem dL_law_287 : decode cL_law 287 = .ok (.lshl, 1) := by decide +kernel
theorem dL_law_288 : decode cL_law 288 = .ok (.aload_n 0, 1) := by decide +kernel
theorem dL_law_289 : decode cL_law 289 = .ok (.iload_n 3, 1) := by decide +kernel
theorem dL_law_290 : decode cL_law 290 = .ok (.iconst 2, 1) := by decide +kernel
theorem dL_law_291 : decode cL_law 291 = .ok (.iadd, 1) := by decide +kernel
theorem dL_law_292 : decode cL_law 292 = .ok (.iaload, 1) := by decide +kernel
theorem dL_law_293 : decode cL_law 293 = .ok (.i2l, 1) := by decide +kernel
theorem dL_law_294 : decode cL_law 294 = .ok (.ldc2_w 31, 3) := by decide +kernel
theorem dL_law_297 : decode cL_law 297 = .ok (.land, 1) := by decide +kernel
theorem dL_law_298 : decode cL_law 298 = .ok (.lor, 1) := by decide +kernel
theorem dL_law_299 : decode cL_law 299 = .ok (.invokevirtual 37, 3) := by decide +kernel
theorem dL_law_302 : decode cL_law 302 = .ok (.if_icmp .eq 363, 3) := by decide +kernel
theorem dL_law_305 : decode cL_law 305 = .ok (.iconst 0, 1) := by decide +kernel
theorem dL_law_306 : decode cL_law 306 = .ok (.ireturn, 1) := by decide +kernel
theorem dL_law_307 : decode cL_law 307 = .ok (.aload_n 1, 1) := by decide +kernel
theorem dL_law_308 : decode cL_law 308 = .ok (.invokevirtual 38, 3) := by decide +kernel
theorem dL_law_311 : decode cL_law 311 = .ok (.aload_n 2, 1) := by decide +kernel
theorem dL_law_312 : decode cL_law 312 = .ok (.invokevirtual 42, 3) := by decide +kernel
theorem dL_law_315 : decode cL_law 315 = .ok (.if_icmp .eq 350, 3) := by decide +kernel
theorem dL_law_318 : decode cL_law 318 = .ok (.iconst 0, 1) := by decide +kernel
theorem dL_law_319 : decode cL_law 319 = .ok (.ireturn, 1) := by decide +kernel
theorem dL_law_320 : decode cL_law 320 = .ok (.aload_n 1, 1) := by decide +kernel
theorem dL_law_321 : decode cL_law 321 = .ok (.invokevirtual 43, 3) := by decide +kernel
theorem dL_law_324 : decode cL_law 324 = .ok (.aload_n 2, 1) := by decide +kernel
theorem dL_law_325 : decode cL_law 325 = .ok (.invokevirtual 46, 3) := by decide +kernel
theorem dL_law_328 : decode cL_law 328 = .ok (.if_icmp .eq 337, 3) := by decide +kernel
theorem dL_law_331 : decode cL_law 331 = .ok (.iconst 0, 1) := by decide +kernel
theorem dL_law_332 : decode cL_law 332 = .ok (.ireturn, 1) := by decide +kernel
theorem dL_law_333 : decode cL_law 333 = .ok (.aload_n 1, 1) := by decide +kernel
theorem dL_law_334 : decode cL_law 334 = .ok (.invokevirtual 47, 3) := by decide +kernel
theorem dL_law_337 : decode cL_law 337 = .ok (.aload_n 2, 1) := by decide +kernel
theorem dL_law_338 : decode cL_law 338 = .ok (.invokevirtual 50, 3) := by decide +kernel
theorem dL_law_341 : decode cL_law 341 = .ok (.if_icmp .eq 324, 3) := by decide +kernel
theorem dL_law_344 : decode cL_law 344 = .ok (.iconst 0, 1) := by decide +kernel
theorem dL_law_345 : decode cL_law 345 = .ok (.ireturn, 1) := by decide +kernel
theorem dL_law_346 : decode cL_law 346 = .ok (.aload_n 1, 1) := by decide +kernel
theorem dL_law_347 : decode cL_law 347 = .ok (.aload_n 0, 1) := by decide +kernel
theorem dL_law_348 : decode cL_law 348 = .ok (.iload_n 3, 1) := by decide +kernel
theorem dL_law_349 : decode cL_law 349 = .ok (.iconst 1, 1) := by decide +kernel
theorem dL_law_350 : decode cL_law 350 = .ok (.iadd, 1) := by decide +kernel
theorem dL_law_351 : decode cL_law 351 = .ok (.iaload, 1) := by decide +kernel
theorem dL_law_352 : decode cL_law 352 = .ok (.invokevirtual 51, 3) := by decide +kernel
theorem dL_law_355 : decode cL_law 355 = .ok (.aload_n 2, 1) := by decide +kernel
theorem dL_law_356 : decode cL_law 356 = .ok (.aload_n 0, 1) := by decide +kernel
theorem dL_law_357 : decode cL_law 357 = .ok (.iload_n 3, 1) := by decide +kernel
theorem dL_law_358 : decode cL_law 358 = .ok (.iconst 1, 1) := by decide +kernel
theorem dL_law_359 : decode cL_law 359 = .ok (.iadd, 1) := by decide +kernel
theorem dL_law_360 : decode cL_law 360 = .ok (.iaload, 1) := by decide +kernel
theorem dL_law_361 : decode cL_law 361 = .ok (.invokevirtual 54, 3) := by decide +kernel
theorem dL_law_364 : decode cL_law 364 = .ok (.if_icmp .eq 301, 3) := by decide +kernel
theorem dL_law_367 : decode cL_law 367 = .ok (.iconst 0, 1) := by decide +kernel
theorem dL_law_368 : decode cL_law 368 = .ok (.ireturn, 1) := by decide +kernel
theorem dL_law_369 : decode cL_law 369 = .ok (.aload_n 1, 1) := by decide +kernel
theorem dL_law_370 : decode cL_law 370 = .ok (.aload_n 0, 1) := by decide +kernel
theorem dL_law_371 : decode cL_law 371 = .ok (.iload_n 3, 1) := by decide +kernel
theorem dL_law_372 : decode cL_law 372 = .ok (.iconst 1, 1) := by decide +kernel
theorem dL_law_373 : decode cL_law 373 = .ok (.iadd, 1) := by decide +kernel
theorem dL_law_374 : decode cL_law 374 = .ok (.iaload, 1) := by decide +kernel
theorem dL_law_375 : decode cL_law 375 = .ok (.aload_n 0, 1) := by decide +kernel
theorem dL_law_376 : decode cL_law 376 = .ok (.iload_n 3, 1) := by decide +kernel
theorem dL_law_377 : decode cL_law 377 = .ok (.iconst 2, 1) := by decide +kernel
theorem dL_law_378 : decode cL_law 378 = .ok (.iadd, 1) := by decide +kernel
theorem dL_law_379 : decode cL_law 379 = .ok (.iaload, 1) := by decide +kernel
theorem dL_law_380 : decode cL_law 380 = .ok (.invokevirtual 55, 3) := by decide +kernel
theorem dL_law_383 : decode cL_law 383 = .ok (.aload_n 2, 1) := by decide +kernel
theorem dL_law_384 : decode cL_law 384 = .ok (.aload_n 0, 1) := by decide +kernel
theorem dL_law_385 : decode cL_law 385 = .ok (.iload_n 3, 1) := by decide +kernel
theorem dL_law_386 : decode cL_law 386 = .ok (.iconst 1, 1) := by decide +kernel
theorem dL_law_387 : decode cL_law 387 = .ok (.iadd, 1) := by decide +kernel
theorem dL_law_388 : decode cL_law 388 = .ok (.iaload, 1) := by decide +kernel
theorem dL_law_389 : decode cL_law 389 = .ok (.aload_n 0, 1) := by decide +kernel
theorem dL_law_390 : decode cL_law 390 = .ok (.iload_n 3, 1) := by decide +kernel
theorem dL_law_391 : decode cL_law 391 = .ok (.iconst 2, 1) := by decide +kernel
theorem dL_law_392 : decode cL_law 392 = .ok (.iadd, 1) := by decide +kernel
theorem dL_law_393 : decode cL_law 393 = .ok (.iaload, 1) := by decide +kernel
theorem dL_law_394 : decode cL_law 394 = .ok (.invokevirtual 58, 3) := by decide +kernel
theorem dL_law_397 : decode cL_law 397 = .ok (.if_icmp .eq 268, 3) := by decide +kernel
theorem dL_law_400 : decode cL_law 400 = .ok (.iconst 0, 1) := by decide +kernel
theorem dL_law_401 : decode cL_law 401 = .ok (.ireturn, 1) := by decide +kernel
theorem dL_law_402 : decode cL_law 402 = .ok (.aload_n 1, 1) := by decide +kernel
theorem dL_law_403 : decode cL_law 403 = .ok (.aload_n 0, 1) := by decide +kernel
theorem dL_law_404 : decode cL_law 404 = .ok (.iload_n 3, 1) := by decide +kernel
theorem dL_law_405 : decode cL_law 405 = .ok (.iconst 1, 1) := by decide +kernel
theorem dL_law_406 : decode cL_law 406 = .ok (.iadd, 1) := by decide +kernel
theorem dL_law_407 : decode cL_law 407 = .ok (.iaload, 1) := by decide +kernel
theorem dL_law_408 : decode cL_law 408 = .ok (.invokevirtual 59, 3) := by decide +kernel
theorem dL_law_411 : decode cL_law 411 = .ok (.aload_n 2, 1) := by decide +kernel
theorem dL_law_412 : decode cL_law 412 = .ok (.aload_n 0, 1) := by decide +kernel
theorem dL_law_413 : decode cL_law 413 = .ok (.iload_n 3, 1) := by decide +kernel
theorem dL_law_414 : decode cL_law 414 = .ok (.iconst 1, 1) := by decide +kernel
theorem dL_law_415 : decode cL_law 415 = .ok (.iadd, 1) := by decide +kernel
theorem dL_law_416 : decode cL_law 416 = .ok (.iaload, 1) := by decide +kernel
theorem dL_law_417 : decode cL_law 417 = .ok (.invokevirtual 62, 3) := by decide +kernel
theorem dL_law_420 : decode cL_law 420 = .ok (.if_icmp .eq 245, 3) := by decide +kernel
theorem dL_law_423 : decode cL_law 423 = .ok (.iconst 0, 1) := by decide +kernel
theorem dL_law_424 : decode cL_law 424 = .ok (.ireturn, 1) := by decide +kernel
theorem dL_law_425 : decode cL_law 425 = .ok (.aload_n 1, 1) := by decide +kernel
theorem dL_law_426 : decode cL_law 426 = .ok (.aload_n 0, 1) := by decide +kernel
theorem dL_law_427 : decode cL_law 427 = .ok (.iload_n 3, 1) := by decide +kernel
theorem dL_law_428 : decode cL_law 428 = .ok (.iconst 1, 1) := by decide +kernel
theorem dL_law_429 : decode cL_law 429 = .ok (.iadd, 1) := by decide +kernel
theorem dL_law_430 : decode cL_law 430 = .ok (.iaload, 1) := by decide +kernel
theorem dL_law_431 : decode cL_law 431 = .ok (.aload_n 0, 1) := by decide +kernel
theorem dL_law_432 : decode cL_law 432 = .ok (.iload_n 3, 1) := by decide +kernel
theorem dL_law_433 : decode cL_law 433 = .ok (.iconst 2, 1) := by decide +kernel
theorem dL_law_434 : decode cL_law 434 = .ok (.iadd, 1) := by decide +kernel
theorem dL_law_435 : decode cL_law 435 = .ok (.iaload, 1) := by decide +kernel
theorem dL_law_436 : decode cL_law 436 = .ok (.invokevirtual 63, 3) := by decide +kernel
theorem dL_law_439 : decode cL_law 439 = .ok (.aload_n 2, 1) := by decide +kernel
theorem dL_law_440 : decode cL_law 440 = .ok (.aload_n 0, 1) := by decide +kernel
theorem dL_law_441 : decode cL_law 441 = .ok (.iload_n 3, 1) := by decide +kernel
theorem dL_law_442 : decode cL_law 442 = .ok (.iconst 1, 1) := by decide +kernel
theorem dL_law_443 : decode cL_law 443 = .ok (.iadd, 1) := by decide +kernel
theorem dL_law_444 : decode cL_law 444 = .ok (.iaload, 1) := by decide +kernel
theorem dL_law_445 : decode cL_law 445 = .ok (.aload_n 0, 1) := by decide +kernel
theorem dL_law_446 : decode cL_law 446 = .ok (.iload_n 3, 1) := by decide +kernel
theorem dL_law_447 : decode cL_law 447 = .ok (.iconst 2, 1) := by decide +kernel
theorem dL_law_448 : decode cL_law 448 = .ok (.iadd, 1) := by decide +kernel
theorem dL_law_449 : decode cL_law 449 = .ok (.iaload, 1) := by decide +kernel
theorem dL_law_450 : decode cL_law 450 = .ok (.invokevirtual 66, 3) := by decide +kernel
theorem dL_law_453 : decode cL_law 453 = .ok (.if_icmp .eq 212, 3) := by decide +kernel
theorem dL_law_456 : decode cL_law 456 = .ok (.iconst 0, 1) := by decide +kernel
theorem dL_law_457 : decode cL_law 457 = .ok (.ireturn, 1) := by decide +kernel
theorem dL_law_458 : decode cL_law 458 = .ok (.aload_n 1, 1) := by decide +kernel
theorem dL_law_459 : decode cL_law 459 = .ok (.aload_n 0, 1) := by decide +kernel
theorem dL_law_460 : decode cL_law 460 = .ok (.iload_n 3, 1) := by decide +kernel
theorem dL_law_461 : decode cL_law 461 = .ok (.iconst 1, 1) := by decide +kernel
theorem dL_law_462 : decode cL_law 462 = .ok (.iadd, 1) := by decide +kernel
theorem dL_law_463 : decode cL_law 463 = .ok (.iaload, 1) := by decide +kernel
theorem dL_law_464 : decode cL_law 464 = .ok (.invokevirtual 67, 3) := by decide +kernel
theorem dL_law_467 : decode cL_law 467 = .ok (.aload_n 2, 1) := by decide +kernel
theorem dL_law_468 : decode cL_law 468 = .ok (.aload_n 0, 1) := by decide +kernel
theorem dL_law_469 : decode cL_law 469 = .ok (.iload_n 3, 1) := by decide +kernel
theorem dL_law_470 : decode cL_law 470 = .ok (.iconst 1, 1) := by decide +kernel
theorem dL_law_471 : decode cL_law 471 = .ok (.iadd, 1) := by decide +kernel
theorem dL_law_472 : decode cL_law 472 = .ok (.iaload, 1) := by decide +kernel
theorem dL_law_473 : decode cL_law 473 = .ok (.invokevirtual 70, 3) := by decide +kernel
theorem dL_law_476 : decode cL_law 476 = .ok (.if_icmp .eq 189, 3) := by decide +kernel
theorem dL_law_479 : decode cL_law 479 = .ok (.iconst 0, 1) := by decide +kernel
theorem dL_law_480 : decode cL_law 480 = .ok (.ireturn, 1) := by decide +kernel
theorem dL_law_481 : decode cL_law 481 = .ok (.aload_n 1, 1) := by decide +kernel
theorem dL_law_482 : decode cL_law 482 = .ok (.aload_n 0, 1) := by decide +kernel
theorem dL_law_483 : decode cL_law 483 = .ok (.iload_n 3, 1) := by decide +kernel
theorem dL_law_484 : decode cL_law 484 = .ok (.iconst 1, 1) := by decide +kernel
theorem dL_law_485 : decode cL_law 485 = .ok (.iadd, 1) := by decide +kernel
theorem dL_law_486 : decode cL_law 486 = .ok (.iaload, 1) := by decide +kernel
theorem dL_law_487 : decode cL_law 487 = .ok (.invokevirtual 71, 3) := by decide +kernel
theorem dL_law_490 : decode cL_law 490 = .ok (.aload_n 2, 1) := by decide +kernel
theorem dL_law_491 : decode cL_law 491 = .ok (.aload_n 0, 1) := by decide +kernel
theorem dL_law_492 : decode cL_law 492 = .ok (.iload_n 3, 1) := by decide +kernel
theorem dL_law_493 : decode cL_law 493 = .ok (.iconst 1, 1) := by decide +kernel
theorem dL_law_494 : decode cL_law 494 = .ok (.iadd, 1) := by decide +kernel
theorem dL_law_495 : decode cL_law 495 = .ok (.iaload, 1) := by decide +kernel
theorem dL_law_496 : decode cL_law 496 = .ok (.invokevirtual 74, 3) := by decide +kernel
theorem dL_law_499 : decode cL_law 499 = .ok (.if_icmp .eq 166, 3) := by decide +kernel
theorem dL_law_502 : decode cL_law 502 = .ok (.iconst 0, 1) := by decide +kernel
theorem dL_law_503 : decode cL_law 503 = .ok (.ireturn, 1) := by decide +kernel
theorem dL_law_504 : decode cL_law 504 = .ok (.aload_n 1, 1) := by decide +kernel
theorem dL_law_505 : decode cL_law 505 = .ok (.aload_n 0, 1) := by decide +kernel
theorem dL_law_506 : decode cL_law 506 = .ok (.iload_n 3, 1) := by decide +kernel
theorem dL_law_507 : decode cL_law 507 = .ok (.iconst 1, 1) := by decide +kernel
theorem dL_law_508 : decode cL_law 508 = .ok (.iadd, 1) := by decide +kernel
theorem dL_law_509 : decode cL_law 509 = .ok (.iaload, 1) := by decide +kernel
theorem dL_law_510 : decode cL_law 510 = .ok (.aload_n 0, 1) := by decide +kernel
theorem dL_law_511 : decode cL_law 511 = .ok (.iload_n 3, 1) := by decide +kernel
theorem dL_law_512 : decode cL_law 512 = .ok (.iconst 2, 1) := by decide +kernel
theorem dL_law_513 : decode cL_law 513 = .ok (.iadd, 1) := by decide +kernel
theorem dL_law_514 : decode cL_law 514 = .ok (.iaload, 1) := by decide +kernel
theorem dL_law_515 : decode cL_law 515 = .ok (.invokevirtual 75, 3) := by decide +kernel
theorem dL_law_518 : decode cL_law 518 = .ok (.aload_n 2, 1) := by decide +kernel
theorem dL_law_519 : decode cL_law 519 = .ok (.aload_n 0, 1) := by decide +kernel
theorem dL_law_520 : decode cL_law 520 = .ok (.iload_n 3, 1) := by decide +kernel
theorem dL_law_521 : decode cL_law 521 = .ok (.iconst 1, 1) := by decide +kernel
theorem dL_law_522 : decode cL_law 522 = .ok (.iadd, 1) := by decide +kernel
theorem dL_law_523 : decode cL_law 523 = .ok (.iaload, 1) := by decide +kernel
theorem dL_law_524 : decode cL_law 524 = .ok (.aload_n 0, 1) := by decide +kernel
theorem dL_law_525 : decode cL_law 525 = .ok (.iload_n 3, 1) := by decide +kernel
theorem dL_law_526 : decode cL_law 526 = .ok (.iconst 2, 1) := by decide +kernel
theorem dL_law_527 : decode cL_law 527 = .ok (.iadd, 1) := by decide +kernel
theorem dL_law_528 : decode cL_law 528 = .ok (.iaload, 1) := by decide +kernel
theorem dL_law_529 : decode cL_law 529 = .ok (.invokevirtual 78, 3) := by decide +kernel
theorem dL_law_532 : decode cL_law 532 = .ok (.if_icmp .eq 133, 3) := by decide +kernel
theorem dL_law_535 : decode cL_law 535 = .ok (.iconst 0, 1) := by decide +kernel
theorem dL_law_536 : decode cL_law 536 = .ok (.ireturn, 1) := by decide +kernel
theorem dL_law_537 : decode cL_law 537 = .ok (.aload_n 1, 1) := by decide +kernel
theorem dL_law_538 : decode cL_law 538 = .ok (.aload_n 0, 1) := by decide +kernel
theorem dL_law_539 : decode cL_law 539 = .ok (.iload_n 3, 1) := by decide +kernel
theorem dL_law_540 : decode cL_law 540 = .ok (.iconst 1, 1) := by decide +kernel
theorem dL_law_541 : decode cL_law 541 = .ok (.iadd, 1) := by decide +kernel
theorem dL_law_542 : decode cL_law 542 = .ok (.iaload, 1) := by decide +kernel
theorem dL_law_543 : decode cL_law 543 = .ok (.invokevirtual 79, 3) := by decide +kernel
theorem dL_law_546 : decode cL_law 546 = .ok (.aload_n 2, 1) := by decide +kernel
theorem dL_law_547 : decode cL_law 547 = .ok (.aload_n 0, 1) := by decide +kernel
theorem dL_law_548 : decode cL_law 548 = .ok (.iload_n 3, 1) := by decide +kernel
theorem dL_law_549 : decode cL_law 549 = .ok (.iconst 1, 1) := by decide +kernel
theorem dL_law_550 : decode cL_law 550 = .ok (.iadd, 1) := by decide +kernel
theorem dL_law_551 : decode cL_law 551 = .ok (.iaload, 1) := by decide +kernel
theorem dL_law_552 : decode cL_law 552 = .ok (.invokevirtual 82, 3) := by decide +kernel
theorem dL_law_555 : decode cL_law 555 = .ok (.if_icmp .eq 110, 3) := by decide +kernel
theorem dL_law_558 : decode cL_law 558 = .ok (.iconst 0, 1) := by decide +kernel
theorem dL_law_559 : decode cL_law 559 = .ok (.ireturn, 1) := by decide +kernel
theorem dL_law_560 : decode cL_law 560 = .ok (.aload_n 1, 1) := by decide +kernel
theorem dL_law_561 : decode cL_law 561 = .ok (.aload_n 0, 1) := by decide +kernel
theorem dL_law_562 : decode cL_law 562 = .ok (.iload_n 3, 1) := by decide +kernel
theorem dL_law_563 : decode cL_law 563 = .ok (.iconst 1, 1) := by decide +kernel
theorem dL_law_564 : decode cL_law 564 = .ok (.iadd, 1) := by decide +kernel
theorem dL_law_565 : decode cL_law 565 = .ok (.iaload, 1) := by decide +kernel
theorem dL_law_566 : decode cL_law 566 = .ok (.invokevirtual 83, 3) := by decide +kernel
theorem dL_law_569 : decode cL_law 569 = .ok (.aload_n 2, 1) := by decide +kernel
theorem dL_law_570 : decode cL_law 570 = .ok (.aload_n 0, 1) := by decide +kernel
theorem dL_law_571 : decode cL_law 571 = .ok (.iload_n 3, 1) := by decide +kernel
theorem dL_law_572 : decode cL_law 572 = .ok (.iconst 1, 1) := by decide +kernel
theorem dL_law_573 : decode cL_law 573 = .ok (.iadd, 1) := by decide +kernel
theorem dL_law_574 : decode cL_law 574 = .ok (.iaload, 1) := by decide +kernel
theorem dL_law_575 : decode cL_law 575 = .ok (.invokevirtual 86, 3) := by decide +kernel
theorem dL_law_578 : decode cL_law 578 = .ok (.if_icmp .eq 87, 3) := by decide +kernel
theorem dL_law_581 : decode cL_law 581 = .ok (.iconst 0, 1) := by decide +kernel
theorem dL_law_582 : decode cL_law 582 = .ok (.ireturn, 1) := by decide +kernel
theorem dL_law_583 : decode cL_law 583 = .ok (.aload_n 1, 1) := by decide +kernel
theorem dL_law_584 : decode cL_law 584 = .ok (.aload_n 0, 1) := by decide +kernel
theorem dL_law_585 : decode cL_law 585 = .ok (.iload_n 3, 1) := by decide +kernel
theorem dL_law_586 : decode cL_law 586 = .ok (.iconst 1, 1) := by decide +kernel
theorem dL_law_587 : decode cL_law 587 = .ok (.iadd, 1) := by decide +kernel
theorem dL_law_588 : decode cL_law 588 = .ok (.iaload, 1) := by decide +kernel
theorem dL_law_589 : decode cL_law 589 = .ok (.invokevirtual 87, 3) := by decide +kernel
theorem dL_law_592 : decode cL_law 592 = .ok (.aload_n 2, 1) := by decide +kernel
theorem dL_law_593 : decode cL_law 593 = .ok (.aload_n 0, 1) := by decide +kernel
theorem dL_law_594 : decode cL_law 594 = .ok (.iload_n 3, 1) := by decide +kernel
theorem dL_law_595 : decode cL_law 595 = .ok (.iconst 1, 1) := by decide +kernel
theorem dL_law_596 : decode cL_law 596 = .ok (.iadd, 1) := by decide +kernel
theorem dL_law_597 : decode cL_law 597 = .ok (.iaload, 1) := by decide +kernel
theorem dL_law_598 : decode cL_law 598 = .ok (.invokevirtual 90, 3) := by decide +kernel
theorem dL_law_601 : decode cL_law 601 = .ok (.if_icmp .eq 64, 3) := by decide +kernel
theorem dL_law_604 : decode cL_law 604 = .ok (.iconst 0, 1) := by decide +kernel
theorem dL_law_605 : decode cL_law 605 = .ok (.ireturn, 1) := by decide +kernel
theorem dL_law_606 : decode cL_law 606 = .ok (.aload_n 1, 1) := by decide +kernel
theorem dL_law_607 : decode cL_law 607 = .ok (.invokevirtual 91, 3) := by decide +kernel
theorem dL_law_610 : decode cL_law 610 = .ok (.aload_n 2, 1) := by decide +kernel
theorem dL_law_611 : decode cL_law 611 = .ok (.invokevirtual 94, 3) := by decide +kernel
theorem dL_law_614 : decode cL_law 614 = .ok (.if_icmp .eq 51, 3) := by decide +kernel
theorem dL_law_617 : decode cL_law 617 = .ok (.iconst 0, 1) := by decide +kernel
theorem dL_law_618 : decode cL_law 618 = .ok (.ireturn, 1) := by decide +kernel
theorem dL_law_619 : decode cL_law 619 = .ok (.aload_n 1, 1) := by decide +kernel
theorem dL_law_620 : decode cL_law 620 = .ok (.aload_n 0, 1) := by decide +kernel
theorem dL_law_621 : decode cL_law 621 = .ok (.iload_n 3, 1) := by decide +kernel
theorem dL_law_622 : decode cL_law 622 = .ok (.iconst 1, 1) := by decide +kernel
theorem dL_law_623 : decode cL_law 623 = .ok (.iadd, 1) := by decide +kernel
theorem dL_law_624 : decode cL_law 624 = .ok (.iaload, 1) := by decide +kernel
theorem dL_law_625 : decode cL_law 625 = .ok (.invokevirtual 95, 3) := by decide +kernel
theorem dL_law_628 : decode cL_law 628 = .ok (.aload_n 2, 1) := by decide +kernel
theorem dL_law_629 : decode cL_law 629 = .ok (.aload_n 0, 1) := by decide +kernel
theorem dL_law_630 : decode cL_law 630 = .ok (.iload_n 3, 1) := by decide +kernel
theorem dL_law_631 : decode cL_law 631 = .ok (.iconst 1, 1) := by decide +kernel
theorem dL_law_632 : decode cL_law 632 = .ok (.iadd, 1) := by decide +kernel
theorem dL_law_633 : decode cL_law 633 = .ok (.iaload, 1) := by decide +kernel
theorem dL_law_634 : decode cL_law 634 = .ok (.invokevirtual 98, 3) := by decide +kernel
theorem dL_law_637 : decode cL_law 637 = .ok (.if_icmp .eq 28, 3) := by decide +kernel
theorem dL_law_640 : decode cL_law 640 = .ok (.iconst 0, 1) := by decide +kernel
theorem dL_law_641 : decode cL_law 641 = .ok (.ireturn, 1) := by decide +kernel
theorem dL_law_642 : decode cL_law 642 = .ok (.aload_n 1, 1) := by decide +kernel
theorem dL_law_643 : decode cL_law 643 = .ok (.aload_n 0, 1) := by decide +kernel
theorem dL_law_644 : decode cL_law 644 = .ok (.iload_n 3, 1) := by decide +kernel
theorem dL_law_645 : decode cL_law 645 = .ok (.iconst 1, 1) := by decide +kernel
theorem dL_law_646 : decode cL_law 646 = .ok (.iadd, 1) := by decide +kernel
theorem dL_law_647 : decode cL_law 647 = .ok (.iaload, 1) := by decide +kernel
theorem dL_law_648 : decode cL_law 648 = .ok (.invokevirtual 99, 3) := by decide +kernel
theorem dL_law_651 : decode cL_law 651 = .ok (.aload_n 2, 1) := by decide +kernel
theorem dL_law_652 : decode cL_law 652 = .ok (.aload_n 0, 1) := by decide +kernel
theorem dL_law_653 : decode cL_law 653 = .ok (.iload_n 3, 1) := by decide +kernel
theorem dL_law_654 : decode cL_law 654 = .ok (.iconst 1, 1) := by decide +kernel
theorem dL_law_655 : decode cL_law 655 = .ok (.iadd, 1) := by decide +kernel
theorem dL_law_656 : decode cL_law 656 = .ok (.iaload, 1) := by decide +kernel
theorem dL_law_657 : decode cL_law 657 = .ok (.invokevirtual 102, 3) := by decide +kernel
theorem dL_law_660 : decode cL_law 660 = .ok (.if_icmp .eq 5, 3) := by decide +kernel
theorem dL_law_663 : decode cL_law 663 = .ok (.iconst 0, 1) := by decide +kernel
theorem dL_law_664 : decode cL_law 664 = .ok (.ireturn, 1) := by decide +kernel
theorem dL_law_665 : decode cL_law 665 = .ok (.iinc 3 3, 3) := by decide +kernel
theorem dL_law_668 : decode cL_law 668 = .ok (.goto (-650), 3) := by decide +kernel
theorem dL_law_671 : decode cL_law 671 = .ok (.iconst 1, 1) := by decide +kernel
theorem dL_law_672 : decode cL_law 672 = .ok (.ireturn, 1) := by decide +kernel
abbrev vwCl : List vw_C := [(RX0, TX0, 5), (RX1, TX1, 3), (RX2, TX2, 5), (RX3, TX3, 11), (RX4, TX4, 4), (RX5, TX5, 12), (RX6, TX6, 11), (RX7, TX7, 28)]
